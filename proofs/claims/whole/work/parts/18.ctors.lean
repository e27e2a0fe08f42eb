theorem ob_i : Cond.instanceMethod Lib.objectInit ∈ zTG := (zTG_1 (i := 29) rfl rfl)
theorem ob_c : Cond.code Lib.objectInit ⟨#[0xb1]⟩ 1 none ∈ zTG := (zTG_1 (i := 30) rfl rfl)
theorem zS0_25 : ∀ k : Nat, k < 8 → zS0.2.2 25 k = 1 := by decide +kernel
theorem dm_X0_init : zdec cX0_init [(0, .aload_n 0, 1), (1, .invokespecial 3, 3), (4, .aload_n 0, 1), (5, .sipush 192, 3), (8, .newarray .byte, 2), (10, .putfield 9, 3), (13, .aload_n 0, 1), (14, .bipush 16, 2), (16, .newarray .int, 2), (18, .putfield 15, 3), (21, .aload_n 0, 1), (22, .sipush 192, 3), (25, .newarray .byte, 2), (27, .putfield 19, 3), (30, .aload_n 0, 1), (31, .iconst 1, 1), (32, .putfield 22, 3), (35, .aload_n 0, 1), (36, .iconst 1, 1), (37, .putfield 26, 3), (40, .iconst 0, 1), (41, .istore_n 1, 1), (42, .iload_n 1, 1), (43, .bipush 16, 2), (45, .if_icmp .ge 19, 3), (48, .aload_n 0, 1), (49, .getfield 15, 3), (52, .iload_n 1, 1), (53, .bipush 17, 2), (55, .iload_n 1, 1), (56, .imul, 1), (57, .iastore, 1), (58, .iinc 1 1, 3), (61, .goto (-19), 3), (64, .return_, 1)] = true := by decide +kernel
theorem dm_X1_init : zdec cX1_init [(0, .aload_n 0, 1), (1, .invokespecial 3, 3), (4, .aload_n 0, 1), (5, .sipush 413, 3), (8, .newarray .int, 2), (10, .putfield 9, 3), (13, .aload_n 0, 1), (14, .sipush 413, 3), (17, .newarray .int, 2), (19, .putfield 15, 3), (22, .aload_n 0, 1), (23, .sipush 413, 3), (26, .newarray .int, 2), (28, .putfield 18, 3), (31, .aload_n 0, 1), (32, .sipush 413, 3), (35, .newarray .int, 2), (37, .putfield 21, 3), (40, .aload_n 0, 1), (41, .sipush 413, 3), (44, .newarray .int, 2), (46, .putfield 24, 3), (49, .aload_n 0, 1), (50, .sipush 413, 3), (53, .newarray .int, 2), (55, .putfield 27, 3), (58, .aload_n 0, 1), (59, .sipush 413, 3), (62, .newarray .int, 2), (64, .putfield 30, 3), (67, .aload_n 0, 1), (68, .aload_n 1, 1), (69, .putfield 33, 3), (72, .aload_n 0, 1), (73, .iconst (-1), 1), (74, .putfield 37, 3), (77, .return_, 1)] = true := by decide +kernel
theorem dm_X2_init : zdec cX2_init [(0, .aload_n 0, 1), (1, .invokespecial 5, 3), (4, .aload_n 0, 1), (5, .sipush 192, 3), (8, .newarray .int, 2), (10, .putfield 11, 3), (13, .aload_n 0, 1), (14, .sipush 192, 3), (17, .newarray .int, 2), (19, .putfield 15, 3), (22, .aload_n 0, 1), (23, .sipush 192, 3), (26, .newarray .int, 2), (28, .putfield 18, 3), (31, .aload_n 0, 1), (32, .sipush 192, 3), (35, .newarray .int, 2), (37, .putfield 21, 3), (40, .aload_n 0, 1), (41, .sipush 192, 3), (44, .newarray .int, 2), (46, .putfield 24, 3), (49, .aload_n 0, 1), (50, .sipush 192, 3), (53, .newarray .int, 2), (55, .putfield 27, 3), (58, .aload_n 0, 1), (59, .sipush 192, 3), (62, .newarray .int, 2), (64, .putfield 30, 3), (67, .aload_n 0, 1), (68, .sipush 252, 3), (71, .newarray .int, 2), (73, .putfield 33, 3), (76, .aload_n 0, 1), (77, .sipush 192, 3), (80, .newarray .int, 2), (82, .putfield 36, 3), (85, .aload_n 0, 1), (86, .bipush 16, 2), (88, .newarray .int, 2), (90, .putfield 39, 3), (93, .aload_n 0, 1), (94, .sipush 252, 3), (97, .newarray .int, 2), (99, .putfield 42, 3), (102, .aload_n 0, 1), (103, .aload_n 1, 1), (104, .putfield 45, 3), (107, .aload_n 0, 1), (108, .iconst (-1), 1), (109, .putfield 49, 3), (112, .return_, 1)] = true := by decide +kernel
theorem dm_X3_init : zdec cX3_init [(0, .aload_n 0, 1), (1, .invokespecial 3, 3), (4, .aload_n 0, 1), (5, .bipush 20, 2), (7, .sipush 192, 3), (10, .multianewarray 11 2, 4), (14, .putfield 13, 3), (17, .return_, 1)] = true := by decide +kernel
theorem dm_X4_init : zdec cX4_init [(0, .aload_n 0, 1), (1, .invokespecial 3, 3), (4, .aload_n 0, 1), (5, .bipush 16, 2), (7, .newarray .int, 2), (9, .putfield 9, 3), (12, .aload_n 0, 1), (13, .bipush 16, 2), (15, .newarray .int, 2), (17, .putfield 15, 3), (20, .aload_n 0, 1), (21, .aload_n 1, 1), (22, .putfield 18, 3), (25, .return_, 1)] = true := by decide +kernel
theorem dm_X5_init : zdec cX5_init [(0, .aload_n 0, 1), (1, .invokespecial 5, 3), (4, .aload_n 0, 1), (5, .bipush 7, 2), (7, .newarray .int, 2), (9, .putfield 11, 3), (12, .aload_n 0, 1), (13, .bipush 7, 2), (15, .newarray .int, 2), (17, .putfield 15, 3), (20, .aload_n 0, 1), (21, .sipush 896, 3), (24, .newarray .int, 2), (26, .putfield 18, 3), (29, .aload_n 0, 1), (30, .aload_n 1, 1), (31, .putfield 21, 3), (34, .return_, 1)] = true := by decide +kernel
theorem dm_X6_init : zdec cX6_init [(0, .aload_n 0, 1), (1, .invokespecial 3, 3), (4, .aload_n 0, 1), (5, .sipush 413, 3), (8, .newarray .int, 2), (10, .putfield 9, 3), (13, .aload_n 0, 1), (14, .sipush 413, 3), (17, .newarray .int, 2), (19, .putfield 15, 3), (22, .aload_n 0, 1), (23, .sipush 413, 3), (26, .newarray .int, 2), (28, .putfield 18, 3), (31, .aload_n 0, 1), (32, .sipush 413, 3), (35, .newarray .int, 2), (37, .putfield 21, 3), (40, .aload_n 0, 1), (41, .sipush 413, 3), (44, .newarray .int, 2), (46, .putfield 24, 3), (49, .aload_n 0, 1), (50, .aload_n 1, 1), (51, .putfield 27, 3), (54, .aload_n 0, 1), (55, .iconst (-1), 1), (56, .putfield 31, 3), (59, .return_, 1)] = true := by decide +kernel
theorem dm_X7_init : zdec cX7_init [(0, .aload_n 0, 1), (1, .invokespecial 3, 3), (4, .aload_n 0, 1), (5, .bipush 13, 2), (7, .newarray .int, 2), (9, .putfield 9, 3), (12, .aload_n 0, 1), (13, .iconst 0, 1), (14, .newarray .int, 2), (16, .putfield 15, 3), (19, .aload_n 0, 1), (20, .bipush (-4), 2), (22, .putfield 18, 3), (25, .return_, 1)] = true := by decide +kernel
theorem dm_X8_init : zdec cX8_init [(0, .aload_n 0, 1), (1, .invokespecial 3, 3), (4, .aload_n 0, 1), (5, .bipush 12, 2), (7, .bipush 120, 2), (9, .multianewarray 11 2, 4), (13, .putfield 13, 3), (16, .aload_n 0, 1), (17, .bipush 12, 2), (19, .newarray .int, 2), (21, .putfield 16, 3), (24, .aload_n 0, 1), (25, .bipush 12, 2), (27, .newarray .boolean, 2), (29, .putfield 20, 3), (32, .aload_n 0, 1), (33, .bipush 12, 2), (35, .newarray .boolean, 2), (37, .putfield 24, 3), (40, .return_, 1)] = true := by decide +kernel
theorem dm_X9_init : zdec cX9_init [(0, .aload_n 0, 1), (1, .invokespecial 3, 3), (4, .aload_n 0, 1), (5, .sipush 192, 3), (8, .newarray .int, 2), (10, .putfield 9, 3), (13, .aload_n 0, 1), (14, .aload_n 1, 1), (15, .putfield 15, 3), (18, .return_, 1)] = true := by decide +kernel
theorem dm_X10_init : zdec cX10_init [(0, .aload_n 0, 1), (1, .invokespecial 3, 3), (4, .aload_n 0, 1), (5, .bipush 120, 2), (7, .newarray .int, 2), (9, .putfield 9, 3), (12, .return_, 1)] = true := by decide +kernel
theorem dm_X11_init : zdec cX11_init [(0, .aload_n 0, 1), (1, .invokespecial 1, 3), (4, .new 7, 3), (7, .dup, 1), (8, .invokespecial 9, 3), (11, .astore_n 1, 1), (12, .new 10, 3), (15, .dup, 1), (16, .aload_n 1, 1), (17, .invokespecial 12, 3), (20, .astore_n 2, 1), (21, .new 15, 3), (24, .dup, 1), (25, .aload_n 2, 1), (26, .invokespecial 17, 3), (29, .astore_n 3, 1), (30, .bipush 8, 2), (32, .anewarray 22, 3), (35, .astore 4, 2), (37, .iconst 0, 1), (38, .istore 5, 2), (40, .iload 5, 2), (42, .bipush 8, 2), (44, .if_icmp .ge 21, 3), (47, .aload 4, 2), (49, .iload 5, 2), (51, .new 22, 3), (54, .dup, 1), (55, .invokespecial 24, 3), (58, .aastore, 1), (59, .iinc 5 1, 3), (62, .goto (-22), 3), (65, .aload_n 0, 1), (66, .aload_n 1, 1), (67, .putfield 25, 3), (70, .aload_n 0, 1), (71, .aload_n 2, 1), (72, .putfield 29, 3), (75, .aload_n 0, 1), (76, .aload_n 3, 1), (77, .putfield 33, 3), (80, .aload_n 0, 1), (81, .new 37, 3), (84, .dup, 1), (85, .aload_n 3, 1), (86, .invokespecial 39, 3), (89, .putfield 42, 3), (92, .aload_n 0, 1), (93, .new 46, 3), (96, .dup, 1), (97, .aload_n 2, 1), (98, .invokespecial 48, 3), (101, .putfield 49, 3), (104, .aload_n 0, 1), (105, .new 53, 3), (108, .dup, 1), (109, .aload_n 1, 1), (110, .invokespecial 55, 3), (113, .putfield 56, 3), (116, .aload_n 0, 1), (117, .new 60, 3), (120, .dup, 1), (121, .aload_n 2, 1), (122, .invokespecial 62, 3), (125, .putfield 63, 3), (128, .aload_n 0, 1), (129, .new 67, 3), (132, .dup, 1), (133, .invokespecial 69, 3), (136, .putfield 70, 3), (139, .aload_n 0, 1), (140, .new 74, 3), (143, .dup, 1), (144, .invokespecial 76, 3), (147, .putfield 77, 3), (150, .aload_n 0, 1), (151, .new 81, 3), (154, .dup, 1), (155, .invokespecial 83, 3), (158, .putfield 84, 3), (161, .aload_n 0, 1), (162, .aload 4, 2), (164, .putfield 88, 3), (167, .aload_n 0, 1), (168, .new 7, 3), (171, .dup, 1), (172, .invokespecial 9, 3), (175, .putfield 92, 3), (178, .aload_n 0, 1), (179, .iconst 0, 1), (180, .putfield 95, 3), (183, .return_, 1)] = true := by decide +kernel
theorem dm_X12_init : zdec cX12_init [(0, .aload_n 0, 1), (1, .invokespecial 1, 3), (4, .aload_n 0, 1), (5, .iconst 1, 1), (6, .putfield 7, 3), (9, .aload_n 0, 1), (10, .iconst 1, 1), (11, .putfield 13, 3), (14, .aload_n 0, 1), (15, .sipush 192, 3), (18, .newarray .int, 2), (20, .putfield 16, 3), (23, .aload_n 0, 1), (24, .bipush 16, 2), (26, .newarray .int, 2), (28, .dup, 1), (29, .iconst 0, 1), (30, .iconst 0, 1), (31, .iastore, 1), (32, .dup, 1), (33, .iconst 1, 1), (34, .bipush 17, 2), (36, .iastore, 1), (37, .dup, 1), (38, .iconst 2, 1), (39, .bipush 34, 2), (41, .iastore, 1), (42, .dup, 1), (43, .iconst 3, 1), (44, .bipush 51, 2), (46, .iastore, 1), (47, .dup, 1), (48, .iconst 4, 1), (49, .bipush 68, 2), (51, .iastore, 1), (52, .dup, 1), (53, .iconst 5, 1), (54, .bipush 85, 2), (56, .iastore, 1), (57, .dup, 1), (58, .bipush 6, 2), (60, .bipush 102, 2), (62, .iastore, 1), (63, .dup, 1), (64, .bipush 7, 2), (66, .bipush 119, 2), (68, .iastore, 1), (69, .dup, 1), (70, .bipush 8, 2), (72, .sipush 136, 3), (75, .iastore, 1), (76, .dup, 1), (77, .bipush 9, 2), (79, .sipush 153, 3), (82, .iastore, 1), (83, .dup, 1), (84, .bipush 10, 2), (86, .sipush 170, 3), (89, .iastore, 1), (90, .dup, 1), (91, .bipush 11, 2), (93, .sipush 187, 3), (96, .iastore, 1), (97, .dup, 1), (98, .bipush 12, 2), (100, .sipush 204, 3), (103, .iastore, 1), (104, .dup, 1), (105, .bipush 13, 2), (107, .sipush 221, 3), (110, .iastore, 1), (111, .dup, 1), (112, .bipush 14, 2), (114, .sipush 238, 3), (117, .iastore, 1), (118, .dup, 1), (119, .bipush 15, 2), (121, .sipush 255, 3), (124, .iastore, 1), (125, .putfield 20, 3), (128, .aload_n 0, 1), (129, .sipush 4032, 3), (132, .newarray .int, 2), (134, .putfield 23, 3), (137, .aload_n 0, 1), (138, .sipush 1440, 3), (141, .newarray .int, 2), (143, .putfield 26, 3), (146, .aload_n 0, 1), (147, .bipush 12, 2), (149, .newarray .int, 2), (151, .putfield 29, 3), (154, .aload_n 0, 1), (155, .bipush 12, 2), (157, .newarray .boolean, 2), (159, .putfield 32, 3), (162, .aload_n 0, 1), (163, .sipush 192, 3), (166, .newarray .int, 2), (168, .putfield 36, 3), (171, .aload_n 0, 1), (172, .bipush 16, 2), (174, .newarray .int, 2), (176, .putfield 39, 3), (179, .aload_n 0, 1), (180, .bipush 12, 2), (182, .newarray .boolean, 2), (184, .putfield 42, 3), (187, .aload_n 0, 1), (188, .sipush 192, 3), (191, .newarray .int, 2), (193, .putfield 45, 3), (196, .aload_n 0, 1), (197, .sipush 192, 3), (200, .newarray .int, 2), (202, .putfield 48, 3), (205, .aload_n 0, 1), (206, .sipush 192, 3), (209, .newarray .int, 2), (211, .putfield 51, 3), (214, .aload_n 0, 1), (215, .sipush 192, 3), (218, .newarray .int, 2), (220, .putfield 54, 3), (223, .aload_n 0, 1), (224, .sipush 252, 3), (227, .newarray .int, 2), (229, .putfield 57, 3), (232, .aload_n 0, 1), (233, .sipush 900, 3), (236, .newarray .int, 2), (238, .putfield 60, 3), (241, .aload_n 0, 1), (242, .sipush 901, 3), (245, .newarray .int, 2), (247, .putfield 63, 3), (250, .aload_n 0, 1), (251, .sipush 901, 3), (254, .newarray .int, 2), (256, .putfield 66, 3), (259, .aload_n 0, 1), (260, .sipush 900, 3), (263, .newarray .int, 2), (265, .putfield 69, 3), (268, .aload_n 0, 1), (269, .sipush 900, 3), (272, .newarray .int, 2), (274, .putfield 72, 3), (277, .aload_n 0, 1), (278, .sipush 1800, 3), (281, .newarray .int, 2), (283, .putfield 75, 3), (286, .aload_n 0, 1), (287, .sipush 900, 3), (290, .newarray .boolean, 2), (292, .putfield 78, 3), (295, .aload_n 0, 1), (296, .ldc 81, 2), (298, .newarray .boolean, 2), (300, .putfield 82, 3), (303, .aload_n 0, 1), (304, .ldc 81, 2), (306, .newarray .boolean, 2), (308, .putfield 85, 3), (311, .aload_n 0, 1), (312, .sipush 901, 3), (315, .newarray .int, 2), (317, .putfield 88, 3), (320, .aload_n 0, 1), (321, .bipush 16, 2), (323, .newarray .int, 2), (325, .putfield 91, 3), (328, .aload_n 0, 1), (329, .sipush 192, 3), (332, .newarray .int, 2), (334, .putfield 94, 3), (337, .aload_n 0, 1), (338, .bipush 7, 2), (340, .newarray .int, 2), (342, .putfield 97, 3), (345, .aload_n 0, 1), (346, .bipush 7, 2), (348, .newarray .int, 2), (350, .putfield 100, 3), (353, .aload_n 0, 1), (354, .sipush 130, 3), (357, .newarray .boolean, 2), (359, .putfield 103, 3), (362, .aload_n 0, 1), (363, .sipush 130, 3), (366, .newarray .int, 2), (368, .putfield 106, 3), (371, .aload_n 0, 1), (372, .bipush 8, 2), (374, .newarray .int, 2), (376, .putfield 109, 3), (379, .aload_n 0, 1), (380, .bipush 8, 2), (382, .newarray .int, 2), (384, .putfield 112, 3), (387, .aload_n 0, 1), (388, .bipush 8, 2), (390, .newarray .int, 2), (392, .putfield 115, 3), (395, .aload_n 0, 1), (396, .bipush 8, 2), (398, .newarray .int, 2), (400, .putfield 118, 3), (403, .aload_n 0, 1), (404, .bipush 8, 2), (406, .newarray .int, 2), (408, .putfield 121, 3), (411, .aload_n 0, 1), (412, .bipush 8, 2), (414, .newarray .int, 2), (416, .putfield 124, 3), (419, .aload_n 0, 1), (420, .bipush 8, 2), (422, .newarray .int, 2), (424, .putfield 127, 3), (427, .aload_n 0, 1), (428, .bipush 8, 2), (430, .newarray .int, 2), (432, .putfield 130, 3), (435, .aload_n 0, 1), (436, .sipush 960, 3), (439, .newarray .long, 2), (441, .putfield 133, 3), (444, .aload_n 0, 1), (445, .bipush 120, 2), (447, .newarray .long, 2), (449, .putfield 137, 3), (452, .return_, 1)] = true := by decide +kernel
theorem ob_RX0_3 : Cond.methodLink RX0 3 Lib.objectInit ∈ zTG := (zTG_1 (i := 36) rfl rfl)
theorem na_byte : Cond.arrayClass .byte ∈ zTG := (zTG_1 (i := 88) rfl rfl)
theorem na_int : Cond.arrayClass .int ∈ zTG := (zTG_1 (i := 89) rfl rfl)
theorem ob_RX2_5 : Cond.methodLink RX2 5 Lib.objectInit ∈ zTG := (zTG_1 (i := 95) rfl rfl)
theorem ob_RX1_3 : Cond.methodLink RX1 3 Lib.objectInit ∈ zTG := (zTG_1 (i := 171) rfl rfl)
theorem ob_RX10_3 : Cond.methodLink RX10 3 Lib.objectInit ∈ zTG := (zTG_1 (i := 224) rfl rfl)
theorem ob_RX6_3 : Cond.methodLink RX6 3 Lib.objectInit ∈ zTG := (zTG_2 (i := 22) rfl rfl)
theorem ob_RX9_3 : Cond.methodLink RX9 3 Lib.objectInit ∈ zTG := (zTG_2 (i := 67) rfl rfl)
theorem ob_RX4_3 : Cond.methodLink RX4 3 Lib.objectInit ∈ zTG := (zTG_2 (i := 83) rfl rfl)
theorem ob_RX5_5 : Cond.methodLink RX5 5 Lib.objectInit ∈ zTG := (zTG_2 (i := 107) rfl rfl)
theorem ob_RX8_3 : Cond.methodLink RX8 3 Lib.objectInit ∈ zTG := (zTG_2 (i := 135) rfl rfl)
theorem na_boolean : Cond.arrayClass .boolean ∈ zTG := (zTG_2 (i := 161) rfl rfl)
theorem ob_RX7_3 : Cond.methodLink RX7 3 Lib.objectInit ∈ zTG := (zTG_2 (i := 167) rfl rfl)
theorem ob_RX3_3 : Cond.methodLink RX3 3 Lib.objectInit ∈ zTG := (zTG_2 (i := 191) rfl rfl)
theorem ob_RX12_1 : Cond.methodLink RX12 1 Lib.objectInit ∈ zTG := (zTG_6 (i := 104) rfl rfl)
theorem kc_RX12_81 : Cond.constant RX12 81 (Int32.ofInt 600000) ∈ zTG := (zTG_6 (i := 105) rfl rfl)
theorem na_long : Cond.arrayClass .long ∈ zTG := (zTG_7 (i := 92) rfl rfl)
theorem ob_RX11_1 : Cond.methodLink RX11 1 Lib.objectInit ∈ zTG := (zTG_1 (i := 28) rfl rfl)
theorem cd_1 : ∀ k, k < 9 → (zS0.2.2 1 k = 0 ∧ defaultValue (tyX0 k) = .int 0) ∨ (zS0.2.2 1 k = 1 ∧ defaultValue (tyX0 k) = .null) := by decide +kernel
theorem cl_RX11_7 : Cond.classLink RX11 7 RX0 ∈ zTG := (zTG_1 (i := 31) rfl rfl)
theorem ni_X0 : Cond.instantiable RX0 9 ∈ zTG ∧ Cond.initialized RX0 ∈ zTG := ⟨(zTG_1 (i := 32) rfl rfl), (zTG_1 (i := 2) rfl rfl)⟩
theorem ck_RX11_9 : zCK RX11 9 yX0_init cX0_init 2 none 0 := ⟨Or.inl (zTG_1 (i := 33) rfl rfl), (zTG_1 (i := 2) rfl rfl), (zTG_1 (i := 35) rfl rfl), by decide +kernel⟩
theorem ii_X0_init : Cond.instanceMethod yX0_init ∈ zTG := (zTG_1 (i := 34) rfl rfl)
theorem cd_5 : ∀ k, k < 18 → (zS0.2.2 5 k = 0 ∧ defaultValue (tyX2 k) = .int 0) ∨ (zS0.2.2 5 k = 1 ∧ defaultValue (tyX2 k) = .null) := by decide +kernel
theorem cl_RX11_10 : Cond.classLink RX11 10 RX2 ∈ zTG := (zTG_1 (i := 90) rfl rfl)
theorem ni_X2 : Cond.instantiable RX2 18 ∈ zTG ∧ Cond.initialized RX2 ∈ zTG := ⟨(zTG_1 (i := 91) rfl rfl), (zTG_1 (i := 3) rfl rfl)⟩
theorem ck_RX11_12 : zCK RX11 12 yX2_init cX2_init 2 none 1 := ⟨Or.inl (zTG_1 (i := 92) rfl rfl), (zTG_1 (i := 3) rfl rfl), (zTG_1 (i := 94) rfl rfl), by decide +kernel⟩
theorem ii_X2_init : Cond.instanceMethod yX2_init ∈ zTG := (zTG_1 (i := 93) rfl rfl)
theorem cd_17 : ∀ k, k < 12 → (zS0.2.2 17 k = 0 ∧ defaultValue (tyX1 k) = .int 0) ∨ (zS0.2.2 17 k = 1 ∧ defaultValue (tyX1 k) = .null) := by decide +kernel
theorem cl_RX11_15 : Cond.classLink RX11 15 RX1 ∈ zTG := (zTG_1 (i := 166) rfl rfl)
theorem ni_X1 : Cond.instantiable RX1 12 ∈ zTG ∧ Cond.initialized RX1 ∈ zTG := ⟨(zTG_1 (i := 167) rfl rfl), (zTG_1 (i := 4) rfl rfl)⟩
theorem ck_RX11_17 : zCK RX11 17 yX1_init cX1_init 2 none 1 := ⟨Or.inl (zTG_1 (i := 168) rfl rfl), (zTG_1 (i := 4) rfl rfl), (zTG_1 (i := 170) rfl rfl), by decide +kernel⟩
theorem ii_X1_init : Cond.instanceMethod yX1_init ∈ zTG := (zTG_1 (i := 169) rfl rfl)
theorem cd_26 : ∀ k, k < 9 → (zS0.2.2 26 k = 0 ∧ defaultValue (tyX10 k) = .int 0) ∨ (zS0.2.2 26 k = 1 ∧ defaultValue (tyX10 k) = .null) := by decide +kernel
theorem cl_RX11_22 : Cond.classLink RX11 22 RX10 ∈ zTG := (zTG_1 (i := 218) rfl rfl)
theorem ni_X10 : Cond.instantiable RX10 9 ∈ zTG ∧ Cond.initialized RX10 ∈ zTG := ⟨(zTG_1 (i := 220) rfl rfl), (zTG_1 (i := 5) rfl rfl)⟩
theorem ck_RX11_24 : zCK RX11 24 yX10_init cX10_init 1 none 0 := ⟨Or.inr ⟨"DotLines", by simp [zNL]⟩, (zTG_1 (i := 5) rfl rfl), (zTG_1 (i := 223) rfl rfl), by decide +kernel⟩
theorem ii_X10_init : Cond.instanceMethod yX10_init ∈ zTG := (zTG_1 (i := 222) rfl rfl)
theorem cd_28 : ∀ k, k < 9 → (zS0.2.2 28 k = 0 ∧ defaultValue (tyX10 k) = .int 0) ∨ (zS0.2.2 28 k = 1 ∧ defaultValue (tyX10 k) = .null) := by decide +kernel
theorem cd_30 : ∀ k, k < 9 → (zS0.2.2 30 k = 0 ∧ defaultValue (tyX10 k) = .int 0) ∨ (zS0.2.2 30 k = 1 ∧ defaultValue (tyX10 k) = .null) := by decide +kernel
theorem cd_32 : ∀ k, k < 9 → (zS0.2.2 32 k = 0 ∧ defaultValue (tyX10 k) = .int 0) ∨ (zS0.2.2 32 k = 1 ∧ defaultValue (tyX10 k) = .null) := by decide +kernel
theorem cd_34 : ∀ k, k < 9 → (zS0.2.2 34 k = 0 ∧ defaultValue (tyX10 k) = .int 0) ∨ (zS0.2.2 34 k = 1 ∧ defaultValue (tyX10 k) = .null) := by decide +kernel
theorem cd_36 : ∀ k, k < 9 → (zS0.2.2 36 k = 0 ∧ defaultValue (tyX10 k) = .int 0) ∨ (zS0.2.2 36 k = 1 ∧ defaultValue (tyX10 k) = .null) := by decide +kernel
theorem cd_38 : ∀ k, k < 9 → (zS0.2.2 38 k = 0 ∧ defaultValue (tyX10 k) = .int 0) ∨ (zS0.2.2 38 k = 1 ∧ defaultValue (tyX10 k) = .null) := by decide +kernel
theorem cd_40 : ∀ k, k < 9 → (zS0.2.2 40 k = 0 ∧ defaultValue (tyX10 k) = .int 0) ∨ (zS0.2.2 40 k = 1 ∧ defaultValue (tyX10 k) = .null) := by decide +kernel
theorem cd_42 : ∀ k, k < 12 → (zS0.2.2 42 k = 0 ∧ defaultValue (tyX6 k) = .int 0) ∨ (zS0.2.2 42 k = 1 ∧ defaultValue (tyX6 k) = .null) := by decide +kernel
theorem cl_RX11_37 : Cond.classLink RX11 37 RX6 ∈ zTG := (zTG_2 (i := 17) rfl rfl)
theorem ni_X6 : Cond.instantiable RX6 12 ∈ zTG ∧ Cond.initialized RX6 ∈ zTG := ⟨(zTG_2 (i := 18) rfl rfl), (zTG_1 (i := 6) rfl rfl)⟩
theorem ck_RX11_39 : zCK RX11 39 yX6_init cX6_init 2 none 1 := ⟨Or.inl (zTG_2 (i := 19) rfl rfl), (zTG_1 (i := 6) rfl rfl), (zTG_2 (i := 21) rfl rfl), by decide +kernel⟩
theorem ii_X6_init : Cond.instanceMethod yX6_init ∈ zTG := (zTG_2 (i := 20) rfl rfl)
theorem cd_48 : ∀ k, k < 3 → (zS0.2.2 48 k = 0 ∧ defaultValue (tyX9 k) = .int 0) ∨ (zS0.2.2 48 k = 1 ∧ defaultValue (tyX9 k) = .null) := by decide +kernel
theorem cl_RX11_46 : Cond.classLink RX11 46 RX9 ∈ zTG := (zTG_2 (i := 62) rfl rfl)
theorem ni_X9 : Cond.instantiable RX9 3 ∈ zTG ∧ Cond.initialized RX9 ∈ zTG := ⟨(zTG_2 (i := 63) rfl rfl), (zTG_1 (i := 7) rfl rfl)⟩
theorem ck_RX11_48 : zCK RX11 48 yX9_init cX9_init 2 none 1 := ⟨Or.inl (zTG_2 (i := 64) rfl rfl), (zTG_1 (i := 7) rfl rfl), (zTG_2 (i := 66) rfl rfl), by decide +kernel⟩
theorem ii_X9_init : Cond.instanceMethod yX9_init ∈ zTG := (zTG_2 (i := 65) rfl rfl)
theorem cd_50 : ∀ k, k < 5 → (zS0.2.2 50 k = 0 ∧ defaultValue (tyX4 k) = .int 0) ∨ (zS0.2.2 50 k = 1 ∧ defaultValue (tyX4 k) = .null) := by decide +kernel
theorem cl_RX11_53 : Cond.classLink RX11 53 RX4 ∈ zTG := (zTG_2 (i := 78) rfl rfl)
theorem ni_X4 : Cond.instantiable RX4 5 ∈ zTG ∧ Cond.initialized RX4 ∈ zTG := ⟨(zTG_2 (i := 79) rfl rfl), (zTG_1 (i := 8) rfl rfl)⟩
theorem ck_RX11_55 : zCK RX11 55 yX4_init cX4_init 2 none 1 := ⟨Or.inl (zTG_2 (i := 80) rfl rfl), (zTG_1 (i := 8) rfl rfl), (zTG_2 (i := 82) rfl rfl), by decide +kernel⟩
theorem ii_X4_init : Cond.instanceMethod yX4_init ∈ zTG := (zTG_2 (i := 81) rfl rfl)
theorem cd_53 : ∀ k, k < 6 → (zS0.2.2 53 k = 0 ∧ defaultValue (tyX5 k) = .int 0) ∨ (zS0.2.2 53 k = 1 ∧ defaultValue (tyX5 k) = .null) := by decide +kernel
theorem cl_RX11_60 : Cond.classLink RX11 60 RX5 ∈ zTG := (zTG_2 (i := 102) rfl rfl)
theorem ni_X5 : Cond.instantiable RX5 6 ∈ zTG ∧ Cond.initialized RX5 ∈ zTG := ⟨(zTG_2 (i := 103) rfl rfl), (zTG_1 (i := 9) rfl rfl)⟩
theorem ck_RX11_62 : zCK RX11 62 yX5_init cX5_init 2 none 1 := ⟨Or.inl (zTG_2 (i := 104) rfl rfl), (zTG_1 (i := 9) rfl rfl), (zTG_2 (i := 106) rfl rfl), by decide +kernel⟩
theorem ii_X5_init : Cond.instanceMethod yX5_init ∈ zTG := (zTG_2 (i := 105) rfl rfl)
theorem cd_57 : ∀ k, k < 6 → (zS0.2.2 57 k = 0 ∧ defaultValue (tyX8 k) = .int 0) ∨ (zS0.2.2 57 k = 1 ∧ defaultValue (tyX8 k) = .null) := by decide +kernel
theorem cl_RX11_67 : Cond.classLink RX11 67 RX8 ∈ zTG := (zTG_2 (i := 130) rfl rfl)
theorem ni_X8 : Cond.instantiable RX8 6 ∈ zTG ∧ Cond.initialized RX8 ∈ zTG := ⟨(zTG_2 (i := 131) rfl rfl), (zTG_1 (i := 10) rfl rfl)⟩
theorem ck_RX11_69 : zCK RX11 69 yX8_init cX8_init 1 none 0 := ⟨Or.inr ⟨"DotLines", by simp [zNL]⟩, (zTG_1 (i := 10) rfl rfl), (zTG_2 (i := 134) rfl rfl), by decide +kernel⟩
theorem ii_X8_init : Cond.instanceMethod yX8_init ∈ zTG := (zTG_2 (i := 133) rfl rfl)
theorem cd_74 : ∀ k, k < 5 → (zS0.2.2 74 k = 0 ∧ defaultValue (tyX7 k) = .int 0) ∨ (zS0.2.2 74 k = 1 ∧ defaultValue (tyX7 k) = .null) := by decide +kernel
theorem cl_RX11_74 : Cond.classLink RX11 74 RX7 ∈ zTG := (zTG_2 (i := 162) rfl rfl)
theorem ni_X7 : Cond.instantiable RX7 5 ∈ zTG ∧ Cond.initialized RX7 ∈ zTG := ⟨(zTG_2 (i := 163) rfl rfl), (zTG_1 (i := 11) rfl rfl)⟩
theorem ck_RX11_76 : zCK RX11 76 yX7_init cX7_init 1 none 0 := ⟨Or.inl (zTG_2 (i := 164) rfl rfl), (zTG_1 (i := 11) rfl rfl), (zTG_2 (i := 166) rfl rfl), by decide +kernel⟩
theorem ii_X7_init : Cond.instanceMethod yX7_init ∈ zTG := (zTG_2 (i := 165) rfl rfl)
theorem cd_77 : ∀ k, k < 4 → (zS0.2.2 77 k = 0 ∧ defaultValue (tyX3 k) = .int 0) ∨ (zS0.2.2 77 k = 1 ∧ defaultValue (tyX3 k) = .null) := by decide +kernel
theorem cl_RX11_81 : Cond.classLink RX11 81 RX3 ∈ zTG := (zTG_2 (i := 186) rfl rfl)
theorem ni_X3 : Cond.instantiable RX3 4 ∈ zTG ∧ Cond.initialized RX3 ∈ zTG := ⟨(zTG_2 (i := 187) rfl rfl), (zTG_1 (i := 12) rfl rfl)⟩
theorem ck_RX11_83 : zCK RX11 83 yX3_init cX3_init 1 none 0 := ⟨Or.inr ⟨"DotLines", by simp [zNL]⟩, (zTG_1 (i := 12) rfl rfl), (zTG_2 (i := 190) rfl rfl), by decide +kernel⟩
theorem ii_X3_init : Cond.instanceMethod yX3_init ∈ zTG := (zTG_2 (i := 189) rfl rfl)
theorem cd_99 : ∀ k, k < 9 → (zS0.2.2 99 k = 0 ∧ defaultValue (tyX0 k) = .int 0) ∨ (zS0.2.2 99 k = 1 ∧ defaultValue (tyX0 k) = .null) := by decide +kernel
def cf_X0_init_1 (M : zM) : zM :=
  let M6 := zset M 1 4 2
  let M10 := zset M6 1 5 3
  let M14 := zset M10 1 6 4
  let M17 := zset M14 1 0 1
  let M20 := zset M17 1 1 1
  let M32 := zset M20 3 0 (17 * 0)
  let M44 := zset M32 3 1 (17 * 1)
  let M56 := zset M44 3 2 (17 * 2)
  let M68 := zset M56 3 3 (17 * 3)
  let M80 := zset M68 3 4 (17 * 4)
  let M92 := zset M80 3 5 (17 * 5)
  let M104 := zset M92 3 6 (17 * 6)
  let M116 := zset M104 3 7 (17 * 7)
  let M128 := zset M116 3 8 (17 * 8)
  let M140 := zset M128 3 9 (17 * 9)
  let M152 := zset M140 3 10 (17 * 10)
  let M164 := zset M152 3 11 (17 * 11)
  let M176 := zset M164 3 12 (17 * 12)
  let M188 := zset M176 3 13 (17 * 13)
  let M200 := zset M188 3 14 (17 * 14)
  let M212 := zset M200 3 15 (17 * 15)
  M212
abbrev mc_X0_init_1 : zMc := (cX0_init, RX0, 2, none, 1, zS0, 2, 3, 400)
set_option maxHeartbeats 4000000 in
set_option maxRecDepth 100000 in
theorem sc_X0_init_1 : zSnd zS0 2 3 400 yX0_init cX0_init 2 none 1 [2] (fun xs P M => xs = [1] ∧ zfrs M 2 ∧ (zfrs (cf_X0_init_1 M) 5 → P 0 (cf_X0_init_1 M))) := by
  refine zSnd.of rfl (fun ad xs hz => Nat.le_trans (Nat.le_of_eq (zlen ad _ xs hz)) (by decide)) ?_
  intro Γ C hAd0 hini0 xs M hz hF0
  obtain ⟨rfl, hF, h⟩ := hF0
  have hAd := hAd0 (by decide)
  have hini := hini0 rfl
  refine zr_rng (fun hR => ?_)
  have C : zC Γ mc_X0_init_1 := C
  change zV Γ mc_X0_init_1 (2, 0, 0) 0 [(0, zRf (zad Γ) 1)] [] M
  refine zr_aload_n C 0 rfl (zdec_at dm_X0_init 0 rfl) rfl ?_
  refine zr_obj (κ := (2, 0, 0)) C ob_RX0_3 ob_i ob_c (by decide) (Nat.le_of_ble_eq_true rfl) (zdec_at dm_X0_init 1 rfl) ?_
  refine zr_aload_n C 0 rfl (zdec_at dm_X0_init 2 rfl) rfl ?_
  refine zr_sipush C (zdec_at dm_X0_init 3 rfl) (by decide) ?_
  refine zr_newB (κ := (2, 0, 0)) (len := 192) C hAd rfl (by decide) na_byte rfl rfl (by decide) (fun k _ => hF.a (Nat.le_refl _) rfl k) ⟨by decide, by decide⟩ (zdec_at dm_X0_init 4 rfl) ?_
  have hF5 := hF.le (m := 3) (by decide)
  change zV Γ mc_X0_init_1 (3, 1, 192) 10 [(0, zRf (zad Γ) 1)] [zRf (zad Γ) 2, zRf (zad Γ) 1] M
  refine zr_putF (κ := (3, 1, 192)) C hini rfl (by decide +kernel) fk_RX0_9 (fun _ => ⟨rfl, rfl⟩) (by decide +kernel) (by decide) (by decide) (zdec_at dm_X0_init 5 rfl) (fun M6 e6 => ?_)
  have hR6 : zRng M6 := by rw [e6]; exact hR.set (by decide) _ _
  have hF6 : zfrs M6 3 := by rw [e6]; exact hF5.set (by decide) _ _
  refine zr_aload_n C 0 rfl (zdec_at dm_X0_init 6 rfl) rfl ?_
  refine zr_bipush C (zdec_at dm_X0_init 7 rfl) (by decide) ?_
  refine zr_newI (κ := (3, 1, 192)) (len := 16) C hAd rfl (by decide) na_int rfl rfl (by decide) (fun k _ => hF6.a (Nat.le_refl _) rfl k) ⟨by decide, by decide⟩ (zdec_at dm_X0_init 8 rfl) ?_
  have hF9 := hF6.le (m := 4) (by decide)
  change zV Γ mc_X0_init_1 (4, 2, 208) 18 [(0, zRf (zad Γ) 1)] [zRf (zad Γ) 3, zRf (zad Γ) 1] M6
  refine zr_putF (κ := (4, 2, 208)) C hini rfl (by decide +kernel) fk_RX0_15 (fun _ => ⟨rfl, rfl⟩) (by decide +kernel) (by decide) (by decide) (zdec_at dm_X0_init 9 rfl) (fun M10 e10 => ?_)
  have hR10 : zRng M10 := by rw [e10]; exact hR6.set (by decide) _ _
  have hF10 : zfrs M10 4 := by rw [e10]; exact hF9.set (by decide) _ _
  refine zr_aload_n C 0 rfl (zdec_at dm_X0_init 10 rfl) rfl ?_
  refine zr_sipush C (zdec_at dm_X0_init 11 rfl) (by decide) ?_
  refine zr_newB (κ := (4, 2, 208)) (len := 192) C hAd rfl (by decide) na_byte rfl rfl (by decide) (fun k _ => hF10.a (Nat.le_refl _) rfl k) ⟨by decide, by decide⟩ (zdec_at dm_X0_init 12 rfl) ?_
  have hF13 := hF10.le (m := 5) (by decide)
  change zV Γ mc_X0_init_1 (5, 3, 400) 27 [(0, zRf (zad Γ) 1)] [zRf (zad Γ) 4, zRf (zad Γ) 1] M10
  refine zr_putF (κ := (5, 3, 400)) C hini rfl (by decide +kernel) fk_RX0_19 (fun _ => ⟨rfl, rfl⟩) (by decide +kernel) (by decide) (by decide) (zdec_at dm_X0_init 13 rfl) (fun M14 e14 => ?_)
  have hR14 : zRng M14 := by rw [e14]; exact hR10.set (by decide) _ _
  have hF14 : zfrs M14 5 := by rw [e14]; exact hF13.set (by decide) _ _
  refine zr_aload_n C 0 rfl (zdec_at dm_X0_init 14 rfl) rfl ?_
  refine zr_iconst C (zdec_at dm_X0_init 15 rfl) ?_
  refine zr_puti (κ := (5, 3, 400)) C fk_RX0_22 (by decide +kernel) (by decide) (zdec_at dm_X0_init 16 rfl) (fun M17 e17 => ?_)
  have hR17 : zRng M17 := by rw [e17]; exact hR14.set (by decide) _ _
  have hF17 : zfrs M17 5 := by rw [e17]; exact hF14.set (by decide) _ _
  refine zr_aload_n C 0 rfl (zdec_at dm_X0_init 17 rfl) rfl ?_
  refine zr_iconst C (zdec_at dm_X0_init 18 rfl) ?_
  refine zr_puti (κ := (5, 3, 400)) C fk_RX0_26 (by decide +kernel) (by decide) (zdec_at dm_X0_init 19 rfl) (fun M20 e20 => ?_)
  have hR20 : zRng M20 := by rw [e20]; exact hR17.set (by decide) _ _
  have hF20 : zfrs M20 5 := by rw [e20]; exact hF17.set (by decide) _ _
  refine zr_iconst C (zdec_at dm_X0_init 20 rfl) ?_
  refine zr_istore_n (L1 := [(1, zI 0), (0, zRf (zad Γ) 1)]) C (zdec_at dm_X0_init 21 rfl) rfl (Nat.le_of_ble_eq_true rfl) rfl ?_
  refine zr_iload_n C 0 rfl (zdec_at dm_X0_init 22 rfl) rfl ?_
  refine zr_bipush C (zdec_at dm_X0_init 23 rfl) (by decide) ?_
  refine zr_icmp_ge C (by decide) (by decide) (zdec_at dm_X0_init 24 rfl) rfl (fun g => absurd g (by decide)) (fun _ => ?_)
  refine zr_aload_n C 1 rfl (zdec_at dm_X0_init 25 rfl) rfl ?_
  have q27 : M20 1 5 = 3 := by rw [e20, zset_n _ (by decide), e17, zset_n _ (by decide), e14, zset_n _ (by decide), e10, zset_s]
  refine zr_getm (κ := (5, 3, 400)) C fk_RX0_15 (by decide +kernel) (zdec_at dm_X0_init 26 rfl) ?_
  rw [q27, zA_pos (by decide)]
  refine zr_iload_n C 0 rfl (zdec_at dm_X0_init 27 rfl) rfl ?_
  refine zr_bipush C (zdec_at dm_X0_init 28 rfl) (by decide) ?_
  refine zr_iload_n C 0 rfl (zdec_at dm_X0_init 29 rfl) rfl ?_
  refine zr_imul C (zdec_at dm_X0_init 30 rfl) ?_
  refine zr_iast (κ := (5, 3, 400)) (len := 16) C (by decide +kernel) (by decide) (by decide) (zdec_at dm_X0_init 31 rfl) (fun M32 e32 => ?_)
  have hR32 : zRng M32 := by rw [e32]; exact hR20.set (by decide) _ _
  have hF32 : zfrs M32 5 := by rw [e32]; exact hF20.set (by decide) _ _
  refine zr_iinc (L1 := [(1, zI (0 + 1)), (0, zRf (zad Γ) 1)]) C 0 rfl (zdec_at dm_X0_init 32 rfl) (Nat.le_of_ble_eq_true rfl) rfl ?_
  change zV Γ mc_X0_init_1 (5, 3, 400) 61 [(1, zI 1), (0, zRf (zad Γ) 1)] [] M32
  refine zr_goto C (zdec_at dm_X0_init 33 rfl) rfl ?_
  refine zr_iload_n C 0 rfl (zdec_at dm_X0_init 22 rfl) rfl ?_
  refine zr_bipush C (zdec_at dm_X0_init 23 rfl) (by decide) ?_
  refine zr_icmp_ge C (by decide) (by decide) (zdec_at dm_X0_init 24 rfl) rfl (fun g => absurd g (by decide)) (fun _ => ?_)
  refine zr_aload_n C 1 rfl (zdec_at dm_X0_init 25 rfl) rfl ?_
  have q39 : M32 1 5 = 3 := by rw [e32, zset_n _ (by decide), e20, zset_n _ (by decide), e17, zset_n _ (by decide), e14, zset_n _ (by decide), e10, zset_s]
  refine zr_getm (κ := (5, 3, 400)) C fk_RX0_15 (by decide +kernel) (zdec_at dm_X0_init 26 rfl) ?_
  rw [q39, zA_pos (by decide)]
  refine zr_iload_n C 0 rfl (zdec_at dm_X0_init 27 rfl) rfl ?_
  refine zr_bipush C (zdec_at dm_X0_init 28 rfl) (by decide) ?_
  refine zr_iload_n C 0 rfl (zdec_at dm_X0_init 29 rfl) rfl ?_
  refine zr_imul C (zdec_at dm_X0_init 30 rfl) ?_
  refine zr_iast (κ := (5, 3, 400)) (len := 16) C (by decide +kernel) (by decide) (by decide) (zdec_at dm_X0_init 31 rfl) (fun M44 e44 => ?_)
  have hR44 : zRng M44 := by rw [e44]; exact hR32.set (by decide) _ _
  have hF44 : zfrs M44 5 := by rw [e44]; exact hF32.set (by decide) _ _
  refine zr_iinc (L1 := [(1, zI (1 + 1)), (0, zRf (zad Γ) 1)]) C 0 rfl (zdec_at dm_X0_init 32 rfl) (Nat.le_of_ble_eq_true rfl) rfl ?_
  change zV Γ mc_X0_init_1 (5, 3, 400) 61 [(1, zI 2), (0, zRf (zad Γ) 1)] [] M44
  refine zr_goto C (zdec_at dm_X0_init 33 rfl) rfl ?_
  refine zr_iload_n C 0 rfl (zdec_at dm_X0_init 22 rfl) rfl ?_
  refine zr_bipush C (zdec_at dm_X0_init 23 rfl) (by decide) ?_
  refine zr_icmp_ge C (by decide) (by decide) (zdec_at dm_X0_init 24 rfl) rfl (fun g => absurd g (by decide)) (fun _ => ?_)
  refine zr_aload_n C 1 rfl (zdec_at dm_X0_init 25 rfl) rfl ?_
  have q51 : M44 1 5 = 3 := by rw [e44, zset_n _ (by decide), e32, zset_n _ (by decide), e20, zset_n _ (by decide), e17, zset_n _ (by decide), e14, zset_n _ (by decide), e10, zset_s]
  refine zr_getm (κ := (5, 3, 400)) C fk_RX0_15 (by decide +kernel) (zdec_at dm_X0_init 26 rfl) ?_
  rw [q51, zA_pos (by decide)]
  refine zr_iload_n C 0 rfl (zdec_at dm_X0_init 27 rfl) rfl ?_
  refine zr_bipush C (zdec_at dm_X0_init 28 rfl) (by decide) ?_
  refine zr_iload_n C 0 rfl (zdec_at dm_X0_init 29 rfl) rfl ?_
  refine zr_imul C (zdec_at dm_X0_init 30 rfl) ?_
  refine zr_iast (κ := (5, 3, 400)) (len := 16) C (by decide +kernel) (by decide) (by decide) (zdec_at dm_X0_init 31 rfl) (fun M56 e56 => ?_)
  have hR56 : zRng M56 := by rw [e56]; exact hR44.set (by decide) _ _
  have hF56 : zfrs M56 5 := by rw [e56]; exact hF44.set (by decide) _ _
  refine zr_iinc (L1 := [(1, zI (2 + 1)), (0, zRf (zad Γ) 1)]) C 0 rfl (zdec_at dm_X0_init 32 rfl) (Nat.le_of_ble_eq_true rfl) rfl ?_
  change zV Γ mc_X0_init_1 (5, 3, 400) 61 [(1, zI 3), (0, zRf (zad Γ) 1)] [] M56
  refine zr_goto C (zdec_at dm_X0_init 33 rfl) rfl ?_
  refine zr_iload_n C 0 rfl (zdec_at dm_X0_init 22 rfl) rfl ?_
  refine zr_bipush C (zdec_at dm_X0_init 23 rfl) (by decide) ?_
  refine zr_icmp_ge C (by decide) (by decide) (zdec_at dm_X0_init 24 rfl) rfl (fun g => absurd g (by decide)) (fun _ => ?_)
  refine zr_aload_n C 1 rfl (zdec_at dm_X0_init 25 rfl) rfl ?_
  have q63 : M56 1 5 = 3 := by rw [e56, zset_n _ (by decide), e44, zset_n _ (by decide), e32, zset_n _ (by decide), e20, zset_n _ (by decide), e17, zset_n _ (by decide), e14, zset_n _ (by decide), e10, zset_s]
  refine zr_getm (κ := (5, 3, 400)) C fk_RX0_15 (by decide +kernel) (zdec_at dm_X0_init 26 rfl) ?_
  rw [q63, zA_pos (by decide)]
  refine zr_iload_n C 0 rfl (zdec_at dm_X0_init 27 rfl) rfl ?_
  refine zr_bipush C (zdec_at dm_X0_init 28 rfl) (by decide) ?_
  refine zr_iload_n C 0 rfl (zdec_at dm_X0_init 29 rfl) rfl ?_
  refine zr_imul C (zdec_at dm_X0_init 30 rfl) ?_
  refine zr_iast (κ := (5, 3, 400)) (len := 16) C (by decide +kernel) (by decide) (by decide) (zdec_at dm_X0_init 31 rfl) (fun M68 e68 => ?_)
  have hR68 : zRng M68 := by rw [e68]; exact hR56.set (by decide) _ _
  have hF68 : zfrs M68 5 := by rw [e68]; exact hF56.set (by decide) _ _
  refine zr_iinc (L1 := [(1, zI (3 + 1)), (0, zRf (zad Γ) 1)]) C 0 rfl (zdec_at dm_X0_init 32 rfl) (Nat.le_of_ble_eq_true rfl) rfl ?_
  change zV Γ mc_X0_init_1 (5, 3, 400) 61 [(1, zI 4), (0, zRf (zad Γ) 1)] [] M68
  refine zr_goto C (zdec_at dm_X0_init 33 rfl) rfl ?_
  refine zr_iload_n C 0 rfl (zdec_at dm_X0_init 22 rfl) rfl ?_
  refine zr_bipush C (zdec_at dm_X0_init 23 rfl) (by decide) ?_
  refine zr_icmp_ge C (by decide) (by decide) (zdec_at dm_X0_init 24 rfl) rfl (fun g => absurd g (by decide)) (fun _ => ?_)
  refine zr_aload_n C 1 rfl (zdec_at dm_X0_init 25 rfl) rfl ?_
  have q75 : M68 1 5 = 3 := by rw [e68, zset_n _ (by decide), e56, zset_n _ (by decide), e44, zset_n _ (by decide), e32, zset_n _ (by decide), e20, zset_n _ (by decide), e17, zset_n _ (by decide), e14, zset_n _ (by decide), e10, zset_s]
  refine zr_getm (κ := (5, 3, 400)) C fk_RX0_15 (by decide +kernel) (zdec_at dm_X0_init 26 rfl) ?_
  rw [q75, zA_pos (by decide)]
  refine zr_iload_n C 0 rfl (zdec_at dm_X0_init 27 rfl) rfl ?_
  refine zr_bipush C (zdec_at dm_X0_init 28 rfl) (by decide) ?_
  refine zr_iload_n C 0 rfl (zdec_at dm_X0_init 29 rfl) rfl ?_
  refine zr_imul C (zdec_at dm_X0_init 30 rfl) ?_
  refine zr_iast (κ := (5, 3, 400)) (len := 16) C (by decide +kernel) (by decide) (by decide) (zdec_at dm_X0_init 31 rfl) (fun M80 e80 => ?_)
  have hR80 : zRng M80 := by rw [e80]; exact hR68.set (by decide) _ _
  have hF80 : zfrs M80 5 := by rw [e80]; exact hF68.set (by decide) _ _
  refine zr_iinc (L1 := [(1, zI (4 + 1)), (0, zRf (zad Γ) 1)]) C 0 rfl (zdec_at dm_X0_init 32 rfl) (Nat.le_of_ble_eq_true rfl) rfl ?_
  change zV Γ mc_X0_init_1 (5, 3, 400) 61 [(1, zI 5), (0, zRf (zad Γ) 1)] [] M80
  refine zr_goto C (zdec_at dm_X0_init 33 rfl) rfl ?_
  refine zr_iload_n C 0 rfl (zdec_at dm_X0_init 22 rfl) rfl ?_
  refine zr_bipush C (zdec_at dm_X0_init 23 rfl) (by decide) ?_
  refine zr_icmp_ge C (by decide) (by decide) (zdec_at dm_X0_init 24 rfl) rfl (fun g => absurd g (by decide)) (fun _ => ?_)
  refine zr_aload_n C 1 rfl (zdec_at dm_X0_init 25 rfl) rfl ?_
  have q87 : M80 1 5 = 3 := by rw [e80, zset_n _ (by decide), e68, zset_n _ (by decide), e56, zset_n _ (by decide), e44, zset_n _ (by decide), e32, zset_n _ (by decide), e20, zset_n _ (by decide), e17, zset_n _ (by decide), e14, zset_n _ (by decide), e10, zset_s]
  refine zr_getm (κ := (5, 3, 400)) C fk_RX0_15 (by decide +kernel) (zdec_at dm_X0_init 26 rfl) ?_
  rw [q87, zA_pos (by decide)]
  refine zr_iload_n C 0 rfl (zdec_at dm_X0_init 27 rfl) rfl ?_
  refine zr_bipush C (zdec_at dm_X0_init 28 rfl) (by decide) ?_
  refine zr_iload_n C 0 rfl (zdec_at dm_X0_init 29 rfl) rfl ?_
  refine zr_imul C (zdec_at dm_X0_init 30 rfl) ?_
  refine zr_iast (κ := (5, 3, 400)) (len := 16) C (by decide +kernel) (by decide) (by decide) (zdec_at dm_X0_init 31 rfl) (fun M92 e92 => ?_)
  have hR92 : zRng M92 := by rw [e92]; exact hR80.set (by decide) _ _
  have hF92 : zfrs M92 5 := by rw [e92]; exact hF80.set (by decide) _ _
  refine zr_iinc (L1 := [(1, zI (5 + 1)), (0, zRf (zad Γ) 1)]) C 0 rfl (zdec_at dm_X0_init 32 rfl) (Nat.le_of_ble_eq_true rfl) rfl ?_
  change zV Γ mc_X0_init_1 (5, 3, 400) 61 [(1, zI 6), (0, zRf (zad Γ) 1)] [] M92
  refine zr_goto C (zdec_at dm_X0_init 33 rfl) rfl ?_
  refine zr_iload_n C 0 rfl (zdec_at dm_X0_init 22 rfl) rfl ?_
  refine zr_bipush C (zdec_at dm_X0_init 23 rfl) (by decide) ?_
  refine zr_icmp_ge C (by decide) (by decide) (zdec_at dm_X0_init 24 rfl) rfl (fun g => absurd g (by decide)) (fun _ => ?_)
  refine zr_aload_n C 1 rfl (zdec_at dm_X0_init 25 rfl) rfl ?_
  have q99 : M92 1 5 = 3 := by rw [e92, zset_n _ (by decide), e80, zset_n _ (by decide), e68, zset_n _ (by decide), e56, zset_n _ (by decide), e44, zset_n _ (by decide), e32, zset_n _ (by decide), e20, zset_n _ (by decide), e17, zset_n _ (by decide), e14, zset_n _ (by decide), e10, zset_s]
  refine zr_getm (κ := (5, 3, 400)) C fk_RX0_15 (by decide +kernel) (zdec_at dm_X0_init 26 rfl) ?_
  rw [q99, zA_pos (by decide)]
  refine zr_iload_n C 0 rfl (zdec_at dm_X0_init 27 rfl) rfl ?_
  refine zr_bipush C (zdec_at dm_X0_init 28 rfl) (by decide) ?_
  refine zr_iload_n C 0 rfl (zdec_at dm_X0_init 29 rfl) rfl ?_
  refine zr_imul C (zdec_at dm_X0_init 30 rfl) ?_
  refine zr_iast (κ := (5, 3, 400)) (len := 16) C (by decide +kernel) (by decide) (by decide) (zdec_at dm_X0_init 31 rfl) (fun M104 e104 => ?_)
  have hR104 : zRng M104 := by rw [e104]; exact hR92.set (by decide) _ _
  have hF104 : zfrs M104 5 := by rw [e104]; exact hF92.set (by decide) _ _
  refine zr_iinc (L1 := [(1, zI (6 + 1)), (0, zRf (zad Γ) 1)]) C 0 rfl (zdec_at dm_X0_init 32 rfl) (Nat.le_of_ble_eq_true rfl) rfl ?_
  change zV Γ mc_X0_init_1 (5, 3, 400) 61 [(1, zI 7), (0, zRf (zad Γ) 1)] [] M104
  refine zr_goto C (zdec_at dm_X0_init 33 rfl) rfl ?_
  refine zr_iload_n C 0 rfl (zdec_at dm_X0_init 22 rfl) rfl ?_
  refine zr_bipush C (zdec_at dm_X0_init 23 rfl) (by decide) ?_
  refine zr_icmp_ge C (by decide) (by decide) (zdec_at dm_X0_init 24 rfl) rfl (fun g => absurd g (by decide)) (fun _ => ?_)
  refine zr_aload_n C 1 rfl (zdec_at dm_X0_init 25 rfl) rfl ?_
  have q111 : M104 1 5 = 3 := by rw [e104, zset_n _ (by decide), e92, zset_n _ (by decide), e80, zset_n _ (by decide), e68, zset_n _ (by decide), e56, zset_n _ (by decide), e44, zset_n _ (by decide), e32, zset_n _ (by decide), e20, zset_n _ (by decide), e17, zset_n _ (by decide), e14, zset_n _ (by decide), e10, zset_s]
  refine zr_getm (κ := (5, 3, 400)) C fk_RX0_15 (by decide +kernel) (zdec_at dm_X0_init 26 rfl) ?_
  rw [q111, zA_pos (by decide)]
  refine zr_iload_n C 0 rfl (zdec_at dm_X0_init 27 rfl) rfl ?_
  refine zr_bipush C (zdec_at dm_X0_init 28 rfl) (by decide) ?_
  refine zr_iload_n C 0 rfl (zdec_at dm_X0_init 29 rfl) rfl ?_
  refine zr_imul C (zdec_at dm_X0_init 30 rfl) ?_
  refine zr_iast (κ := (5, 3, 400)) (len := 16) C (by decide +kernel) (by decide) (by decide) (zdec_at dm_X0_init 31 rfl) (fun M116 e116 => ?_)
  have hR116 : zRng M116 := by rw [e116]; exact hR104.set (by decide) _ _
  have hF116 : zfrs M116 5 := by rw [e116]; exact hF104.set (by decide) _ _
  refine zr_iinc (L1 := [(1, zI (7 + 1)), (0, zRf (zad Γ) 1)]) C 0 rfl (zdec_at dm_X0_init 32 rfl) (Nat.le_of_ble_eq_true rfl) rfl ?_
  change zV Γ mc_X0_init_1 (5, 3, 400) 61 [(1, zI 8), (0, zRf (zad Γ) 1)] [] M116
  refine zr_goto C (zdec_at dm_X0_init 33 rfl) rfl ?_
  refine zr_iload_n C 0 rfl (zdec_at dm_X0_init 22 rfl) rfl ?_
  refine zr_bipush C (zdec_at dm_X0_init 23 rfl) (by decide) ?_
  refine zr_icmp_ge C (by decide) (by decide) (zdec_at dm_X0_init 24 rfl) rfl (fun g => absurd g (by decide)) (fun _ => ?_)
  refine zr_aload_n C 1 rfl (zdec_at dm_X0_init 25 rfl) rfl ?_
  have q123 : M116 1 5 = 3 := by rw [e116, zset_n _ (by decide), e104, zset_n _ (by decide), e92, zset_n _ (by decide), e80, zset_n _ (by decide), e68, zset_n _ (by decide), e56, zset_n _ (by decide), e44, zset_n _ (by decide), e32, zset_n _ (by decide), e20, zset_n _ (by decide), e17, zset_n _ (by decide), e14, zset_n _ (by decide), e10, zset_s]
  refine zr_getm (κ := (5, 3, 400)) C fk_RX0_15 (by decide +kernel) (zdec_at dm_X0_init 26 rfl) ?_
  rw [q123, zA_pos (by decide)]
  refine zr_iload_n C 0 rfl (zdec_at dm_X0_init 27 rfl) rfl ?_
  refine zr_bipush C (zdec_at dm_X0_init 28 rfl) (by decide) ?_
  refine zr_iload_n C 0 rfl (zdec_at dm_X0_init 29 rfl) rfl ?_
  refine zr_imul C (zdec_at dm_X0_init 30 rfl) ?_
  refine zr_iast (κ := (5, 3, 400)) (len := 16) C (by decide +kernel) (by decide) (by decide) (zdec_at dm_X0_init 31 rfl) (fun M128 e128 => ?_)
  have hR128 : zRng M128 := by rw [e128]; exact hR116.set (by decide) _ _
  have hF128 : zfrs M128 5 := by rw [e128]; exact hF116.set (by decide) _ _
  refine zr_iinc (L1 := [(1, zI (8 + 1)), (0, zRf (zad Γ) 1)]) C 0 rfl (zdec_at dm_X0_init 32 rfl) (Nat.le_of_ble_eq_true rfl) rfl ?_
  change zV Γ mc_X0_init_1 (5, 3, 400) 61 [(1, zI 9), (0, zRf (zad Γ) 1)] [] M128
  refine zr_goto C (zdec_at dm_X0_init 33 rfl) rfl ?_
  refine zr_iload_n C 0 rfl (zdec_at dm_X0_init 22 rfl) rfl ?_
  refine zr_bipush C (zdec_at dm_X0_init 23 rfl) (by decide) ?_
  refine zr_icmp_ge C (by decide) (by decide) (zdec_at dm_X0_init 24 rfl) rfl (fun g => absurd g (by decide)) (fun _ => ?_)
  refine zr_aload_n C 1 rfl (zdec_at dm_X0_init 25 rfl) rfl ?_
  have q135 : M128 1 5 = 3 := by rw [e128, zset_n _ (by decide), e116, zset_n _ (by decide), e104, zset_n _ (by decide), e92, zset_n _ (by decide), e80, zset_n _ (by decide), e68, zset_n _ (by decide), e56, zset_n _ (by decide), e44, zset_n _ (by decide), e32, zset_n _ (by decide), e20, zset_n _ (by decide), e17, zset_n _ (by decide), e14, zset_n _ (by decide), e10, zset_s]
  refine zr_getm (κ := (5, 3, 400)) C fk_RX0_15 (by decide +kernel) (zdec_at dm_X0_init 26 rfl) ?_
  rw [q135, zA_pos (by decide)]
  refine zr_iload_n C 0 rfl (zdec_at dm_X0_init 27 rfl) rfl ?_
  refine zr_bipush C (zdec_at dm_X0_init 28 rfl) (by decide) ?_
  refine zr_iload_n C 0 rfl (zdec_at dm_X0_init 29 rfl) rfl ?_
  refine zr_imul C (zdec_at dm_X0_init 30 rfl) ?_
  refine zr_iast (κ := (5, 3, 400)) (len := 16) C (by decide +kernel) (by decide) (by decide) (zdec_at dm_X0_init 31 rfl) (fun M140 e140 => ?_)
  have hR140 : zRng M140 := by rw [e140]; exact hR128.set (by decide) _ _
  have hF140 : zfrs M140 5 := by rw [e140]; exact hF128.set (by decide) _ _
  refine zr_iinc (L1 := [(1, zI (9 + 1)), (0, zRf (zad Γ) 1)]) C 0 rfl (zdec_at dm_X0_init 32 rfl) (Nat.le_of_ble_eq_true rfl) rfl ?_
  change zV Γ mc_X0_init_1 (5, 3, 400) 61 [(1, zI 10), (0, zRf (zad Γ) 1)] [] M140
  refine zr_goto C (zdec_at dm_X0_init 33 rfl) rfl ?_
  refine zr_iload_n C 0 rfl (zdec_at dm_X0_init 22 rfl) rfl ?_
  refine zr_bipush C (zdec_at dm_X0_init 23 rfl) (by decide) ?_
  refine zr_icmp_ge C (by decide) (by decide) (zdec_at dm_X0_init 24 rfl) rfl (fun g => absurd g (by decide)) (fun _ => ?_)
  refine zr_aload_n C 1 rfl (zdec_at dm_X0_init 25 rfl) rfl ?_
  have q147 : M140 1 5 = 3 := by rw [e140, zset_n _ (by decide), e128, zset_n _ (by decide), e116, zset_n _ (by decide), e104, zset_n _ (by decide), e92, zset_n _ (by decide), e80, zset_n _ (by decide), e68, zset_n _ (by decide), e56, zset_n _ (by decide), e44, zset_n _ (by decide), e32, zset_n _ (by decide), e20, zset_n _ (by decide), e17, zset_n _ (by decide), e14, zset_n _ (by decide), e10, zset_s]
  refine zr_getm (κ := (5, 3, 400)) C fk_RX0_15 (by decide +kernel) (zdec_at dm_X0_init 26 rfl) ?_
  rw [q147, zA_pos (by decide)]
  refine zr_iload_n C 0 rfl (zdec_at dm_X0_init 27 rfl) rfl ?_
  refine zr_bipush C (zdec_at dm_X0_init 28 rfl) (by decide) ?_
  refine zr_iload_n C 0 rfl (zdec_at dm_X0_init 29 rfl) rfl ?_
  refine zr_imul C (zdec_at dm_X0_init 30 rfl) ?_
  refine zr_iast (κ := (5, 3, 400)) (len := 16) C (by decide +kernel) (by decide) (by decide) (zdec_at dm_X0_init 31 rfl) (fun M152 e152 => ?_)
  have hR152 : zRng M152 := by rw [e152]; exact hR140.set (by decide) _ _
  have hF152 : zfrs M152 5 := by rw [e152]; exact hF140.set (by decide) _ _
  refine zr_iinc (L1 := [(1, zI (10 + 1)), (0, zRf (zad Γ) 1)]) C 0 rfl (zdec_at dm_X0_init 32 rfl) (Nat.le_of_ble_eq_true rfl) rfl ?_
  change zV Γ mc_X0_init_1 (5, 3, 400) 61 [(1, zI 11), (0, zRf (zad Γ) 1)] [] M152
  refine zr_goto C (zdec_at dm_X0_init 33 rfl) rfl ?_
  refine zr_iload_n C 0 rfl (zdec_at dm_X0_init 22 rfl) rfl ?_
  refine zr_bipush C (zdec_at dm_X0_init 23 rfl) (by decide) ?_
  refine zr_icmp_ge C (by decide) (by decide) (zdec_at dm_X0_init 24 rfl) rfl (fun g => absurd g (by decide)) (fun _ => ?_)
  refine zr_aload_n C 1 rfl (zdec_at dm_X0_init 25 rfl) rfl ?_
  have q159 : M152 1 5 = 3 := by rw [e152, zset_n _ (by decide), e140, zset_n _ (by decide), e128, zset_n _ (by decide), e116, zset_n _ (by decide), e104, zset_n _ (by decide), e92, zset_n _ (by decide), e80, zset_n _ (by decide), e68, zset_n _ (by decide), e56, zset_n _ (by decide), e44, zset_n _ (by decide), e32, zset_n _ (by decide), e20, zset_n _ (by decide), e17, zset_n _ (by decide), e14, zset_n _ (by decide), e10, zset_s]
  refine zr_getm (κ := (5, 3, 400)) C fk_RX0_15 (by decide +kernel) (zdec_at dm_X0_init 26 rfl) ?_
  rw [q159, zA_pos (by decide)]
  refine zr_iload_n C 0 rfl (zdec_at dm_X0_init 27 rfl) rfl ?_
  refine zr_bipush C (zdec_at dm_X0_init 28 rfl) (by decide) ?_
  refine zr_iload_n C 0 rfl (zdec_at dm_X0_init 29 rfl) rfl ?_
  refine zr_imul C (zdec_at dm_X0_init 30 rfl) ?_
  refine zr_iast (κ := (5, 3, 400)) (len := 16) C (by decide +kernel) (by decide) (by decide) (zdec_at dm_X0_init 31 rfl) (fun M164 e164 => ?_)
  have hR164 : zRng M164 := by rw [e164]; exact hR152.set (by decide) _ _
  have hF164 : zfrs M164 5 := by rw [e164]; exact hF152.set (by decide) _ _
  refine zr_iinc (L1 := [(1, zI (11 + 1)), (0, zRf (zad Γ) 1)]) C 0 rfl (zdec_at dm_X0_init 32 rfl) (Nat.le_of_ble_eq_true rfl) rfl ?_
  change zV Γ mc_X0_init_1 (5, 3, 400) 61 [(1, zI 12), (0, zRf (zad Γ) 1)] [] M164
  refine zr_goto C (zdec_at dm_X0_init 33 rfl) rfl ?_
  refine zr_iload_n C 0 rfl (zdec_at dm_X0_init 22 rfl) rfl ?_
  refine zr_bipush C (zdec_at dm_X0_init 23 rfl) (by decide) ?_
  refine zr_icmp_ge C (by decide) (by decide) (zdec_at dm_X0_init 24 rfl) rfl (fun g => absurd g (by decide)) (fun _ => ?_)
  refine zr_aload_n C 1 rfl (zdec_at dm_X0_init 25 rfl) rfl ?_
  have q171 : M164 1 5 = 3 := by rw [e164, zset_n _ (by decide), e152, zset_n _ (by decide), e140, zset_n _ (by decide), e128, zset_n _ (by decide), e116, zset_n _ (by decide), e104, zset_n _ (by decide), e92, zset_n _ (by decide), e80, zset_n _ (by decide), e68, zset_n _ (by decide), e56, zset_n _ (by decide), e44, zset_n _ (by decide), e32, zset_n _ (by decide), e20, zset_n _ (by decide), e17, zset_n _ (by decide), e14, zset_n _ (by decide), e10, zset_s]
  refine zr_getm (κ := (5, 3, 400)) C fk_RX0_15 (by decide +kernel) (zdec_at dm_X0_init 26 rfl) ?_
  rw [q171, zA_pos (by decide)]
  refine zr_iload_n C 0 rfl (zdec_at dm_X0_init 27 rfl) rfl ?_
  refine zr_bipush C (zdec_at dm_X0_init 28 rfl) (by decide) ?_
  refine zr_iload_n C 0 rfl (zdec_at dm_X0_init 29 rfl) rfl ?_
  refine zr_imul C (zdec_at dm_X0_init 30 rfl) ?_
  refine zr_iast (κ := (5, 3, 400)) (len := 16) C (by decide +kernel) (by decide) (by decide) (zdec_at dm_X0_init 31 rfl) (fun M176 e176 => ?_)
  have hR176 : zRng M176 := by rw [e176]; exact hR164.set (by decide) _ _
  have hF176 : zfrs M176 5 := by rw [e176]; exact hF164.set (by decide) _ _
  refine zr_iinc (L1 := [(1, zI (12 + 1)), (0, zRf (zad Γ) 1)]) C 0 rfl (zdec_at dm_X0_init 32 rfl) (Nat.le_of_ble_eq_true rfl) rfl ?_
  change zV Γ mc_X0_init_1 (5, 3, 400) 61 [(1, zI 13), (0, zRf (zad Γ) 1)] [] M176
  refine zr_goto C (zdec_at dm_X0_init 33 rfl) rfl ?_
  refine zr_iload_n C 0 rfl (zdec_at dm_X0_init 22 rfl) rfl ?_
  refine zr_bipush C (zdec_at dm_X0_init 23 rfl) (by decide) ?_
  refine zr_icmp_ge C (by decide) (by decide) (zdec_at dm_X0_init 24 rfl) rfl (fun g => absurd g (by decide)) (fun _ => ?_)
  refine zr_aload_n C 1 rfl (zdec_at dm_X0_init 25 rfl) rfl ?_
  have q183 : M176 1 5 = 3 := by rw [e176, zset_n _ (by decide), e164, zset_n _ (by decide), e152, zset_n _ (by decide), e140, zset_n _ (by decide), e128, zset_n _ (by decide), e116, zset_n _ (by decide), e104, zset_n _ (by decide), e92, zset_n _ (by decide), e80, zset_n _ (by decide), e68, zset_n _ (by decide), e56, zset_n _ (by decide), e44, zset_n _ (by decide), e32, zset_n _ (by decide), e20, zset_n _ (by decide), e17, zset_n _ (by decide), e14, zset_n _ (by decide), e10, zset_s]
  refine zr_getm (κ := (5, 3, 400)) C fk_RX0_15 (by decide +kernel) (zdec_at dm_X0_init 26 rfl) ?_
  rw [q183, zA_pos (by decide)]
  refine zr_iload_n C 0 rfl (zdec_at dm_X0_init 27 rfl) rfl ?_
  refine zr_bipush C (zdec_at dm_X0_init 28 rfl) (by decide) ?_
  refine zr_iload_n C 0 rfl (zdec_at dm_X0_init 29 rfl) rfl ?_
  refine zr_imul C (zdec_at dm_X0_init 30 rfl) ?_
  refine zr_iast (κ := (5, 3, 400)) (len := 16) C (by decide +kernel) (by decide) (by decide) (zdec_at dm_X0_init 31 rfl) (fun M188 e188 => ?_)
  have hR188 : zRng M188 := by rw [e188]; exact hR176.set (by decide) _ _
  have hF188 : zfrs M188 5 := by rw [e188]; exact hF176.set (by decide) _ _
  refine zr_iinc (L1 := [(1, zI (13 + 1)), (0, zRf (zad Γ) 1)]) C 0 rfl (zdec_at dm_X0_init 32 rfl) (Nat.le_of_ble_eq_true rfl) rfl ?_
  change zV Γ mc_X0_init_1 (5, 3, 400) 61 [(1, zI 14), (0, zRf (zad Γ) 1)] [] M188
  refine zr_goto C (zdec_at dm_X0_init 33 rfl) rfl ?_
  refine zr_iload_n C 0 rfl (zdec_at dm_X0_init 22 rfl) rfl ?_
  refine zr_bipush C (zdec_at dm_X0_init 23 rfl) (by decide) ?_
  refine zr_icmp_ge C (by decide) (by decide) (zdec_at dm_X0_init 24 rfl) rfl (fun g => absurd g (by decide)) (fun _ => ?_)
  refine zr_aload_n C 1 rfl (zdec_at dm_X0_init 25 rfl) rfl ?_
  have q195 : M188 1 5 = 3 := by rw [e188, zset_n _ (by decide), e176, zset_n _ (by decide), e164, zset_n _ (by decide), e152, zset_n _ (by decide), e140, zset_n _ (by decide), e128, zset_n _ (by decide), e116, zset_n _ (by decide), e104, zset_n _ (by decide), e92, zset_n _ (by decide), e80, zset_n _ (by decide), e68, zset_n _ (by decide), e56, zset_n _ (by decide), e44, zset_n _ (by decide), e32, zset_n _ (by decide), e20, zset_n _ (by decide), e17, zset_n _ (by decide), e14, zset_n _ (by decide), e10, zset_s]
  refine zr_getm (κ := (5, 3, 400)) C fk_RX0_15 (by decide +kernel) (zdec_at dm_X0_init 26 rfl) ?_
  rw [q195, zA_pos (by decide)]
  refine zr_iload_n C 0 rfl (zdec_at dm_X0_init 27 rfl) rfl ?_
  refine zr_bipush C (zdec_at dm_X0_init 28 rfl) (by decide) ?_
  refine zr_iload_n C 0 rfl (zdec_at dm_X0_init 29 rfl) rfl ?_
  refine zr_imul C (zdec_at dm_X0_init 30 rfl) ?_
  refine zr_iast (κ := (5, 3, 400)) (len := 16) C (by decide +kernel) (by decide) (by decide) (zdec_at dm_X0_init 31 rfl) (fun M200 e200 => ?_)
  have hR200 : zRng M200 := by rw [e200]; exact hR188.set (by decide) _ _
  have hF200 : zfrs M200 5 := by rw [e200]; exact hF188.set (by decide) _ _
  refine zr_iinc (L1 := [(1, zI (14 + 1)), (0, zRf (zad Γ) 1)]) C 0 rfl (zdec_at dm_X0_init 32 rfl) (Nat.le_of_ble_eq_true rfl) rfl ?_
  change zV Γ mc_X0_init_1 (5, 3, 400) 61 [(1, zI 15), (0, zRf (zad Γ) 1)] [] M200
  refine zr_goto C (zdec_at dm_X0_init 33 rfl) rfl ?_
  refine zr_iload_n C 0 rfl (zdec_at dm_X0_init 22 rfl) rfl ?_
  refine zr_bipush C (zdec_at dm_X0_init 23 rfl) (by decide) ?_
  refine zr_icmp_ge C (by decide) (by decide) (zdec_at dm_X0_init 24 rfl) rfl (fun g => absurd g (by decide)) (fun _ => ?_)
  refine zr_aload_n C 1 rfl (zdec_at dm_X0_init 25 rfl) rfl ?_
  have q207 : M200 1 5 = 3 := by rw [e200, zset_n _ (by decide), e188, zset_n _ (by decide), e176, zset_n _ (by decide), e164, zset_n _ (by decide), e152, zset_n _ (by decide), e140, zset_n _ (by decide), e128, zset_n _ (by decide), e116, zset_n _ (by decide), e104, zset_n _ (by decide), e92, zset_n _ (by decide), e80, zset_n _ (by decide), e68, zset_n _ (by decide), e56, zset_n _ (by decide), e44, zset_n _ (by decide), e32, zset_n _ (by decide), e20, zset_n _ (by decide), e17, zset_n _ (by decide), e14, zset_n _ (by decide), e10, zset_s]
  refine zr_getm (κ := (5, 3, 400)) C fk_RX0_15 (by decide +kernel) (zdec_at dm_X0_init 26 rfl) ?_
  rw [q207, zA_pos (by decide)]
  refine zr_iload_n C 0 rfl (zdec_at dm_X0_init 27 rfl) rfl ?_
  refine zr_bipush C (zdec_at dm_X0_init 28 rfl) (by decide) ?_
  refine zr_iload_n C 0 rfl (zdec_at dm_X0_init 29 rfl) rfl ?_
  refine zr_imul C (zdec_at dm_X0_init 30 rfl) ?_
  refine zr_iast (κ := (5, 3, 400)) (len := 16) C (by decide +kernel) (by decide) (by decide) (zdec_at dm_X0_init 31 rfl) (fun M212 e212 => ?_)
  have hR212 : zRng M212 := by rw [e212]; exact hR200.set (by decide) _ _
  have hF212 : zfrs M212 5 := by rw [e212]; exact hF200.set (by decide) _ _
  refine zr_iinc (L1 := [(1, zI (15 + 1)), (0, zRf (zad Γ) 1)]) C 0 rfl (zdec_at dm_X0_init 32 rfl) (Nat.le_of_ble_eq_true rfl) rfl ?_
  change zV Γ mc_X0_init_1 (5, 3, 400) 61 [(1, zI 16), (0, zRf (zad Γ) 1)] [] M212
  refine zr_goto C (zdec_at dm_X0_init 33 rfl) rfl ?_
  refine zr_iload_n C 0 rfl (zdec_at dm_X0_init 22 rfl) rfl ?_
  refine zr_bipush C (zdec_at dm_X0_init 23 rfl) (by decide) ?_
  refine zr_icmp_ge C (by decide) (by decide) (zdec_at dm_X0_init 24 rfl) rfl (fun _ => ?_) (fun g => absurd (by decide) g)
  refine zr_return (κ := (5, 3, 400)) C rfl rfl (zdec_at dm_X0_init 34 rfl) rfl ⟨by decide, ?_⟩
  have eM : M212 = cf_X0_init_1 M := by rw [e212, e200, e188, e176, e164, e152, e140, e128, e116, e104, e92, e80, e68, e56, e44, e32, e20, e17, e14, e10, e6]; rfl
  rw [eM] at hF212 ⊢
  exact h hF212

def cf_X2_init_5 (M : zM) : zM :=
  let M6 := zset M 5 3 6
  let M10 := zset M6 5 4 7
  let M14 := zset M10 5 5 8
  let M18 := zset M14 5 6 9
  let M22 := zset M18 5 7 10
  let M26 := zset M22 5 8 11
  let M30 := zset M26 5 9 12
  let M34 := zset M30 5 10 13
  let M38 := zset M34 5 11 14
  let M42 := zset M38 5 12 15
  let M46 := zset M42 5 13 16
  let M49 := zset M46 5 0 1
  let M52 := zset M49 5 1 (-1)
  M52
abbrev mc_X2_init_5 : zMc := (cX2_init, RX2, 2, none, 1, zS0, 6, 11, 2056)
set_option maxHeartbeats 4000000 in
set_option maxRecDepth 100000 in
theorem sc_X2_init_5 : zSnd zS0 6 11 2056 yX2_init cX2_init 2 none 1 [2, 2] (fun xs P M => xs = [5, 1] ∧ zfrs M 6 ∧ (zfrs (cf_X2_init_5 M) 17 → P 0 (cf_X2_init_5 M))) := by
  refine zSnd.of rfl (fun ad xs hz => Nat.le_trans (Nat.le_of_eq (zlen ad _ xs hz)) (by decide)) ?_
  intro Γ C hAd0 hini0 xs M hz hF0
  obtain ⟨rfl, hF, h⟩ := hF0
  have hAd := hAd0 (by decide)
  have hini := hini0 rfl
  refine zr_rng (fun hR => ?_)
  have C : zC Γ mc_X2_init_5 := C
  change zV Γ mc_X2_init_5 (6, 0, 0) 0 [(0, zRf (zad Γ) 5), (1, zRf (zad Γ) 1)] [] M
  refine zr_aload_n C 0 rfl (zdec_at dm_X2_init 0 rfl) rfl ?_
  refine zr_obj (κ := (6, 0, 0)) C ob_RX2_5 ob_i ob_c (by decide) (Nat.le_of_ble_eq_true rfl) (zdec_at dm_X2_init 1 rfl) ?_
  refine zr_aload_n C 0 rfl (zdec_at dm_X2_init 2 rfl) rfl ?_
  refine zr_sipush C (zdec_at dm_X2_init 3 rfl) (by decide) ?_
  refine zr_newI (κ := (6, 0, 0)) (len := 192) C hAd rfl (by decide) na_int rfl rfl (by decide) (fun k _ => hF.a (Nat.le_refl _) rfl k) ⟨by decide, by decide⟩ (zdec_at dm_X2_init 4 rfl) ?_
  have hF5 := hF.le (m := 7) (by decide)
  change zV Γ mc_X2_init_5 (7, 1, 192) 10 [(0, zRf (zad Γ) 5), (1, zRf (zad Γ) 1)] [zRf (zad Γ) 6, zRf (zad Γ) 5] M
  refine zr_putF (κ := (7, 1, 192)) C hini rfl (by decide +kernel) fk_RX2_11 (fun _ => ⟨rfl, rfl⟩) (by decide +kernel) (by decide) (by decide) (zdec_at dm_X2_init 5 rfl) (fun M6 e6 => ?_)
  have hR6 : zRng M6 := by rw [e6]; exact hR.set (by decide) _ _
  have hF6 : zfrs M6 7 := by rw [e6]; exact hF5.set (by decide) _ _
  refine zr_aload_n C 0 rfl (zdec_at dm_X2_init 6 rfl) rfl ?_
  refine zr_sipush C (zdec_at dm_X2_init 7 rfl) (by decide) ?_
  refine zr_newI (κ := (7, 1, 192)) (len := 192) C hAd rfl (by decide) na_int rfl rfl (by decide) (fun k _ => hF6.a (Nat.le_refl _) rfl k) ⟨by decide, by decide⟩ (zdec_at dm_X2_init 8 rfl) ?_
  have hF9 := hF6.le (m := 8) (by decide)
  change zV Γ mc_X2_init_5 (8, 2, 384) 19 [(0, zRf (zad Γ) 5), (1, zRf (zad Γ) 1)] [zRf (zad Γ) 7, zRf (zad Γ) 5] M6
  refine zr_putF (κ := (8, 2, 384)) C hini rfl (by decide +kernel) fk_RX2_15 (fun _ => ⟨rfl, rfl⟩) (by decide +kernel) (by decide) (by decide) (zdec_at dm_X2_init 9 rfl) (fun M10 e10 => ?_)
  have hR10 : zRng M10 := by rw [e10]; exact hR6.set (by decide) _ _
  have hF10 : zfrs M10 8 := by rw [e10]; exact hF9.set (by decide) _ _
  refine zr_aload_n C 0 rfl (zdec_at dm_X2_init 10 rfl) rfl ?_
  refine zr_sipush C (zdec_at dm_X2_init 11 rfl) (by decide) ?_
  refine zr_newI (κ := (8, 2, 384)) (len := 192) C hAd rfl (by decide) na_int rfl rfl (by decide) (fun k _ => hF10.a (Nat.le_refl _) rfl k) ⟨by decide, by decide⟩ (zdec_at dm_X2_init 12 rfl) ?_
  have hF13 := hF10.le (m := 9) (by decide)
  change zV Γ mc_X2_init_5 (9, 3, 576) 28 [(0, zRf (zad Γ) 5), (1, zRf (zad Γ) 1)] [zRf (zad Γ) 8, zRf (zad Γ) 5] M10
  refine zr_putF (κ := (9, 3, 576)) C hini rfl (by decide +kernel) fk_RX2_18 (fun _ => ⟨rfl, rfl⟩) (by decide +kernel) (by decide) (by decide) (zdec_at dm_X2_init 13 rfl) (fun M14 e14 => ?_)
  have hR14 : zRng M14 := by rw [e14]; exact hR10.set (by decide) _ _
  have hF14 : zfrs M14 9 := by rw [e14]; exact hF13.set (by decide) _ _
  refine zr_aload_n C 0 rfl (zdec_at dm_X2_init 14 rfl) rfl ?_
  refine zr_sipush C (zdec_at dm_X2_init 15 rfl) (by decide) ?_
  refine zr_newI (κ := (9, 3, 576)) (len := 192) C hAd rfl (by decide) na_int rfl rfl (by decide) (fun k _ => hF14.a (Nat.le_refl _) rfl k) ⟨by decide, by decide⟩ (zdec_at dm_X2_init 16 rfl) ?_
  have hF17 := hF14.le (m := 10) (by decide)
  change zV Γ mc_X2_init_5 (10, 4, 768) 37 [(0, zRf (zad Γ) 5), (1, zRf (zad Γ) 1)] [zRf (zad Γ) 9, zRf (zad Γ) 5] M14
  refine zr_putF (κ := (10, 4, 768)) C hini rfl (by decide +kernel) fk_RX2_21 (fun _ => ⟨rfl, rfl⟩) (by decide +kernel) (by decide) (by decide) (zdec_at dm_X2_init 17 rfl) (fun M18 e18 => ?_)
  have hR18 : zRng M18 := by rw [e18]; exact hR14.set (by decide) _ _
  have hF18 : zfrs M18 10 := by rw [e18]; exact hF17.set (by decide) _ _
  refine zr_aload_n C 0 rfl (zdec_at dm_X2_init 18 rfl) rfl ?_
  refine zr_sipush C (zdec_at dm_X2_init 19 rfl) (by decide) ?_
  refine zr_newI (κ := (10, 4, 768)) (len := 192) C hAd rfl (by decide) na_int rfl rfl (by decide) (fun k _ => hF18.a (Nat.le_refl _) rfl k) ⟨by decide, by decide⟩ (zdec_at dm_X2_init 20 rfl) ?_
  have hF21 := hF18.le (m := 11) (by decide)
  change zV Γ mc_X2_init_5 (11, 5, 960) 46 [(0, zRf (zad Γ) 5), (1, zRf (zad Γ) 1)] [zRf (zad Γ) 10, zRf (zad Γ) 5] M18
  refine zr_putF (κ := (11, 5, 960)) C hini rfl (by decide +kernel) fk_RX2_24 (fun _ => ⟨rfl, rfl⟩) (by decide +kernel) (by decide) (by decide) (zdec_at dm_X2_init 21 rfl) (fun M22 e22 => ?_)
  have hR22 : zRng M22 := by rw [e22]; exact hR18.set (by decide) _ _
  have hF22 : zfrs M22 11 := by rw [e22]; exact hF21.set (by decide) _ _
  refine zr_aload_n C 0 rfl (zdec_at dm_X2_init 22 rfl) rfl ?_
  refine zr_sipush C (zdec_at dm_X2_init 23 rfl) (by decide) ?_
  refine zr_newI (κ := (11, 5, 960)) (len := 192) C hAd rfl (by decide) na_int rfl rfl (by decide) (fun k _ => hF22.a (Nat.le_refl _) rfl k) ⟨by decide, by decide⟩ (zdec_at dm_X2_init 24 rfl) ?_
  have hF25 := hF22.le (m := 12) (by decide)
  change zV Γ mc_X2_init_5 (12, 6, 1152) 55 [(0, zRf (zad Γ) 5), (1, zRf (zad Γ) 1)] [zRf (zad Γ) 11, zRf (zad Γ) 5] M22
  refine zr_putF (κ := (12, 6, 1152)) C hini rfl (by decide +kernel) fk_RX2_27 (fun _ => ⟨rfl, rfl⟩) (by decide +kernel) (by decide) (by decide) (zdec_at dm_X2_init 25 rfl) (fun M26 e26 => ?_)
  have hR26 : zRng M26 := by rw [e26]; exact hR22.set (by decide) _ _
  have hF26 : zfrs M26 12 := by rw [e26]; exact hF25.set (by decide) _ _
  refine zr_aload_n C 0 rfl (zdec_at dm_X2_init 26 rfl) rfl ?_
  refine zr_sipush C (zdec_at dm_X2_init 27 rfl) (by decide) ?_
  refine zr_newI (κ := (12, 6, 1152)) (len := 192) C hAd rfl (by decide) na_int rfl rfl (by decide) (fun k _ => hF26.a (Nat.le_refl _) rfl k) ⟨by decide, by decide⟩ (zdec_at dm_X2_init 28 rfl) ?_
  have hF29 := hF26.le (m := 13) (by decide)
  change zV Γ mc_X2_init_5 (13, 7, 1344) 64 [(0, zRf (zad Γ) 5), (1, zRf (zad Γ) 1)] [zRf (zad Γ) 12, zRf (zad Γ) 5] M26
  refine zr_putF (κ := (13, 7, 1344)) C hini rfl (by decide +kernel) fk_RX2_30 (fun _ => ⟨rfl, rfl⟩) (by decide +kernel) (by decide) (by decide) (zdec_at dm_X2_init 29 rfl) (fun M30 e30 => ?_)
  have hR30 : zRng M30 := by rw [e30]; exact hR26.set (by decide) _ _
  have hF30 : zfrs M30 13 := by rw [e30]; exact hF29.set (by decide) _ _
  refine zr_aload_n C 0 rfl (zdec_at dm_X2_init 30 rfl) rfl ?_
  refine zr_sipush C (zdec_at dm_X2_init 31 rfl) (by decide) ?_
  refine zr_newI (κ := (13, 7, 1344)) (len := 252) C hAd rfl (by decide) na_int rfl rfl (by decide) (fun k _ => hF30.a (Nat.le_refl _) rfl k) ⟨by decide, by decide⟩ (zdec_at dm_X2_init 32 rfl) ?_
  have hF33 := hF30.le (m := 14) (by decide)
  change zV Γ mc_X2_init_5 (14, 8, 1596) 73 [(0, zRf (zad Γ) 5), (1, zRf (zad Γ) 1)] [zRf (zad Γ) 13, zRf (zad Γ) 5] M30
  refine zr_putF (κ := (14, 8, 1596)) C hini rfl (by decide +kernel) fk_RX2_33 (fun _ => ⟨rfl, rfl⟩) (by decide +kernel) (by decide) (by decide) (zdec_at dm_X2_init 33 rfl) (fun M34 e34 => ?_)
  have hR34 : zRng M34 := by rw [e34]; exact hR30.set (by decide) _ _
  have hF34 : zfrs M34 14 := by rw [e34]; exact hF33.set (by decide) _ _
  refine zr_aload_n C 0 rfl (zdec_at dm_X2_init 34 rfl) rfl ?_
  refine zr_sipush C (zdec_at dm_X2_init 35 rfl) (by decide) ?_
  refine zr_newI (κ := (14, 8, 1596)) (len := 192) C hAd rfl (by decide) na_int rfl rfl (by decide) (fun k _ => hF34.a (Nat.le_refl _) rfl k) ⟨by decide, by decide⟩ (zdec_at dm_X2_init 36 rfl) ?_
  have hF37 := hF34.le (m := 15) (by decide)
  change zV Γ mc_X2_init_5 (15, 9, 1788) 82 [(0, zRf (zad Γ) 5), (1, zRf (zad Γ) 1)] [zRf (zad Γ) 14, zRf (zad Γ) 5] M34
  refine zr_putF (κ := (15, 9, 1788)) C hini rfl (by decide +kernel) fk_RX2_36 (fun _ => ⟨rfl, rfl⟩) (by decide +kernel) (by decide) (by decide) (zdec_at dm_X2_init 37 rfl) (fun M38 e38 => ?_)
  have hR38 : zRng M38 := by rw [e38]; exact hR34.set (by decide) _ _
  have hF38 : zfrs M38 15 := by rw [e38]; exact hF37.set (by decide) _ _
  refine zr_aload_n C 0 rfl (zdec_at dm_X2_init 38 rfl) rfl ?_
  refine zr_bipush C (zdec_at dm_X2_init 39 rfl) (by decide) ?_
  refine zr_newI (κ := (15, 9, 1788)) (len := 16) C hAd rfl (by decide) na_int rfl rfl (by decide) (fun k _ => hF38.a (Nat.le_refl _) rfl k) ⟨by decide, by decide⟩ (zdec_at dm_X2_init 40 rfl) ?_
  have hF41 := hF38.le (m := 16) (by decide)
  change zV Γ mc_X2_init_5 (16, 10, 1804) 90 [(0, zRf (zad Γ) 5), (1, zRf (zad Γ) 1)] [zRf (zad Γ) 15, zRf (zad Γ) 5] M38
  refine zr_putF (κ := (16, 10, 1804)) C hini rfl (by decide +kernel) fk_RX2_39 (fun _ => ⟨rfl, rfl⟩) (by decide +kernel) (by decide) (by decide) (zdec_at dm_X2_init 41 rfl) (fun M42 e42 => ?_)
  have hR42 : zRng M42 := by rw [e42]; exact hR38.set (by decide) _ _
  have hF42 : zfrs M42 16 := by rw [e42]; exact hF41.set (by decide) _ _
  refine zr_aload_n C 0 rfl (zdec_at dm_X2_init 42 rfl) rfl ?_
  refine zr_sipush C (zdec_at dm_X2_init 43 rfl) (by decide) ?_
  refine zr_newI (κ := (16, 10, 1804)) (len := 252) C hAd rfl (by decide) na_int rfl rfl (by decide) (fun k _ => hF42.a (Nat.le_refl _) rfl k) ⟨by decide, by decide⟩ (zdec_at dm_X2_init 44 rfl) ?_
  have hF45 := hF42.le (m := 17) (by decide)
  change zV Γ mc_X2_init_5 (17, 11, 2056) 99 [(0, zRf (zad Γ) 5), (1, zRf (zad Γ) 1)] [zRf (zad Γ) 16, zRf (zad Γ) 5] M42
  refine zr_putF (κ := (17, 11, 2056)) C hini rfl (by decide +kernel) fk_RX2_42 (fun _ => ⟨rfl, rfl⟩) (by decide +kernel) (by decide) (by decide) (zdec_at dm_X2_init 45 rfl) (fun M46 e46 => ?_)
  have hR46 : zRng M46 := by rw [e46]; exact hR42.set (by decide) _ _
  have hF46 : zfrs M46 17 := by rw [e46]; exact hF45.set (by decide) _ _
  refine zr_aload_n C 0 rfl (zdec_at dm_X2_init 46 rfl) rfl ?_
  refine zr_aload_n C 1 rfl (zdec_at dm_X2_init 47 rfl) rfl ?_
  refine zr_putF (κ := (17, 11, 2056)) C hini rfl (by decide +kernel) fk_RX2_45 (fun _ => ⟨rfl, rfl⟩) (by decide +kernel) (by decide) (by decide) (zdec_at dm_X2_init 48 rfl) (fun M49 e49 => ?_)
  have hR49 : zRng M49 := by rw [e49]; exact hR46.set (by decide) _ _
  have hF49 : zfrs M49 17 := by rw [e49]; exact hF46.set (by decide) _ _
  refine zr_aload_n C 0 rfl (zdec_at dm_X2_init 49 rfl) rfl ?_
  refine zr_iconst C (zdec_at dm_X2_init 50 rfl) ?_
  refine zr_puti (κ := (17, 11, 2056)) C fk_RX2_49 (by decide +kernel) (by decide) (zdec_at dm_X2_init 51 rfl) (fun M52 e52 => ?_)
  have hR52 : zRng M52 := by rw [e52]; exact hR49.set (by decide) _ _
  have hF52 : zfrs M52 17 := by rw [e52]; exact hF49.set (by decide) _ _
  refine zr_return (κ := (17, 11, 2056)) C rfl rfl (zdec_at dm_X2_init 52 rfl) rfl ⟨by decide, ?_⟩
  have eM : M52 = cf_X2_init_5 M := by rw [e52, e49, e46, e42, e38, e34, e30, e26, e22, e18, e14, e10, e6]; rfl
  rw [eM] at hF52 ⊢
  exact h hF52

def cf_X1_init_17 (M : zM) : zM :=
  let M6 := zset M 17 2 18
  let M10 := zset M6 17 3 19
  let M14 := zset M10 17 4 20
  let M18 := zset M14 17 5 21
  let M22 := zset M18 17 9 22
  let M26 := zset M22 17 10 23
  let M30 := zset M26 17 11 24
  let M33 := zset M30 17 0 5
  let M36 := zset M33 17 6 (-1)
  M36
abbrev mc_X1_init_17 : zMc := (cX1_init, RX1, 2, none, 1, zS0, 18, 7, 2891)
set_option maxHeartbeats 4000000 in
set_option maxRecDepth 100000 in
theorem sc_X1_init_17 : zSnd zS0 18 7 2891 yX1_init cX1_init 2 none 1 [2, 2] (fun xs P M => xs = [17, 5] ∧ zfrs M 18 ∧ (zfrs (cf_X1_init_17 M) 25 → P 0 (cf_X1_init_17 M))) := by
  refine zSnd.of rfl (fun ad xs hz => Nat.le_trans (Nat.le_of_eq (zlen ad _ xs hz)) (by decide)) ?_
  intro Γ C hAd0 hini0 xs M hz hF0
  obtain ⟨rfl, hF, h⟩ := hF0
  have hAd := hAd0 (by decide)
  have hini := hini0 rfl
  refine zr_rng (fun hR => ?_)
  have C : zC Γ mc_X1_init_17 := C
  change zV Γ mc_X1_init_17 (18, 0, 0) 0 [(0, zRf (zad Γ) 17), (1, zRf (zad Γ) 5)] [] M
  refine zr_aload_n C 0 rfl (zdec_at dm_X1_init 0 rfl) rfl ?_
  refine zr_obj (κ := (18, 0, 0)) C ob_RX1_3 ob_i ob_c (by decide) (Nat.le_of_ble_eq_true rfl) (zdec_at dm_X1_init 1 rfl) ?_
  refine zr_aload_n C 0 rfl (zdec_at dm_X1_init 2 rfl) rfl ?_
  refine zr_sipush C (zdec_at dm_X1_init 3 rfl) (by decide) ?_
  refine zr_newI (κ := (18, 0, 0)) (len := 413) C hAd rfl (by decide) na_int rfl rfl (by decide) (fun k _ => hF.a (Nat.le_refl _) rfl k) ⟨by decide, by decide⟩ (zdec_at dm_X1_init 4 rfl) ?_
  have hF5 := hF.le (m := 19) (by decide)
  change zV Γ mc_X1_init_17 (19, 1, 413) 10 [(0, zRf (zad Γ) 17), (1, zRf (zad Γ) 5)] [zRf (zad Γ) 18, zRf (zad Γ) 17] M
  refine zr_putF (κ := (19, 1, 413)) C hini rfl (by decide +kernel) fk_RX1_9 (fun _ => ⟨rfl, rfl⟩) (by decide +kernel) (by decide) (by decide) (zdec_at dm_X1_init 5 rfl) (fun M6 e6 => ?_)
  have hR6 : zRng M6 := by rw [e6]; exact hR.set (by decide) _ _
  have hF6 : zfrs M6 19 := by rw [e6]; exact hF5.set (by decide) _ _
  refine zr_aload_n C 0 rfl (zdec_at dm_X1_init 6 rfl) rfl ?_
  refine zr_sipush C (zdec_at dm_X1_init 7 rfl) (by decide) ?_
  refine zr_newI (κ := (19, 1, 413)) (len := 413) C hAd rfl (by decide) na_int rfl rfl (by decide) (fun k _ => hF6.a (Nat.le_refl _) rfl k) ⟨by decide, by decide⟩ (zdec_at dm_X1_init 8 rfl) ?_
  have hF9 := hF6.le (m := 20) (by decide)
  change zV Γ mc_X1_init_17 (20, 2, 826) 19 [(0, zRf (zad Γ) 17), (1, zRf (zad Γ) 5)] [zRf (zad Γ) 19, zRf (zad Γ) 17] M6
  refine zr_putF (κ := (20, 2, 826)) C hini rfl (by decide +kernel) fk_RX1_15 (fun _ => ⟨rfl, rfl⟩) (by decide +kernel) (by decide) (by decide) (zdec_at dm_X1_init 9 rfl) (fun M10 e10 => ?_)
  have hR10 : zRng M10 := by rw [e10]; exact hR6.set (by decide) _ _
  have hF10 : zfrs M10 20 := by rw [e10]; exact hF9.set (by decide) _ _
  refine zr_aload_n C 0 rfl (zdec_at dm_X1_init 10 rfl) rfl ?_
  refine zr_sipush C (zdec_at dm_X1_init 11 rfl) (by decide) ?_
  refine zr_newI (κ := (20, 2, 826)) (len := 413) C hAd rfl (by decide) na_int rfl rfl (by decide) (fun k _ => hF10.a (Nat.le_refl _) rfl k) ⟨by decide, by decide⟩ (zdec_at dm_X1_init 12 rfl) ?_
  have hF13 := hF10.le (m := 21) (by decide)
  change zV Γ mc_X1_init_17 (21, 3, 1239) 28 [(0, zRf (zad Γ) 17), (1, zRf (zad Γ) 5)] [zRf (zad Γ) 20, zRf (zad Γ) 17] M10
  refine zr_putF (κ := (21, 3, 1239)) C hini rfl (by decide +kernel) fk_RX1_18 (fun _ => ⟨rfl, rfl⟩) (by decide +kernel) (by decide) (by decide) (zdec_at dm_X1_init 13 rfl) (fun M14 e14 => ?_)
  have hR14 : zRng M14 := by rw [e14]; exact hR10.set (by decide) _ _
  have hF14 : zfrs M14 21 := by rw [e14]; exact hF13.set (by decide) _ _
  refine zr_aload_n C 0 rfl (zdec_at dm_X1_init 14 rfl) rfl ?_
  refine zr_sipush C (zdec_at dm_X1_init 15 rfl) (by decide) ?_
  refine zr_newI (κ := (21, 3, 1239)) (len := 413) C hAd rfl (by decide) na_int rfl rfl (by decide) (fun k _ => hF14.a (Nat.le_refl _) rfl k) ⟨by decide, by decide⟩ (zdec_at dm_X1_init 16 rfl) ?_
  have hF17 := hF14.le (m := 22) (by decide)
  change zV Γ mc_X1_init_17 (22, 4, 1652) 37 [(0, zRf (zad Γ) 17), (1, zRf (zad Γ) 5)] [zRf (zad Γ) 21, zRf (zad Γ) 17] M14
  refine zr_putF (κ := (22, 4, 1652)) C hini rfl (by decide +kernel) fk_RX1_21 (fun _ => ⟨rfl, rfl⟩) (by decide +kernel) (by decide) (by decide) (zdec_at dm_X1_init 17 rfl) (fun M18 e18 => ?_)
  have hR18 : zRng M18 := by rw [e18]; exact hR14.set (by decide) _ _
  have hF18 : zfrs M18 22 := by rw [e18]; exact hF17.set (by decide) _ _
  refine zr_aload_n C 0 rfl (zdec_at dm_X1_init 18 rfl) rfl ?_
  refine zr_sipush C (zdec_at dm_X1_init 19 rfl) (by decide) ?_
  refine zr_newI (κ := (22, 4, 1652)) (len := 413) C hAd rfl (by decide) na_int rfl rfl (by decide) (fun k _ => hF18.a (Nat.le_refl _) rfl k) ⟨by decide, by decide⟩ (zdec_at dm_X1_init 20 rfl) ?_
  have hF21 := hF18.le (m := 23) (by decide)
  change zV Γ mc_X1_init_17 (23, 5, 2065) 46 [(0, zRf (zad Γ) 17), (1, zRf (zad Γ) 5)] [zRf (zad Γ) 22, zRf (zad Γ) 17] M18
  refine zr_putF (κ := (23, 5, 2065)) C hini rfl (by decide +kernel) fk_RX1_24 (fun _ => ⟨rfl, rfl⟩) (by decide +kernel) (by decide) (by decide) (zdec_at dm_X1_init 21 rfl) (fun M22 e22 => ?_)
  have hR22 : zRng M22 := by rw [e22]; exact hR18.set (by decide) _ _
  have hF22 : zfrs M22 23 := by rw [e22]; exact hF21.set (by decide) _ _
  refine zr_aload_n C 0 rfl (zdec_at dm_X1_init 22 rfl) rfl ?_
  refine zr_sipush C (zdec_at dm_X1_init 23 rfl) (by decide) ?_
  refine zr_newI (κ := (23, 5, 2065)) (len := 413) C hAd rfl (by decide) na_int rfl rfl (by decide) (fun k _ => hF22.a (Nat.le_refl _) rfl k) ⟨by decide, by decide⟩ (zdec_at dm_X1_init 24 rfl) ?_
  have hF25 := hF22.le (m := 24) (by decide)
  change zV Γ mc_X1_init_17 (24, 6, 2478) 55 [(0, zRf (zad Γ) 17), (1, zRf (zad Γ) 5)] [zRf (zad Γ) 23, zRf (zad Γ) 17] M22
  refine zr_putF (κ := (24, 6, 2478)) C hini rfl (by decide +kernel) fk_RX1_27 (fun _ => ⟨rfl, rfl⟩) (by decide +kernel) (by decide) (by decide) (zdec_at dm_X1_init 25 rfl) (fun M26 e26 => ?_)
  have hR26 : zRng M26 := by rw [e26]; exact hR22.set (by decide) _ _
  have hF26 : zfrs M26 24 := by rw [e26]; exact hF25.set (by decide) _ _
  refine zr_aload_n C 0 rfl (zdec_at dm_X1_init 26 rfl) rfl ?_
  refine zr_sipush C (zdec_at dm_X1_init 27 rfl) (by decide) ?_
  refine zr_newI (κ := (24, 6, 2478)) (len := 413) C hAd rfl (by decide) na_int rfl rfl (by decide) (fun k _ => hF26.a (Nat.le_refl _) rfl k) ⟨by decide, by decide⟩ (zdec_at dm_X1_init 28 rfl) ?_
  have hF29 := hF26.le (m := 25) (by decide)
  change zV Γ mc_X1_init_17 (25, 7, 2891) 64 [(0, zRf (zad Γ) 17), (1, zRf (zad Γ) 5)] [zRf (zad Γ) 24, zRf (zad Γ) 17] M26
  refine zr_putF (κ := (25, 7, 2891)) C hini rfl (by decide +kernel) fk_RX1_30 (fun _ => ⟨rfl, rfl⟩) (by decide +kernel) (by decide) (by decide) (zdec_at dm_X1_init 29 rfl) (fun M30 e30 => ?_)
  have hR30 : zRng M30 := by rw [e30]; exact hR26.set (by decide) _ _
  have hF30 : zfrs M30 25 := by rw [e30]; exact hF29.set (by decide) _ _
  refine zr_aload_n C 0 rfl (zdec_at dm_X1_init 30 rfl) rfl ?_
  refine zr_aload_n C 1 rfl (zdec_at dm_X1_init 31 rfl) rfl ?_
  refine zr_putF (κ := (25, 7, 2891)) C hini rfl (by decide +kernel) fk_RX1_33 (fun _ => ⟨rfl, rfl⟩) (by decide +kernel) (by decide) (by decide) (zdec_at dm_X1_init 32 rfl) (fun M33 e33 => ?_)
  have hR33 : zRng M33 := by rw [e33]; exact hR30.set (by decide) _ _
  have hF33 : zfrs M33 25 := by rw [e33]; exact hF30.set (by decide) _ _
  refine zr_aload_n C 0 rfl (zdec_at dm_X1_init 33 rfl) rfl ?_
  refine zr_iconst C (zdec_at dm_X1_init 34 rfl) ?_
  refine zr_puti (κ := (25, 7, 2891)) C fk_RX1_37 (by decide +kernel) (by decide) (zdec_at dm_X1_init 35 rfl) (fun M36 e36 => ?_)
  have hR36 : zRng M36 := by rw [e36]; exact hR33.set (by decide) _ _
  have hF36 : zfrs M36 25 := by rw [e36]; exact hF33.set (by decide) _ _
  refine zr_return (κ := (25, 7, 2891)) C rfl rfl (zdec_at dm_X1_init 36 rfl) rfl ⟨by decide, ?_⟩
  have eM : M36 = cf_X1_init_17 M := by rw [e36, e33, e30, e26, e22, e18, e14, e10, e6]; rfl
  rw [eM] at hF36 ⊢
  exact h hF36

def cf_X10_init_26 (M : zM) : zM :=
  let M6 := zset M 26 3 27
  M6
abbrev mc_X10_init_26 : zMc := (cX10_init, RX10, 1, none, 1, zS0, 27, 1, 120)
set_option maxHeartbeats 4000000 in
set_option maxRecDepth 100000 in
theorem sc_X10_init_26 : zSnd zS0 27 1 120 yX10_init cX10_init 1 none 1 [2] (fun xs P M => xs = [26] ∧ zfrs M 27 ∧ (zfrs (cf_X10_init_26 M) 28 → P 0 (cf_X10_init_26 M))) := by
  refine zSnd.of rfl (fun ad xs hz => Nat.le_trans (Nat.le_of_eq (zlen ad _ xs hz)) (by decide)) ?_
  intro Γ C hAd0 hini0 xs M hz hF0
  obtain ⟨rfl, hF, h⟩ := hF0
  have hAd := hAd0 (by decide)
  have hini := hini0 rfl
  refine zr_rng (fun hR => ?_)
  have C : zC Γ mc_X10_init_26 := C
  change zV Γ mc_X10_init_26 (27, 0, 0) 0 [(0, zRf (zad Γ) 26)] [] M
  refine zr_aload_n C 0 rfl (zdec_at dm_X10_init 0 rfl) rfl ?_
  refine zr_obj (κ := (27, 0, 0)) C ob_RX10_3 ob_i ob_c (by decide) (Nat.le_of_ble_eq_true rfl) (zdec_at dm_X10_init 1 rfl) ?_
  refine zr_aload_n C 0 rfl (zdec_at dm_X10_init 2 rfl) rfl ?_
  refine zr_bipush C (zdec_at dm_X10_init 3 rfl) (by decide) ?_
  refine zr_newI (κ := (27, 0, 0)) (len := 120) C hAd rfl (by decide) na_int rfl rfl (by decide) (fun k _ => hF.a (Nat.le_refl _) rfl k) ⟨by decide, by decide⟩ (zdec_at dm_X10_init 4 rfl) ?_
  have hF5 := hF.le (m := 28) (by decide)
  change zV Γ mc_X10_init_26 (28, 1, 120) 9 [(0, zRf (zad Γ) 26)] [zRf (zad Γ) 27, zRf (zad Γ) 26] M
  refine zr_putF (κ := (28, 1, 120)) C hini rfl (by decide +kernel) fk_RX10_9 (fun _ => ⟨rfl, rfl⟩) (by decide +kernel) (by decide) (by decide) (zdec_at dm_X10_init 5 rfl) (fun M6 e6 => ?_)
  have hR6 : zRng M6 := by rw [e6]; exact hR.set (by decide) _ _
  have hF6 : zfrs M6 28 := by rw [e6]; exact hF5.set (by decide) _ _
  refine zr_return (κ := (28, 1, 120)) C rfl rfl (zdec_at dm_X10_init 6 rfl) rfl ⟨by decide, ?_⟩
  have eM : M6 = cf_X10_init_26 M := by rw [e6]; rfl
  rw [eM] at hF6 ⊢
  exact h hF6

def cf_X10_init_28 (M : zM) : zM :=
  let M6 := zset M 28 3 29
  M6
abbrev mc_X10_init_28 : zMc := (cX10_init, RX10, 1, none, 1, zS0, 29, 1, 120)
set_option maxHeartbeats 4000000 in
set_option maxRecDepth 100000 in
theorem sc_X10_init_28 : zSnd zS0 29 1 120 yX10_init cX10_init 1 none 1 [2] (fun xs P M => xs = [28] ∧ zfrs M 29 ∧ (zfrs (cf_X10_init_28 M) 30 → P 0 (cf_X10_init_28 M))) := by
  refine zSnd.of rfl (fun ad xs hz => Nat.le_trans (Nat.le_of_eq (zlen ad _ xs hz)) (by decide)) ?_
  intro Γ C hAd0 hini0 xs M hz hF0
  obtain ⟨rfl, hF, h⟩ := hF0
  have hAd := hAd0 (by decide)
  have hini := hini0 rfl
  refine zr_rng (fun hR => ?_)
  have C : zC Γ mc_X10_init_28 := C
  change zV Γ mc_X10_init_28 (29, 0, 0) 0 [(0, zRf (zad Γ) 28)] [] M
  refine zr_aload_n C 0 rfl (zdec_at dm_X10_init 0 rfl) rfl ?_
  refine zr_obj (κ := (29, 0, 0)) C ob_RX10_3 ob_i ob_c (by decide) (Nat.le_of_ble_eq_true rfl) (zdec_at dm_X10_init 1 rfl) ?_
  refine zr_aload_n C 0 rfl (zdec_at dm_X10_init 2 rfl) rfl ?_
  refine zr_bipush C (zdec_at dm_X10_init 3 rfl) (by decide) ?_
  refine zr_newI (κ := (29, 0, 0)) (len := 120) C hAd rfl (by decide) na_int rfl rfl (by decide) (fun k _ => hF.a (Nat.le_refl _) rfl k) ⟨by decide, by decide⟩ (zdec_at dm_X10_init 4 rfl) ?_
  have hF5 := hF.le (m := 30) (by decide)
  change zV Γ mc_X10_init_28 (30, 1, 120) 9 [(0, zRf (zad Γ) 28)] [zRf (zad Γ) 29, zRf (zad Γ) 28] M
  refine zr_putF (κ := (30, 1, 120)) C hini rfl (by decide +kernel) fk_RX10_9 (fun _ => ⟨rfl, rfl⟩) (by decide +kernel) (by decide) (by decide) (zdec_at dm_X10_init 5 rfl) (fun M6 e6 => ?_)
  have hR6 : zRng M6 := by rw [e6]; exact hR.set (by decide) _ _
  have hF6 : zfrs M6 30 := by rw [e6]; exact hF5.set (by decide) _ _
  refine zr_return (κ := (30, 1, 120)) C rfl rfl (zdec_at dm_X10_init 6 rfl) rfl ⟨by decide, ?_⟩
  have eM : M6 = cf_X10_init_28 M := by rw [e6]; rfl
  rw [eM] at hF6 ⊢
  exact h hF6

def cf_X10_init_30 (M : zM) : zM :=
  let M6 := zset M 30 3 31
  M6
abbrev mc_X10_init_30 : zMc := (cX10_init, RX10, 1, none, 1, zS0, 31, 1, 120)
set_option maxHeartbeats 4000000 in
set_option maxRecDepth 100000 in
theorem sc_X10_init_30 : zSnd zS0 31 1 120 yX10_init cX10_init 1 none 1 [2] (fun xs P M => xs = [30] ∧ zfrs M 31 ∧ (zfrs (cf_X10_init_30 M) 32 → P 0 (cf_X10_init_30 M))) := by
  refine zSnd.of rfl (fun ad xs hz => Nat.le_trans (Nat.le_of_eq (zlen ad _ xs hz)) (by decide)) ?_
  intro Γ C hAd0 hini0 xs M hz hF0
  obtain ⟨rfl, hF, h⟩ := hF0
  have hAd := hAd0 (by decide)
  have hini := hini0 rfl
  refine zr_rng (fun hR => ?_)
  have C : zC Γ mc_X10_init_30 := C
  change zV Γ mc_X10_init_30 (31, 0, 0) 0 [(0, zRf (zad Γ) 30)] [] M
  refine zr_aload_n C 0 rfl (zdec_at dm_X10_init 0 rfl) rfl ?_
  refine zr_obj (κ := (31, 0, 0)) C ob_RX10_3 ob_i ob_c (by decide) (Nat.le_of_ble_eq_true rfl) (zdec_at dm_X10_init 1 rfl) ?_
  refine zr_aload_n C 0 rfl (zdec_at dm_X10_init 2 rfl) rfl ?_
  refine zr_bipush C (zdec_at dm_X10_init 3 rfl) (by decide) ?_
  refine zr_newI (κ := (31, 0, 0)) (len := 120) C hAd rfl (by decide) na_int rfl rfl (by decide) (fun k _ => hF.a (Nat.le_refl _) rfl k) ⟨by decide, by decide⟩ (zdec_at dm_X10_init 4 rfl) ?_
  have hF5 := hF.le (m := 32) (by decide)
  change zV Γ mc_X10_init_30 (32, 1, 120) 9 [(0, zRf (zad Γ) 30)] [zRf (zad Γ) 31, zRf (zad Γ) 30] M
  refine zr_putF (κ := (32, 1, 120)) C hini rfl (by decide +kernel) fk_RX10_9 (fun _ => ⟨rfl, rfl⟩) (by decide +kernel) (by decide) (by decide) (zdec_at dm_X10_init 5 rfl) (fun M6 e6 => ?_)
  have hR6 : zRng M6 := by rw [e6]; exact hR.set (by decide) _ _
  have hF6 : zfrs M6 32 := by rw [e6]; exact hF5.set (by decide) _ _
  refine zr_return (κ := (32, 1, 120)) C rfl rfl (zdec_at dm_X10_init 6 rfl) rfl ⟨by decide, ?_⟩
  have eM : M6 = cf_X10_init_30 M := by rw [e6]; rfl
  rw [eM] at hF6 ⊢
  exact h hF6

def cf_X10_init_32 (M : zM) : zM :=
  let M6 := zset M 32 3 33
  M6
abbrev mc_X10_init_32 : zMc := (cX10_init, RX10, 1, none, 1, zS0, 33, 1, 120)
set_option maxHeartbeats 4000000 in
set_option maxRecDepth 100000 in
theorem sc_X10_init_32 : zSnd zS0 33 1 120 yX10_init cX10_init 1 none 1 [2] (fun xs P M => xs = [32] ∧ zfrs M 33 ∧ (zfrs (cf_X10_init_32 M) 34 → P 0 (cf_X10_init_32 M))) := by
  refine zSnd.of rfl (fun ad xs hz => Nat.le_trans (Nat.le_of_eq (zlen ad _ xs hz)) (by decide)) ?_
  intro Γ C hAd0 hini0 xs M hz hF0
  obtain ⟨rfl, hF, h⟩ := hF0
  have hAd := hAd0 (by decide)
  have hini := hini0 rfl
  refine zr_rng (fun hR => ?_)
  have C : zC Γ mc_X10_init_32 := C
  change zV Γ mc_X10_init_32 (33, 0, 0) 0 [(0, zRf (zad Γ) 32)] [] M
  refine zr_aload_n C 0 rfl (zdec_at dm_X10_init 0 rfl) rfl ?_
  refine zr_obj (κ := (33, 0, 0)) C ob_RX10_3 ob_i ob_c (by decide) (Nat.le_of_ble_eq_true rfl) (zdec_at dm_X10_init 1 rfl) ?_
  refine zr_aload_n C 0 rfl (zdec_at dm_X10_init 2 rfl) rfl ?_
  refine zr_bipush C (zdec_at dm_X10_init 3 rfl) (by decide) ?_
  refine zr_newI (κ := (33, 0, 0)) (len := 120) C hAd rfl (by decide) na_int rfl rfl (by decide) (fun k _ => hF.a (Nat.le_refl _) rfl k) ⟨by decide, by decide⟩ (zdec_at dm_X10_init 4 rfl) ?_
  have hF5 := hF.le (m := 34) (by decide)
  change zV Γ mc_X10_init_32 (34, 1, 120) 9 [(0, zRf (zad Γ) 32)] [zRf (zad Γ) 33, zRf (zad Γ) 32] M
  refine zr_putF (κ := (34, 1, 120)) C hini rfl (by decide +kernel) fk_RX10_9 (fun _ => ⟨rfl, rfl⟩) (by decide +kernel) (by decide) (by decide) (zdec_at dm_X10_init 5 rfl) (fun M6 e6 => ?_)
  have hR6 : zRng M6 := by rw [e6]; exact hR.set (by decide) _ _
  have hF6 : zfrs M6 34 := by rw [e6]; exact hF5.set (by decide) _ _
  refine zr_return (κ := (34, 1, 120)) C rfl rfl (zdec_at dm_X10_init 6 rfl) rfl ⟨by decide, ?_⟩
  have eM : M6 = cf_X10_init_32 M := by rw [e6]; rfl
  rw [eM] at hF6 ⊢
  exact h hF6

def cf_X10_init_34 (M : zM) : zM :=
  let M6 := zset M 34 3 35
  M6
abbrev mc_X10_init_34 : zMc := (cX10_init, RX10, 1, none, 1, zS0, 35, 1, 120)
set_option maxHeartbeats 4000000 in
set_option maxRecDepth 100000 in
theorem sc_X10_init_34 : zSnd zS0 35 1 120 yX10_init cX10_init 1 none 1 [2] (fun xs P M => xs = [34] ∧ zfrs M 35 ∧ (zfrs (cf_X10_init_34 M) 36 → P 0 (cf_X10_init_34 M))) := by
  refine zSnd.of rfl (fun ad xs hz => Nat.le_trans (Nat.le_of_eq (zlen ad _ xs hz)) (by decide)) ?_
  intro Γ C hAd0 hini0 xs M hz hF0
  obtain ⟨rfl, hF, h⟩ := hF0
  have hAd := hAd0 (by decide)
  have hini := hini0 rfl
  refine zr_rng (fun hR => ?_)
  have C : zC Γ mc_X10_init_34 := C
  change zV Γ mc_X10_init_34 (35, 0, 0) 0 [(0, zRf (zad Γ) 34)] [] M
  refine zr_aload_n C 0 rfl (zdec_at dm_X10_init 0 rfl) rfl ?_
  refine zr_obj (κ := (35, 0, 0)) C ob_RX10_3 ob_i ob_c (by decide) (Nat.le_of_ble_eq_true rfl) (zdec_at dm_X10_init 1 rfl) ?_
  refine zr_aload_n C 0 rfl (zdec_at dm_X10_init 2 rfl) rfl ?_
  refine zr_bipush C (zdec_at dm_X10_init 3 rfl) (by decide) ?_
  refine zr_newI (κ := (35, 0, 0)) (len := 120) C hAd rfl (by decide) na_int rfl rfl (by decide) (fun k _ => hF.a (Nat.le_refl _) rfl k) ⟨by decide, by decide⟩ (zdec_at dm_X10_init 4 rfl) ?_
  have hF5 := hF.le (m := 36) (by decide)
  change zV Γ mc_X10_init_34 (36, 1, 120) 9 [(0, zRf (zad Γ) 34)] [zRf (zad Γ) 35, zRf (zad Γ) 34] M
  refine zr_putF (κ := (36, 1, 120)) C hini rfl (by decide +kernel) fk_RX10_9 (fun _ => ⟨rfl, rfl⟩) (by decide +kernel) (by decide) (by decide) (zdec_at dm_X10_init 5 rfl) (fun M6 e6 => ?_)
  have hR6 : zRng M6 := by rw [e6]; exact hR.set (by decide) _ _
  have hF6 : zfrs M6 36 := by rw [e6]; exact hF5.set (by decide) _ _
  refine zr_return (κ := (36, 1, 120)) C rfl rfl (zdec_at dm_X10_init 6 rfl) rfl ⟨by decide, ?_⟩
  have eM : M6 = cf_X10_init_34 M := by rw [e6]; rfl
  rw [eM] at hF6 ⊢
  exact h hF6

def cf_X10_init_36 (M : zM) : zM :=
  let M6 := zset M 36 3 37
  M6
abbrev mc_X10_init_36 : zMc := (cX10_init, RX10, 1, none, 1, zS0, 37, 1, 120)
set_option maxHeartbeats 4000000 in
set_option maxRecDepth 100000 in
theorem sc_X10_init_36 : zSnd zS0 37 1 120 yX10_init cX10_init 1 none 1 [2] (fun xs P M => xs = [36] ∧ zfrs M 37 ∧ (zfrs (cf_X10_init_36 M) 38 → P 0 (cf_X10_init_36 M))) := by
  refine zSnd.of rfl (fun ad xs hz => Nat.le_trans (Nat.le_of_eq (zlen ad _ xs hz)) (by decide)) ?_
  intro Γ C hAd0 hini0 xs M hz hF0
  obtain ⟨rfl, hF, h⟩ := hF0
  have hAd := hAd0 (by decide)
  have hini := hini0 rfl
  refine zr_rng (fun hR => ?_)
  have C : zC Γ mc_X10_init_36 := C
  change zV Γ mc_X10_init_36 (37, 0, 0) 0 [(0, zRf (zad Γ) 36)] [] M
  refine zr_aload_n C 0 rfl (zdec_at dm_X10_init 0 rfl) rfl ?_
  refine zr_obj (κ := (37, 0, 0)) C ob_RX10_3 ob_i ob_c (by decide) (Nat.le_of_ble_eq_true rfl) (zdec_at dm_X10_init 1 rfl) ?_
  refine zr_aload_n C 0 rfl (zdec_at dm_X10_init 2 rfl) rfl ?_
  refine zr_bipush C (zdec_at dm_X10_init 3 rfl) (by decide) ?_
  refine zr_newI (κ := (37, 0, 0)) (len := 120) C hAd rfl (by decide) na_int rfl rfl (by decide) (fun k _ => hF.a (Nat.le_refl _) rfl k) ⟨by decide, by decide⟩ (zdec_at dm_X10_init 4 rfl) ?_
  have hF5 := hF.le (m := 38) (by decide)
  change zV Γ mc_X10_init_36 (38, 1, 120) 9 [(0, zRf (zad Γ) 36)] [zRf (zad Γ) 37, zRf (zad Γ) 36] M
  refine zr_putF (κ := (38, 1, 120)) C hini rfl (by decide +kernel) fk_RX10_9 (fun _ => ⟨rfl, rfl⟩) (by decide +kernel) (by decide) (by decide) (zdec_at dm_X10_init 5 rfl) (fun M6 e6 => ?_)
  have hR6 : zRng M6 := by rw [e6]; exact hR.set (by decide) _ _
  have hF6 : zfrs M6 38 := by rw [e6]; exact hF5.set (by decide) _ _
  refine zr_return (κ := (38, 1, 120)) C rfl rfl (zdec_at dm_X10_init 6 rfl) rfl ⟨by decide, ?_⟩
  have eM : M6 = cf_X10_init_36 M := by rw [e6]; rfl
  rw [eM] at hF6 ⊢
  exact h hF6

def cf_X10_init_38 (M : zM) : zM :=
  let M6 := zset M 38 3 39
  M6
abbrev mc_X10_init_38 : zMc := (cX10_init, RX10, 1, none, 1, zS0, 39, 1, 120)
set_option maxHeartbeats 4000000 in
set_option maxRecDepth 100000 in
theorem sc_X10_init_38 : zSnd zS0 39 1 120 yX10_init cX10_init 1 none 1 [2] (fun xs P M => xs = [38] ∧ zfrs M 39 ∧ (zfrs (cf_X10_init_38 M) 40 → P 0 (cf_X10_init_38 M))) := by
  refine zSnd.of rfl (fun ad xs hz => Nat.le_trans (Nat.le_of_eq (zlen ad _ xs hz)) (by decide)) ?_
  intro Γ C hAd0 hini0 xs M hz hF0
  obtain ⟨rfl, hF, h⟩ := hF0
  have hAd := hAd0 (by decide)
  have hini := hini0 rfl
  refine zr_rng (fun hR => ?_)
  have C : zC Γ mc_X10_init_38 := C
  change zV Γ mc_X10_init_38 (39, 0, 0) 0 [(0, zRf (zad Γ) 38)] [] M
  refine zr_aload_n C 0 rfl (zdec_at dm_X10_init 0 rfl) rfl ?_
  refine zr_obj (κ := (39, 0, 0)) C ob_RX10_3 ob_i ob_c (by decide) (Nat.le_of_ble_eq_true rfl) (zdec_at dm_X10_init 1 rfl) ?_
  refine zr_aload_n C 0 rfl (zdec_at dm_X10_init 2 rfl) rfl ?_
  refine zr_bipush C (zdec_at dm_X10_init 3 rfl) (by decide) ?_
  refine zr_newI (κ := (39, 0, 0)) (len := 120) C hAd rfl (by decide) na_int rfl rfl (by decide) (fun k _ => hF.a (Nat.le_refl _) rfl k) ⟨by decide, by decide⟩ (zdec_at dm_X10_init 4 rfl) ?_
  have hF5 := hF.le (m := 40) (by decide)
  change zV Γ mc_X10_init_38 (40, 1, 120) 9 [(0, zRf (zad Γ) 38)] [zRf (zad Γ) 39, zRf (zad Γ) 38] M
  refine zr_putF (κ := (40, 1, 120)) C hini rfl (by decide +kernel) fk_RX10_9 (fun _ => ⟨rfl, rfl⟩) (by decide +kernel) (by decide) (by decide) (zdec_at dm_X10_init 5 rfl) (fun M6 e6 => ?_)
  have hR6 : zRng M6 := by rw [e6]; exact hR.set (by decide) _ _
  have hF6 : zfrs M6 40 := by rw [e6]; exact hF5.set (by decide) _ _
  refine zr_return (κ := (40, 1, 120)) C rfl rfl (zdec_at dm_X10_init 6 rfl) rfl ⟨by decide, ?_⟩
  have eM : M6 = cf_X10_init_38 M := by rw [e6]; rfl
  rw [eM] at hF6 ⊢
  exact h hF6

def cf_X10_init_40 (M : zM) : zM :=
  let M6 := zset M 40 3 41
  M6
abbrev mc_X10_init_40 : zMc := (cX10_init, RX10, 1, none, 1, zS0, 41, 1, 120)
set_option maxHeartbeats 4000000 in
set_option maxRecDepth 100000 in
theorem sc_X10_init_40 : zSnd zS0 41 1 120 yX10_init cX10_init 1 none 1 [2] (fun xs P M => xs = [40] ∧ zfrs M 41 ∧ (zfrs (cf_X10_init_40 M) 42 → P 0 (cf_X10_init_40 M))) := by
  refine zSnd.of rfl (fun ad xs hz => Nat.le_trans (Nat.le_of_eq (zlen ad _ xs hz)) (by decide)) ?_
  intro Γ C hAd0 hini0 xs M hz hF0
  obtain ⟨rfl, hF, h⟩ := hF0
  have hAd := hAd0 (by decide)
  have hini := hini0 rfl
  refine zr_rng (fun hR => ?_)
  have C : zC Γ mc_X10_init_40 := C
  change zV Γ mc_X10_init_40 (41, 0, 0) 0 [(0, zRf (zad Γ) 40)] [] M
  refine zr_aload_n C 0 rfl (zdec_at dm_X10_init 0 rfl) rfl ?_
  refine zr_obj (κ := (41, 0, 0)) C ob_RX10_3 ob_i ob_c (by decide) (Nat.le_of_ble_eq_true rfl) (zdec_at dm_X10_init 1 rfl) ?_
  refine zr_aload_n C 0 rfl (zdec_at dm_X10_init 2 rfl) rfl ?_
  refine zr_bipush C (zdec_at dm_X10_init 3 rfl) (by decide) ?_
  refine zr_newI (κ := (41, 0, 0)) (len := 120) C hAd rfl (by decide) na_int rfl rfl (by decide) (fun k _ => hF.a (Nat.le_refl _) rfl k) ⟨by decide, by decide⟩ (zdec_at dm_X10_init 4 rfl) ?_
  have hF5 := hF.le (m := 42) (by decide)
  change zV Γ mc_X10_init_40 (42, 1, 120) 9 [(0, zRf (zad Γ) 40)] [zRf (zad Γ) 41, zRf (zad Γ) 40] M
  refine zr_putF (κ := (42, 1, 120)) C hini rfl (by decide +kernel) fk_RX10_9 (fun _ => ⟨rfl, rfl⟩) (by decide +kernel) (by decide) (by decide) (zdec_at dm_X10_init 5 rfl) (fun M6 e6 => ?_)
  have hR6 : zRng M6 := by rw [e6]; exact hR.set (by decide) _ _
  have hF6 : zfrs M6 42 := by rw [e6]; exact hF5.set (by decide) _ _
  refine zr_return (κ := (42, 1, 120)) C rfl rfl (zdec_at dm_X10_init 6 rfl) rfl ⟨by decide, ?_⟩
  have eM : M6 = cf_X10_init_40 M := by rw [e6]; rfl
  rw [eM] at hF6 ⊢
  exact h hF6

def cf_X6_init_42 (M : zM) : zM :=
  let M6 := zset M 42 2 43
  let M10 := zset M6 42 6 44
  let M14 := zset M10 42 7 45
  let M18 := zset M14 42 8 46
  let M22 := zset M18 42 9 47
  let M25 := zset M22 42 0 17
  let M28 := zset M25 42 3 (-1)
  M28
abbrev mc_X6_init_42 : zMc := (cX6_init, RX6, 2, none, 1, zS0, 43, 5, 2065)
set_option maxHeartbeats 4000000 in
set_option maxRecDepth 100000 in
theorem sc_X6_init_42 : zSnd zS0 43 5 2065 yX6_init cX6_init 2 none 1 [2, 2] (fun xs P M => xs = [42, 17] ∧ zfrs M 43 ∧ (zfrs (cf_X6_init_42 M) 48 → P 0 (cf_X6_init_42 M))) := by
  refine zSnd.of rfl (fun ad xs hz => Nat.le_trans (Nat.le_of_eq (zlen ad _ xs hz)) (by decide)) ?_
  intro Γ C hAd0 hini0 xs M hz hF0
  obtain ⟨rfl, hF, h⟩ := hF0
  have hAd := hAd0 (by decide)
  have hini := hini0 rfl
  refine zr_rng (fun hR => ?_)
  have C : zC Γ mc_X6_init_42 := C
  change zV Γ mc_X6_init_42 (43, 0, 0) 0 [(0, zRf (zad Γ) 42), (1, zRf (zad Γ) 17)] [] M
  refine zr_aload_n C 0 rfl (zdec_at dm_X6_init 0 rfl) rfl ?_
  refine zr_obj (κ := (43, 0, 0)) C ob_RX6_3 ob_i ob_c (by decide) (Nat.le_of_ble_eq_true rfl) (zdec_at dm_X6_init 1 rfl) ?_
  refine zr_aload_n C 0 rfl (zdec_at dm_X6_init 2 rfl) rfl ?_
  refine zr_sipush C (zdec_at dm_X6_init 3 rfl) (by decide) ?_
  refine zr_newI (κ := (43, 0, 0)) (len := 413) C hAd rfl (by decide) na_int rfl rfl (by decide) (fun k _ => hF.a (Nat.le_refl _) rfl k) ⟨by decide, by decide⟩ (zdec_at dm_X6_init 4 rfl) ?_
  have hF5 := hF.le (m := 44) (by decide)
  change zV Γ mc_X6_init_42 (44, 1, 413) 10 [(0, zRf (zad Γ) 42), (1, zRf (zad Γ) 17)] [zRf (zad Γ) 43, zRf (zad Γ) 42] M
  refine zr_putF (κ := (44, 1, 413)) C hini rfl (by decide +kernel) fk_RX6_9 (fun _ => ⟨rfl, rfl⟩) (by decide +kernel) (by decide) (by decide) (zdec_at dm_X6_init 5 rfl) (fun M6 e6 => ?_)
  have hR6 : zRng M6 := by rw [e6]; exact hR.set (by decide) _ _
  have hF6 : zfrs M6 44 := by rw [e6]; exact hF5.set (by decide) _ _
  refine zr_aload_n C 0 rfl (zdec_at dm_X6_init 6 rfl) rfl ?_
  refine zr_sipush C (zdec_at dm_X6_init 7 rfl) (by decide) ?_
  refine zr_newI (κ := (44, 1, 413)) (len := 413) C hAd rfl (by decide) na_int rfl rfl (by decide) (fun k _ => hF6.a (Nat.le_refl _) rfl k) ⟨by decide, by decide⟩ (zdec_at dm_X6_init 8 rfl) ?_
  have hF9 := hF6.le (m := 45) (by decide)
  change zV Γ mc_X6_init_42 (45, 2, 826) 19 [(0, zRf (zad Γ) 42), (1, zRf (zad Γ) 17)] [zRf (zad Γ) 44, zRf (zad Γ) 42] M6
  refine zr_putF (κ := (45, 2, 826)) C hini rfl (by decide +kernel) fk_RX6_15 (fun _ => ⟨rfl, rfl⟩) (by decide +kernel) (by decide) (by decide) (zdec_at dm_X6_init 9 rfl) (fun M10 e10 => ?_)
  have hR10 : zRng M10 := by rw [e10]; exact hR6.set (by decide) _ _
  have hF10 : zfrs M10 45 := by rw [e10]; exact hF9.set (by decide) _ _
  refine zr_aload_n C 0 rfl (zdec_at dm_X6_init 10 rfl) rfl ?_
  refine zr_sipush C (zdec_at dm_X6_init 11 rfl) (by decide) ?_
  refine zr_newI (κ := (45, 2, 826)) (len := 413) C hAd rfl (by decide) na_int rfl rfl (by decide) (fun k _ => hF10.a (Nat.le_refl _) rfl k) ⟨by decide, by decide⟩ (zdec_at dm_X6_init 12 rfl) ?_
  have hF13 := hF10.le (m := 46) (by decide)
  change zV Γ mc_X6_init_42 (46, 3, 1239) 28 [(0, zRf (zad Γ) 42), (1, zRf (zad Γ) 17)] [zRf (zad Γ) 45, zRf (zad Γ) 42] M10
  refine zr_putF (κ := (46, 3, 1239)) C hini rfl (by decide +kernel) fk_RX6_18 (fun _ => ⟨rfl, rfl⟩) (by decide +kernel) (by decide) (by decide) (zdec_at dm_X6_init 13 rfl) (fun M14 e14 => ?_)
  have hR14 : zRng M14 := by rw [e14]; exact hR10.set (by decide) _ _
  have hF14 : zfrs M14 46 := by rw [e14]; exact hF13.set (by decide) _ _
  refine zr_aload_n C 0 rfl (zdec_at dm_X6_init 14 rfl) rfl ?_
  refine zr_sipush C (zdec_at dm_X6_init 15 rfl) (by decide) ?_
  refine zr_newI (κ := (46, 3, 1239)) (len := 413) C hAd rfl (by decide) na_int rfl rfl (by decide) (fun k _ => hF14.a (Nat.le_refl _) rfl k) ⟨by decide, by decide⟩ (zdec_at dm_X6_init 16 rfl) ?_
  have hF17 := hF14.le (m := 47) (by decide)
  change zV Γ mc_X6_init_42 (47, 4, 1652) 37 [(0, zRf (zad Γ) 42), (1, zRf (zad Γ) 17)] [zRf (zad Γ) 46, zRf (zad Γ) 42] M14
  refine zr_putF (κ := (47, 4, 1652)) C hini rfl (by decide +kernel) fk_RX6_21 (fun _ => ⟨rfl, rfl⟩) (by decide +kernel) (by decide) (by decide) (zdec_at dm_X6_init 17 rfl) (fun M18 e18 => ?_)
  have hR18 : zRng M18 := by rw [e18]; exact hR14.set (by decide) _ _
  have hF18 : zfrs M18 47 := by rw [e18]; exact hF17.set (by decide) _ _
  refine zr_aload_n C 0 rfl (zdec_at dm_X6_init 18 rfl) rfl ?_
  refine zr_sipush C (zdec_at dm_X6_init 19 rfl) (by decide) ?_
  refine zr_newI (κ := (47, 4, 1652)) (len := 413) C hAd rfl (by decide) na_int rfl rfl (by decide) (fun k _ => hF18.a (Nat.le_refl _) rfl k) ⟨by decide, by decide⟩ (zdec_at dm_X6_init 20 rfl) ?_
  have hF21 := hF18.le (m := 48) (by decide)
  change zV Γ mc_X6_init_42 (48, 5, 2065) 46 [(0, zRf (zad Γ) 42), (1, zRf (zad Γ) 17)] [zRf (zad Γ) 47, zRf (zad Γ) 42] M18
  refine zr_putF (κ := (48, 5, 2065)) C hini rfl (by decide +kernel) fk_RX6_24 (fun _ => ⟨rfl, rfl⟩) (by decide +kernel) (by decide) (by decide) (zdec_at dm_X6_init 21 rfl) (fun M22 e22 => ?_)
  have hR22 : zRng M22 := by rw [e22]; exact hR18.set (by decide) _ _
  have hF22 : zfrs M22 48 := by rw [e22]; exact hF21.set (by decide) _ _
  refine zr_aload_n C 0 rfl (zdec_at dm_X6_init 22 rfl) rfl ?_
  refine zr_aload_n C 1 rfl (zdec_at dm_X6_init 23 rfl) rfl ?_
  refine zr_putF (κ := (48, 5, 2065)) C hini rfl (by decide +kernel) fk_RX6_27 (fun _ => ⟨rfl, rfl⟩) (by decide +kernel) (by decide) (by decide) (zdec_at dm_X6_init 24 rfl) (fun M25 e25 => ?_)
  have hR25 : zRng M25 := by rw [e25]; exact hR22.set (by decide) _ _
  have hF25 : zfrs M25 48 := by rw [e25]; exact hF22.set (by decide) _ _
  refine zr_aload_n C 0 rfl (zdec_at dm_X6_init 25 rfl) rfl ?_
  refine zr_iconst C (zdec_at dm_X6_init 26 rfl) ?_
  refine zr_puti (κ := (48, 5, 2065)) C fk_RX6_31 (by decide +kernel) (by decide) (zdec_at dm_X6_init 27 rfl) (fun M28 e28 => ?_)
  have hR28 : zRng M28 := by rw [e28]; exact hR25.set (by decide) _ _
  have hF28 : zfrs M28 48 := by rw [e28]; exact hF25.set (by decide) _ _
  refine zr_return (κ := (48, 5, 2065)) C rfl rfl (zdec_at dm_X6_init 28 rfl) rfl ⟨by decide, ?_⟩
  have eM : M28 = cf_X6_init_42 M := by rw [e28, e25, e22, e18, e14, e10, e6]; rfl
  rw [eM] at hF28 ⊢
  exact h hF28

def cf_X9_init_48 (M : zM) : zM :=
  let M6 := zset M 48 1 49
  let M9 := zset M6 48 0 5
  M9
abbrev mc_X9_init_48 : zMc := (cX9_init, RX9, 2, none, 1, zS0, 49, 1, 192)
set_option maxHeartbeats 4000000 in
set_option maxRecDepth 100000 in
theorem sc_X9_init_48 : zSnd zS0 49 1 192 yX9_init cX9_init 2 none 1 [2, 2] (fun xs P M => xs = [48, 5] ∧ zfrs M 49 ∧ (zfrs (cf_X9_init_48 M) 50 → P 0 (cf_X9_init_48 M))) := by
  refine zSnd.of rfl (fun ad xs hz => Nat.le_trans (Nat.le_of_eq (zlen ad _ xs hz)) (by decide)) ?_
  intro Γ C hAd0 hini0 xs M hz hF0
  obtain ⟨rfl, hF, h⟩ := hF0
  have hAd := hAd0 (by decide)
  have hini := hini0 rfl
  refine zr_rng (fun hR => ?_)
  have C : zC Γ mc_X9_init_48 := C
  change zV Γ mc_X9_init_48 (49, 0, 0) 0 [(0, zRf (zad Γ) 48), (1, zRf (zad Γ) 5)] [] M
  refine zr_aload_n C 0 rfl (zdec_at dm_X9_init 0 rfl) rfl ?_
  refine zr_obj (κ := (49, 0, 0)) C ob_RX9_3 ob_i ob_c (by decide) (Nat.le_of_ble_eq_true rfl) (zdec_at dm_X9_init 1 rfl) ?_
  refine zr_aload_n C 0 rfl (zdec_at dm_X9_init 2 rfl) rfl ?_
  refine zr_sipush C (zdec_at dm_X9_init 3 rfl) (by decide) ?_
  refine zr_newI (κ := (49, 0, 0)) (len := 192) C hAd rfl (by decide) na_int rfl rfl (by decide) (fun k _ => hF.a (Nat.le_refl _) rfl k) ⟨by decide, by decide⟩ (zdec_at dm_X9_init 4 rfl) ?_
  have hF5 := hF.le (m := 50) (by decide)
  change zV Γ mc_X9_init_48 (50, 1, 192) 10 [(0, zRf (zad Γ) 48), (1, zRf (zad Γ) 5)] [zRf (zad Γ) 49, zRf (zad Γ) 48] M
  refine zr_putF (κ := (50, 1, 192)) C hini rfl (by decide +kernel) fk_RX9_9 (fun _ => ⟨rfl, rfl⟩) (by decide +kernel) (by decide) (by decide) (zdec_at dm_X9_init 5 rfl) (fun M6 e6 => ?_)
  have hR6 : zRng M6 := by rw [e6]; exact hR.set (by decide) _ _
  have hF6 : zfrs M6 50 := by rw [e6]; exact hF5.set (by decide) _ _
  refine zr_aload_n C 0 rfl (zdec_at dm_X9_init 6 rfl) rfl ?_
  refine zr_aload_n C 1 rfl (zdec_at dm_X9_init 7 rfl) rfl ?_
  refine zr_putF (κ := (50, 1, 192)) C hini rfl (by decide +kernel) fk_RX9_15 (fun _ => ⟨rfl, rfl⟩) (by decide +kernel) (by decide) (by decide) (zdec_at dm_X9_init 8 rfl) (fun M9 e9 => ?_)
  have hR9 : zRng M9 := by rw [e9]; exact hR6.set (by decide) _ _
  have hF9 : zfrs M9 50 := by rw [e9]; exact hF6.set (by decide) _ _
  refine zr_return (κ := (50, 1, 192)) C rfl rfl (zdec_at dm_X9_init 9 rfl) rfl ⟨by decide, ?_⟩
  have eM : M9 = cf_X9_init_48 M := by rw [e9, e6]; rfl
  rw [eM] at hF9 ⊢
  exact h hF9

def cf_X4_init_50 (M : zM) : zM :=
  let M6 := zset M 50 3 51
  let M10 := zset M6 50 4 52
  let M13 := zset M10 50 0 1
  M13
abbrev mc_X4_init_50 : zMc := (cX4_init, RX4, 2, none, 1, zS0, 51, 2, 32)
set_option maxHeartbeats 4000000 in
set_option maxRecDepth 100000 in
theorem sc_X4_init_50 : zSnd zS0 51 2 32 yX4_init cX4_init 2 none 1 [2, 2] (fun xs P M => xs = [50, 1] ∧ zfrs M 51 ∧ (zfrs (cf_X4_init_50 M) 53 → P 0 (cf_X4_init_50 M))) := by
  refine zSnd.of rfl (fun ad xs hz => Nat.le_trans (Nat.le_of_eq (zlen ad _ xs hz)) (by decide)) ?_
  intro Γ C hAd0 hini0 xs M hz hF0
  obtain ⟨rfl, hF, h⟩ := hF0
  have hAd := hAd0 (by decide)
  have hini := hini0 rfl
  refine zr_rng (fun hR => ?_)
  have C : zC Γ mc_X4_init_50 := C
  change zV Γ mc_X4_init_50 (51, 0, 0) 0 [(0, zRf (zad Γ) 50), (1, zRf (zad Γ) 1)] [] M
  refine zr_aload_n C 0 rfl (zdec_at dm_X4_init 0 rfl) rfl ?_
  refine zr_obj (κ := (51, 0, 0)) C ob_RX4_3 ob_i ob_c (by decide) (Nat.le_of_ble_eq_true rfl) (zdec_at dm_X4_init 1 rfl) ?_
  refine zr_aload_n C 0 rfl (zdec_at dm_X4_init 2 rfl) rfl ?_
  refine zr_bipush C (zdec_at dm_X4_init 3 rfl) (by decide) ?_
  refine zr_newI (κ := (51, 0, 0)) (len := 16) C hAd rfl (by decide) na_int rfl rfl (by decide) (fun k _ => hF.a (Nat.le_refl _) rfl k) ⟨by decide, by decide⟩ (zdec_at dm_X4_init 4 rfl) ?_
  have hF5 := hF.le (m := 52) (by decide)
  change zV Γ mc_X4_init_50 (52, 1, 16) 9 [(0, zRf (zad Γ) 50), (1, zRf (zad Γ) 1)] [zRf (zad Γ) 51, zRf (zad Γ) 50] M
  refine zr_putF (κ := (52, 1, 16)) C hini rfl (by decide +kernel) fk_RX4_9 (fun _ => ⟨rfl, rfl⟩) (by decide +kernel) (by decide) (by decide) (zdec_at dm_X4_init 5 rfl) (fun M6 e6 => ?_)
  have hR6 : zRng M6 := by rw [e6]; exact hR.set (by decide) _ _
  have hF6 : zfrs M6 52 := by rw [e6]; exact hF5.set (by decide) _ _
  refine zr_aload_n C 0 rfl (zdec_at dm_X4_init 6 rfl) rfl ?_
  refine zr_bipush C (zdec_at dm_X4_init 7 rfl) (by decide) ?_
  refine zr_newI (κ := (52, 1, 16)) (len := 16) C hAd rfl (by decide) na_int rfl rfl (by decide) (fun k _ => hF6.a (Nat.le_refl _) rfl k) ⟨by decide, by decide⟩ (zdec_at dm_X4_init 8 rfl) ?_
  have hF9 := hF6.le (m := 53) (by decide)
  change zV Γ mc_X4_init_50 (53, 2, 32) 17 [(0, zRf (zad Γ) 50), (1, zRf (zad Γ) 1)] [zRf (zad Γ) 52, zRf (zad Γ) 50] M6
  refine zr_putF (κ := (53, 2, 32)) C hini rfl (by decide +kernel) fk_RX4_15 (fun _ => ⟨rfl, rfl⟩) (by decide +kernel) (by decide) (by decide) (zdec_at dm_X4_init 9 rfl) (fun M10 e10 => ?_)
  have hR10 : zRng M10 := by rw [e10]; exact hR6.set (by decide) _ _
  have hF10 : zfrs M10 53 := by rw [e10]; exact hF9.set (by decide) _ _
  refine zr_aload_n C 0 rfl (zdec_at dm_X4_init 10 rfl) rfl ?_
  refine zr_aload_n C 1 rfl (zdec_at dm_X4_init 11 rfl) rfl ?_
  refine zr_putF (κ := (53, 2, 32)) C hini rfl (by decide +kernel) fk_RX4_18 (fun _ => ⟨rfl, rfl⟩) (by decide +kernel) (by decide) (by decide) (zdec_at dm_X4_init 12 rfl) (fun M13 e13 => ?_)
  have hR13 : zRng M13 := by rw [e13]; exact hR10.set (by decide) _ _
  have hF13 : zfrs M13 53 := by rw [e13]; exact hF10.set (by decide) _ _
  refine zr_return (κ := (53, 2, 32)) C rfl rfl (zdec_at dm_X4_init 13 rfl) rfl ⟨by decide, ?_⟩
  have eM : M13 = cf_X4_init_50 M := by rw [e13, e10, e6]; rfl
  rw [eM] at hF13 ⊢
  exact h hF13

def cf_X5_init_53 (M : zM) : zM :=
  let M6 := zset M 53 3 54
  let M10 := zset M6 53 4 55
  let M14 := zset M10 53 5 56
  let M17 := zset M14 53 0 5
  M17
abbrev mc_X5_init_53 : zMc := (cX5_init, RX5, 2, none, 1, zS0, 54, 3, 910)
set_option maxHeartbeats 4000000 in
set_option maxRecDepth 100000 in
theorem sc_X5_init_53 : zSnd zS0 54 3 910 yX5_init cX5_init 2 none 1 [2, 2] (fun xs P M => xs = [53, 5] ∧ zfrs M 54 ∧ (zfrs (cf_X5_init_53 M) 57 → P 0 (cf_X5_init_53 M))) := by
  refine zSnd.of rfl (fun ad xs hz => Nat.le_trans (Nat.le_of_eq (zlen ad _ xs hz)) (by decide)) ?_
  intro Γ C hAd0 hini0 xs M hz hF0
  obtain ⟨rfl, hF, h⟩ := hF0
  have hAd := hAd0 (by decide)
  have hini := hini0 rfl
  refine zr_rng (fun hR => ?_)
  have C : zC Γ mc_X5_init_53 := C
  change zV Γ mc_X5_init_53 (54, 0, 0) 0 [(0, zRf (zad Γ) 53), (1, zRf (zad Γ) 5)] [] M
  refine zr_aload_n C 0 rfl (zdec_at dm_X5_init 0 rfl) rfl ?_
  refine zr_obj (κ := (54, 0, 0)) C ob_RX5_5 ob_i ob_c (by decide) (Nat.le_of_ble_eq_true rfl) (zdec_at dm_X5_init 1 rfl) ?_
  refine zr_aload_n C 0 rfl (zdec_at dm_X5_init 2 rfl) rfl ?_
  refine zr_bipush C (zdec_at dm_X5_init 3 rfl) (by decide) ?_
  refine zr_newI (κ := (54, 0, 0)) (len := 7) C hAd rfl (by decide) na_int rfl rfl (by decide) (fun k _ => hF.a (Nat.le_refl _) rfl k) ⟨by decide, by decide⟩ (zdec_at dm_X5_init 4 rfl) ?_
  have hF5 := hF.le (m := 55) (by decide)
  change zV Γ mc_X5_init_53 (55, 1, 7) 9 [(0, zRf (zad Γ) 53), (1, zRf (zad Γ) 5)] [zRf (zad Γ) 54, zRf (zad Γ) 53] M
  refine zr_putF (κ := (55, 1, 7)) C hini rfl (by decide +kernel) fk_RX5_11 (fun _ => ⟨rfl, rfl⟩) (by decide +kernel) (by decide) (by decide) (zdec_at dm_X5_init 5 rfl) (fun M6 e6 => ?_)
  have hR6 : zRng M6 := by rw [e6]; exact hR.set (by decide) _ _
  have hF6 : zfrs M6 55 := by rw [e6]; exact hF5.set (by decide) _ _
  refine zr_aload_n C 0 rfl (zdec_at dm_X5_init 6 rfl) rfl ?_
  refine zr_bipush C (zdec_at dm_X5_init 7 rfl) (by decide) ?_
  refine zr_newI (κ := (55, 1, 7)) (len := 7) C hAd rfl (by decide) na_int rfl rfl (by decide) (fun k _ => hF6.a (Nat.le_refl _) rfl k) ⟨by decide, by decide⟩ (zdec_at dm_X5_init 8 rfl) ?_
  have hF9 := hF6.le (m := 56) (by decide)
  change zV Γ mc_X5_init_53 (56, 2, 14) 17 [(0, zRf (zad Γ) 53), (1, zRf (zad Γ) 5)] [zRf (zad Γ) 55, zRf (zad Γ) 53] M6
  refine zr_putF (κ := (56, 2, 14)) C hini rfl (by decide +kernel) fk_RX5_15 (fun _ => ⟨rfl, rfl⟩) (by decide +kernel) (by decide) (by decide) (zdec_at dm_X5_init 9 rfl) (fun M10 e10 => ?_)
  have hR10 : zRng M10 := by rw [e10]; exact hR6.set (by decide) _ _
  have hF10 : zfrs M10 56 := by rw [e10]; exact hF9.set (by decide) _ _
  refine zr_aload_n C 0 rfl (zdec_at dm_X5_init 10 rfl) rfl ?_
  refine zr_sipush C (zdec_at dm_X5_init 11 rfl) (by decide) ?_
  refine zr_newI (κ := (56, 2, 14)) (len := 896) C hAd rfl (by decide) na_int rfl rfl (by decide) (fun k _ => hF10.a (Nat.le_refl _) rfl k) ⟨by decide, by decide⟩ (zdec_at dm_X5_init 12 rfl) ?_
  have hF13 := hF10.le (m := 57) (by decide)
  change zV Γ mc_X5_init_53 (57, 3, 910) 26 [(0, zRf (zad Γ) 53), (1, zRf (zad Γ) 5)] [zRf (zad Γ) 56, zRf (zad Γ) 53] M10
  refine zr_putF (κ := (57, 3, 910)) C hini rfl (by decide +kernel) fk_RX5_18 (fun _ => ⟨rfl, rfl⟩) (by decide +kernel) (by decide) (by decide) (zdec_at dm_X5_init 13 rfl) (fun M14 e14 => ?_)
  have hR14 : zRng M14 := by rw [e14]; exact hR10.set (by decide) _ _
  have hF14 : zfrs M14 57 := by rw [e14]; exact hF13.set (by decide) _ _
  refine zr_aload_n C 0 rfl (zdec_at dm_X5_init 14 rfl) rfl ?_
  refine zr_aload_n C 1 rfl (zdec_at dm_X5_init 15 rfl) rfl ?_
  refine zr_putF (κ := (57, 3, 910)) C hini rfl (by decide +kernel) fk_RX5_21 (fun _ => ⟨rfl, rfl⟩) (by decide +kernel) (by decide) (by decide) (zdec_at dm_X5_init 16 rfl) (fun M17 e17 => ?_)
  have hR17 : zRng M17 := by rw [e17]; exact hR14.set (by decide) _ _
  have hF17 : zfrs M17 57 := by rw [e17]; exact hF14.set (by decide) _ _
  refine zr_return (κ := (57, 3, 910)) C rfl rfl (zdec_at dm_X5_init 17 rfl) rfl ⟨by decide, ?_⟩
  have eM : M17 = cf_X5_init_53 M := by rw [e17, e14, e10, e6]; rfl
  rw [eM] at hF17 ⊢
  exact h hF17

def cf_X8_init_57 (M : zM) : zM :=
  let M6 := zgrid M 58 12
  let M7 := zset M6 57 1 58
  let M11 := zset M7 57 2 71
  let M15 := zset M11 57 3 72
  let M19 := zset M15 57 5 73
  M19
abbrev mc_X8_init_57 : zMc := (cX8_init, RX8, 1, none, 1, zS0, 58, 16, 1488)
set_option maxHeartbeats 4000000 in
set_option maxRecDepth 100000 in
theorem sc_X8_init_57 : zSnd zS0 58 16 1488 yX8_init cX8_init 1 none 1 [2] (fun xs P M => xs = [57] ∧ zfrs M 58 ∧ (zfrs (cf_X8_init_57 M) 74 → P 0 (cf_X8_init_57 M))) := by
  refine zSnd.of rfl (fun ad xs hz => Nat.le_trans (Nat.le_of_eq (zlen ad _ xs hz)) (by decide)) ?_
  intro Γ C hAd0 hini0 xs M hz hF0
  obtain ⟨rfl, hF, h⟩ := hF0
  have hAd := hAd0 (by decide)
  have hini := hini0 rfl
  refine zr_rng (fun hR => ?_)
  have C : zC Γ mc_X8_init_57 := C
  change zV Γ mc_X8_init_57 (58, 0, 0) 0 [(0, zRf (zad Γ) 57)] [] M
  refine zr_aload_n C 0 rfl (zdec_at dm_X8_init 0 rfl) rfl ?_
  refine zr_obj (κ := (58, 0, 0)) C ob_RX8_3 ob_i ob_c (by decide) (Nat.le_of_ble_eq_true rfl) (zdec_at dm_X8_init 1 rfl) ?_
  refine zr_aload_n C 0 rfl (zdec_at dm_X8_init 2 rfl) rfl ?_
  refine zr_bipush C (zdec_at dm_X8_init 3 rfl) (by decide) ?_
  refine zr_bipush C (zdec_at dm_X8_init 4 rfl) (by decide) ?_
  refine zr_newII (κ := (58, 0, 0)) (nn := 12) (k0 := 120) C hAd rfl (by decide) (zTG_2 (i := 136) rfl rfl) na_int rfl rfl (by decide +kernel) (by decide) (fun j k hj => hF.a (Nat.le_add_right _ _) (by revert j; decide +kernel) k) (fun j => zS0_le _ _) ⟨by decide, by decide⟩ (zdec_at dm_X8_init 5 rfl) (fun M6 e6 => ?_)
  have hR6 : zRng M6 := by rw [e6]; exact hR.grid (by decide) (by decide)
  have hF6 : zfrs M6 71 := by rw [e6]; exact (hF.le (by decide)).grid (by decide) _
  change zV Γ mc_X8_init_57 (71, 13, 1452) 13 [(0, zRf (zad Γ) 57)] [zRf (zad Γ) 58, zRf (zad Γ) 57] M6
  refine zr_putF (κ := (71, 13, 1452)) C hini rfl (by decide +kernel) fk_RX8_13 (fun _ => ⟨rfl, rfl⟩) (by decide +kernel) (by decide) (by decide) (zdec_at dm_X8_init 6 rfl) (fun M7 e7 => ?_)
  have hR7 : zRng M7 := by rw [e7]; exact hR6.set (by decide) _ _
  have hF7 : zfrs M7 71 := by rw [e7]; exact hF6.set (by decide) _ _
  refine zr_aload_n C 0 rfl (zdec_at dm_X8_init 7 rfl) rfl ?_
  refine zr_bipush C (zdec_at dm_X8_init 8 rfl) (by decide) ?_
  refine zr_newI (κ := (71, 13, 1452)) (len := 12) C hAd rfl (by decide) na_int rfl rfl (by decide) (fun k _ => hF7.a (Nat.le_refl _) rfl k) ⟨by decide, by decide⟩ (zdec_at dm_X8_init 9 rfl) ?_
  have hF10 := hF7.le (m := 72) (by decide)
  change zV Γ mc_X8_init_57 (72, 14, 1464) 21 [(0, zRf (zad Γ) 57)] [zRf (zad Γ) 71, zRf (zad Γ) 57] M7
  refine zr_putF (κ := (72, 14, 1464)) C hini rfl (by decide +kernel) fk_RX8_16 (fun _ => ⟨rfl, rfl⟩) (by decide +kernel) (by decide) (by decide) (zdec_at dm_X8_init 10 rfl) (fun M11 e11 => ?_)
  have hR11 : zRng M11 := by rw [e11]; exact hR7.set (by decide) _ _
  have hF11 : zfrs M11 72 := by rw [e11]; exact hF10.set (by decide) _ _
  refine zr_aload_n C 0 rfl (zdec_at dm_X8_init 11 rfl) rfl ?_
  refine zr_bipush C (zdec_at dm_X8_init 12 rfl) (by decide) ?_
  refine zr_newZ (κ := (72, 14, 1464)) (len := 12) C hAd rfl (by decide) na_boolean rfl rfl (by decide) (fun k _ => hF11.a (Nat.le_refl _) rfl k) ⟨by decide, by decide⟩ (zdec_at dm_X8_init 13 rfl) ?_
  have hF14 := hF11.le (m := 73) (by decide)
  change zV Γ mc_X8_init_57 (73, 15, 1476) 29 [(0, zRf (zad Γ) 57)] [zRf (zad Γ) 72, zRf (zad Γ) 57] M11
  refine zr_putF (κ := (73, 15, 1476)) C hini rfl (by decide +kernel) fk_RX8_20 (fun _ => ⟨rfl, rfl⟩) (by decide +kernel) (by decide) (by decide) (zdec_at dm_X8_init 14 rfl) (fun M15 e15 => ?_)
  have hR15 : zRng M15 := by rw [e15]; exact hR11.set (by decide) _ _
  have hF15 : zfrs M15 73 := by rw [e15]; exact hF14.set (by decide) _ _
  refine zr_aload_n C 0 rfl (zdec_at dm_X8_init 15 rfl) rfl ?_
  refine zr_bipush C (zdec_at dm_X8_init 16 rfl) (by decide) ?_
  refine zr_newZ (κ := (73, 15, 1476)) (len := 12) C hAd rfl (by decide) na_boolean rfl rfl (by decide) (fun k _ => hF15.a (Nat.le_refl _) rfl k) ⟨by decide, by decide⟩ (zdec_at dm_X8_init 17 rfl) ?_
  have hF18 := hF15.le (m := 74) (by decide)
  change zV Γ mc_X8_init_57 (74, 16, 1488) 37 [(0, zRf (zad Γ) 57)] [zRf (zad Γ) 73, zRf (zad Γ) 57] M15
  refine zr_putF (κ := (74, 16, 1488)) C hini rfl (by decide +kernel) fk_RX8_24 (fun _ => ⟨rfl, rfl⟩) (by decide +kernel) (by decide) (by decide) (zdec_at dm_X8_init 18 rfl) (fun M19 e19 => ?_)
  have hR19 : zRng M19 := by rw [e19]; exact hR15.set (by decide) _ _
  have hF19 : zfrs M19 74 := by rw [e19]; exact hF18.set (by decide) _ _
  refine zr_return (κ := (74, 16, 1488)) C rfl rfl (zdec_at dm_X8_init 19 rfl) rfl ⟨by decide, ?_⟩
  have eM : M19 = cf_X8_init_57 M := by rw [e19, e15, e11, e7, e6]; rfl
  rw [eM] at hF19 ⊢
  exact h hF19

def cf_X7_init_74 (M : zM) : zM :=
  let M6 := zset M 74 0 75
  let M10 := zset M6 74 2 76
  let M13 := zset M10 74 1 (-4)
  M13
abbrev mc_X7_init_74 : zMc := (cX7_init, RX7, 1, none, 1, zS0, 75, 2, 13)
set_option maxHeartbeats 4000000 in
set_option maxRecDepth 100000 in
theorem sc_X7_init_74 : zSnd zS0 75 2 13 yX7_init cX7_init 1 none 1 [2] (fun xs P M => xs = [74] ∧ zfrs M 75 ∧ (zfrs (cf_X7_init_74 M) 77 → P 0 (cf_X7_init_74 M))) := by
  refine zSnd.of rfl (fun ad xs hz => Nat.le_trans (Nat.le_of_eq (zlen ad _ xs hz)) (by decide)) ?_
  intro Γ C hAd0 hini0 xs M hz hF0
  obtain ⟨rfl, hF, h⟩ := hF0
  have hAd := hAd0 (by decide)
  have hini := hini0 rfl
  refine zr_rng (fun hR => ?_)
  have C : zC Γ mc_X7_init_74 := C
  change zV Γ mc_X7_init_74 (75, 0, 0) 0 [(0, zRf (zad Γ) 74)] [] M
  refine zr_aload_n C 0 rfl (zdec_at dm_X7_init 0 rfl) rfl ?_
  refine zr_obj (κ := (75, 0, 0)) C ob_RX7_3 ob_i ob_c (by decide) (Nat.le_of_ble_eq_true rfl) (zdec_at dm_X7_init 1 rfl) ?_
  refine zr_aload_n C 0 rfl (zdec_at dm_X7_init 2 rfl) rfl ?_
  refine zr_bipush C (zdec_at dm_X7_init 3 rfl) (by decide) ?_
  refine zr_newI (κ := (75, 0, 0)) (len := 13) C hAd rfl (by decide) na_int rfl rfl (by decide) (fun k _ => hF.a (Nat.le_refl _) rfl k) ⟨by decide, by decide⟩ (zdec_at dm_X7_init 4 rfl) ?_
  have hF5 := hF.le (m := 76) (by decide)
  change zV Γ mc_X7_init_74 (76, 1, 13) 9 [(0, zRf (zad Γ) 74)] [zRf (zad Γ) 75, zRf (zad Γ) 74] M
  refine zr_putF (κ := (76, 1, 13)) C hini rfl (by decide +kernel) fk_RX7_9 (fun _ => ⟨rfl, rfl⟩) (by decide +kernel) (by decide) (by decide) (zdec_at dm_X7_init 5 rfl) (fun M6 e6 => ?_)
  have hR6 : zRng M6 := by rw [e6]; exact hR.set (by decide) _ _
  have hF6 : zfrs M6 76 := by rw [e6]; exact hF5.set (by decide) _ _
  refine zr_aload_n C 0 rfl (zdec_at dm_X7_init 6 rfl) rfl ?_
  refine zr_iconst C (zdec_at dm_X7_init 7 rfl) ?_
  refine zr_newI (κ := (76, 1, 13)) (len := 0) C hAd rfl (by decide) na_int rfl rfl (by decide) (fun k _ => hF6.a (Nat.le_refl _) rfl k) ⟨by decide, by decide⟩ (zdec_at dm_X7_init 8 rfl) ?_
  have hF9 := hF6.le (m := 77) (by decide)
  change zV Γ mc_X7_init_74 (77, 2, 13) 16 [(0, zRf (zad Γ) 74)] [zRf (zad Γ) 76, zRf (zad Γ) 74] M6
  refine zr_putm (κ := (77, 2, 13)) C fk_RX7_15 (by decide +kernel) (by decide) (by decide) (zdec_at dm_X7_init 9 rfl) (fun M10 e10 => ?_)
  have hR10 : zRng M10 := by rw [e10]; exact hR6.set (by decide) _ _
  have hF10 : zfrs M10 77 := by rw [e10]; exact hF9.set (by decide) _ _
  refine zr_aload_n C 0 rfl (zdec_at dm_X7_init 10 rfl) rfl ?_
  refine zr_bipush C (zdec_at dm_X7_init 11 rfl) (by decide) ?_
  refine zr_puti (κ := (77, 2, 13)) C fk_RX7_18 (by decide +kernel) (by decide) (zdec_at dm_X7_init 12 rfl) (fun M13 e13 => ?_)
  have hR13 : zRng M13 := by rw [e13]; exact hR10.set (by decide) _ _
  have hF13 : zfrs M13 77 := by rw [e13]; exact hF10.set (by decide) _ _
  refine zr_return (κ := (77, 2, 13)) C rfl rfl (zdec_at dm_X7_init 13 rfl) rfl ⟨by decide, ?_⟩
  have eM : M13 = cf_X7_init_74 M := by rw [e13, e10, e6]; rfl
  rw [eM] at hF13 ⊢
  exact h hF13

def cf_X3_init_77 (M : zM) : zM :=
  let M6 := zgrid M 78 20
  let M7 := zset M6 77 3 78
  M7
abbrev mc_X3_init_77 : zMc := (cX3_init, RX3, 1, none, 1, zS0, 78, 21, 3860)
set_option maxHeartbeats 4000000 in
set_option maxRecDepth 100000 in
theorem sc_X3_init_77 : zSnd zS0 78 21 3860 yX3_init cX3_init 1 none 1 [2] (fun xs P M => xs = [77] ∧ zfrs M 78 ∧ (zfrs (cf_X3_init_77 M) 99 → P 0 (cf_X3_init_77 M))) := by
  refine zSnd.of rfl (fun ad xs hz => Nat.le_trans (Nat.le_of_eq (zlen ad _ xs hz)) (by decide)) ?_
  intro Γ C hAd0 hini0 xs M hz hF0
  obtain ⟨rfl, hF, h⟩ := hF0
  have hAd := hAd0 (by decide)
  have hini := hini0 rfl
  refine zr_rng (fun hR => ?_)
  have C : zC Γ mc_X3_init_77 := C
  change zV Γ mc_X3_init_77 (78, 0, 0) 0 [(0, zRf (zad Γ) 77)] [] M
  refine zr_aload_n C 0 rfl (zdec_at dm_X3_init 0 rfl) rfl ?_
  refine zr_obj (κ := (78, 0, 0)) C ob_RX3_3 ob_i ob_c (by decide) (Nat.le_of_ble_eq_true rfl) (zdec_at dm_X3_init 1 rfl) ?_
  refine zr_aload_n C 0 rfl (zdec_at dm_X3_init 2 rfl) rfl ?_
  refine zr_bipush C (zdec_at dm_X3_init 3 rfl) (by decide) ?_
  refine zr_sipush C (zdec_at dm_X3_init 4 rfl) (by decide) ?_
  refine zr_newBB (κ := (78, 0, 0)) (nn := 20) (k0 := 192) C hAd rfl (by decide) (zTG_2 (i := 192) rfl rfl) na_byte rfl rfl (by decide +kernel) (by decide) (fun j k hj => hF.a (Nat.le_add_right _ _) (by revert j; decide +kernel) k) (fun j => zS0_le _ _) ⟨by decide, by decide⟩ (zdec_at dm_X3_init 5 rfl) (fun M6 e6 => ?_)
  have hR6 : zRng M6 := by rw [e6]; exact hR.grid (by decide) (by decide)
  have hF6 : zfrs M6 99 := by rw [e6]; exact (hF.le (by decide)).grid (by decide) _
  change zV Γ mc_X3_init_77 (99, 21, 3860) 14 [(0, zRf (zad Γ) 77)] [zRf (zad Γ) 78, zRf (zad Γ) 77] M6
  refine zr_putF (κ := (99, 21, 3860)) C hini rfl (by decide +kernel) fk_RX3_13 (fun _ => ⟨rfl, rfl⟩) (by decide +kernel) (by decide) (by decide) (zdec_at dm_X3_init 6 rfl) (fun M7 e7 => ?_)
  have hR7 : zRng M7 := by rw [e7]; exact hR6.set (by decide) _ _
  have hF7 : zfrs M7 99 := by rw [e7]; exact hF6.set (by decide) _ _
  refine zr_return (κ := (99, 21, 3860)) C rfl rfl (zdec_at dm_X3_init 7 rfl) rfl ⟨by decide, ?_⟩
  have eM : M7 = cf_X3_init_77 M := by rw [e7, e6]; rfl
  rw [eM] at hF7 ⊢
  exact h hF7

def cf_X0_init_99 (M : zM) : zM :=
  let M6 := zset M 99 4 100
  let M10 := zset M6 99 5 101
  let M14 := zset M10 99 6 102
  let M17 := zset M14 99 0 1
  let M20 := zset M17 99 1 1
  let M32 := zset M20 101 0 (17 * 0)
  let M44 := zset M32 101 1 (17 * 1)
  let M56 := zset M44 101 2 (17 * 2)
  let M68 := zset M56 101 3 (17 * 3)
  let M80 := zset M68 101 4 (17 * 4)
  let M92 := zset M80 101 5 (17 * 5)
  let M104 := zset M92 101 6 (17 * 6)
  let M116 := zset M104 101 7 (17 * 7)
  let M128 := zset M116 101 8 (17 * 8)
  let M140 := zset M128 101 9 (17 * 9)
  let M152 := zset M140 101 10 (17 * 10)
  let M164 := zset M152 101 11 (17 * 11)
  let M176 := zset M164 101 12 (17 * 12)
  let M188 := zset M176 101 13 (17 * 13)
  let M200 := zset M188 101 14 (17 * 14)
  let M212 := zset M200 101 15 (17 * 15)
  M212
abbrev mc_X0_init_99 : zMc := (cX0_init, RX0, 2, none, 1, zS0, 100, 3, 400)
set_option maxHeartbeats 4000000 in
set_option maxRecDepth 100000 in
theorem sc_X0_init_99 : zSnd zS0 100 3 400 yX0_init cX0_init 2 none 1 [2] (fun xs P M => xs = [99] ∧ zfrs M 100 ∧ (zfrs (cf_X0_init_99 M) 103 → P 0 (cf_X0_init_99 M))) := by
  refine zSnd.of rfl (fun ad xs hz => Nat.le_trans (Nat.le_of_eq (zlen ad _ xs hz)) (by decide)) ?_
  intro Γ C hAd0 hini0 xs M hz hF0
  obtain ⟨rfl, hF, h⟩ := hF0
  have hAd := hAd0 (by decide)
  have hini := hini0 rfl
  refine zr_rng (fun hR => ?_)
  have C : zC Γ mc_X0_init_99 := C
  change zV Γ mc_X0_init_99 (100, 0, 0) 0 [(0, zRf (zad Γ) 99)] [] M
  refine zr_aload_n C 0 rfl (zdec_at dm_X0_init 0 rfl) rfl ?_
  refine zr_obj (κ := (100, 0, 0)) C ob_RX0_3 ob_i ob_c (by decide) (Nat.le_of_ble_eq_true rfl) (zdec_at dm_X0_init 1 rfl) ?_
  refine zr_aload_n C 0 rfl (zdec_at dm_X0_init 2 rfl) rfl ?_
  refine zr_sipush C (zdec_at dm_X0_init 3 rfl) (by decide) ?_
  refine zr_newB (κ := (100, 0, 0)) (len := 192) C hAd rfl (by decide) na_byte rfl rfl (by decide) (fun k _ => hF.a (Nat.le_refl _) rfl k) ⟨by decide, by decide⟩ (zdec_at dm_X0_init 4 rfl) ?_
  have hF5 := hF.le (m := 101) (by decide)
  change zV Γ mc_X0_init_99 (101, 1, 192) 10 [(0, zRf (zad Γ) 99)] [zRf (zad Γ) 100, zRf (zad Γ) 99] M
  refine zr_putF (κ := (101, 1, 192)) C hini rfl (by decide +kernel) fk_RX0_9 (fun _ => ⟨rfl, rfl⟩) (by decide +kernel) (by decide) (by decide) (zdec_at dm_X0_init 5 rfl) (fun M6 e6 => ?_)
  have hR6 : zRng M6 := by rw [e6]; exact hR.set (by decide) _ _
  have hF6 : zfrs M6 101 := by rw [e6]; exact hF5.set (by decide) _ _
  refine zr_aload_n C 0 rfl (zdec_at dm_X0_init 6 rfl) rfl ?_
  refine zr_bipush C (zdec_at dm_X0_init 7 rfl) (by decide) ?_
  refine zr_newI (κ := (101, 1, 192)) (len := 16) C hAd rfl (by decide) na_int rfl rfl (by decide) (fun k _ => hF6.a (Nat.le_refl _) rfl k) ⟨by decide, by decide⟩ (zdec_at dm_X0_init 8 rfl) ?_
  have hF9 := hF6.le (m := 102) (by decide)
  change zV Γ mc_X0_init_99 (102, 2, 208) 18 [(0, zRf (zad Γ) 99)] [zRf (zad Γ) 101, zRf (zad Γ) 99] M6
  refine zr_putF (κ := (102, 2, 208)) C hini rfl (by decide +kernel) fk_RX0_15 (fun _ => ⟨rfl, rfl⟩) (by decide +kernel) (by decide) (by decide) (zdec_at dm_X0_init 9 rfl) (fun M10 e10 => ?_)
  have hR10 : zRng M10 := by rw [e10]; exact hR6.set (by decide) _ _
  have hF10 : zfrs M10 102 := by rw [e10]; exact hF9.set (by decide) _ _
  refine zr_aload_n C 0 rfl (zdec_at dm_X0_init 10 rfl) rfl ?_
  refine zr_sipush C (zdec_at dm_X0_init 11 rfl) (by decide) ?_
  refine zr_newB (κ := (102, 2, 208)) (len := 192) C hAd rfl (by decide) na_byte rfl rfl (by decide) (fun k _ => hF10.a (Nat.le_refl _) rfl k) ⟨by decide, by decide⟩ (zdec_at dm_X0_init 12 rfl) ?_
  have hF13 := hF10.le (m := 103) (by decide)
  change zV Γ mc_X0_init_99 (103, 3, 400) 27 [(0, zRf (zad Γ) 99)] [zRf (zad Γ) 102, zRf (zad Γ) 99] M10
  refine zr_putF (κ := (103, 3, 400)) C hini rfl (by decide +kernel) fk_RX0_19 (fun _ => ⟨rfl, rfl⟩) (by decide +kernel) (by decide) (by decide) (zdec_at dm_X0_init 13 rfl) (fun M14 e14 => ?_)
  have hR14 : zRng M14 := by rw [e14]; exact hR10.set (by decide) _ _
  have hF14 : zfrs M14 103 := by rw [e14]; exact hF13.set (by decide) _ _
  refine zr_aload_n C 0 rfl (zdec_at dm_X0_init 14 rfl) rfl ?_
  refine zr_iconst C (zdec_at dm_X0_init 15 rfl) ?_
  refine zr_puti (κ := (103, 3, 400)) C fk_RX0_22 (by decide +kernel) (by decide) (zdec_at dm_X0_init 16 rfl) (fun M17 e17 => ?_)
  have hR17 : zRng M17 := by rw [e17]; exact hR14.set (by decide) _ _
  have hF17 : zfrs M17 103 := by rw [e17]; exact hF14.set (by decide) _ _
  refine zr_aload_n C 0 rfl (zdec_at dm_X0_init 17 rfl) rfl ?_
  refine zr_iconst C (zdec_at dm_X0_init 18 rfl) ?_
  refine zr_puti (κ := (103, 3, 400)) C fk_RX0_26 (by decide +kernel) (by decide) (zdec_at dm_X0_init 19 rfl) (fun M20 e20 => ?_)
  have hR20 : zRng M20 := by rw [e20]; exact hR17.set (by decide) _ _
  have hF20 : zfrs M20 103 := by rw [e20]; exact hF17.set (by decide) _ _
  refine zr_iconst C (zdec_at dm_X0_init 20 rfl) ?_
  refine zr_istore_n (L1 := [(1, zI 0), (0, zRf (zad Γ) 99)]) C (zdec_at dm_X0_init 21 rfl) rfl (Nat.le_of_ble_eq_true rfl) rfl ?_
  refine zr_iload_n C 0 rfl (zdec_at dm_X0_init 22 rfl) rfl ?_
  refine zr_bipush C (zdec_at dm_X0_init 23 rfl) (by decide) ?_
  refine zr_icmp_ge C (by decide) (by decide) (zdec_at dm_X0_init 24 rfl) rfl (fun g => absurd g (by decide)) (fun _ => ?_)
  refine zr_aload_n C 1 rfl (zdec_at dm_X0_init 25 rfl) rfl ?_
  have q27 : M20 99 5 = 101 := by rw [e20, zset_n _ (by decide), e17, zset_n _ (by decide), e14, zset_n _ (by decide), e10, zset_s]
  refine zr_getm (κ := (103, 3, 400)) C fk_RX0_15 (by decide +kernel) (zdec_at dm_X0_init 26 rfl) ?_
  rw [q27, zA_pos (by decide)]
  refine zr_iload_n C 0 rfl (zdec_at dm_X0_init 27 rfl) rfl ?_
  refine zr_bipush C (zdec_at dm_X0_init 28 rfl) (by decide) ?_
  refine zr_iload_n C 0 rfl (zdec_at dm_X0_init 29 rfl) rfl ?_
  refine zr_imul C (zdec_at dm_X0_init 30 rfl) ?_
  refine zr_iast (κ := (103, 3, 400)) (len := 16) C (by decide +kernel) (by decide) (by decide) (zdec_at dm_X0_init 31 rfl) (fun M32 e32 => ?_)
  have hR32 : zRng M32 := by rw [e32]; exact hR20.set (by decide) _ _
  have hF32 : zfrs M32 103 := by rw [e32]; exact hF20.set (by decide) _ _
  refine zr_iinc (L1 := [(1, zI (0 + 1)), (0, zRf (zad Γ) 99)]) C 0 rfl (zdec_at dm_X0_init 32 rfl) (Nat.le_of_ble_eq_true rfl) rfl ?_
  change zV Γ mc_X0_init_99 (103, 3, 400) 61 [(1, zI 1), (0, zRf (zad Γ) 99)] [] M32
  refine zr_goto C (zdec_at dm_X0_init 33 rfl) rfl ?_
  refine zr_iload_n C 0 rfl (zdec_at dm_X0_init 22 rfl) rfl ?_
  refine zr_bipush C (zdec_at dm_X0_init 23 rfl) (by decide) ?_
  refine zr_icmp_ge C (by decide) (by decide) (zdec_at dm_X0_init 24 rfl) rfl (fun g => absurd g (by decide)) (fun _ => ?_)
  refine zr_aload_n C 1 rfl (zdec_at dm_X0_init 25 rfl) rfl ?_
  have q39 : M32 99 5 = 101 := by rw [e32, zset_n _ (by decide), e20, zset_n _ (by decide), e17, zset_n _ (by decide), e14, zset_n _ (by decide), e10, zset_s]
  refine zr_getm (κ := (103, 3, 400)) C fk_RX0_15 (by decide +kernel) (zdec_at dm_X0_init 26 rfl) ?_
  rw [q39, zA_pos (by decide)]
  refine zr_iload_n C 0 rfl (zdec_at dm_X0_init 27 rfl) rfl ?_
  refine zr_bipush C (zdec_at dm_X0_init 28 rfl) (by decide) ?_
  refine zr_iload_n C 0 rfl (zdec_at dm_X0_init 29 rfl) rfl ?_
  refine zr_imul C (zdec_at dm_X0_init 30 rfl) ?_
  refine zr_iast (κ := (103, 3, 400)) (len := 16) C (by decide +kernel) (by decide) (by decide) (zdec_at dm_X0_init 31 rfl) (fun M44 e44 => ?_)
  have hR44 : zRng M44 := by rw [e44]; exact hR32.set (by decide) _ _
  have hF44 : zfrs M44 103 := by rw [e44]; exact hF32.set (by decide) _ _
  refine zr_iinc (L1 := [(1, zI (1 + 1)), (0, zRf (zad Γ) 99)]) C 0 rfl (zdec_at dm_X0_init 32 rfl) (Nat.le_of_ble_eq_true rfl) rfl ?_
  change zV Γ mc_X0_init_99 (103, 3, 400) 61 [(1, zI 2), (0, zRf (zad Γ) 99)] [] M44
  refine zr_goto C (zdec_at dm_X0_init 33 rfl) rfl ?_
  refine zr_iload_n C 0 rfl (zdec_at dm_X0_init 22 rfl) rfl ?_
  refine zr_bipush C (zdec_at dm_X0_init 23 rfl) (by decide) ?_
  refine zr_icmp_ge C (by decide) (by decide) (zdec_at dm_X0_init 24 rfl) rfl (fun g => absurd g (by decide)) (fun _ => ?_)
  refine zr_aload_n C 1 rfl (zdec_at dm_X0_init 25 rfl) rfl ?_
  have q51 : M44 99 5 = 101 := by rw [e44, zset_n _ (by decide), e32, zset_n _ (by decide), e20, zset_n _ (by decide), e17, zset_n _ (by decide), e14, zset_n _ (by decide), e10, zset_s]
  refine zr_getm (κ := (103, 3, 400)) C fk_RX0_15 (by decide +kernel) (zdec_at dm_X0_init 26 rfl) ?_
  rw [q51, zA_pos (by decide)]
  refine zr_iload_n C 0 rfl (zdec_at dm_X0_init 27 rfl) rfl ?_
  refine zr_bipush C (zdec_at dm_X0_init 28 rfl) (by decide) ?_
  refine zr_iload_n C 0 rfl (zdec_at dm_X0_init 29 rfl) rfl ?_
  refine zr_imul C (zdec_at dm_X0_init 30 rfl) ?_
  refine zr_iast (κ := (103, 3, 400)) (len := 16) C (by decide +kernel) (by decide) (by decide) (zdec_at dm_X0_init 31 rfl) (fun M56 e56 => ?_)
  have hR56 : zRng M56 := by rw [e56]; exact hR44.set (by decide) _ _
  have hF56 : zfrs M56 103 := by rw [e56]; exact hF44.set (by decide) _ _
  refine zr_iinc (L1 := [(1, zI (2 + 1)), (0, zRf (zad Γ) 99)]) C 0 rfl (zdec_at dm_X0_init 32 rfl) (Nat.le_of_ble_eq_true rfl) rfl ?_
  change zV Γ mc_X0_init_99 (103, 3, 400) 61 [(1, zI 3), (0, zRf (zad Γ) 99)] [] M56
  refine zr_goto C (zdec_at dm_X0_init 33 rfl) rfl ?_
  refine zr_iload_n C 0 rfl (zdec_at dm_X0_init 22 rfl) rfl ?_
  refine zr_bipush C (zdec_at dm_X0_init 23 rfl) (by decide) ?_
  refine zr_icmp_ge C (by decide) (by decide) (zdec_at dm_X0_init 24 rfl) rfl (fun g => absurd g (by decide)) (fun _ => ?_)
  refine zr_aload_n C 1 rfl (zdec_at dm_X0_init 25 rfl) rfl ?_
  have q63 : M56 99 5 = 101 := by rw [e56, zset_n _ (by decide), e44, zset_n _ (by decide), e32, zset_n _ (by decide), e20, zset_n _ (by decide), e17, zset_n _ (by decide), e14, zset_n _ (by decide), e10, zset_s]
  refine zr_getm (κ := (103, 3, 400)) C fk_RX0_15 (by decide +kernel) (zdec_at dm_X0_init 26 rfl) ?_
  rw [q63, zA_pos (by decide)]
  refine zr_iload_n C 0 rfl (zdec_at dm_X0_init 27 rfl) rfl ?_
  refine zr_bipush C (zdec_at dm_X0_init 28 rfl) (by decide) ?_
  refine zr_iload_n C 0 rfl (zdec_at dm_X0_init 29 rfl) rfl ?_
  refine zr_imul C (zdec_at dm_X0_init 30 rfl) ?_
  refine zr_iast (κ := (103, 3, 400)) (len := 16) C (by decide +kernel) (by decide) (by decide) (zdec_at dm_X0_init 31 rfl) (fun M68 e68 => ?_)
  have hR68 : zRng M68 := by rw [e68]; exact hR56.set (by decide) _ _
  have hF68 : zfrs M68 103 := by rw [e68]; exact hF56.set (by decide) _ _
  refine zr_iinc (L1 := [(1, zI (3 + 1)), (0, zRf (zad Γ) 99)]) C 0 rfl (zdec_at dm_X0_init 32 rfl) (Nat.le_of_ble_eq_true rfl) rfl ?_
  change zV Γ mc_X0_init_99 (103, 3, 400) 61 [(1, zI 4), (0, zRf (zad Γ) 99)] [] M68
  refine zr_goto C (zdec_at dm_X0_init 33 rfl) rfl ?_
  refine zr_iload_n C 0 rfl (zdec_at dm_X0_init 22 rfl) rfl ?_
  refine zr_bipush C (zdec_at dm_X0_init 23 rfl) (by decide) ?_
  refine zr_icmp_ge C (by decide) (by decide) (zdec_at dm_X0_init 24 rfl) rfl (fun g => absurd g (by decide)) (fun _ => ?_)
  refine zr_aload_n C 1 rfl (zdec_at dm_X0_init 25 rfl) rfl ?_
  have q75 : M68 99 5 = 101 := by rw [e68, zset_n _ (by decide), e56, zset_n _ (by decide), e44, zset_n _ (by decide), e32, zset_n _ (by decide), e20, zset_n _ (by decide), e17, zset_n _ (by decide), e14, zset_n _ (by decide), e10, zset_s]
  refine zr_getm (κ := (103, 3, 400)) C fk_RX0_15 (by decide +kernel) (zdec_at dm_X0_init 26 rfl) ?_
  rw [q75, zA_pos (by decide)]
  refine zr_iload_n C 0 rfl (zdec_at dm_X0_init 27 rfl) rfl ?_
  refine zr_bipush C (zdec_at dm_X0_init 28 rfl) (by decide) ?_
  refine zr_iload_n C 0 rfl (zdec_at dm_X0_init 29 rfl) rfl ?_
  refine zr_imul C (zdec_at dm_X0_init 30 rfl) ?_
  refine zr_iast (κ := (103, 3, 400)) (len := 16) C (by decide +kernel) (by decide) (by decide) (zdec_at dm_X0_init 31 rfl) (fun M80 e80 => ?_)
  have hR80 : zRng M80 := by rw [e80]; exact hR68.set (by decide) _ _
  have hF80 : zfrs M80 103 := by rw [e80]; exact hF68.set (by decide) _ _
  refine zr_iinc (L1 := [(1, zI (4 + 1)), (0, zRf (zad Γ) 99)]) C 0 rfl (zdec_at dm_X0_init 32 rfl) (Nat.le_of_ble_eq_true rfl) rfl ?_
  change zV Γ mc_X0_init_99 (103, 3, 400) 61 [(1, zI 5), (0, zRf (zad Γ) 99)] [] M80
  refine zr_goto C (zdec_at dm_X0_init 33 rfl) rfl ?_
  refine zr_iload_n C 0 rfl (zdec_at dm_X0_init 22 rfl) rfl ?_
  refine zr_bipush C (zdec_at dm_X0_init 23 rfl) (by decide) ?_
  refine zr_icmp_ge C (by decide) (by decide) (zdec_at dm_X0_init 24 rfl) rfl (fun g => absurd g (by decide)) (fun _ => ?_)
  refine zr_aload_n C 1 rfl (zdec_at dm_X0_init 25 rfl) rfl ?_
  have q87 : M80 99 5 = 101 := by rw [e80, zset_n _ (by decide), e68, zset_n _ (by decide), e56, zset_n _ (by decide), e44, zset_n _ (by decide), e32, zset_n _ (by decide), e20, zset_n _ (by decide), e17, zset_n _ (by decide), e14, zset_n _ (by decide), e10, zset_s]
  refine zr_getm (κ := (103, 3, 400)) C fk_RX0_15 (by decide +kernel) (zdec_at dm_X0_init 26 rfl) ?_
  rw [q87, zA_pos (by decide)]
  refine zr_iload_n C 0 rfl (zdec_at dm_X0_init 27 rfl) rfl ?_
  refine zr_bipush C (zdec_at dm_X0_init 28 rfl) (by decide) ?_
  refine zr_iload_n C 0 rfl (zdec_at dm_X0_init 29 rfl) rfl ?_
  refine zr_imul C (zdec_at dm_X0_init 30 rfl) ?_
  refine zr_iast (κ := (103, 3, 400)) (len := 16) C (by decide +kernel) (by decide) (by decide) (zdec_at dm_X0_init 31 rfl) (fun M92 e92 => ?_)
  have hR92 : zRng M92 := by rw [e92]; exact hR80.set (by decide) _ _
  have hF92 : zfrs M92 103 := by rw [e92]; exact hF80.set (by decide) _ _
  refine zr_iinc (L1 := [(1, zI (5 + 1)), (0, zRf (zad Γ) 99)]) C 0 rfl (zdec_at dm_X0_init 32 rfl) (Nat.le_of_ble_eq_true rfl) rfl ?_
  change zV Γ mc_X0_init_99 (103, 3, 400) 61 [(1, zI 6), (0, zRf (zad Γ) 99)] [] M92
  refine zr_goto C (zdec_at dm_X0_init 33 rfl) rfl ?_
  refine zr_iload_n C 0 rfl (zdec_at dm_X0_init 22 rfl) rfl ?_
  refine zr_bipush C (zdec_at dm_X0_init 23 rfl) (by decide) ?_
  refine zr_icmp_ge C (by decide) (by decide) (zdec_at dm_X0_init 24 rfl) rfl (fun g => absurd g (by decide)) (fun _ => ?_)
  refine zr_aload_n C 1 rfl (zdec_at dm_X0_init 25 rfl) rfl ?_
  have q99 : M92 99 5 = 101 := by rw [e92, zset_n _ (by decide), e80, zset_n _ (by decide), e68, zset_n _ (by decide), e56, zset_n _ (by decide), e44, zset_n _ (by decide), e32, zset_n _ (by decide), e20, zset_n _ (by decide), e17, zset_n _ (by decide), e14, zset_n _ (by decide), e10, zset_s]
  refine zr_getm (κ := (103, 3, 400)) C fk_RX0_15 (by decide +kernel) (zdec_at dm_X0_init 26 rfl) ?_
  rw [q99, zA_pos (by decide)]
  refine zr_iload_n C 0 rfl (zdec_at dm_X0_init 27 rfl) rfl ?_
  refine zr_bipush C (zdec_at dm_X0_init 28 rfl) (by decide) ?_
  refine zr_iload_n C 0 rfl (zdec_at dm_X0_init 29 rfl) rfl ?_
  refine zr_imul C (zdec_at dm_X0_init 30 rfl) ?_
  refine zr_iast (κ := (103, 3, 400)) (len := 16) C (by decide +kernel) (by decide) (by decide) (zdec_at dm_X0_init 31 rfl) (fun M104 e104 => ?_)
  have hR104 : zRng M104 := by rw [e104]; exact hR92.set (by decide) _ _
  have hF104 : zfrs M104 103 := by rw [e104]; exact hF92.set (by decide) _ _
  refine zr_iinc (L1 := [(1, zI (6 + 1)), (0, zRf (zad Γ) 99)]) C 0 rfl (zdec_at dm_X0_init 32 rfl) (Nat.le_of_ble_eq_true rfl) rfl ?_
  change zV Γ mc_X0_init_99 (103, 3, 400) 61 [(1, zI 7), (0, zRf (zad Γ) 99)] [] M104
  refine zr_goto C (zdec_at dm_X0_init 33 rfl) rfl ?_
  refine zr_iload_n C 0 rfl (zdec_at dm_X0_init 22 rfl) rfl ?_
  refine zr_bipush C (zdec_at dm_X0_init 23 rfl) (by decide) ?_
  refine zr_icmp_ge C (by decide) (by decide) (zdec_at dm_X0_init 24 rfl) rfl (fun g => absurd g (by decide)) (fun _ => ?_)
  refine zr_aload_n C 1 rfl (zdec_at dm_X0_init 25 rfl) rfl ?_
  have q111 : M104 99 5 = 101 := by rw [e104, zset_n _ (by decide), e92, zset_n _ (by decide), e80, zset_n _ (by decide), e68, zset_n _ (by decide), e56, zset_n _ (by decide), e44, zset_n _ (by decide), e32, zset_n _ (by decide), e20, zset_n _ (by decide), e17, zset_n _ (by decide), e14, zset_n _ (by decide), e10, zset_s]
  refine zr_getm (κ := (103, 3, 400)) C fk_RX0_15 (by decide +kernel) (zdec_at dm_X0_init 26 rfl) ?_
  rw [q111, zA_pos (by decide)]
  refine zr_iload_n C 0 rfl (zdec_at dm_X0_init 27 rfl) rfl ?_
  refine zr_bipush C (zdec_at dm_X0_init 28 rfl) (by decide) ?_
  refine zr_iload_n C 0 rfl (zdec_at dm_X0_init 29 rfl) rfl ?_
  refine zr_imul C (zdec_at dm_X0_init 30 rfl) ?_
  refine zr_iast (κ := (103, 3, 400)) (len := 16) C (by decide +kernel) (by decide) (by decide) (zdec_at dm_X0_init 31 rfl) (fun M116 e116 => ?_)
  have hR116 : zRng M116 := by rw [e116]; exact hR104.set (by decide) _ _
  have hF116 : zfrs M116 103 := by rw [e116]; exact hF104.set (by decide) _ _
  refine zr_iinc (L1 := [(1, zI (7 + 1)), (0, zRf (zad Γ) 99)]) C 0 rfl (zdec_at dm_X0_init 32 rfl) (Nat.le_of_ble_eq_true rfl) rfl ?_
  change zV Γ mc_X0_init_99 (103, 3, 400) 61 [(1, zI 8), (0, zRf (zad Γ) 99)] [] M116
  refine zr_goto C (zdec_at dm_X0_init 33 rfl) rfl ?_
  refine zr_iload_n C 0 rfl (zdec_at dm_X0_init 22 rfl) rfl ?_
  refine zr_bipush C (zdec_at dm_X0_init 23 rfl) (by decide) ?_
  refine zr_icmp_ge C (by decide) (by decide) (zdec_at dm_X0_init 24 rfl) rfl (fun g => absurd g (by decide)) (fun _ => ?_)
  refine zr_aload_n C 1 rfl (zdec_at dm_X0_init 25 rfl) rfl ?_
  have q123 : M116 99 5 = 101 := by rw [e116, zset_n _ (by decide), e104, zset_n _ (by decide), e92, zset_n _ (by decide), e80, zset_n _ (by decide), e68, zset_n _ (by decide), e56, zset_n _ (by decide), e44, zset_n _ (by decide), e32, zset_n _ (by decide), e20, zset_n _ (by decide), e17, zset_n _ (by decide), e14, zset_n _ (by decide), e10, zset_s]
  refine zr_getm (κ := (103, 3, 400)) C fk_RX0_15 (by decide +kernel) (zdec_at dm_X0_init 26 rfl) ?_
  rw [q123, zA_pos (by decide)]
  refine zr_iload_n C 0 rfl (zdec_at dm_X0_init 27 rfl) rfl ?_
  refine zr_bipush C (zdec_at dm_X0_init 28 rfl) (by decide) ?_
  refine zr_iload_n C 0 rfl (zdec_at dm_X0_init 29 rfl) rfl ?_
  refine zr_imul C (zdec_at dm_X0_init 30 rfl) ?_
  refine zr_iast (κ := (103, 3, 400)) (len := 16) C (by decide +kernel) (by decide) (by decide) (zdec_at dm_X0_init 31 rfl) (fun M128 e128 => ?_)
  have hR128 : zRng M128 := by rw [e128]; exact hR116.set (by decide) _ _
  have hF128 : zfrs M128 103 := by rw [e128]; exact hF116.set (by decide) _ _
  refine zr_iinc (L1 := [(1, zI (8 + 1)), (0, zRf (zad Γ) 99)]) C 0 rfl (zdec_at dm_X0_init 32 rfl) (Nat.le_of_ble_eq_true rfl) rfl ?_
  change zV Γ mc_X0_init_99 (103, 3, 400) 61 [(1, zI 9), (0, zRf (zad Γ) 99)] [] M128
  refine zr_goto C (zdec_at dm_X0_init 33 rfl) rfl ?_
  refine zr_iload_n C 0 rfl (zdec_at dm_X0_init 22 rfl) rfl ?_
  refine zr_bipush C (zdec_at dm_X0_init 23 rfl) (by decide) ?_
  refine zr_icmp_ge C (by decide) (by decide) (zdec_at dm_X0_init 24 rfl) rfl (fun g => absurd g (by decide)) (fun _ => ?_)
  refine zr_aload_n C 1 rfl (zdec_at dm_X0_init 25 rfl) rfl ?_
  have q135 : M128 99 5 = 101 := by rw [e128, zset_n _ (by decide), e116, zset_n _ (by decide), e104, zset_n _ (by decide), e92, zset_n _ (by decide), e80, zset_n _ (by decide), e68, zset_n _ (by decide), e56, zset_n _ (by decide), e44, zset_n _ (by decide), e32, zset_n _ (by decide), e20, zset_n _ (by decide), e17, zset_n _ (by decide), e14, zset_n _ (by decide), e10, zset_s]
  refine zr_getm (κ := (103, 3, 400)) C fk_RX0_15 (by decide +kernel) (zdec_at dm_X0_init 26 rfl) ?_
  rw [q135, zA_pos (by decide)]
  refine zr_iload_n C 0 rfl (zdec_at dm_X0_init 27 rfl) rfl ?_
  refine zr_bipush C (zdec_at dm_X0_init 28 rfl) (by decide) ?_
  refine zr_iload_n C 0 rfl (zdec_at dm_X0_init 29 rfl) rfl ?_
  refine zr_imul C (zdec_at dm_X0_init 30 rfl) ?_
  refine zr_iast (κ := (103, 3, 400)) (len := 16) C (by decide +kernel) (by decide) (by decide) (zdec_at dm_X0_init 31 rfl) (fun M140 e140 => ?_)
  have hR140 : zRng M140 := by rw [e140]; exact hR128.set (by decide) _ _
  have hF140 : zfrs M140 103 := by rw [e140]; exact hF128.set (by decide) _ _
  refine zr_iinc (L1 := [(1, zI (9 + 1)), (0, zRf (zad Γ) 99)]) C 0 rfl (zdec_at dm_X0_init 32 rfl) (Nat.le_of_ble_eq_true rfl) rfl ?_
  change zV Γ mc_X0_init_99 (103, 3, 400) 61 [(1, zI 10), (0, zRf (zad Γ) 99)] [] M140
  refine zr_goto C (zdec_at dm_X0_init 33 rfl) rfl ?_
  refine zr_iload_n C 0 rfl (zdec_at dm_X0_init 22 rfl) rfl ?_
  refine zr_bipush C (zdec_at dm_X0_init 23 rfl) (by decide) ?_
  refine zr_icmp_ge C (by decide) (by decide) (zdec_at dm_X0_init 24 rfl) rfl (fun g => absurd g (by decide)) (fun _ => ?_)
  refine zr_aload_n C 1 rfl (zdec_at dm_X0_init 25 rfl) rfl ?_
  have q147 : M140 99 5 = 101 := by rw [e140, zset_n _ (by decide), e128, zset_n _ (by decide), e116, zset_n _ (by decide), e104, zset_n _ (by decide), e92, zset_n _ (by decide), e80, zset_n _ (by decide), e68, zset_n _ (by decide), e56, zset_n _ (by decide), e44, zset_n _ (by decide), e32, zset_n _ (by decide), e20, zset_n _ (by decide), e17, zset_n _ (by decide), e14, zset_n _ (by decide), e10, zset_s]
  refine zr_getm (κ := (103, 3, 400)) C fk_RX0_15 (by decide +kernel) (zdec_at dm_X0_init 26 rfl) ?_
  rw [q147, zA_pos (by decide)]
  refine zr_iload_n C 0 rfl (zdec_at dm_X0_init 27 rfl) rfl ?_
  refine zr_bipush C (zdec_at dm_X0_init 28 rfl) (by decide) ?_
  refine zr_iload_n C 0 rfl (zdec_at dm_X0_init 29 rfl) rfl ?_
  refine zr_imul C (zdec_at dm_X0_init 30 rfl) ?_
  refine zr_iast (κ := (103, 3, 400)) (len := 16) C (by decide +kernel) (by decide) (by decide) (zdec_at dm_X0_init 31 rfl) (fun M152 e152 => ?_)
  have hR152 : zRng M152 := by rw [e152]; exact hR140.set (by decide) _ _
  have hF152 : zfrs M152 103 := by rw [e152]; exact hF140.set (by decide) _ _
  refine zr_iinc (L1 := [(1, zI (10 + 1)), (0, zRf (zad Γ) 99)]) C 0 rfl (zdec_at dm_X0_init 32 rfl) (Nat.le_of_ble_eq_true rfl) rfl ?_
  change zV Γ mc_X0_init_99 (103, 3, 400) 61 [(1, zI 11), (0, zRf (zad Γ) 99)] [] M152
  refine zr_goto C (zdec_at dm_X0_init 33 rfl) rfl ?_
  refine zr_iload_n C 0 rfl (zdec_at dm_X0_init 22 rfl) rfl ?_
  refine zr_bipush C (zdec_at dm_X0_init 23 rfl) (by decide) ?_
  refine zr_icmp_ge C (by decide) (by decide) (zdec_at dm_X0_init 24 rfl) rfl (fun g => absurd g (by decide)) (fun _ => ?_)
  refine zr_aload_n C 1 rfl (zdec_at dm_X0_init 25 rfl) rfl ?_
  have q159 : M152 99 5 = 101 := by rw [e152, zset_n _ (by decide), e140, zset_n _ (by decide), e128, zset_n _ (by decide), e116, zset_n _ (by decide), e104, zset_n _ (by decide), e92, zset_n _ (by decide), e80, zset_n _ (by decide), e68, zset_n _ (by decide), e56, zset_n _ (by decide), e44, zset_n _ (by decide), e32, zset_n _ (by decide), e20, zset_n _ (by decide), e17, zset_n _ (by decide), e14, zset_n _ (by decide), e10, zset_s]
  refine zr_getm (κ := (103, 3, 400)) C fk_RX0_15 (by decide +kernel) (zdec_at dm_X0_init 26 rfl) ?_
  rw [q159, zA_pos (by decide)]
  refine zr_iload_n C 0 rfl (zdec_at dm_X0_init 27 rfl) rfl ?_
  refine zr_bipush C (zdec_at dm_X0_init 28 rfl) (by decide) ?_
  refine zr_iload_n C 0 rfl (zdec_at dm_X0_init 29 rfl) rfl ?_
  refine zr_imul C (zdec_at dm_X0_init 30 rfl) ?_
  refine zr_iast (κ := (103, 3, 400)) (len := 16) C (by decide +kernel) (by decide) (by decide) (zdec_at dm_X0_init 31 rfl) (fun M164 e164 => ?_)
  have hR164 : zRng M164 := by rw [e164]; exact hR152.set (by decide) _ _
  have hF164 : zfrs M164 103 := by rw [e164]; exact hF152.set (by decide) _ _
  refine zr_iinc (L1 := [(1, zI (11 + 1)), (0, zRf (zad Γ) 99)]) C 0 rfl (zdec_at dm_X0_init 32 rfl) (Nat.le_of_ble_eq_true rfl) rfl ?_
  change zV Γ mc_X0_init_99 (103, 3, 400) 61 [(1, zI 12), (0, zRf (zad Γ) 99)] [] M164
  refine zr_goto C (zdec_at dm_X0_init 33 rfl) rfl ?_
  refine zr_iload_n C 0 rfl (zdec_at dm_X0_init 22 rfl) rfl ?_
  refine zr_bipush C (zdec_at dm_X0_init 23 rfl) (by decide) ?_
  refine zr_icmp_ge C (by decide) (by decide) (zdec_at dm_X0_init 24 rfl) rfl (fun g => absurd g (by decide)) (fun _ => ?_)
  refine zr_aload_n C 1 rfl (zdec_at dm_X0_init 25 rfl) rfl ?_
  have q171 : M164 99 5 = 101 := by rw [e164, zset_n _ (by decide), e152, zset_n _ (by decide), e140, zset_n _ (by decide), e128, zset_n _ (by decide), e116, zset_n _ (by decide), e104, zset_n _ (by decide), e92, zset_n _ (by decide), e80, zset_n _ (by decide), e68, zset_n _ (by decide), e56, zset_n _ (by decide), e44, zset_n _ (by decide), e32, zset_n _ (by decide), e20, zset_n _ (by decide), e17, zset_n _ (by decide), e14, zset_n _ (by decide), e10, zset_s]
  refine zr_getm (κ := (103, 3, 400)) C fk_RX0_15 (by decide +kernel) (zdec_at dm_X0_init 26 rfl) ?_
  rw [q171, zA_pos (by decide)]
  refine zr_iload_n C 0 rfl (zdec_at dm_X0_init 27 rfl) rfl ?_
  refine zr_bipush C (zdec_at dm_X0_init 28 rfl) (by decide) ?_
  refine zr_iload_n C 0 rfl (zdec_at dm_X0_init 29 rfl) rfl ?_
  refine zr_imul C (zdec_at dm_X0_init 30 rfl) ?_
  refine zr_iast (κ := (103, 3, 400)) (len := 16) C (by decide +kernel) (by decide) (by decide) (zdec_at dm_X0_init 31 rfl) (fun M176 e176 => ?_)
  have hR176 : zRng M176 := by rw [e176]; exact hR164.set (by decide) _ _
  have hF176 : zfrs M176 103 := by rw [e176]; exact hF164.set (by decide) _ _
  refine zr_iinc (L1 := [(1, zI (12 + 1)), (0, zRf (zad Γ) 99)]) C 0 rfl (zdec_at dm_X0_init 32 rfl) (Nat.le_of_ble_eq_true rfl) rfl ?_
  change zV Γ mc_X0_init_99 (103, 3, 400) 61 [(1, zI 13), (0, zRf (zad Γ) 99)] [] M176
  refine zr_goto C (zdec_at dm_X0_init 33 rfl) rfl ?_
  refine zr_iload_n C 0 rfl (zdec_at dm_X0_init 22 rfl) rfl ?_
  refine zr_bipush C (zdec_at dm_X0_init 23 rfl) (by decide) ?_
  refine zr_icmp_ge C (by decide) (by decide) (zdec_at dm_X0_init 24 rfl) rfl (fun g => absurd g (by decide)) (fun _ => ?_)
  refine zr_aload_n C 1 rfl (zdec_at dm_X0_init 25 rfl) rfl ?_
  have q183 : M176 99 5 = 101 := by rw [e176, zset_n _ (by decide), e164, zset_n _ (by decide), e152, zset_n _ (by decide), e140, zset_n _ (by decide), e128, zset_n _ (by decide), e116, zset_n _ (by decide), e104, zset_n _ (by decide), e92, zset_n _ (by decide), e80, zset_n _ (by decide), e68, zset_n _ (by decide), e56, zset_n _ (by decide), e44, zset_n _ (by decide), e32, zset_n _ (by decide), e20, zset_n _ (by decide), e17, zset_n _ (by decide), e14, zset_n _ (by decide), e10, zset_s]
  refine zr_getm (κ := (103, 3, 400)) C fk_RX0_15 (by decide +kernel) (zdec_at dm_X0_init 26 rfl) ?_
  rw [q183, zA_pos (by decide)]
  refine zr_iload_n C 0 rfl (zdec_at dm_X0_init 27 rfl) rfl ?_
  refine zr_bipush C (zdec_at dm_X0_init 28 rfl) (by decide) ?_
  refine zr_iload_n C 0 rfl (zdec_at dm_X0_init 29 rfl) rfl ?_
  refine zr_imul C (zdec_at dm_X0_init 30 rfl) ?_
  refine zr_iast (κ := (103, 3, 400)) (len := 16) C (by decide +kernel) (by decide) (by decide) (zdec_at dm_X0_init 31 rfl) (fun M188 e188 => ?_)
  have hR188 : zRng M188 := by rw [e188]; exact hR176.set (by decide) _ _
  have hF188 : zfrs M188 103 := by rw [e188]; exact hF176.set (by decide) _ _
  refine zr_iinc (L1 := [(1, zI (13 + 1)), (0, zRf (zad Γ) 99)]) C 0 rfl (zdec_at dm_X0_init 32 rfl) (Nat.le_of_ble_eq_true rfl) rfl ?_
  change zV Γ mc_X0_init_99 (103, 3, 400) 61 [(1, zI 14), (0, zRf (zad Γ) 99)] [] M188
  refine zr_goto C (zdec_at dm_X0_init 33 rfl) rfl ?_
  refine zr_iload_n C 0 rfl (zdec_at dm_X0_init 22 rfl) rfl ?_
  refine zr_bipush C (zdec_at dm_X0_init 23 rfl) (by decide) ?_
  refine zr_icmp_ge C (by decide) (by decide) (zdec_at dm_X0_init 24 rfl) rfl (fun g => absurd g (by decide)) (fun _ => ?_)
  refine zr_aload_n C 1 rfl (zdec_at dm_X0_init 25 rfl) rfl ?_
  have q195 : M188 99 5 = 101 := by rw [e188, zset_n _ (by decide), e176, zset_n _ (by decide), e164, zset_n _ (by decide), e152, zset_n _ (by decide), e140, zset_n _ (by decide), e128, zset_n _ (by decide), e116, zset_n _ (by decide), e104, zset_n _ (by decide), e92, zset_n _ (by decide), e80, zset_n _ (by decide), e68, zset_n _ (by decide), e56, zset_n _ (by decide), e44, zset_n _ (by decide), e32, zset_n _ (by decide), e20, zset_n _ (by decide), e17, zset_n _ (by decide), e14, zset_n _ (by decide), e10, zset_s]
  refine zr_getm (κ := (103, 3, 400)) C fk_RX0_15 (by decide +kernel) (zdec_at dm_X0_init 26 rfl) ?_
  rw [q195, zA_pos (by decide)]
  refine zr_iload_n C 0 rfl (zdec_at dm_X0_init 27 rfl) rfl ?_
  refine zr_bipush C (zdec_at dm_X0_init 28 rfl) (by decide) ?_
  refine zr_iload_n C 0 rfl (zdec_at dm_X0_init 29 rfl) rfl ?_
  refine zr_imul C (zdec_at dm_X0_init 30 rfl) ?_
  refine zr_iast (κ := (103, 3, 400)) (len := 16) C (by decide +kernel) (by decide) (by decide) (zdec_at dm_X0_init 31 rfl) (fun M200 e200 => ?_)
  have hR200 : zRng M200 := by rw [e200]; exact hR188.set (by decide) _ _
  have hF200 : zfrs M200 103 := by rw [e200]; exact hF188.set (by decide) _ _
  refine zr_iinc (L1 := [(1, zI (14 + 1)), (0, zRf (zad Γ) 99)]) C 0 rfl (zdec_at dm_X0_init 32 rfl) (Nat.le_of_ble_eq_true rfl) rfl ?_
  change zV Γ mc_X0_init_99 (103, 3, 400) 61 [(1, zI 15), (0, zRf (zad Γ) 99)] [] M200
  refine zr_goto C (zdec_at dm_X0_init 33 rfl) rfl ?_
  refine zr_iload_n C 0 rfl (zdec_at dm_X0_init 22 rfl) rfl ?_
  refine zr_bipush C (zdec_at dm_X0_init 23 rfl) (by decide) ?_
  refine zr_icmp_ge C (by decide) (by decide) (zdec_at dm_X0_init 24 rfl) rfl (fun g => absurd g (by decide)) (fun _ => ?_)
  refine zr_aload_n C 1 rfl (zdec_at dm_X0_init 25 rfl) rfl ?_
  have q207 : M200 99 5 = 101 := by rw [e200, zset_n _ (by decide), e188, zset_n _ (by decide), e176, zset_n _ (by decide), e164, zset_n _ (by decide), e152, zset_n _ (by decide), e140, zset_n _ (by decide), e128, zset_n _ (by decide), e116, zset_n _ (by decide), e104, zset_n _ (by decide), e92, zset_n _ (by decide), e80, zset_n _ (by decide), e68, zset_n _ (by decide), e56, zset_n _ (by decide), e44, zset_n _ (by decide), e32, zset_n _ (by decide), e20, zset_n _ (by decide), e17, zset_n _ (by decide), e14, zset_n _ (by decide), e10, zset_s]
  refine zr_getm (κ := (103, 3, 400)) C fk_RX0_15 (by decide +kernel) (zdec_at dm_X0_init 26 rfl) ?_
  rw [q207, zA_pos (by decide)]
  refine zr_iload_n C 0 rfl (zdec_at dm_X0_init 27 rfl) rfl ?_
  refine zr_bipush C (zdec_at dm_X0_init 28 rfl) (by decide) ?_
  refine zr_iload_n C 0 rfl (zdec_at dm_X0_init 29 rfl) rfl ?_
  refine zr_imul C (zdec_at dm_X0_init 30 rfl) ?_
  refine zr_iast (κ := (103, 3, 400)) (len := 16) C (by decide +kernel) (by decide) (by decide) (zdec_at dm_X0_init 31 rfl) (fun M212 e212 => ?_)
  have hR212 : zRng M212 := by rw [e212]; exact hR200.set (by decide) _ _
  have hF212 : zfrs M212 103 := by rw [e212]; exact hF200.set (by decide) _ _
  refine zr_iinc (L1 := [(1, zI (15 + 1)), (0, zRf (zad Γ) 99)]) C 0 rfl (zdec_at dm_X0_init 32 rfl) (Nat.le_of_ble_eq_true rfl) rfl ?_
  change zV Γ mc_X0_init_99 (103, 3, 400) 61 [(1, zI 16), (0, zRf (zad Γ) 99)] [] M212
  refine zr_goto C (zdec_at dm_X0_init 33 rfl) rfl ?_
  refine zr_iload_n C 0 rfl (zdec_at dm_X0_init 22 rfl) rfl ?_
  refine zr_bipush C (zdec_at dm_X0_init 23 rfl) (by decide) ?_
  refine zr_icmp_ge C (by decide) (by decide) (zdec_at dm_X0_init 24 rfl) rfl (fun _ => ?_) (fun g => absurd (by decide) g)
  refine zr_return (κ := (103, 3, 400)) C rfl rfl (zdec_at dm_X0_init 34 rfl) rfl ⟨by decide, ?_⟩
  have eM : M212 = cf_X0_init_99 M := by rw [e212, e200, e188, e176, e164, e152, e140, e128, e116, e104, e92, e80, e68, e56, e44, e32, e20, e17, e14, e10, e6]; rfl
  rw [eM] at hF212 ⊢
  exact h hF212

def cf_X12_init_103 (M : zM) : zM :=
  let M5 := zset M 103 1 1
  let M8 := zset M5 103 2 1
  let M12 := zset M8 103 3 104
  let M19 := zset M12 105 0 0
  let M23 := zset M19 105 1 17
  let M27 := zset M23 105 2 34
  let M31 := zset M27 105 3 51
  let M35 := zset M31 105 4 68
  let M39 := zset M35 105 5 85
  let M43 := zset M39 105 6 102
  let M47 := zset M43 105 7 119
  let M51 := zset M47 105 8 136
  let M55 := zset M51 105 9 153
  let M59 := zset M55 105 10 170
  let M63 := zset M59 105 11 187
  let M67 := zset M63 105 12 204
  let M71 := zset M67 105 13 221
  let M75 := zset M71 105 14 238
  let M79 := zset M75 105 15 255
  let M80 := zset M79 103 4 105
  let M84 := zset M80 103 6 106
  let M88 := zset M84 103 10 107
  let M92 := zset M88 103 11 108
  let M96 := zset M92 103 12 109
  let M100 := zset M96 103 16 110
  let M104 := zset M100 103 17 111
  let M108 := zset M104 103 20 112
  let M112 := zset M108 103 25 113
  let M116 := zset M112 103 28 114
  let M120 := zset M116 103 29 115
  let M124 := zset M120 103 31 116
  let M128 := zset M124 103 36 117
  let M132 := zset M128 103 39 118
  let M136 := zset M132 103 40 119
  let M140 := zset M136 103 41 120
  let M144 := zset M140 103 43 121
  let M148 := zset M144 103 44 122
  let M152 := zset M148 103 45 123
  let M156 := zset M152 103 46 124
  let M160 := zset M156 103 47 125
  let M164 := zset M160 103 48 126
  let M168 := zset M164 103 49 127
  let M172 := zset M168 103 51 128
  let M176 := zset M172 103 54 129
  let M180 := zset M176 103 55 130
  let M184 := zset M180 103 56 131
  let M188 := zset M184 103 61 132
  let M192 := zset M188 103 63 133
  let M196 := zset M192 103 65 134
  let M200 := zset M196 103 66 135
  let M204 := zset M200 103 67 136
  let M208 := zset M204 103 68 137
  let M212 := zset M208 103 69 138
  let M216 := zset M212 103 70 139
  let M220 := zset M216 103 71 140
  let M224 := zset M220 103 72 141
  let M228 := zset M224 103 73 142
  let M232 := zset M228 103 74 143
  M232
abbrev mc_X12_init_103 : zMc := (cX12_init, RX12, 1, none, 1, zS0, 104, 40, 1216673)
set_option maxHeartbeats 4000000 in
set_option maxRecDepth 100000 in
theorem sc_X12_init_103 : zSnd zS0 104 40 1216673 yX12_init cX12_init 1 none 1 [2] (fun xs P M => xs = [103] ∧ zfrs M 104 ∧ (zfrs (cf_X12_init_103 M) 144 → P 0 (cf_X12_init_103 M))) := by
  refine zSnd.of rfl (fun ad xs hz => Nat.le_trans (Nat.le_of_eq (zlen ad _ xs hz)) (by decide)) ?_
  intro Γ C hAd0 hini0 xs M hz hF0
  obtain ⟨rfl, hF, h⟩ := hF0
  have hAd := hAd0 (by decide)
  have hini := hini0 rfl
  refine zr_rng (fun hR => ?_)
  have C : zC Γ mc_X12_init_103 := C
  change zV Γ mc_X12_init_103 (104, 0, 0) 0 [(0, zRf (zad Γ) 103)] [] M
  refine zr_aload_n C 0 rfl (zdec_at dm_X12_init 0 rfl) rfl ?_
  refine zr_obj (κ := (104, 0, 0)) C ob_RX12_1 ob_i ob_c (by decide) (Nat.le_of_ble_eq_true rfl) (zdec_at dm_X12_init 1 rfl) ?_
  refine zr_aload_n C 0 rfl (zdec_at dm_X12_init 2 rfl) rfl ?_
  refine zr_iconst C (zdec_at dm_X12_init 3 rfl) ?_
  refine zr_puti (κ := (104, 0, 0)) C fk_RX12_7 (by decide +kernel) (by decide) (zdec_at dm_X12_init 4 rfl) (fun M5 e5 => ?_)
  have hR5 : zRng M5 := by rw [e5]; exact hR.set (by decide) _ _
  have hF5 : zfrs M5 104 := by rw [e5]; exact hF.set (by decide) _ _
  refine zr_aload_n C 0 rfl (zdec_at dm_X12_init 5 rfl) rfl ?_
  refine zr_iconst C (zdec_at dm_X12_init 6 rfl) ?_
  refine zr_puti (κ := (104, 0, 0)) C fk_RX12_13 (by decide +kernel) (by decide) (zdec_at dm_X12_init 7 rfl) (fun M8 e8 => ?_)
  have hR8 : zRng M8 := by rw [e8]; exact hR5.set (by decide) _ _
  have hF8 : zfrs M8 104 := by rw [e8]; exact hF5.set (by decide) _ _
  refine zr_aload_n C 0 rfl (zdec_at dm_X12_init 8 rfl) rfl ?_
  refine zr_sipush C (zdec_at dm_X12_init 9 rfl) (by decide) ?_
  refine zr_newI (κ := (104, 0, 0)) (len := 192) C hAd rfl (by decide) na_int rfl rfl (by decide) (fun k _ => hF8.a (Nat.le_refl _) rfl k) ⟨by decide, by decide⟩ (zdec_at dm_X12_init 10 rfl) ?_
  have hF11 := hF8.le (m := 105) (by decide)
  change zV Γ mc_X12_init_103 (105, 1, 192) 20 [(0, zRf (zad Γ) 103)] [zRf (zad Γ) 104, zRf (zad Γ) 103] M8
  refine zr_putF (κ := (105, 1, 192)) C hini rfl (by decide +kernel) fk_RX12_16 (fun _ => ⟨rfl, rfl⟩) (by decide +kernel) (by decide) (by decide) (zdec_at dm_X12_init 11 rfl) (fun M12 e12 => ?_)
  have hR12 : zRng M12 := by rw [e12]; exact hR8.set (by decide) _ _
  have hF12 : zfrs M12 105 := by rw [e12]; exact hF11.set (by decide) _ _
  refine zr_aload_n C 0 rfl (zdec_at dm_X12_init 12 rfl) rfl ?_
  refine zr_bipush C (zdec_at dm_X12_init 13 rfl) (by decide) ?_
  refine zr_newI (κ := (105, 1, 192)) (len := 16) C hAd rfl (by decide) na_int rfl rfl (by decide) (fun k _ => hF12.a (Nat.le_refl _) rfl k) ⟨by decide, by decide⟩ (zdec_at dm_X12_init 14 rfl) ?_
  have hF15 := hF12.le (m := 106) (by decide)
  change zV Γ mc_X12_init_103 (106, 2, 208) 28 [(0, zRf (zad Γ) 103)] [zRf (zad Γ) 105, zRf (zad Γ) 103] M12
  refine zr_dup C rfl (zdec_at dm_X12_init 15 rfl) ?_
  refine zr_iconst C (zdec_at dm_X12_init 16 rfl) ?_
  refine zr_iconst C (zdec_at dm_X12_init 17 rfl) ?_
  refine zr_iast (κ := (106, 2, 208)) (len := 16) C (by decide +kernel) (by decide) (by decide) (zdec_at dm_X12_init 18 rfl) (fun M19 e19 => ?_)
  have hR19 : zRng M19 := by rw [e19]; exact hR12.set (by decide) _ _
  have hF19 : zfrs M19 106 := by rw [e19]; exact hF15.set (by decide) _ _
  refine zr_dup C rfl (zdec_at dm_X12_init 19 rfl) ?_
  refine zr_iconst C (zdec_at dm_X12_init 20 rfl) ?_
  refine zr_bipush C (zdec_at dm_X12_init 21 rfl) (by decide) ?_
  refine zr_iast (κ := (106, 2, 208)) (len := 16) C (by decide +kernel) (by decide) (by decide) (zdec_at dm_X12_init 22 rfl) (fun M23 e23 => ?_)
  have hR23 : zRng M23 := by rw [e23]; exact hR19.set (by decide) _ _
  have hF23 : zfrs M23 106 := by rw [e23]; exact hF19.set (by decide) _ _
  refine zr_dup C rfl (zdec_at dm_X12_init 23 rfl) ?_
  refine zr_iconst C (zdec_at dm_X12_init 24 rfl) ?_
  refine zr_bipush C (zdec_at dm_X12_init 25 rfl) (by decide) ?_
  refine zr_iast (κ := (106, 2, 208)) (len := 16) C (by decide +kernel) (by decide) (by decide) (zdec_at dm_X12_init 26 rfl) (fun M27 e27 => ?_)
  have hR27 : zRng M27 := by rw [e27]; exact hR23.set (by decide) _ _
  have hF27 : zfrs M27 106 := by rw [e27]; exact hF23.set (by decide) _ _
  refine zr_dup C rfl (zdec_at dm_X12_init 27 rfl) ?_
  refine zr_iconst C (zdec_at dm_X12_init 28 rfl) ?_
  refine zr_bipush C (zdec_at dm_X12_init 29 rfl) (by decide) ?_
  refine zr_iast (κ := (106, 2, 208)) (len := 16) C (by decide +kernel) (by decide) (by decide) (zdec_at dm_X12_init 30 rfl) (fun M31 e31 => ?_)
  have hR31 : zRng M31 := by rw [e31]; exact hR27.set (by decide) _ _
  have hF31 : zfrs M31 106 := by rw [e31]; exact hF27.set (by decide) _ _
  refine zr_dup C rfl (zdec_at dm_X12_init 31 rfl) ?_
  refine zr_iconst C (zdec_at dm_X12_init 32 rfl) ?_
  refine zr_bipush C (zdec_at dm_X12_init 33 rfl) (by decide) ?_
  refine zr_iast (κ := (106, 2, 208)) (len := 16) C (by decide +kernel) (by decide) (by decide) (zdec_at dm_X12_init 34 rfl) (fun M35 e35 => ?_)
  have hR35 : zRng M35 := by rw [e35]; exact hR31.set (by decide) _ _
  have hF35 : zfrs M35 106 := by rw [e35]; exact hF31.set (by decide) _ _
  refine zr_dup C rfl (zdec_at dm_X12_init 35 rfl) ?_
  refine zr_iconst C (zdec_at dm_X12_init 36 rfl) ?_
  refine zr_bipush C (zdec_at dm_X12_init 37 rfl) (by decide) ?_
  refine zr_iast (κ := (106, 2, 208)) (len := 16) C (by decide +kernel) (by decide) (by decide) (zdec_at dm_X12_init 38 rfl) (fun M39 e39 => ?_)
  have hR39 : zRng M39 := by rw [e39]; exact hR35.set (by decide) _ _
  have hF39 : zfrs M39 106 := by rw [e39]; exact hF35.set (by decide) _ _
  refine zr_dup C rfl (zdec_at dm_X12_init 39 rfl) ?_
  refine zr_bipush C (zdec_at dm_X12_init 40 rfl) (by decide) ?_
  refine zr_bipush C (zdec_at dm_X12_init 41 rfl) (by decide) ?_
  refine zr_iast (κ := (106, 2, 208)) (len := 16) C (by decide +kernel) (by decide) (by decide) (zdec_at dm_X12_init 42 rfl) (fun M43 e43 => ?_)
  have hR43 : zRng M43 := by rw [e43]; exact hR39.set (by decide) _ _
  have hF43 : zfrs M43 106 := by rw [e43]; exact hF39.set (by decide) _ _
  refine zr_dup C rfl (zdec_at dm_X12_init 43 rfl) ?_
  refine zr_bipush C (zdec_at dm_X12_init 44 rfl) (by decide) ?_
  refine zr_bipush C (zdec_at dm_X12_init 45 rfl) (by decide) ?_
  refine zr_iast (κ := (106, 2, 208)) (len := 16) C (by decide +kernel) (by decide) (by decide) (zdec_at dm_X12_init 46 rfl) (fun M47 e47 => ?_)
  have hR47 : zRng M47 := by rw [e47]; exact hR43.set (by decide) _ _
  have hF47 : zfrs M47 106 := by rw [e47]; exact hF43.set (by decide) _ _
  refine zr_dup C rfl (zdec_at dm_X12_init 47 rfl) ?_
  refine zr_bipush C (zdec_at dm_X12_init 48 rfl) (by decide) ?_
  refine zr_sipush C (zdec_at dm_X12_init 49 rfl) (by decide) ?_
  refine zr_iast (κ := (106, 2, 208)) (len := 16) C (by decide +kernel) (by decide) (by decide) (zdec_at dm_X12_init 50 rfl) (fun M51 e51 => ?_)
  have hR51 : zRng M51 := by rw [e51]; exact hR47.set (by decide) _ _
  have hF51 : zfrs M51 106 := by rw [e51]; exact hF47.set (by decide) _ _
  refine zr_dup C rfl (zdec_at dm_X12_init 51 rfl) ?_
  refine zr_bipush C (zdec_at dm_X12_init 52 rfl) (by decide) ?_
  refine zr_sipush C (zdec_at dm_X12_init 53 rfl) (by decide) ?_
  refine zr_iast (κ := (106, 2, 208)) (len := 16) C (by decide +kernel) (by decide) (by decide) (zdec_at dm_X12_init 54 rfl) (fun M55 e55 => ?_)
  have hR55 : zRng M55 := by rw [e55]; exact hR51.set (by decide) _ _
  have hF55 : zfrs M55 106 := by rw [e55]; exact hF51.set (by decide) _ _
  refine zr_dup C rfl (zdec_at dm_X12_init 55 rfl) ?_
  refine zr_bipush C (zdec_at dm_X12_init 56 rfl) (by decide) ?_
  refine zr_sipush C (zdec_at dm_X12_init 57 rfl) (by decide) ?_
  refine zr_iast (κ := (106, 2, 208)) (len := 16) C (by decide +kernel) (by decide) (by decide) (zdec_at dm_X12_init 58 rfl) (fun M59 e59 => ?_)
  have hR59 : zRng M59 := by rw [e59]; exact hR55.set (by decide) _ _
  have hF59 : zfrs M59 106 := by rw [e59]; exact hF55.set (by decide) _ _
  refine zr_dup C rfl (zdec_at dm_X12_init 59 rfl) ?_
  refine zr_bipush C (zdec_at dm_X12_init 60 rfl) (by decide) ?_
  refine zr_sipush C (zdec_at dm_X12_init 61 rfl) (by decide) ?_
  refine zr_iast (κ := (106, 2, 208)) (len := 16) C (by decide +kernel) (by decide) (by decide) (zdec_at dm_X12_init 62 rfl) (fun M63 e63 => ?_)
  have hR63 : zRng M63 := by rw [e63]; exact hR59.set (by decide) _ _
  have hF63 : zfrs M63 106 := by rw [e63]; exact hF59.set (by decide) _ _
  refine zr_dup C rfl (zdec_at dm_X12_init 63 rfl) ?_
  refine zr_bipush C (zdec_at dm_X12_init 64 rfl) (by decide) ?_
  refine zr_sipush C (zdec_at dm_X12_init 65 rfl) (by decide) ?_
  refine zr_iast (κ := (106, 2, 208)) (len := 16) C (by decide +kernel) (by decide) (by decide) (zdec_at dm_X12_init 66 rfl) (fun M67 e67 => ?_)
  have hR67 : zRng M67 := by rw [e67]; exact hR63.set (by decide) _ _
  have hF67 : zfrs M67 106 := by rw [e67]; exact hF63.set (by decide) _ _
  refine zr_dup C rfl (zdec_at dm_X12_init 67 rfl) ?_
  refine zr_bipush C (zdec_at dm_X12_init 68 rfl) (by decide) ?_
  refine zr_sipush C (zdec_at dm_X12_init 69 rfl) (by decide) ?_
  refine zr_iast (κ := (106, 2, 208)) (len := 16) C (by decide +kernel) (by decide) (by decide) (zdec_at dm_X12_init 70 rfl) (fun M71 e71 => ?_)
  have hR71 : zRng M71 := by rw [e71]; exact hR67.set (by decide) _ _
  have hF71 : zfrs M71 106 := by rw [e71]; exact hF67.set (by decide) _ _
  refine zr_dup C rfl (zdec_at dm_X12_init 71 rfl) ?_
  refine zr_bipush C (zdec_at dm_X12_init 72 rfl) (by decide) ?_
  refine zr_sipush C (zdec_at dm_X12_init 73 rfl) (by decide) ?_
  refine zr_iast (κ := (106, 2, 208)) (len := 16) C (by decide +kernel) (by decide) (by decide) (zdec_at dm_X12_init 74 rfl) (fun M75 e75 => ?_)
  have hR75 : zRng M75 := by rw [e75]; exact hR71.set (by decide) _ _
  have hF75 : zfrs M75 106 := by rw [e75]; exact hF71.set (by decide) _ _
  refine zr_dup C rfl (zdec_at dm_X12_init 75 rfl) ?_
  refine zr_bipush C (zdec_at dm_X12_init 76 rfl) (by decide) ?_
  refine zr_sipush C (zdec_at dm_X12_init 77 rfl) (by decide) ?_
  refine zr_iast (κ := (106, 2, 208)) (len := 16) C (by decide +kernel) (by decide) (by decide) (zdec_at dm_X12_init 78 rfl) (fun M79 e79 => ?_)
  have hR79 : zRng M79 := by rw [e79]; exact hR75.set (by decide) _ _
  have hF79 : zfrs M79 106 := by rw [e79]; exact hF75.set (by decide) _ _
  refine zr_putF (κ := (106, 2, 208)) C hini rfl (by decide +kernel) fk_RX12_20 (fun _ => ⟨rfl, rfl⟩) (by decide +kernel) (by decide) (by decide) (zdec_at dm_X12_init 79 rfl) (fun M80 e80 => ?_)
  have hR80 : zRng M80 := by rw [e80]; exact hR79.set (by decide) _ _
  have hF80 : zfrs M80 106 := by rw [e80]; exact hF79.set (by decide) _ _
  refine zr_aload_n C 0 rfl (zdec_at dm_X12_init 80 rfl) rfl ?_
  refine zr_sipush C (zdec_at dm_X12_init 81 rfl) (by decide) ?_
  refine zr_newI (κ := (106, 2, 208)) (len := 4032) C hAd rfl (by decide) na_int rfl rfl (by decide) (fun k _ => hF80.a (Nat.le_refl _) rfl k) ⟨by decide, by decide⟩ (zdec_at dm_X12_init 82 rfl) ?_
  have hF83 := hF80.le (m := 107) (by decide)
  change zV Γ mc_X12_init_103 (107, 3, 4240) 134 [(0, zRf (zad Γ) 103)] [zRf (zad Γ) 106, zRf (zad Γ) 103] M80
  refine zr_putF (κ := (107, 3, 4240)) C hini rfl (by decide +kernel) fk_RX12_23 (fun _ => ⟨rfl, rfl⟩) (by decide +kernel) (by decide) (by decide) (zdec_at dm_X12_init 83 rfl) (fun M84 e84 => ?_)
  have hR84 : zRng M84 := by rw [e84]; exact hR80.set (by decide) _ _
  have hF84 : zfrs M84 107 := by rw [e84]; exact hF83.set (by decide) _ _
  refine zr_aload_n C 0 rfl (zdec_at dm_X12_init 84 rfl) rfl ?_
  refine zr_sipush C (zdec_at dm_X12_init 85 rfl) (by decide) ?_
  refine zr_newI (κ := (107, 3, 4240)) (len := 1440) C hAd rfl (by decide) na_int rfl rfl (by decide) (fun k _ => hF84.a (Nat.le_refl _) rfl k) ⟨by decide, by decide⟩ (zdec_at dm_X12_init 86 rfl) ?_
  have hF87 := hF84.le (m := 108) (by decide)
  change zV Γ mc_X12_init_103 (108, 4, 5680) 143 [(0, zRf (zad Γ) 103)] [zRf (zad Γ) 107, zRf (zad Γ) 103] M84
  refine zr_putF (κ := (108, 4, 5680)) C hini rfl (by decide +kernel) fk_RX12_26 (fun _ => ⟨rfl, rfl⟩) (by decide +kernel) (by decide) (by decide) (zdec_at dm_X12_init 87 rfl) (fun M88 e88 => ?_)
  have hR88 : zRng M88 := by rw [e88]; exact hR84.set (by decide) _ _
  have hF88 : zfrs M88 108 := by rw [e88]; exact hF87.set (by decide) _ _
  refine zr_aload_n C 0 rfl (zdec_at dm_X12_init 88 rfl) rfl ?_
  refine zr_bipush C (zdec_at dm_X12_init 89 rfl) (by decide) ?_
  refine zr_newI (κ := (108, 4, 5680)) (len := 12) C hAd rfl (by decide) na_int rfl rfl (by decide) (fun k _ => hF88.a (Nat.le_refl _) rfl k) ⟨by decide, by decide⟩ (zdec_at dm_X12_init 90 rfl) ?_
  have hF91 := hF88.le (m := 109) (by decide)
  change zV Γ mc_X12_init_103 (109, 5, 5692) 151 [(0, zRf (zad Γ) 103)] [zRf (zad Γ) 108, zRf (zad Γ) 103] M88
  refine zr_putF (κ := (109, 5, 5692)) C hini rfl (by decide +kernel) fk_RX12_29 (fun _ => ⟨rfl, rfl⟩) (by decide +kernel) (by decide) (by decide) (zdec_at dm_X12_init 91 rfl) (fun M92 e92 => ?_)
  have hR92 : zRng M92 := by rw [e92]; exact hR88.set (by decide) _ _
  have hF92 : zfrs M92 109 := by rw [e92]; exact hF91.set (by decide) _ _
  refine zr_aload_n C 0 rfl (zdec_at dm_X12_init 92 rfl) rfl ?_
  refine zr_bipush C (zdec_at dm_X12_init 93 rfl) (by decide) ?_
  refine zr_newZ (κ := (109, 5, 5692)) (len := 12) C hAd rfl (by decide) na_boolean rfl rfl (by decide) (fun k _ => hF92.a (Nat.le_refl _) rfl k) ⟨by decide, by decide⟩ (zdec_at dm_X12_init 94 rfl) ?_
  have hF95 := hF92.le (m := 110) (by decide)
  change zV Γ mc_X12_init_103 (110, 6, 5704) 159 [(0, zRf (zad Γ) 103)] [zRf (zad Γ) 109, zRf (zad Γ) 103] M92
  refine zr_putF (κ := (110, 6, 5704)) C hini rfl (by decide +kernel) fk_RX12_32 (fun _ => ⟨rfl, rfl⟩) (by decide +kernel) (by decide) (by decide) (zdec_at dm_X12_init 95 rfl) (fun M96 e96 => ?_)
  have hR96 : zRng M96 := by rw [e96]; exact hR92.set (by decide) _ _
  have hF96 : zfrs M96 110 := by rw [e96]; exact hF95.set (by decide) _ _
  refine zr_aload_n C 0 rfl (zdec_at dm_X12_init 96 rfl) rfl ?_
  refine zr_sipush C (zdec_at dm_X12_init 97 rfl) (by decide) ?_
  refine zr_newI (κ := (110, 6, 5704)) (len := 192) C hAd rfl (by decide) na_int rfl rfl (by decide) (fun k _ => hF96.a (Nat.le_refl _) rfl k) ⟨by decide, by decide⟩ (zdec_at dm_X12_init 98 rfl) ?_
  have hF99 := hF96.le (m := 111) (by decide)
  change zV Γ mc_X12_init_103 (111, 7, 5896) 168 [(0, zRf (zad Γ) 103)] [zRf (zad Γ) 110, zRf (zad Γ) 103] M96
  refine zr_putF (κ := (111, 7, 5896)) C hini rfl (by decide +kernel) fk_RX12_36 (fun _ => ⟨rfl, rfl⟩) (by decide +kernel) (by decide) (by decide) (zdec_at dm_X12_init 99 rfl) (fun M100 e100 => ?_)
  have hR100 : zRng M100 := by rw [e100]; exact hR96.set (by decide) _ _
  have hF100 : zfrs M100 111 := by rw [e100]; exact hF99.set (by decide) _ _
  refine zr_aload_n C 0 rfl (zdec_at dm_X12_init 100 rfl) rfl ?_
  refine zr_bipush C (zdec_at dm_X12_init 101 rfl) (by decide) ?_
  refine zr_newI (κ := (111, 7, 5896)) (len := 16) C hAd rfl (by decide) na_int rfl rfl (by decide) (fun k _ => hF100.a (Nat.le_refl _) rfl k) ⟨by decide, by decide⟩ (zdec_at dm_X12_init 102 rfl) ?_
  have hF103 := hF100.le (m := 112) (by decide)
  change zV Γ mc_X12_init_103 (112, 8, 5912) 176 [(0, zRf (zad Γ) 103)] [zRf (zad Γ) 111, zRf (zad Γ) 103] M100
  refine zr_putF (κ := (112, 8, 5912)) C hini rfl (by decide +kernel) fk_RX12_39 (fun _ => ⟨rfl, rfl⟩) (by decide +kernel) (by decide) (by decide) (zdec_at dm_X12_init 103 rfl) (fun M104 e104 => ?_)
  have hR104 : zRng M104 := by rw [e104]; exact hR100.set (by decide) _ _
  have hF104 : zfrs M104 112 := by rw [e104]; exact hF103.set (by decide) _ _
  refine zr_aload_n C 0 rfl (zdec_at dm_X12_init 104 rfl) rfl ?_
  refine zr_bipush C (zdec_at dm_X12_init 105 rfl) (by decide) ?_
  refine zr_newZ (κ := (112, 8, 5912)) (len := 12) C hAd rfl (by decide) na_boolean rfl rfl (by decide) (fun k _ => hF104.a (Nat.le_refl _) rfl k) ⟨by decide, by decide⟩ (zdec_at dm_X12_init 106 rfl) ?_
  have hF107 := hF104.le (m := 113) (by decide)
  change zV Γ mc_X12_init_103 (113, 9, 5924) 184 [(0, zRf (zad Γ) 103)] [zRf (zad Γ) 112, zRf (zad Γ) 103] M104
  refine zr_putF (κ := (113, 9, 5924)) C hini rfl (by decide +kernel) fk_RX12_42 (fun _ => ⟨rfl, rfl⟩) (by decide +kernel) (by decide) (by decide) (zdec_at dm_X12_init 107 rfl) (fun M108 e108 => ?_)
  have hR108 : zRng M108 := by rw [e108]; exact hR104.set (by decide) _ _
  have hF108 : zfrs M108 113 := by rw [e108]; exact hF107.set (by decide) _ _
  refine zr_aload_n C 0 rfl (zdec_at dm_X12_init 108 rfl) rfl ?_
  refine zr_sipush C (zdec_at dm_X12_init 109 rfl) (by decide) ?_
  refine zr_newI (κ := (113, 9, 5924)) (len := 192) C hAd rfl (by decide) na_int rfl rfl (by decide) (fun k _ => hF108.a (Nat.le_refl _) rfl k) ⟨by decide, by decide⟩ (zdec_at dm_X12_init 110 rfl) ?_
  have hF111 := hF108.le (m := 114) (by decide)
  change zV Γ mc_X12_init_103 (114, 10, 6116) 193 [(0, zRf (zad Γ) 103)] [zRf (zad Γ) 113, zRf (zad Γ) 103] M108
  refine zr_putF (κ := (114, 10, 6116)) C hini rfl (by decide +kernel) fk_RX12_45 (fun _ => ⟨rfl, rfl⟩) (by decide +kernel) (by decide) (by decide) (zdec_at dm_X12_init 111 rfl) (fun M112 e112 => ?_)
  have hR112 : zRng M112 := by rw [e112]; exact hR108.set (by decide) _ _
  have hF112 : zfrs M112 114 := by rw [e112]; exact hF111.set (by decide) _ _
  refine zr_aload_n C 0 rfl (zdec_at dm_X12_init 112 rfl) rfl ?_
  refine zr_sipush C (zdec_at dm_X12_init 113 rfl) (by decide) ?_
  refine zr_newI (κ := (114, 10, 6116)) (len := 192) C hAd rfl (by decide) na_int rfl rfl (by decide) (fun k _ => hF112.a (Nat.le_refl _) rfl k) ⟨by decide, by decide⟩ (zdec_at dm_X12_init 114 rfl) ?_
  have hF115 := hF112.le (m := 115) (by decide)
  change zV Γ mc_X12_init_103 (115, 11, 6308) 202 [(0, zRf (zad Γ) 103)] [zRf (zad Γ) 114, zRf (zad Γ) 103] M112
  refine zr_putF (κ := (115, 11, 6308)) C hini rfl (by decide +kernel) fk_RX12_48 (fun _ => ⟨rfl, rfl⟩) (by decide +kernel) (by decide) (by decide) (zdec_at dm_X12_init 115 rfl) (fun M116 e116 => ?_)
  have hR116 : zRng M116 := by rw [e116]; exact hR112.set (by decide) _ _
  have hF116 : zfrs M116 115 := by rw [e116]; exact hF115.set (by decide) _ _
  refine zr_aload_n C 0 rfl (zdec_at dm_X12_init 116 rfl) rfl ?_
  refine zr_sipush C (zdec_at dm_X12_init 117 rfl) (by decide) ?_
  refine zr_newI (κ := (115, 11, 6308)) (len := 192) C hAd rfl (by decide) na_int rfl rfl (by decide) (fun k _ => hF116.a (Nat.le_refl _) rfl k) ⟨by decide, by decide⟩ (zdec_at dm_X12_init 118 rfl) ?_
  have hF119 := hF116.le (m := 116) (by decide)
  change zV Γ mc_X12_init_103 (116, 12, 6500) 211 [(0, zRf (zad Γ) 103)] [zRf (zad Γ) 115, zRf (zad Γ) 103] M116
  refine zr_putF (κ := (116, 12, 6500)) C hini rfl (by decide +kernel) fk_RX12_51 (fun _ => ⟨rfl, rfl⟩) (by decide +kernel) (by decide) (by decide) (zdec_at dm_X12_init 119 rfl) (fun M120 e120 => ?_)
  have hR120 : zRng M120 := by rw [e120]; exact hR116.set (by decide) _ _
  have hF120 : zfrs M120 116 := by rw [e120]; exact hF119.set (by decide) _ _
  refine zr_aload_n C 0 rfl (zdec_at dm_X12_init 120 rfl) rfl ?_
  refine zr_sipush C (zdec_at dm_X12_init 121 rfl) (by decide) ?_
  refine zr_newI (κ := (116, 12, 6500)) (len := 192) C hAd rfl (by decide) na_int rfl rfl (by decide) (fun k _ => hF120.a (Nat.le_refl _) rfl k) ⟨by decide, by decide⟩ (zdec_at dm_X12_init 122 rfl) ?_
  have hF123 := hF120.le (m := 117) (by decide)
  change zV Γ mc_X12_init_103 (117, 13, 6692) 220 [(0, zRf (zad Γ) 103)] [zRf (zad Γ) 116, zRf (zad Γ) 103] M120
  refine zr_putF (κ := (117, 13, 6692)) C hini rfl (by decide +kernel) fk_RX12_54 (fun _ => ⟨rfl, rfl⟩) (by decide +kernel) (by decide) (by decide) (zdec_at dm_X12_init 123 rfl) (fun M124 e124 => ?_)
  have hR124 : zRng M124 := by rw [e124]; exact hR120.set (by decide) _ _
  have hF124 : zfrs M124 117 := by rw [e124]; exact hF123.set (by decide) _ _
  refine zr_aload_n C 0 rfl (zdec_at dm_X12_init 124 rfl) rfl ?_
  refine zr_sipush C (zdec_at dm_X12_init 125 rfl) (by decide) ?_
  refine zr_newI (κ := (117, 13, 6692)) (len := 252) C hAd rfl (by decide) na_int rfl rfl (by decide) (fun k _ => hF124.a (Nat.le_refl _) rfl k) ⟨by decide, by decide⟩ (zdec_at dm_X12_init 126 rfl) ?_
  have hF127 := hF124.le (m := 118) (by decide)
  change zV Γ mc_X12_init_103 (118, 14, 6944) 229 [(0, zRf (zad Γ) 103)] [zRf (zad Γ) 117, zRf (zad Γ) 103] M124
  refine zr_putF (κ := (118, 14, 6944)) C hini rfl (by decide +kernel) fk_RX12_57 (fun _ => ⟨rfl, rfl⟩) (by decide +kernel) (by decide) (by decide) (zdec_at dm_X12_init 127 rfl) (fun M128 e128 => ?_)
  have hR128 : zRng M128 := by rw [e128]; exact hR124.set (by decide) _ _
  have hF128 : zfrs M128 118 := by rw [e128]; exact hF127.set (by decide) _ _
  refine zr_aload_n C 0 rfl (zdec_at dm_X12_init 128 rfl) rfl ?_
  refine zr_sipush C (zdec_at dm_X12_init 129 rfl) (by decide) ?_
  refine zr_newI (κ := (118, 14, 6944)) (len := 900) C hAd rfl (by decide) na_int rfl rfl (by decide) (fun k _ => hF128.a (Nat.le_refl _) rfl k) ⟨by decide, by decide⟩ (zdec_at dm_X12_init 130 rfl) ?_
  have hF131 := hF128.le (m := 119) (by decide)
  change zV Γ mc_X12_init_103 (119, 15, 7844) 238 [(0, zRf (zad Γ) 103)] [zRf (zad Γ) 118, zRf (zad Γ) 103] M128
  refine zr_putF (κ := (119, 15, 7844)) C hini rfl (by decide +kernel) fk_RX12_60 (fun _ => ⟨rfl, rfl⟩) (by decide +kernel) (by decide) (by decide) (zdec_at dm_X12_init 131 rfl) (fun M132 e132 => ?_)
  have hR132 : zRng M132 := by rw [e132]; exact hR128.set (by decide) _ _
  have hF132 : zfrs M132 119 := by rw [e132]; exact hF131.set (by decide) _ _
  refine zr_aload_n C 0 rfl (zdec_at dm_X12_init 132 rfl) rfl ?_
  refine zr_sipush C (zdec_at dm_X12_init 133 rfl) (by decide) ?_
  refine zr_newI (κ := (119, 15, 7844)) (len := 901) C hAd rfl (by decide) na_int rfl rfl (by decide) (fun k _ => hF132.a (Nat.le_refl _) rfl k) ⟨by decide, by decide⟩ (zdec_at dm_X12_init 134 rfl) ?_
  have hF135 := hF132.le (m := 120) (by decide)
  change zV Γ mc_X12_init_103 (120, 16, 8745) 247 [(0, zRf (zad Γ) 103)] [zRf (zad Γ) 119, zRf (zad Γ) 103] M132
  refine zr_putF (κ := (120, 16, 8745)) C hini rfl (by decide +kernel) fk_RX12_63 (fun _ => ⟨rfl, rfl⟩) (by decide +kernel) (by decide) (by decide) (zdec_at dm_X12_init 135 rfl) (fun M136 e136 => ?_)
  have hR136 : zRng M136 := by rw [e136]; exact hR132.set (by decide) _ _
  have hF136 : zfrs M136 120 := by rw [e136]; exact hF135.set (by decide) _ _
  refine zr_aload_n C 0 rfl (zdec_at dm_X12_init 136 rfl) rfl ?_
  refine zr_sipush C (zdec_at dm_X12_init 137 rfl) (by decide) ?_
  refine zr_newI (κ := (120, 16, 8745)) (len := 901) C hAd rfl (by decide) na_int rfl rfl (by decide) (fun k _ => hF136.a (Nat.le_refl _) rfl k) ⟨by decide, by decide⟩ (zdec_at dm_X12_init 138 rfl) ?_
  have hF139 := hF136.le (m := 121) (by decide)
  change zV Γ mc_X12_init_103 (121, 17, 9646) 256 [(0, zRf (zad Γ) 103)] [zRf (zad Γ) 120, zRf (zad Γ) 103] M136
  refine zr_putF (κ := (121, 17, 9646)) C hini rfl (by decide +kernel) fk_RX12_66 (fun _ => ⟨rfl, rfl⟩) (by decide +kernel) (by decide) (by decide) (zdec_at dm_X12_init 139 rfl) (fun M140 e140 => ?_)
  have hR140 : zRng M140 := by rw [e140]; exact hR136.set (by decide) _ _
  have hF140 : zfrs M140 121 := by rw [e140]; exact hF139.set (by decide) _ _
  refine zr_aload_n C 0 rfl (zdec_at dm_X12_init 140 rfl) rfl ?_
  refine zr_sipush C (zdec_at dm_X12_init 141 rfl) (by decide) ?_
  refine zr_newI (κ := (121, 17, 9646)) (len := 900) C hAd rfl (by decide) na_int rfl rfl (by decide) (fun k _ => hF140.a (Nat.le_refl _) rfl k) ⟨by decide, by decide⟩ (zdec_at dm_X12_init 142 rfl) ?_
  have hF143 := hF140.le (m := 122) (by decide)
  change zV Γ mc_X12_init_103 (122, 18, 10546) 265 [(0, zRf (zad Γ) 103)] [zRf (zad Γ) 121, zRf (zad Γ) 103] M140
  refine zr_putF (κ := (122, 18, 10546)) C hini rfl (by decide +kernel) fk_RX12_69 (fun _ => ⟨rfl, rfl⟩) (by decide +kernel) (by decide) (by decide) (zdec_at dm_X12_init 143 rfl) (fun M144 e144 => ?_)
  have hR144 : zRng M144 := by rw [e144]; exact hR140.set (by decide) _ _
  have hF144 : zfrs M144 122 := by rw [e144]; exact hF143.set (by decide) _ _
  refine zr_aload_n C 0 rfl (zdec_at dm_X12_init 144 rfl) rfl ?_
  refine zr_sipush C (zdec_at dm_X12_init 145 rfl) (by decide) ?_
  refine zr_newI (κ := (122, 18, 10546)) (len := 900) C hAd rfl (by decide) na_int rfl rfl (by decide) (fun k _ => hF144.a (Nat.le_refl _) rfl k) ⟨by decide, by decide⟩ (zdec_at dm_X12_init 146 rfl) ?_
  have hF147 := hF144.le (m := 123) (by decide)
  change zV Γ mc_X12_init_103 (123, 19, 11446) 274 [(0, zRf (zad Γ) 103)] [zRf (zad Γ) 122, zRf (zad Γ) 103] M144
  refine zr_putF (κ := (123, 19, 11446)) C hini rfl (by decide +kernel) fk_RX12_72 (fun _ => ⟨rfl, rfl⟩) (by decide +kernel) (by decide) (by decide) (zdec_at dm_X12_init 147 rfl) (fun M148 e148 => ?_)
  have hR148 : zRng M148 := by rw [e148]; exact hR144.set (by decide) _ _
  have hF148 : zfrs M148 123 := by rw [e148]; exact hF147.set (by decide) _ _
  refine zr_aload_n C 0 rfl (zdec_at dm_X12_init 148 rfl) rfl ?_
  refine zr_sipush C (zdec_at dm_X12_init 149 rfl) (by decide) ?_
  refine zr_newI (κ := (123, 19, 11446)) (len := 1800) C hAd rfl (by decide) na_int rfl rfl (by decide) (fun k _ => hF148.a (Nat.le_refl _) rfl k) ⟨by decide, by decide⟩ (zdec_at dm_X12_init 150 rfl) ?_
  have hF151 := hF148.le (m := 124) (by decide)
  change zV Γ mc_X12_init_103 (124, 20, 13246) 283 [(0, zRf (zad Γ) 103)] [zRf (zad Γ) 123, zRf (zad Γ) 103] M148
  refine zr_putF (κ := (124, 20, 13246)) C hini rfl (by decide +kernel) fk_RX12_75 (fun _ => ⟨rfl, rfl⟩) (by decide +kernel) (by decide) (by decide) (zdec_at dm_X12_init 151 rfl) (fun M152 e152 => ?_)
  have hR152 : zRng M152 := by rw [e152]; exact hR148.set (by decide) _ _
  have hF152 : zfrs M152 124 := by rw [e152]; exact hF151.set (by decide) _ _
  refine zr_aload_n C 0 rfl (zdec_at dm_X12_init 152 rfl) rfl ?_
  refine zr_sipush C (zdec_at dm_X12_init 153 rfl) (by decide) ?_
  refine zr_newZ (κ := (124, 20, 13246)) (len := 900) C hAd rfl (by decide) na_boolean rfl rfl (by decide) (fun k _ => hF152.a (Nat.le_refl _) rfl k) ⟨by decide, by decide⟩ (zdec_at dm_X12_init 154 rfl) ?_
  have hF155 := hF152.le (m := 125) (by decide)
  change zV Γ mc_X12_init_103 (125, 21, 14146) 292 [(0, zRf (zad Γ) 103)] [zRf (zad Γ) 124, zRf (zad Γ) 103] M152
  refine zr_putF (κ := (125, 21, 14146)) C hini rfl (by decide +kernel) fk_RX12_78 (fun _ => ⟨rfl, rfl⟩) (by decide +kernel) (by decide) (by decide) (zdec_at dm_X12_init 155 rfl) (fun M156 e156 => ?_)
  have hR156 : zRng M156 := by rw [e156]; exact hR152.set (by decide) _ _
  have hF156 : zfrs M156 125 := by rw [e156]; exact hF155.set (by decide) _ _
  refine zr_aload_n C 0 rfl (zdec_at dm_X12_init 156 rfl) rfl ?_
  refine zr_ldc C (zdec_at dm_X12_init 157 rfl) kc_RX12_81 ?_
  refine zr_newZ (κ := (125, 21, 14146)) (len := 600000) C hAd rfl (by decide) na_boolean rfl rfl (by decide) (fun k _ => hF156.a (Nat.le_refl _) rfl k) ⟨by decide, by decide⟩ (zdec_at dm_X12_init 158 rfl) ?_
  have hF159 := hF156.le (m := 126) (by decide)
  change zV Γ mc_X12_init_103 (126, 22, 614146) 300 [(0, zRf (zad Γ) 103)] [zRf (zad Γ) 125, zRf (zad Γ) 103] M156
  refine zr_putF (κ := (126, 22, 614146)) C hini rfl (by decide +kernel) fk_RX12_82 (fun _ => ⟨rfl, rfl⟩) (by decide +kernel) (by decide) (by decide) (zdec_at dm_X12_init 159 rfl) (fun M160 e160 => ?_)
  have hR160 : zRng M160 := by rw [e160]; exact hR156.set (by decide) _ _
  have hF160 : zfrs M160 126 := by rw [e160]; exact hF159.set (by decide) _ _
  refine zr_aload_n C 0 rfl (zdec_at dm_X12_init 160 rfl) rfl ?_
  refine zr_ldc C (zdec_at dm_X12_init 161 rfl) kc_RX12_81 ?_
  refine zr_newZ (κ := (126, 22, 614146)) (len := 600000) C hAd rfl (by decide) na_boolean rfl rfl (by decide) (fun k _ => hF160.a (Nat.le_refl _) rfl k) ⟨by decide, by decide⟩ (zdec_at dm_X12_init 162 rfl) ?_
  have hF163 := hF160.le (m := 127) (by decide)
  change zV Γ mc_X12_init_103 (127, 23, 1214146) 308 [(0, zRf (zad Γ) 103)] [zRf (zad Γ) 126, zRf (zad Γ) 103] M160
  refine zr_putF (κ := (127, 23, 1214146)) C hini rfl (by decide +kernel) fk_RX12_85 (fun _ => ⟨rfl, rfl⟩) (by decide +kernel) (by decide) (by decide) (zdec_at dm_X12_init 163 rfl) (fun M164 e164 => ?_)
  have hR164 : zRng M164 := by rw [e164]; exact hR160.set (by decide) _ _
  have hF164 : zfrs M164 127 := by rw [e164]; exact hF163.set (by decide) _ _
  refine zr_aload_n C 0 rfl (zdec_at dm_X12_init 164 rfl) rfl ?_
  refine zr_sipush C (zdec_at dm_X12_init 165 rfl) (by decide) ?_
  refine zr_newI (κ := (127, 23, 1214146)) (len := 901) C hAd rfl (by decide) na_int rfl rfl (by decide) (fun k _ => hF164.a (Nat.le_refl _) rfl k) ⟨by decide, by decide⟩ (zdec_at dm_X12_init 166 rfl) ?_
  have hF167 := hF164.le (m := 128) (by decide)
  change zV Γ mc_X12_init_103 (128, 24, 1215047) 317 [(0, zRf (zad Γ) 103)] [zRf (zad Γ) 127, zRf (zad Γ) 103] M164
  refine zr_putF (κ := (128, 24, 1215047)) C hini rfl (by decide +kernel) fk_RX12_88 (fun _ => ⟨rfl, rfl⟩) (by decide +kernel) (by decide) (by decide) (zdec_at dm_X12_init 167 rfl) (fun M168 e168 => ?_)
  have hR168 : zRng M168 := by rw [e168]; exact hR164.set (by decide) _ _
  have hF168 : zfrs M168 128 := by rw [e168]; exact hF167.set (by decide) _ _
  refine zr_aload_n C 0 rfl (zdec_at dm_X12_init 168 rfl) rfl ?_
  refine zr_bipush C (zdec_at dm_X12_init 169 rfl) (by decide) ?_
  refine zr_newI (κ := (128, 24, 1215047)) (len := 16) C hAd rfl (by decide) na_int rfl rfl (by decide) (fun k _ => hF168.a (Nat.le_refl _) rfl k) ⟨by decide, by decide⟩ (zdec_at dm_X12_init 170 rfl) ?_
  have hF171 := hF168.le (m := 129) (by decide)
  change zV Γ mc_X12_init_103 (129, 25, 1215063) 325 [(0, zRf (zad Γ) 103)] [zRf (zad Γ) 128, zRf (zad Γ) 103] M168
  refine zr_putF (κ := (129, 25, 1215063)) C hini rfl (by decide +kernel) fk_RX12_91 (fun _ => ⟨rfl, rfl⟩) (by decide +kernel) (by decide) (by decide) (zdec_at dm_X12_init 171 rfl) (fun M172 e172 => ?_)
  have hR172 : zRng M172 := by rw [e172]; exact hR168.set (by decide) _ _
  have hF172 : zfrs M172 129 := by rw [e172]; exact hF171.set (by decide) _ _
  refine zr_aload_n C 0 rfl (zdec_at dm_X12_init 172 rfl) rfl ?_
  refine zr_sipush C (zdec_at dm_X12_init 173 rfl) (by decide) ?_
  refine zr_newI (κ := (129, 25, 1215063)) (len := 192) C hAd rfl (by decide) na_int rfl rfl (by decide) (fun k _ => hF172.a (Nat.le_refl _) rfl k) ⟨by decide, by decide⟩ (zdec_at dm_X12_init 174 rfl) ?_
  have hF175 := hF172.le (m := 130) (by decide)
  change zV Γ mc_X12_init_103 (130, 26, 1215255) 334 [(0, zRf (zad Γ) 103)] [zRf (zad Γ) 129, zRf (zad Γ) 103] M172
  refine zr_putF (κ := (130, 26, 1215255)) C hini rfl (by decide +kernel) fk_RX12_94 (fun _ => ⟨rfl, rfl⟩) (by decide +kernel) (by decide) (by decide) (zdec_at dm_X12_init 175 rfl) (fun M176 e176 => ?_)
  have hR176 : zRng M176 := by rw [e176]; exact hR172.set (by decide) _ _
  have hF176 : zfrs M176 130 := by rw [e176]; exact hF175.set (by decide) _ _
  refine zr_aload_n C 0 rfl (zdec_at dm_X12_init 176 rfl) rfl ?_
  refine zr_bipush C (zdec_at dm_X12_init 177 rfl) (by decide) ?_
  refine zr_newI (κ := (130, 26, 1215255)) (len := 7) C hAd rfl (by decide) na_int rfl rfl (by decide) (fun k _ => hF176.a (Nat.le_refl _) rfl k) ⟨by decide, by decide⟩ (zdec_at dm_X12_init 178 rfl) ?_
  have hF179 := hF176.le (m := 131) (by decide)
  change zV Γ mc_X12_init_103 (131, 27, 1215262) 342 [(0, zRf (zad Γ) 103)] [zRf (zad Γ) 130, zRf (zad Γ) 103] M176
  refine zr_putF (κ := (131, 27, 1215262)) C hini rfl (by decide +kernel) fk_RX12_97 (fun _ => ⟨rfl, rfl⟩) (by decide +kernel) (by decide) (by decide) (zdec_at dm_X12_init 179 rfl) (fun M180 e180 => ?_)
  have hR180 : zRng M180 := by rw [e180]; exact hR176.set (by decide) _ _
  have hF180 : zfrs M180 131 := by rw [e180]; exact hF179.set (by decide) _ _
  refine zr_aload_n C 0 rfl (zdec_at dm_X12_init 180 rfl) rfl ?_
  refine zr_bipush C (zdec_at dm_X12_init 181 rfl) (by decide) ?_
  refine zr_newI (κ := (131, 27, 1215262)) (len := 7) C hAd rfl (by decide) na_int rfl rfl (by decide) (fun k _ => hF180.a (Nat.le_refl _) rfl k) ⟨by decide, by decide⟩ (zdec_at dm_X12_init 182 rfl) ?_
  have hF183 := hF180.le (m := 132) (by decide)
  change zV Γ mc_X12_init_103 (132, 28, 1215269) 350 [(0, zRf (zad Γ) 103)] [zRf (zad Γ) 131, zRf (zad Γ) 103] M180
  refine zr_putF (κ := (132, 28, 1215269)) C hini rfl (by decide +kernel) fk_RX12_100 (fun _ => ⟨rfl, rfl⟩) (by decide +kernel) (by decide) (by decide) (zdec_at dm_X12_init 183 rfl) (fun M184 e184 => ?_)
  have hR184 : zRng M184 := by rw [e184]; exact hR180.set (by decide) _ _
  have hF184 : zfrs M184 132 := by rw [e184]; exact hF183.set (by decide) _ _
  refine zr_aload_n C 0 rfl (zdec_at dm_X12_init 184 rfl) rfl ?_
  refine zr_sipush C (zdec_at dm_X12_init 185 rfl) (by decide) ?_
  refine zr_newZ (κ := (132, 28, 1215269)) (len := 130) C hAd rfl (by decide) na_boolean rfl rfl (by decide) (fun k _ => hF184.a (Nat.le_refl _) rfl k) ⟨by decide, by decide⟩ (zdec_at dm_X12_init 186 rfl) ?_
  have hF187 := hF184.le (m := 133) (by decide)
  change zV Γ mc_X12_init_103 (133, 29, 1215399) 359 [(0, zRf (zad Γ) 103)] [zRf (zad Γ) 132, zRf (zad Γ) 103] M184
  refine zr_putF (κ := (133, 29, 1215399)) C hini rfl (by decide +kernel) fk_RX12_103 (fun _ => ⟨rfl, rfl⟩) (by decide +kernel) (by decide) (by decide) (zdec_at dm_X12_init 187 rfl) (fun M188 e188 => ?_)
  have hR188 : zRng M188 := by rw [e188]; exact hR184.set (by decide) _ _
  have hF188 : zfrs M188 133 := by rw [e188]; exact hF187.set (by decide) _ _
  refine zr_aload_n C 0 rfl (zdec_at dm_X12_init 188 rfl) rfl ?_
  refine zr_sipush C (zdec_at dm_X12_init 189 rfl) (by decide) ?_
  refine zr_newI (κ := (133, 29, 1215399)) (len := 130) C hAd rfl (by decide) na_int rfl rfl (by decide) (fun k _ => hF188.a (Nat.le_refl _) rfl k) ⟨by decide, by decide⟩ (zdec_at dm_X12_init 190 rfl) ?_
  have hF191 := hF188.le (m := 134) (by decide)
  change zV Γ mc_X12_init_103 (134, 30, 1215529) 368 [(0, zRf (zad Γ) 103)] [zRf (zad Γ) 133, zRf (zad Γ) 103] M188
  refine zr_putF (κ := (134, 30, 1215529)) C hini rfl (by decide +kernel) fk_RX12_106 (fun _ => ⟨rfl, rfl⟩) (by decide +kernel) (by decide) (by decide) (zdec_at dm_X12_init 191 rfl) (fun M192 e192 => ?_)
  have hR192 : zRng M192 := by rw [e192]; exact hR188.set (by decide) _ _
  have hF192 : zfrs M192 134 := by rw [e192]; exact hF191.set (by decide) _ _
  refine zr_aload_n C 0 rfl (zdec_at dm_X12_init 192 rfl) rfl ?_
  refine zr_bipush C (zdec_at dm_X12_init 193 rfl) (by decide) ?_
  refine zr_newI (κ := (134, 30, 1215529)) (len := 8) C hAd rfl (by decide) na_int rfl rfl (by decide) (fun k _ => hF192.a (Nat.le_refl _) rfl k) ⟨by decide, by decide⟩ (zdec_at dm_X12_init 194 rfl) ?_
  have hF195 := hF192.le (m := 135) (by decide)
  change zV Γ mc_X12_init_103 (135, 31, 1215537) 376 [(0, zRf (zad Γ) 103)] [zRf (zad Γ) 134, zRf (zad Γ) 103] M192
  refine zr_putF (κ := (135, 31, 1215537)) C hini rfl (by decide +kernel) fk_RX12_109 (fun _ => ⟨rfl, rfl⟩) (by decide +kernel) (by decide) (by decide) (zdec_at dm_X12_init 195 rfl) (fun M196 e196 => ?_)
  have hR196 : zRng M196 := by rw [e196]; exact hR192.set (by decide) _ _
  have hF196 : zfrs M196 135 := by rw [e196]; exact hF195.set (by decide) _ _
  refine zr_aload_n C 0 rfl (zdec_at dm_X12_init 196 rfl) rfl ?_
  refine zr_bipush C (zdec_at dm_X12_init 197 rfl) (by decide) ?_
  refine zr_newI (κ := (135, 31, 1215537)) (len := 8) C hAd rfl (by decide) na_int rfl rfl (by decide) (fun k _ => hF196.a (Nat.le_refl _) rfl k) ⟨by decide, by decide⟩ (zdec_at dm_X12_init 198 rfl) ?_
  have hF199 := hF196.le (m := 136) (by decide)
  change zV Γ mc_X12_init_103 (136, 32, 1215545) 384 [(0, zRf (zad Γ) 103)] [zRf (zad Γ) 135, zRf (zad Γ) 103] M196
  refine zr_putF (κ := (136, 32, 1215545)) C hini rfl (by decide +kernel) fk_RX12_112 (fun _ => ⟨rfl, rfl⟩) (by decide +kernel) (by decide) (by decide) (zdec_at dm_X12_init 199 rfl) (fun M200 e200 => ?_)
  have hR200 : zRng M200 := by rw [e200]; exact hR196.set (by decide) _ _
  have hF200 : zfrs M200 136 := by rw [e200]; exact hF199.set (by decide) _ _
  refine zr_aload_n C 0 rfl (zdec_at dm_X12_init 200 rfl) rfl ?_
  refine zr_bipush C (zdec_at dm_X12_init 201 rfl) (by decide) ?_
  refine zr_newI (κ := (136, 32, 1215545)) (len := 8) C hAd rfl (by decide) na_int rfl rfl (by decide) (fun k _ => hF200.a (Nat.le_refl _) rfl k) ⟨by decide, by decide⟩ (zdec_at dm_X12_init 202 rfl) ?_
  have hF203 := hF200.le (m := 137) (by decide)
  change zV Γ mc_X12_init_103 (137, 33, 1215553) 392 [(0, zRf (zad Γ) 103)] [zRf (zad Γ) 136, zRf (zad Γ) 103] M200
  refine zr_putF (κ := (137, 33, 1215553)) C hini rfl (by decide +kernel) fk_RX12_115 (fun _ => ⟨rfl, rfl⟩) (by decide +kernel) (by decide) (by decide) (zdec_at dm_X12_init 203 rfl) (fun M204 e204 => ?_)
  have hR204 : zRng M204 := by rw [e204]; exact hR200.set (by decide) _ _
  have hF204 : zfrs M204 137 := by rw [e204]; exact hF203.set (by decide) _ _
  refine zr_aload_n C 0 rfl (zdec_at dm_X12_init 204 rfl) rfl ?_
  refine zr_bipush C (zdec_at dm_X12_init 205 rfl) (by decide) ?_
  refine zr_newI (κ := (137, 33, 1215553)) (len := 8) C hAd rfl (by decide) na_int rfl rfl (by decide) (fun k _ => hF204.a (Nat.le_refl _) rfl k) ⟨by decide, by decide⟩ (zdec_at dm_X12_init 206 rfl) ?_
  have hF207 := hF204.le (m := 138) (by decide)
  change zV Γ mc_X12_init_103 (138, 34, 1215561) 400 [(0, zRf (zad Γ) 103)] [zRf (zad Γ) 137, zRf (zad Γ) 103] M204
  refine zr_putF (κ := (138, 34, 1215561)) C hini rfl (by decide +kernel) fk_RX12_118 (fun _ => ⟨rfl, rfl⟩) (by decide +kernel) (by decide) (by decide) (zdec_at dm_X12_init 207 rfl) (fun M208 e208 => ?_)
  have hR208 : zRng M208 := by rw [e208]; exact hR204.set (by decide) _ _
  have hF208 : zfrs M208 138 := by rw [e208]; exact hF207.set (by decide) _ _
  refine zr_aload_n C 0 rfl (zdec_at dm_X12_init 208 rfl) rfl ?_
  refine zr_bipush C (zdec_at dm_X12_init 209 rfl) (by decide) ?_
  refine zr_newI (κ := (138, 34, 1215561)) (len := 8) C hAd rfl (by decide) na_int rfl rfl (by decide) (fun k _ => hF208.a (Nat.le_refl _) rfl k) ⟨by decide, by decide⟩ (zdec_at dm_X12_init 210 rfl) ?_
  have hF211 := hF208.le (m := 139) (by decide)
  change zV Γ mc_X12_init_103 (139, 35, 1215569) 408 [(0, zRf (zad Γ) 103)] [zRf (zad Γ) 138, zRf (zad Γ) 103] M208
  refine zr_putF (κ := (139, 35, 1215569)) C hini rfl (by decide +kernel) fk_RX12_121 (fun _ => ⟨rfl, rfl⟩) (by decide +kernel) (by decide) (by decide) (zdec_at dm_X12_init 211 rfl) (fun M212 e212 => ?_)
  have hR212 : zRng M212 := by rw [e212]; exact hR208.set (by decide) _ _
  have hF212 : zfrs M212 139 := by rw [e212]; exact hF211.set (by decide) _ _
  refine zr_aload_n C 0 rfl (zdec_at dm_X12_init 212 rfl) rfl ?_
  refine zr_bipush C (zdec_at dm_X12_init 213 rfl) (by decide) ?_
  refine zr_newI (κ := (139, 35, 1215569)) (len := 8) C hAd rfl (by decide) na_int rfl rfl (by decide) (fun k _ => hF212.a (Nat.le_refl _) rfl k) ⟨by decide, by decide⟩ (zdec_at dm_X12_init 214 rfl) ?_
  have hF215 := hF212.le (m := 140) (by decide)
  change zV Γ mc_X12_init_103 (140, 36, 1215577) 416 [(0, zRf (zad Γ) 103)] [zRf (zad Γ) 139, zRf (zad Γ) 103] M212
  refine zr_putF (κ := (140, 36, 1215577)) C hini rfl (by decide +kernel) fk_RX12_124 (fun _ => ⟨rfl, rfl⟩) (by decide +kernel) (by decide) (by decide) (zdec_at dm_X12_init 215 rfl) (fun M216 e216 => ?_)
  have hR216 : zRng M216 := by rw [e216]; exact hR212.set (by decide) _ _
  have hF216 : zfrs M216 140 := by rw [e216]; exact hF215.set (by decide) _ _
  refine zr_aload_n C 0 rfl (zdec_at dm_X12_init 216 rfl) rfl ?_
  refine zr_bipush C (zdec_at dm_X12_init 217 rfl) (by decide) ?_
  refine zr_newI (κ := (140, 36, 1215577)) (len := 8) C hAd rfl (by decide) na_int rfl rfl (by decide) (fun k _ => hF216.a (Nat.le_refl _) rfl k) ⟨by decide, by decide⟩ (zdec_at dm_X12_init 218 rfl) ?_
  have hF219 := hF216.le (m := 141) (by decide)
  change zV Γ mc_X12_init_103 (141, 37, 1215585) 424 [(0, zRf (zad Γ) 103)] [zRf (zad Γ) 140, zRf (zad Γ) 103] M216
  refine zr_putF (κ := (141, 37, 1215585)) C hini rfl (by decide +kernel) fk_RX12_127 (fun _ => ⟨rfl, rfl⟩) (by decide +kernel) (by decide) (by decide) (zdec_at dm_X12_init 219 rfl) (fun M220 e220 => ?_)
  have hR220 : zRng M220 := by rw [e220]; exact hR216.set (by decide) _ _
  have hF220 : zfrs M220 141 := by rw [e220]; exact hF219.set (by decide) _ _
  refine zr_aload_n C 0 rfl (zdec_at dm_X12_init 220 rfl) rfl ?_
  refine zr_bipush C (zdec_at dm_X12_init 221 rfl) (by decide) ?_
  refine zr_newI (κ := (141, 37, 1215585)) (len := 8) C hAd rfl (by decide) na_int rfl rfl (by decide) (fun k _ => hF220.a (Nat.le_refl _) rfl k) ⟨by decide, by decide⟩ (zdec_at dm_X12_init 222 rfl) ?_
  have hF223 := hF220.le (m := 142) (by decide)
  change zV Γ mc_X12_init_103 (142, 38, 1215593) 432 [(0, zRf (zad Γ) 103)] [zRf (zad Γ) 141, zRf (zad Γ) 103] M220
  refine zr_putF (κ := (142, 38, 1215593)) C hini rfl (by decide +kernel) fk_RX12_130 (fun _ => ⟨rfl, rfl⟩) (by decide +kernel) (by decide) (by decide) (zdec_at dm_X12_init 223 rfl) (fun M224 e224 => ?_)
  have hR224 : zRng M224 := by rw [e224]; exact hR220.set (by decide) _ _
  have hF224 : zfrs M224 142 := by rw [e224]; exact hF223.set (by decide) _ _
  refine zr_aload_n C 0 rfl (zdec_at dm_X12_init 224 rfl) rfl ?_
  refine zr_sipush C (zdec_at dm_X12_init 225 rfl) (by decide) ?_
  refine zr_newJ (κ := (142, 38, 1215593)) (len := 960) C hAd rfl (by decide) na_long rfl rfl (by decide) (fun k _ => hF224.a (Nat.le_refl _) rfl k) ⟨by decide, by decide⟩ (zdec_at dm_X12_init 226 rfl) ?_
  have hF227 := hF224.le (m := 143) (by decide)
  change zV Γ mc_X12_init_103 (143, 39, 1216553) 441 [(0, zRf (zad Γ) 103)] [zRf (zad Γ) 142, zRf (zad Γ) 103] M224
  refine zr_putF (κ := (143, 39, 1216553)) C hini rfl (by decide +kernel) fk_RX12_133 (fun _ => ⟨rfl, rfl⟩) (by decide +kernel) (by decide) (by decide) (zdec_at dm_X12_init 227 rfl) (fun M228 e228 => ?_)
  have hR228 : zRng M228 := by rw [e228]; exact hR224.set (by decide) _ _
  have hF228 : zfrs M228 143 := by rw [e228]; exact hF227.set (by decide) _ _
  refine zr_aload_n C 0 rfl (zdec_at dm_X12_init 228 rfl) rfl ?_
  refine zr_bipush C (zdec_at dm_X12_init 229 rfl) (by decide) ?_
  refine zr_newJ (κ := (143, 39, 1216553)) (len := 120) C hAd rfl (by decide) na_long rfl rfl (by decide) (fun k _ => hF228.a (Nat.le_refl _) rfl k) ⟨by decide, by decide⟩ (zdec_at dm_X12_init 230 rfl) ?_
  have hF231 := hF228.le (m := 144) (by decide)
  change zV Γ mc_X12_init_103 (144, 40, 1216673) 449 [(0, zRf (zad Γ) 103)] [zRf (zad Γ) 143, zRf (zad Γ) 103] M228
  refine zr_putF (κ := (144, 40, 1216673)) C hini rfl (by decide +kernel) fk_RX12_137 (fun _ => ⟨rfl, rfl⟩) (by decide +kernel) (by decide) (by decide) (zdec_at dm_X12_init 231 rfl) (fun M232 e232 => ?_)
  have hR232 : zRng M232 := by rw [e232]; exact hR228.set (by decide) _ _
  have hF232 : zfrs M232 144 := by rw [e232]; exact hF231.set (by decide) _ _
  refine zr_return (κ := (144, 40, 1216673)) C rfl rfl (zdec_at dm_X12_init 232 rfl) rfl ⟨by decide, ?_⟩
  have eM : M232 = cf_X12_init_103 M := by rw [e232, e228, e224, e220, e216, e212, e208, e204, e200, e196, e192, e188, e184, e180, e176, e172, e168, e164, e160, e156, e152, e148, e144, e140, e136, e132, e128, e124, e120, e116, e112, e108, e104, e100, e96, e92, e88, e84, e80, e79, e75, e71, e67, e63, e59, e55, e51, e47, e43, e39, e35, e31, e27, e23, e19, e12, e8, e5]; rfl
  rw [eM] at hF232 ⊢
  exact h hF232

def cf_X11_init_0 (M : zM) : zM :=
  let M5 := cf_X0_init_1 M
  let M10 := cf_X2_init_5 M5
  let M15 := cf_X1_init_17 M10
  let M29 := cf_X10_init_26 M15
  let M30 := zset M29 25 0 26
  let M40 := cf_X10_init_28 M30
  let M41 := zset M40 25 1 28
  let M51 := cf_X10_init_30 M41
  let M52 := zset M51 25 2 30
  let M62 := cf_X10_init_32 M52
  let M63 := zset M62 25 3 32
  let M73 := cf_X10_init_34 M63
  let M74 := zset M73 25 4 34
  let M84 := cf_X10_init_36 M74
  let M85 := zset M84 25 5 36
  let M95 := cf_X10_init_38 M85
  let M96 := zset M95 25 6 38
  let M106 := cf_X10_init_40 M96
  let M107 := zset M106 25 7 40
  let M115 := zset M107 0 0 1
  let M118 := zset M115 0 1 5
  let M121 := zset M118 0 2 17
  let M126 := cf_X6_init_42 M121
  let M127 := zset M126 0 3 42
  let M132 := cf_X9_init_48 M127
  let M133 := zset M132 0 4 48
  let M138 := cf_X4_init_50 M133
  let M139 := zset M138 0 5 50
  let M144 := cf_X5_init_53 M139
  let M145 := zset M144 0 6 53
  let M149 := cf_X8_init_57 M145
  let M150 := zset M149 0 7 57
  let M154 := cf_X7_init_74 M150
  let M155 := zset M154 0 8 74
  let M159 := cf_X3_init_77 M155
  let M160 := zset M159 0 9 77
  let M163 := zset M160 0 10 25
  let M167 := cf_X0_init_99 M163
  let M168 := zset M167 0 11 99
  let M171 := zset M168 0 12 0
  M171
abbrev mc_X11_init_0 : zMc := (cX11_init, RX11, 6, none, 2, zS0, 1, 102, 15436)
set_option maxHeartbeats 4000000 in
set_option maxRecDepth 100000 in
theorem sc_X11_init_0 : zSnd zS0 1 102 15436 yX11_init cX11_init 6 none 2 [2] (fun xs P M => xs = [0] ∧ zfrs M 1 ∧ (zfrs (cf_X11_init_0 M) 103 → P 0 (cf_X11_init_0 M))) := by
  refine zSnd.of rfl (fun ad xs hz => Nat.le_trans (Nat.le_of_eq (zlen ad _ xs hz)) (by decide)) ?_
  intro Γ C hAd0 hini0 xs M hz hF0
  obtain ⟨rfl, hF, h⟩ := hF0
  have hAd := hAd0 (by decide)
  have hini := hini0 rfl
  refine zr_rng (fun hR => ?_)
  have C : zC Γ mc_X11_init_0 := C
  change zV Γ mc_X11_init_0 (1, 0, 0) 0 [(0, zRf (zad Γ) 0)] [] M
  refine zr_aload_n C 0 rfl (zdec_at dm_X11_init 0 rfl) rfl ?_
  refine zr_obj (κ := (1, 0, 0)) C ob_RX11_1 ob_i ob_c (by decide) (Nat.le_of_ble_eq_true rfl) (zdec_at dm_X11_init 1 rfl) ?_
  refine zr_new (κ := (1, 0, 0)) C hAd rfl (by decide) tyX0 tyX0_ok vc_X0 rfl wsin_X0 cl_RX11_7 ni_X0.1 ni_X0.2 rfl (hF.o cd_1) ⟨by decide, by decide⟩ (zdec_at dm_X11_init 2 rfl) ?_
  have hF3 := hF.le (m := 2) (by decide)
  change zV Γ mc_X11_init_0 (2, 1, 9) 7 [(0, zRf (zad Γ) 0)] [zRf (zad Γ) 1] M
  refine zr_dup C rfl (zdec_at dm_X11_init 3 rfl) ?_
  refine zr_callI (κ := (2, 1, 9)) C hAd rfl (by decide) (fun xs P Q M hPQ ⟨a, b, c⟩ => ⟨a, b, fun q => hPQ 0 _ (c q) rfl⟩) [] sc_X0_init_1 ck_RX11_9 ii_X0_init rfl rfl rfl (zdec_at dm_X11_init 4 rfl) (by decide) ⟨by decide, by decide⟩ ⟨by decide, by decide⟩ (Nat.le_of_ble_eq_true rfl) zall_n ⟨rfl, hF3, fun hF5 hR5 => ?_⟩
  obtain ⟨M5, e5⟩ : ∃ q, q = cf_X0_init_1 M := ⟨_, rfl⟩
  rw [← e5] at hF5 hR5 ⊢
  change zV Γ mc_X11_init_0 (5, 4, 409) 11 [(0, zRf (zad Γ) 0)] [zRf (zad Γ) 1] M5
  refine zr_astore_n (L1 := [(1, zRf (zad Γ) 1), (0, zRf (zad Γ) 0)]) C (zdec_at dm_X11_init 5 rfl) rfl (Nat.le_of_ble_eq_true rfl) rfl ?_
  refine zr_new (κ := (5, 4, 409)) C hAd rfl (by decide) tyX2 tyX2_ok vc_X2 rfl wsin_X2 cl_RX11_10 ni_X2.1 ni_X2.2 rfl (hF5.o cd_5) ⟨by decide, by decide⟩ (zdec_at dm_X11_init 6 rfl) ?_
  have hF7 := hF5.le (m := 6) (by decide)
  change zV Γ mc_X11_init_0 (6, 5, 427) 15 [(1, zRf (zad Γ) 1), (0, zRf (zad Γ) 0)] [zRf (zad Γ) 5] M5
  refine zr_dup C rfl (zdec_at dm_X11_init 7 rfl) ?_
  refine zr_aload_n C 0 rfl (zdec_at dm_X11_init 8 rfl) rfl ?_
  refine zr_callI (κ := (6, 5, 427)) C hAd rfl (by decide) (fun xs P Q M hPQ ⟨a, b, c⟩ => ⟨a, b, fun q => hPQ 0 _ (c q) rfl⟩) [1] sc_X2_init_5 ck_RX11_12 ii_X2_init rfl rfl rfl (zdec_at dm_X11_init 9 rfl) (by decide) ⟨by decide, by decide⟩ ⟨by decide, by decide⟩ (Nat.le_of_ble_eq_true rfl) (zall_2 zall_n) ⟨rfl, hF7, fun hF10 hR10 => ?_⟩
  obtain ⟨M10, e10⟩ : ∃ q, q = cf_X2_init_5 M5 := ⟨_, rfl⟩
  rw [← e10] at hF10 hR10 ⊢
  change zV Γ mc_X11_init_0 (17, 16, 2483) 20 [(1, zRf (zad Γ) 1), (0, zRf (zad Γ) 0)] [zRf (zad Γ) 5] M10
  refine zr_astore_n (L1 := [(2, zRf (zad Γ) 5), (1, zRf (zad Γ) 1), (0, zRf (zad Γ) 0)]) C (zdec_at dm_X11_init 10 rfl) rfl (Nat.le_of_ble_eq_true rfl) rfl ?_
  refine zr_new (κ := (17, 16, 2483)) C hAd rfl (by decide) tyX1 tyX1_ok vc_X1 rfl wsin_X1 cl_RX11_15 ni_X1.1 ni_X1.2 rfl (hF10.o cd_17) ⟨by decide, by decide⟩ (zdec_at dm_X11_init 11 rfl) ?_
  have hF12 := hF10.le (m := 18) (by decide)
  change zV Γ mc_X11_init_0 (18, 17, 2495) 24 [(2, zRf (zad Γ) 5), (1, zRf (zad Γ) 1), (0, zRf (zad Γ) 0)] [zRf (zad Γ) 17] M10
  refine zr_dup C rfl (zdec_at dm_X11_init 12 rfl) ?_
  refine zr_aload_n C 0 rfl (zdec_at dm_X11_init 13 rfl) rfl ?_
  refine zr_callI (κ := (18, 17, 2495)) C hAd rfl (by decide) (fun xs P Q M hPQ ⟨a, b, c⟩ => ⟨a, b, fun q => hPQ 0 _ (c q) rfl⟩) [5] sc_X1_init_17 ck_RX11_17 ii_X1_init rfl rfl rfl (zdec_at dm_X11_init 14 rfl) (by decide) ⟨by decide, by decide⟩ ⟨by decide, by decide⟩ (Nat.le_of_ble_eq_true rfl) (zall_2 zall_n) ⟨rfl, hF12, fun hF15 hR15 => ?_⟩
  obtain ⟨M15, e15⟩ : ∃ q, q = cf_X1_init_17 M10 := ⟨_, rfl⟩
  rw [← e15] at hF15 hR15 ⊢
  change zV Γ mc_X11_init_0 (25, 24, 5386) 29 [(2, zRf (zad Γ) 5), (1, zRf (zad Γ) 1), (0, zRf (zad Γ) 0)] [zRf (zad Γ) 17] M15
  refine zr_astore_n (L1 := [(3, zRf (zad Γ) 17), (2, zRf (zad Γ) 5), (1, zRf (zad Γ) 1), (0, zRf (zad Γ) 0)]) C (zdec_at dm_X11_init 15 rfl) rfl (Nat.le_of_ble_eq_true rfl) rfl ?_
  refine zr_bipush C (zdec_at dm_X11_init 16 rfl) (by decide) ?_
  refine zr_newR (κ := (25, 24, 5386)) (len := 8) C hAd rfl (by decide) (zTG_1 (i := 218) rfl rfl) rfl rfl (by decide) (fun k hk => ⟨zS0_le _ _, (hF15 25 k (Nat.le_refl _)).trans (if_pos (zS0_25 k hk))⟩) ⟨by decide, by decide⟩ (zdec_at dm_X11_init 17 rfl) ?_
  have hF18 := hF15.le (m := 26) (by decide)
  change zV Γ mc_X11_init_0 (26, 25, 5394) 35 [(3, zRf (zad Γ) 17), (2, zRf (zad Γ) 5), (1, zRf (zad Γ) 1), (0, zRf (zad Γ) 0)] [zRf (zad Γ) 25] M15
  refine zr_astore (L1 := [(4, zRf (zad Γ) 25), (3, zRf (zad Γ) 17), (2, zRf (zad Γ) 5), (1, zRf (zad Γ) 1), (0, zRf (zad Γ) 0)]) C (zdec_at dm_X11_init 18 rfl) (Nat.le_of_ble_eq_true rfl) rfl ?_
  refine zr_iconst C (zdec_at dm_X11_init 19 rfl) ?_
  refine zr_istore (L1 := [(5, zI 0), (4, zRf (zad Γ) 25), (3, zRf (zad Γ) 17), (2, zRf (zad Γ) 5), (1, zRf (zad Γ) 1), (0, zRf (zad Γ) 0)]) C (zdec_at dm_X11_init 20 rfl) (Nat.le_of_ble_eq_true rfl) rfl ?_
  refine zr_iload C 0 rfl (zdec_at dm_X11_init 21 rfl) ?_
  refine zr_bipush C (zdec_at dm_X11_init 22 rfl) (by decide) ?_
  refine zr_icmp_ge C (by decide) (by decide) (zdec_at dm_X11_init 23 rfl) rfl (fun g => absurd g (by decide)) (fun _ => ?_)
  refine zr_aload C 1 rfl (zdec_at dm_X11_init 24 rfl) ?_
  refine zr_iload C 0 rfl (zdec_at dm_X11_init 25 rfl) ?_
  refine zr_new (κ := (26, 25, 5394)) C hAd rfl (by decide) tyX10 tyX10_ok vc_X10 rfl wsin_X10 cl_RX11_22 ni_X10.1 ni_X10.2 rfl (hF18.o cd_26) ⟨by decide, by decide⟩ (zdec_at dm_X11_init 26 rfl) ?_
  have hF27 := hF18.le (m := 27) (by decide)
  change zV Γ mc_X11_init_0 (27, 26, 5403) 54 [(5, zI 0), (4, zRf (zad Γ) 25), (3, zRf (zad Γ) 17), (2, zRf (zad Γ) 5), (1, zRf (zad Γ) 1), (0, zRf (zad Γ) 0)] [zRf (zad Γ) 26, zI 0, zRf (zad Γ) 25] M15
  refine zr_dup C rfl (zdec_at dm_X11_init 27 rfl) ?_
  refine zr_callI (κ := (27, 26, 5403)) C hAd rfl (by decide) (fun xs P Q M hPQ ⟨a, b, c⟩ => ⟨a, b, fun q => hPQ 0 _ (c q) rfl⟩) [] sc_X10_init_26 ck_RX11_24 ii_X10_init rfl rfl rfl (zdec_at dm_X11_init 28 rfl) (by decide) ⟨by decide, by decide⟩ ⟨by decide, by decide⟩ (Nat.le_of_ble_eq_true rfl) zall_n ⟨rfl, hF27, fun hF29 hR29 => ?_⟩
  obtain ⟨M29, e29⟩ : ∃ q, q = cf_X10_init_26 M15 := ⟨_, rfl⟩
  rw [← e29] at hF29 hR29 ⊢
  change zV Γ mc_X11_init_0 (28, 27, 5523) 58 [(5, zI 0), (4, zRf (zad Γ) 25), (3, zRf (zad Γ) 17), (2, zRf (zad Γ) 5), (1, zRf (zad Γ) 1), (0, zRf (zad Γ) 0)] [zRf (zad Γ) 26, zI 0, zRf (zad Γ) 25] M29
  refine zr_aast (κ := (28, 27, 5523)) (len := 8) C rfl (by decide +kernel) (by decide) (fun j => zS0_le _ _) (by decide +kernel) (by decide) (zdec_at dm_X11_init 29 rfl) (fun M30 e30 => ?_)
  have hR30 : zRng M30 := by rw [e30]; exact hR29.set (by decide) _ _
  have hF30 : zfrs M30 28 := by rw [e30]; exact hF29.set (by decide) _ _
  refine zr_iinc (L1 := [(5, zI (0 + 1)), (4, zRf (zad Γ) 25), (3, zRf (zad Γ) 17), (2, zRf (zad Γ) 5), (1, zRf (zad Γ) 1), (0, zRf (zad Γ) 0)]) C 0 rfl (zdec_at dm_X11_init 30 rfl) (Nat.le_of_ble_eq_true rfl) rfl ?_
  change zV Γ mc_X11_init_0 (28, 27, 5523) 62 [(5, zI 1), (4, zRf (zad Γ) 25), (3, zRf (zad Γ) 17), (2, zRf (zad Γ) 5), (1, zRf (zad Γ) 1), (0, zRf (zad Γ) 0)] [] M30
  refine zr_goto C (zdec_at dm_X11_init 31 rfl) rfl ?_
  refine zr_iload C 0 rfl (zdec_at dm_X11_init 21 rfl) ?_
  refine zr_bipush C (zdec_at dm_X11_init 22 rfl) (by decide) ?_
  refine zr_icmp_ge C (by decide) (by decide) (zdec_at dm_X11_init 23 rfl) rfl (fun g => absurd g (by decide)) (fun _ => ?_)
  refine zr_aload C 1 rfl (zdec_at dm_X11_init 24 rfl) ?_
  refine zr_iload C 0 rfl (zdec_at dm_X11_init 25 rfl) ?_
  refine zr_new (κ := (28, 27, 5523)) C hAd rfl (by decide) tyX10 tyX10_ok vc_X10 rfl wsin_X10 cl_RX11_22 ni_X10.1 ni_X10.2 rfl (hF30.o cd_28) ⟨by decide, by decide⟩ (zdec_at dm_X11_init 26 rfl) ?_
  have hF38 := hF30.le (m := 29) (by decide)
  change zV Γ mc_X11_init_0 (29, 28, 5532) 54 [(5, zI 1), (4, zRf (zad Γ) 25), (3, zRf (zad Γ) 17), (2, zRf (zad Γ) 5), (1, zRf (zad Γ) 1), (0, zRf (zad Γ) 0)] [zRf (zad Γ) 28, zI 1, zRf (zad Γ) 25] M30
  refine zr_dup C rfl (zdec_at dm_X11_init 27 rfl) ?_
  refine zr_callI (κ := (29, 28, 5532)) C hAd rfl (by decide) (fun xs P Q M hPQ ⟨a, b, c⟩ => ⟨a, b, fun q => hPQ 0 _ (c q) rfl⟩) [] sc_X10_init_28 ck_RX11_24 ii_X10_init rfl rfl rfl (zdec_at dm_X11_init 28 rfl) (by decide) ⟨by decide, by decide⟩ ⟨by decide, by decide⟩ (Nat.le_of_ble_eq_true rfl) zall_n ⟨rfl, hF38, fun hF40 hR40 => ?_⟩
  obtain ⟨M40, e40⟩ : ∃ q, q = cf_X10_init_28 M30 := ⟨_, rfl⟩
  rw [← e40] at hF40 hR40 ⊢
  change zV Γ mc_X11_init_0 (30, 29, 5652) 58 [(5, zI 1), (4, zRf (zad Γ) 25), (3, zRf (zad Γ) 17), (2, zRf (zad Γ) 5), (1, zRf (zad Γ) 1), (0, zRf (zad Γ) 0)] [zRf (zad Γ) 28, zI 1, zRf (zad Γ) 25] M40
  refine zr_aast (κ := (30, 29, 5652)) (len := 8) C rfl (by decide +kernel) (by decide) (fun j => zS0_le _ _) (by decide +kernel) (by decide) (zdec_at dm_X11_init 29 rfl) (fun M41 e41 => ?_)
  have hR41 : zRng M41 := by rw [e41]; exact hR40.set (by decide) _ _
  have hF41 : zfrs M41 30 := by rw [e41]; exact hF40.set (by decide) _ _
  refine zr_iinc (L1 := [(5, zI (1 + 1)), (4, zRf (zad Γ) 25), (3, zRf (zad Γ) 17), (2, zRf (zad Γ) 5), (1, zRf (zad Γ) 1), (0, zRf (zad Γ) 0)]) C 0 rfl (zdec_at dm_X11_init 30 rfl) (Nat.le_of_ble_eq_true rfl) rfl ?_
  change zV Γ mc_X11_init_0 (30, 29, 5652) 62 [(5, zI 2), (4, zRf (zad Γ) 25), (3, zRf (zad Γ) 17), (2, zRf (zad Γ) 5), (1, zRf (zad Γ) 1), (0, zRf (zad Γ) 0)] [] M41
  refine zr_goto C (zdec_at dm_X11_init 31 rfl) rfl ?_
  refine zr_iload C 0 rfl (zdec_at dm_X11_init 21 rfl) ?_
  refine zr_bipush C (zdec_at dm_X11_init 22 rfl) (by decide) ?_
  refine zr_icmp_ge C (by decide) (by decide) (zdec_at dm_X11_init 23 rfl) rfl (fun g => absurd g (by decide)) (fun _ => ?_)
  refine zr_aload C 1 rfl (zdec_at dm_X11_init 24 rfl) ?_
  refine zr_iload C 0 rfl (zdec_at dm_X11_init 25 rfl) ?_
  refine zr_new (κ := (30, 29, 5652)) C hAd rfl (by decide) tyX10 tyX10_ok vc_X10 rfl wsin_X10 cl_RX11_22 ni_X10.1 ni_X10.2 rfl (hF41.o cd_30) ⟨by decide, by decide⟩ (zdec_at dm_X11_init 26 rfl) ?_
  have hF49 := hF41.le (m := 31) (by decide)
  change zV Γ mc_X11_init_0 (31, 30, 5661) 54 [(5, zI 2), (4, zRf (zad Γ) 25), (3, zRf (zad Γ) 17), (2, zRf (zad Γ) 5), (1, zRf (zad Γ) 1), (0, zRf (zad Γ) 0)] [zRf (zad Γ) 30, zI 2, zRf (zad Γ) 25] M41
  refine zr_dup C rfl (zdec_at dm_X11_init 27 rfl) ?_
  refine zr_callI (κ := (31, 30, 5661)) C hAd rfl (by decide) (fun xs P Q M hPQ ⟨a, b, c⟩ => ⟨a, b, fun q => hPQ 0 _ (c q) rfl⟩) [] sc_X10_init_30 ck_RX11_24 ii_X10_init rfl rfl rfl (zdec_at dm_X11_init 28 rfl) (by decide) ⟨by decide, by decide⟩ ⟨by decide, by decide⟩ (Nat.le_of_ble_eq_true rfl) zall_n ⟨rfl, hF49, fun hF51 hR51 => ?_⟩
  obtain ⟨M51, e51⟩ : ∃ q, q = cf_X10_init_30 M41 := ⟨_, rfl⟩
  rw [← e51] at hF51 hR51 ⊢
  change zV Γ mc_X11_init_0 (32, 31, 5781) 58 [(5, zI 2), (4, zRf (zad Γ) 25), (3, zRf (zad Γ) 17), (2, zRf (zad Γ) 5), (1, zRf (zad Γ) 1), (0, zRf (zad Γ) 0)] [zRf (zad Γ) 30, zI 2, zRf (zad Γ) 25] M51
  refine zr_aast (κ := (32, 31, 5781)) (len := 8) C rfl (by decide +kernel) (by decide) (fun j => zS0_le _ _) (by decide +kernel) (by decide) (zdec_at dm_X11_init 29 rfl) (fun M52 e52 => ?_)
  have hR52 : zRng M52 := by rw [e52]; exact hR51.set (by decide) _ _
  have hF52 : zfrs M52 32 := by rw [e52]; exact hF51.set (by decide) _ _
  refine zr_iinc (L1 := [(5, zI (2 + 1)), (4, zRf (zad Γ) 25), (3, zRf (zad Γ) 17), (2, zRf (zad Γ) 5), (1, zRf (zad Γ) 1), (0, zRf (zad Γ) 0)]) C 0 rfl (zdec_at dm_X11_init 30 rfl) (Nat.le_of_ble_eq_true rfl) rfl ?_
  change zV Γ mc_X11_init_0 (32, 31, 5781) 62 [(5, zI 3), (4, zRf (zad Γ) 25), (3, zRf (zad Γ) 17), (2, zRf (zad Γ) 5), (1, zRf (zad Γ) 1), (0, zRf (zad Γ) 0)] [] M52
  refine zr_goto C (zdec_at dm_X11_init 31 rfl) rfl ?_
  refine zr_iload C 0 rfl (zdec_at dm_X11_init 21 rfl) ?_
  refine zr_bipush C (zdec_at dm_X11_init 22 rfl) (by decide) ?_
  refine zr_icmp_ge C (by decide) (by decide) (zdec_at dm_X11_init 23 rfl) rfl (fun g => absurd g (by decide)) (fun _ => ?_)
  refine zr_aload C 1 rfl (zdec_at dm_X11_init 24 rfl) ?_
  refine zr_iload C 0 rfl (zdec_at dm_X11_init 25 rfl) ?_
  refine zr_new (κ := (32, 31, 5781)) C hAd rfl (by decide) tyX10 tyX10_ok vc_X10 rfl wsin_X10 cl_RX11_22 ni_X10.1 ni_X10.2 rfl (hF52.o cd_32) ⟨by decide, by decide⟩ (zdec_at dm_X11_init 26 rfl) ?_
  have hF60 := hF52.le (m := 33) (by decide)
  change zV Γ mc_X11_init_0 (33, 32, 5790) 54 [(5, zI 3), (4, zRf (zad Γ) 25), (3, zRf (zad Γ) 17), (2, zRf (zad Γ) 5), (1, zRf (zad Γ) 1), (0, zRf (zad Γ) 0)] [zRf (zad Γ) 32, zI 3, zRf (zad Γ) 25] M52
  refine zr_dup C rfl (zdec_at dm_X11_init 27 rfl) ?_
  refine zr_callI (κ := (33, 32, 5790)) C hAd rfl (by decide) (fun xs P Q M hPQ ⟨a, b, c⟩ => ⟨a, b, fun q => hPQ 0 _ (c q) rfl⟩) [] sc_X10_init_32 ck_RX11_24 ii_X10_init rfl rfl rfl (zdec_at dm_X11_init 28 rfl) (by decide) ⟨by decide, by decide⟩ ⟨by decide, by decide⟩ (Nat.le_of_ble_eq_true rfl) zall_n ⟨rfl, hF60, fun hF62 hR62 => ?_⟩
  obtain ⟨M62, e62⟩ : ∃ q, q = cf_X10_init_32 M52 := ⟨_, rfl⟩
  rw [← e62] at hF62 hR62 ⊢
  change zV Γ mc_X11_init_0 (34, 33, 5910) 58 [(5, zI 3), (4, zRf (zad Γ) 25), (3, zRf (zad Γ) 17), (2, zRf (zad Γ) 5), (1, zRf (zad Γ) 1), (0, zRf (zad Γ) 0)] [zRf (zad Γ) 32, zI 3, zRf (zad Γ) 25] M62
  refine zr_aast (κ := (34, 33, 5910)) (len := 8) C rfl (by decide +kernel) (by decide) (fun j => zS0_le _ _) (by decide +kernel) (by decide) (zdec_at dm_X11_init 29 rfl) (fun M63 e63 => ?_)
  have hR63 : zRng M63 := by rw [e63]; exact hR62.set (by decide) _ _
  have hF63 : zfrs M63 34 := by rw [e63]; exact hF62.set (by decide) _ _
  refine zr_iinc (L1 := [(5, zI (3 + 1)), (4, zRf (zad Γ) 25), (3, zRf (zad Γ) 17), (2, zRf (zad Γ) 5), (1, zRf (zad Γ) 1), (0, zRf (zad Γ) 0)]) C 0 rfl (zdec_at dm_X11_init 30 rfl) (Nat.le_of_ble_eq_true rfl) rfl ?_
  change zV Γ mc_X11_init_0 (34, 33, 5910) 62 [(5, zI 4), (4, zRf (zad Γ) 25), (3, zRf (zad Γ) 17), (2, zRf (zad Γ) 5), (1, zRf (zad Γ) 1), (0, zRf (zad Γ) 0)] [] M63
  refine zr_goto C (zdec_at dm_X11_init 31 rfl) rfl ?_
  refine zr_iload C 0 rfl (zdec_at dm_X11_init 21 rfl) ?_
  refine zr_bipush C (zdec_at dm_X11_init 22 rfl) (by decide) ?_
  refine zr_icmp_ge C (by decide) (by decide) (zdec_at dm_X11_init 23 rfl) rfl (fun g => absurd g (by decide)) (fun _ => ?_)
  refine zr_aload C 1 rfl (zdec_at dm_X11_init 24 rfl) ?_
  refine zr_iload C 0 rfl (zdec_at dm_X11_init 25 rfl) ?_
  refine zr_new (κ := (34, 33, 5910)) C hAd rfl (by decide) tyX10 tyX10_ok vc_X10 rfl wsin_X10 cl_RX11_22 ni_X10.1 ni_X10.2 rfl (hF63.o cd_34) ⟨by decide, by decide⟩ (zdec_at dm_X11_init 26 rfl) ?_
  have hF71 := hF63.le (m := 35) (by decide)
  change zV Γ mc_X11_init_0 (35, 34, 5919) 54 [(5, zI 4), (4, zRf (zad Γ) 25), (3, zRf (zad Γ) 17), (2, zRf (zad Γ) 5), (1, zRf (zad Γ) 1), (0, zRf (zad Γ) 0)] [zRf (zad Γ) 34, zI 4, zRf (zad Γ) 25] M63
  refine zr_dup C rfl (zdec_at dm_X11_init 27 rfl) ?_
  refine zr_callI (κ := (35, 34, 5919)) C hAd rfl (by decide) (fun xs P Q M hPQ ⟨a, b, c⟩ => ⟨a, b, fun q => hPQ 0 _ (c q) rfl⟩) [] sc_X10_init_34 ck_RX11_24 ii_X10_init rfl rfl rfl (zdec_at dm_X11_init 28 rfl) (by decide) ⟨by decide, by decide⟩ ⟨by decide, by decide⟩ (Nat.le_of_ble_eq_true rfl) zall_n ⟨rfl, hF71, fun hF73 hR73 => ?_⟩
  obtain ⟨M73, e73⟩ : ∃ q, q = cf_X10_init_34 M63 := ⟨_, rfl⟩
  rw [← e73] at hF73 hR73 ⊢
  change zV Γ mc_X11_init_0 (36, 35, 6039) 58 [(5, zI 4), (4, zRf (zad Γ) 25), (3, zRf (zad Γ) 17), (2, zRf (zad Γ) 5), (1, zRf (zad Γ) 1), (0, zRf (zad Γ) 0)] [zRf (zad Γ) 34, zI 4, zRf (zad Γ) 25] M73
  refine zr_aast (κ := (36, 35, 6039)) (len := 8) C rfl (by decide +kernel) (by decide) (fun j => zS0_le _ _) (by decide +kernel) (by decide) (zdec_at dm_X11_init 29 rfl) (fun M74 e74 => ?_)
  have hR74 : zRng M74 := by rw [e74]; exact hR73.set (by decide) _ _
  have hF74 : zfrs M74 36 := by rw [e74]; exact hF73.set (by decide) _ _
  refine zr_iinc (L1 := [(5, zI (4 + 1)), (4, zRf (zad Γ) 25), (3, zRf (zad Γ) 17), (2, zRf (zad Γ) 5), (1, zRf (zad Γ) 1), (0, zRf (zad Γ) 0)]) C 0 rfl (zdec_at dm_X11_init 30 rfl) (Nat.le_of_ble_eq_true rfl) rfl ?_
  change zV Γ mc_X11_init_0 (36, 35, 6039) 62 [(5, zI 5), (4, zRf (zad Γ) 25), (3, zRf (zad Γ) 17), (2, zRf (zad Γ) 5), (1, zRf (zad Γ) 1), (0, zRf (zad Γ) 0)] [] M74
  refine zr_goto C (zdec_at dm_X11_init 31 rfl) rfl ?_
  refine zr_iload C 0 rfl (zdec_at dm_X11_init 21 rfl) ?_
  refine zr_bipush C (zdec_at dm_X11_init 22 rfl) (by decide) ?_
  refine zr_icmp_ge C (by decide) (by decide) (zdec_at dm_X11_init 23 rfl) rfl (fun g => absurd g (by decide)) (fun _ => ?_)
  refine zr_aload C 1 rfl (zdec_at dm_X11_init 24 rfl) ?_
  refine zr_iload C 0 rfl (zdec_at dm_X11_init 25 rfl) ?_
  refine zr_new (κ := (36, 35, 6039)) C hAd rfl (by decide) tyX10 tyX10_ok vc_X10 rfl wsin_X10 cl_RX11_22 ni_X10.1 ni_X10.2 rfl (hF74.o cd_36) ⟨by decide, by decide⟩ (zdec_at dm_X11_init 26 rfl) ?_
  have hF82 := hF74.le (m := 37) (by decide)
  change zV Γ mc_X11_init_0 (37, 36, 6048) 54 [(5, zI 5), (4, zRf (zad Γ) 25), (3, zRf (zad Γ) 17), (2, zRf (zad Γ) 5), (1, zRf (zad Γ) 1), (0, zRf (zad Γ) 0)] [zRf (zad Γ) 36, zI 5, zRf (zad Γ) 25] M74
  refine zr_dup C rfl (zdec_at dm_X11_init 27 rfl) ?_
  refine zr_callI (κ := (37, 36, 6048)) C hAd rfl (by decide) (fun xs P Q M hPQ ⟨a, b, c⟩ => ⟨a, b, fun q => hPQ 0 _ (c q) rfl⟩) [] sc_X10_init_36 ck_RX11_24 ii_X10_init rfl rfl rfl (zdec_at dm_X11_init 28 rfl) (by decide) ⟨by decide, by decide⟩ ⟨by decide, by decide⟩ (Nat.le_of_ble_eq_true rfl) zall_n ⟨rfl, hF82, fun hF84 hR84 => ?_⟩
  obtain ⟨M84, e84⟩ : ∃ q, q = cf_X10_init_36 M74 := ⟨_, rfl⟩
  rw [← e84] at hF84 hR84 ⊢
  change zV Γ mc_X11_init_0 (38, 37, 6168) 58 [(5, zI 5), (4, zRf (zad Γ) 25), (3, zRf (zad Γ) 17), (2, zRf (zad Γ) 5), (1, zRf (zad Γ) 1), (0, zRf (zad Γ) 0)] [zRf (zad Γ) 36, zI 5, zRf (zad Γ) 25] M84
  refine zr_aast (κ := (38, 37, 6168)) (len := 8) C rfl (by decide +kernel) (by decide) (fun j => zS0_le _ _) (by decide +kernel) (by decide) (zdec_at dm_X11_init 29 rfl) (fun M85 e85 => ?_)
  have hR85 : zRng M85 := by rw [e85]; exact hR84.set (by decide) _ _
  have hF85 : zfrs M85 38 := by rw [e85]; exact hF84.set (by decide) _ _
  refine zr_iinc (L1 := [(5, zI (5 + 1)), (4, zRf (zad Γ) 25), (3, zRf (zad Γ) 17), (2, zRf (zad Γ) 5), (1, zRf (zad Γ) 1), (0, zRf (zad Γ) 0)]) C 0 rfl (zdec_at dm_X11_init 30 rfl) (Nat.le_of_ble_eq_true rfl) rfl ?_
  change zV Γ mc_X11_init_0 (38, 37, 6168) 62 [(5, zI 6), (4, zRf (zad Γ) 25), (3, zRf (zad Γ) 17), (2, zRf (zad Γ) 5), (1, zRf (zad Γ) 1), (0, zRf (zad Γ) 0)] [] M85
  refine zr_goto C (zdec_at dm_X11_init 31 rfl) rfl ?_
  refine zr_iload C 0 rfl (zdec_at dm_X11_init 21 rfl) ?_
  refine zr_bipush C (zdec_at dm_X11_init 22 rfl) (by decide) ?_
  refine zr_icmp_ge C (by decide) (by decide) (zdec_at dm_X11_init 23 rfl) rfl (fun g => absurd g (by decide)) (fun _ => ?_)
  refine zr_aload C 1 rfl (zdec_at dm_X11_init 24 rfl) ?_
  refine zr_iload C 0 rfl (zdec_at dm_X11_init 25 rfl) ?_
  refine zr_new (κ := (38, 37, 6168)) C hAd rfl (by decide) tyX10 tyX10_ok vc_X10 rfl wsin_X10 cl_RX11_22 ni_X10.1 ni_X10.2 rfl (hF85.o cd_38) ⟨by decide, by decide⟩ (zdec_at dm_X11_init 26 rfl) ?_
  have hF93 := hF85.le (m := 39) (by decide)
  change zV Γ mc_X11_init_0 (39, 38, 6177) 54 [(5, zI 6), (4, zRf (zad Γ) 25), (3, zRf (zad Γ) 17), (2, zRf (zad Γ) 5), (1, zRf (zad Γ) 1), (0, zRf (zad Γ) 0)] [zRf (zad Γ) 38, zI 6, zRf (zad Γ) 25] M85
  refine zr_dup C rfl (zdec_at dm_X11_init 27 rfl) ?_
  refine zr_callI (κ := (39, 38, 6177)) C hAd rfl (by decide) (fun xs P Q M hPQ ⟨a, b, c⟩ => ⟨a, b, fun q => hPQ 0 _ (c q) rfl⟩) [] sc_X10_init_38 ck_RX11_24 ii_X10_init rfl rfl rfl (zdec_at dm_X11_init 28 rfl) (by decide) ⟨by decide, by decide⟩ ⟨by decide, by decide⟩ (Nat.le_of_ble_eq_true rfl) zall_n ⟨rfl, hF93, fun hF95 hR95 => ?_⟩
  obtain ⟨M95, e95⟩ : ∃ q, q = cf_X10_init_38 M85 := ⟨_, rfl⟩
  rw [← e95] at hF95 hR95 ⊢
  change zV Γ mc_X11_init_0 (40, 39, 6297) 58 [(5, zI 6), (4, zRf (zad Γ) 25), (3, zRf (zad Γ) 17), (2, zRf (zad Γ) 5), (1, zRf (zad Γ) 1), (0, zRf (zad Γ) 0)] [zRf (zad Γ) 38, zI 6, zRf (zad Γ) 25] M95
  refine zr_aast (κ := (40, 39, 6297)) (len := 8) C rfl (by decide +kernel) (by decide) (fun j => zS0_le _ _) (by decide +kernel) (by decide) (zdec_at dm_X11_init 29 rfl) (fun M96 e96 => ?_)
  have hR96 : zRng M96 := by rw [e96]; exact hR95.set (by decide) _ _
  have hF96 : zfrs M96 40 := by rw [e96]; exact hF95.set (by decide) _ _
  refine zr_iinc (L1 := [(5, zI (6 + 1)), (4, zRf (zad Γ) 25), (3, zRf (zad Γ) 17), (2, zRf (zad Γ) 5), (1, zRf (zad Γ) 1), (0, zRf (zad Γ) 0)]) C 0 rfl (zdec_at dm_X11_init 30 rfl) (Nat.le_of_ble_eq_true rfl) rfl ?_
  change zV Γ mc_X11_init_0 (40, 39, 6297) 62 [(5, zI 7), (4, zRf (zad Γ) 25), (3, zRf (zad Γ) 17), (2, zRf (zad Γ) 5), (1, zRf (zad Γ) 1), (0, zRf (zad Γ) 0)] [] M96
  refine zr_goto C (zdec_at dm_X11_init 31 rfl) rfl ?_
  refine zr_iload C 0 rfl (zdec_at dm_X11_init 21 rfl) ?_
  refine zr_bipush C (zdec_at dm_X11_init 22 rfl) (by decide) ?_
  refine zr_icmp_ge C (by decide) (by decide) (zdec_at dm_X11_init 23 rfl) rfl (fun g => absurd g (by decide)) (fun _ => ?_)
  refine zr_aload C 1 rfl (zdec_at dm_X11_init 24 rfl) ?_
  refine zr_iload C 0 rfl (zdec_at dm_X11_init 25 rfl) ?_
  refine zr_new (κ := (40, 39, 6297)) C hAd rfl (by decide) tyX10 tyX10_ok vc_X10 rfl wsin_X10 cl_RX11_22 ni_X10.1 ni_X10.2 rfl (hF96.o cd_40) ⟨by decide, by decide⟩ (zdec_at dm_X11_init 26 rfl) ?_
  have hF104 := hF96.le (m := 41) (by decide)
  change zV Γ mc_X11_init_0 (41, 40, 6306) 54 [(5, zI 7), (4, zRf (zad Γ) 25), (3, zRf (zad Γ) 17), (2, zRf (zad Γ) 5), (1, zRf (zad Γ) 1), (0, zRf (zad Γ) 0)] [zRf (zad Γ) 40, zI 7, zRf (zad Γ) 25] M96
  refine zr_dup C rfl (zdec_at dm_X11_init 27 rfl) ?_
  refine zr_callI (κ := (41, 40, 6306)) C hAd rfl (by decide) (fun xs P Q M hPQ ⟨a, b, c⟩ => ⟨a, b, fun q => hPQ 0 _ (c q) rfl⟩) [] sc_X10_init_40 ck_RX11_24 ii_X10_init rfl rfl rfl (zdec_at dm_X11_init 28 rfl) (by decide) ⟨by decide, by decide⟩ ⟨by decide, by decide⟩ (Nat.le_of_ble_eq_true rfl) zall_n ⟨rfl, hF104, fun hF106 hR106 => ?_⟩
  obtain ⟨M106, e106⟩ : ∃ q, q = cf_X10_init_40 M96 := ⟨_, rfl⟩
  rw [← e106] at hF106 hR106 ⊢
  change zV Γ mc_X11_init_0 (42, 41, 6426) 58 [(5, zI 7), (4, zRf (zad Γ) 25), (3, zRf (zad Γ) 17), (2, zRf (zad Γ) 5), (1, zRf (zad Γ) 1), (0, zRf (zad Γ) 0)] [zRf (zad Γ) 40, zI 7, zRf (zad Γ) 25] M106
  refine zr_aast (κ := (42, 41, 6426)) (len := 8) C rfl (by decide +kernel) (by decide) (fun j => zS0_le _ _) (by decide +kernel) (by decide) (zdec_at dm_X11_init 29 rfl) (fun M107 e107 => ?_)
  have hR107 : zRng M107 := by rw [e107]; exact hR106.set (by decide) _ _
  have hF107 : zfrs M107 42 := by rw [e107]; exact hF106.set (by decide) _ _
  refine zr_iinc (L1 := [(5, zI (7 + 1)), (4, zRf (zad Γ) 25), (3, zRf (zad Γ) 17), (2, zRf (zad Γ) 5), (1, zRf (zad Γ) 1), (0, zRf (zad Γ) 0)]) C 0 rfl (zdec_at dm_X11_init 30 rfl) (Nat.le_of_ble_eq_true rfl) rfl ?_
  change zV Γ mc_X11_init_0 (42, 41, 6426) 62 [(5, zI 8), (4, zRf (zad Γ) 25), (3, zRf (zad Γ) 17), (2, zRf (zad Γ) 5), (1, zRf (zad Γ) 1), (0, zRf (zad Γ) 0)] [] M107
  refine zr_goto C (zdec_at dm_X11_init 31 rfl) rfl ?_
  refine zr_iload C 0 rfl (zdec_at dm_X11_init 21 rfl) ?_
  refine zr_bipush C (zdec_at dm_X11_init 22 rfl) (by decide) ?_
  refine zr_icmp_ge C (by decide) (by decide) (zdec_at dm_X11_init 23 rfl) rfl (fun _ => ?_) (fun g => absurd (by decide) g)
  refine zr_aload_n C 5 rfl (zdec_at dm_X11_init 32 rfl) rfl ?_
  refine zr_aload_n C 4 rfl (zdec_at dm_X11_init 33 rfl) rfl ?_
  refine zr_putF (κ := (42, 41, 6426)) C hini rfl (by decide +kernel) fk_RX11_25 (fun _ => ⟨rfl, rfl⟩) (by decide +kernel) (by decide) (by decide) (zdec_at dm_X11_init 34 rfl) (fun M115 e115 => ?_)
  have hR115 : zRng M115 := by rw [e115]; exact hR107.set (by decide) _ _
  have hF115 : zfrs M115 42 := by rw [e115]; exact hF107.set (by decide) _ _
  refine zr_aload_n C 5 rfl (zdec_at dm_X11_init 35 rfl) rfl ?_
  refine zr_aload_n C 3 rfl (zdec_at dm_X11_init 36 rfl) rfl ?_
  refine zr_putF (κ := (42, 41, 6426)) C hini rfl (by decide +kernel) fk_RX11_29 (fun _ => ⟨rfl, rfl⟩) (by decide +kernel) (by decide) (by decide) (zdec_at dm_X11_init 37 rfl) (fun M118 e118 => ?_)
  have hR118 : zRng M118 := by rw [e118]; exact hR115.set (by decide) _ _
  have hF118 : zfrs M118 42 := by rw [e118]; exact hF115.set (by decide) _ _
  refine zr_aload_n C 5 rfl (zdec_at dm_X11_init 38 rfl) rfl ?_
  refine zr_aload_n C 2 rfl (zdec_at dm_X11_init 39 rfl) rfl ?_
  refine zr_putF (κ := (42, 41, 6426)) C hini rfl (by decide +kernel) fk_RX11_33 (fun _ => ⟨rfl, rfl⟩) (by decide +kernel) (by decide) (by decide) (zdec_at dm_X11_init 40 rfl) (fun M121 e121 => ?_)
  have hR121 : zRng M121 := by rw [e121]; exact hR118.set (by decide) _ _
  have hF121 : zfrs M121 42 := by rw [e121]; exact hF118.set (by decide) _ _
  refine zr_aload_n C 5 rfl (zdec_at dm_X11_init 41 rfl) rfl ?_
  refine zr_new (κ := (42, 41, 6426)) C hAd rfl (by decide) tyX6 tyX6_ok vc_X6 rfl wsin_X6 cl_RX11_37 ni_X6.1 ni_X6.2 rfl (hF121.o cd_42) ⟨by decide, by decide⟩ (zdec_at dm_X11_init 42 rfl) ?_
  have hF123 := hF121.le (m := 43) (by decide)
  change zV Γ mc_X11_init_0 (43, 42, 6438) 84 [(5, zI 8), (4, zRf (zad Γ) 25), (3, zRf (zad Γ) 17), (2, zRf (zad Γ) 5), (1, zRf (zad Γ) 1), (0, zRf (zad Γ) 0)] [zRf (zad Γ) 42, zRf (zad Γ) 0] M121
  refine zr_dup C rfl (zdec_at dm_X11_init 43 rfl) ?_
  refine zr_aload_n C 2 rfl (zdec_at dm_X11_init 44 rfl) rfl ?_
  refine zr_callI (κ := (43, 42, 6438)) C hAd rfl (by decide) (fun xs P Q M hPQ ⟨a, b, c⟩ => ⟨a, b, fun q => hPQ 0 _ (c q) rfl⟩) [17] sc_X6_init_42 ck_RX11_39 ii_X6_init rfl rfl rfl (zdec_at dm_X11_init 45 rfl) (by decide) ⟨by decide, by decide⟩ ⟨by decide, by decide⟩ (Nat.le_of_ble_eq_true rfl) (zall_2 zall_n) ⟨rfl, hF123, fun hF126 hR126 => ?_⟩
  obtain ⟨M126, e126⟩ : ∃ q, q = cf_X6_init_42 M121 := ⟨_, rfl⟩
  rw [← e126] at hF126 hR126 ⊢
  change zV Γ mc_X11_init_0 (48, 47, 8503) 89 [(5, zI 8), (4, zRf (zad Γ) 25), (3, zRf (zad Γ) 17), (2, zRf (zad Γ) 5), (1, zRf (zad Γ) 1), (0, zRf (zad Γ) 0)] [zRf (zad Γ) 42, zRf (zad Γ) 0] M126
  refine zr_putF (κ := (48, 47, 8503)) C hini rfl (by decide +kernel) fk_RX11_42 (fun _ => ⟨rfl, rfl⟩) (by decide +kernel) (by decide) (by decide) (zdec_at dm_X11_init 46 rfl) (fun M127 e127 => ?_)
  have hR127 : zRng M127 := by rw [e127]; exact hR126.set (by decide) _ _
  have hF127 : zfrs M127 48 := by rw [e127]; exact hF126.set (by decide) _ _
  refine zr_aload_n C 5 rfl (zdec_at dm_X11_init 47 rfl) rfl ?_
  refine zr_new (κ := (48, 47, 8503)) C hAd rfl (by decide) tyX9 tyX9_ok vc_X9 rfl wsin_X9 cl_RX11_46 ni_X9.1 ni_X9.2 rfl (hF127.o cd_48) ⟨by decide, by decide⟩ (zdec_at dm_X11_init 48 rfl) ?_
  have hF129 := hF127.le (m := 49) (by decide)
  change zV Γ mc_X11_init_0 (49, 48, 8506) 96 [(5, zI 8), (4, zRf (zad Γ) 25), (3, zRf (zad Γ) 17), (2, zRf (zad Γ) 5), (1, zRf (zad Γ) 1), (0, zRf (zad Γ) 0)] [zRf (zad Γ) 48, zRf (zad Γ) 0] M127
  refine zr_dup C rfl (zdec_at dm_X11_init 49 rfl) ?_
  refine zr_aload_n C 3 rfl (zdec_at dm_X11_init 50 rfl) rfl ?_
  refine zr_callI (κ := (49, 48, 8506)) C hAd rfl (by decide) (fun xs P Q M hPQ ⟨a, b, c⟩ => ⟨a, b, fun q => hPQ 0 _ (c q) rfl⟩) [5] sc_X9_init_48 ck_RX11_48 ii_X9_init rfl rfl rfl (zdec_at dm_X11_init 51 rfl) (by decide) ⟨by decide, by decide⟩ ⟨by decide, by decide⟩ (Nat.le_of_ble_eq_true rfl) (zall_2 zall_n) ⟨rfl, hF129, fun hF132 hR132 => ?_⟩
  obtain ⟨M132, e132⟩ : ∃ q, q = cf_X9_init_48 M127 := ⟨_, rfl⟩
  rw [← e132] at hF132 hR132 ⊢
  change zV Γ mc_X11_init_0 (50, 49, 8698) 101 [(5, zI 8), (4, zRf (zad Γ) 25), (3, zRf (zad Γ) 17), (2, zRf (zad Γ) 5), (1, zRf (zad Γ) 1), (0, zRf (zad Γ) 0)] [zRf (zad Γ) 48, zRf (zad Γ) 0] M132
  refine zr_putF (κ := (50, 49, 8698)) C hini rfl (by decide +kernel) fk_RX11_49 (fun _ => ⟨rfl, rfl⟩) (by decide +kernel) (by decide) (by decide) (zdec_at dm_X11_init 52 rfl) (fun M133 e133 => ?_)
  have hR133 : zRng M133 := by rw [e133]; exact hR132.set (by decide) _ _
  have hF133 : zfrs M133 50 := by rw [e133]; exact hF132.set (by decide) _ _
  refine zr_aload_n C 5 rfl (zdec_at dm_X11_init 53 rfl) rfl ?_
  refine zr_new (κ := (50, 49, 8698)) C hAd rfl (by decide) tyX4 tyX4_ok vc_X4 rfl wsin_X4 cl_RX11_53 ni_X4.1 ni_X4.2 rfl (hF133.o cd_50) ⟨by decide, by decide⟩ (zdec_at dm_X11_init 54 rfl) ?_
  have hF135 := hF133.le (m := 51) (by decide)
  change zV Γ mc_X11_init_0 (51, 50, 8703) 108 [(5, zI 8), (4, zRf (zad Γ) 25), (3, zRf (zad Γ) 17), (2, zRf (zad Γ) 5), (1, zRf (zad Γ) 1), (0, zRf (zad Γ) 0)] [zRf (zad Γ) 50, zRf (zad Γ) 0] M133
  refine zr_dup C rfl (zdec_at dm_X11_init 55 rfl) ?_
  refine zr_aload_n C 4 rfl (zdec_at dm_X11_init 56 rfl) rfl ?_
  refine zr_callI (κ := (51, 50, 8703)) C hAd rfl (by decide) (fun xs P Q M hPQ ⟨a, b, c⟩ => ⟨a, b, fun q => hPQ 0 _ (c q) rfl⟩) [1] sc_X4_init_50 ck_RX11_55 ii_X4_init rfl rfl rfl (zdec_at dm_X11_init 57 rfl) (by decide) ⟨by decide, by decide⟩ ⟨by decide, by decide⟩ (Nat.le_of_ble_eq_true rfl) (zall_2 zall_n) ⟨rfl, hF135, fun hF138 hR138 => ?_⟩
  obtain ⟨M138, e138⟩ : ∃ q, q = cf_X4_init_50 M133 := ⟨_, rfl⟩
  rw [← e138] at hF138 hR138 ⊢
  change zV Γ mc_X11_init_0 (53, 52, 8735) 113 [(5, zI 8), (4, zRf (zad Γ) 25), (3, zRf (zad Γ) 17), (2, zRf (zad Γ) 5), (1, zRf (zad Γ) 1), (0, zRf (zad Γ) 0)] [zRf (zad Γ) 50, zRf (zad Γ) 0] M138
  refine zr_putF (κ := (53, 52, 8735)) C hini rfl (by decide +kernel) fk_RX11_56 (fun _ => ⟨rfl, rfl⟩) (by decide +kernel) (by decide) (by decide) (zdec_at dm_X11_init 58 rfl) (fun M139 e139 => ?_)
  have hR139 : zRng M139 := by rw [e139]; exact hR138.set (by decide) _ _
  have hF139 : zfrs M139 53 := by rw [e139]; exact hF138.set (by decide) _ _
  refine zr_aload_n C 5 rfl (zdec_at dm_X11_init 59 rfl) rfl ?_
  refine zr_new (κ := (53, 52, 8735)) C hAd rfl (by decide) tyX5 tyX5_ok vc_X5 rfl wsin_X5 cl_RX11_60 ni_X5.1 ni_X5.2 rfl (hF139.o cd_53) ⟨by decide, by decide⟩ (zdec_at dm_X11_init 60 rfl) ?_
  have hF141 := hF139.le (m := 54) (by decide)
  change zV Γ mc_X11_init_0 (54, 53, 8741) 120 [(5, zI 8), (4, zRf (zad Γ) 25), (3, zRf (zad Γ) 17), (2, zRf (zad Γ) 5), (1, zRf (zad Γ) 1), (0, zRf (zad Γ) 0)] [zRf (zad Γ) 53, zRf (zad Γ) 0] M139
  refine zr_dup C rfl (zdec_at dm_X11_init 61 rfl) ?_
  refine zr_aload_n C 3 rfl (zdec_at dm_X11_init 62 rfl) rfl ?_
  refine zr_callI (κ := (54, 53, 8741)) C hAd rfl (by decide) (fun xs P Q M hPQ ⟨a, b, c⟩ => ⟨a, b, fun q => hPQ 0 _ (c q) rfl⟩) [5] sc_X5_init_53 ck_RX11_62 ii_X5_init rfl rfl rfl (zdec_at dm_X11_init 63 rfl) (by decide) ⟨by decide, by decide⟩ ⟨by decide, by decide⟩ (Nat.le_of_ble_eq_true rfl) (zall_2 zall_n) ⟨rfl, hF141, fun hF144 hR144 => ?_⟩
  obtain ⟨M144, e144⟩ : ∃ q, q = cf_X5_init_53 M139 := ⟨_, rfl⟩
  rw [← e144] at hF144 hR144 ⊢
  change zV Γ mc_X11_init_0 (57, 56, 9651) 125 [(5, zI 8), (4, zRf (zad Γ) 25), (3, zRf (zad Γ) 17), (2, zRf (zad Γ) 5), (1, zRf (zad Γ) 1), (0, zRf (zad Γ) 0)] [zRf (zad Γ) 53, zRf (zad Γ) 0] M144
  refine zr_putF (κ := (57, 56, 9651)) C hini rfl (by decide +kernel) fk_RX11_63 (fun _ => ⟨rfl, rfl⟩) (by decide +kernel) (by decide) (by decide) (zdec_at dm_X11_init 64 rfl) (fun M145 e145 => ?_)
  have hR145 : zRng M145 := by rw [e145]; exact hR144.set (by decide) _ _
  have hF145 : zfrs M145 57 := by rw [e145]; exact hF144.set (by decide) _ _
  refine zr_aload_n C 5 rfl (zdec_at dm_X11_init 65 rfl) rfl ?_
  refine zr_new (κ := (57, 56, 9651)) C hAd rfl (by decide) tyX8 tyX8_ok vc_X8 rfl wsin_X8 cl_RX11_67 ni_X8.1 ni_X8.2 rfl (hF145.o cd_57) ⟨by decide, by decide⟩ (zdec_at dm_X11_init 66 rfl) ?_
  have hF147 := hF145.le (m := 58) (by decide)
  change zV Γ mc_X11_init_0 (58, 57, 9657) 132 [(5, zI 8), (4, zRf (zad Γ) 25), (3, zRf (zad Γ) 17), (2, zRf (zad Γ) 5), (1, zRf (zad Γ) 1), (0, zRf (zad Γ) 0)] [zRf (zad Γ) 57, zRf (zad Γ) 0] M145
  refine zr_dup C rfl (zdec_at dm_X11_init 67 rfl) ?_
  refine zr_callI (κ := (58, 57, 9657)) C hAd rfl (by decide) (fun xs P Q M hPQ ⟨a, b, c⟩ => ⟨a, b, fun q => hPQ 0 _ (c q) rfl⟩) [] sc_X8_init_57 ck_RX11_69 ii_X8_init rfl rfl rfl (zdec_at dm_X11_init 68 rfl) (by decide) ⟨by decide, by decide⟩ ⟨by decide, by decide⟩ (Nat.le_of_ble_eq_true rfl) zall_n ⟨rfl, hF147, fun hF149 hR149 => ?_⟩
  obtain ⟨M149, e149⟩ : ∃ q, q = cf_X8_init_57 M145 := ⟨_, rfl⟩
  rw [← e149] at hF149 hR149 ⊢
  change zV Γ mc_X11_init_0 (74, 73, 11145) 136 [(5, zI 8), (4, zRf (zad Γ) 25), (3, zRf (zad Γ) 17), (2, zRf (zad Γ) 5), (1, zRf (zad Γ) 1), (0, zRf (zad Γ) 0)] [zRf (zad Γ) 57, zRf (zad Γ) 0] M149
  refine zr_putF (κ := (74, 73, 11145)) C hini rfl (by decide +kernel) fk_RX11_70 (fun _ => ⟨rfl, rfl⟩) (by decide +kernel) (by decide) (by decide) (zdec_at dm_X11_init 69 rfl) (fun M150 e150 => ?_)
  have hR150 : zRng M150 := by rw [e150]; exact hR149.set (by decide) _ _
  have hF150 : zfrs M150 74 := by rw [e150]; exact hF149.set (by decide) _ _
  refine zr_aload_n C 5 rfl (zdec_at dm_X11_init 70 rfl) rfl ?_
  refine zr_new (κ := (74, 73, 11145)) C hAd rfl (by decide) tyX7 tyX7_ok vc_X7 rfl wsin_X7 cl_RX11_74 ni_X7.1 ni_X7.2 rfl (hF150.o cd_74) ⟨by decide, by decide⟩ (zdec_at dm_X11_init 71 rfl) ?_
  have hF152 := hF150.le (m := 75) (by decide)
  change zV Γ mc_X11_init_0 (75, 74, 11150) 143 [(5, zI 8), (4, zRf (zad Γ) 25), (3, zRf (zad Γ) 17), (2, zRf (zad Γ) 5), (1, zRf (zad Γ) 1), (0, zRf (zad Γ) 0)] [zRf (zad Γ) 74, zRf (zad Γ) 0] M150
  refine zr_dup C rfl (zdec_at dm_X11_init 72 rfl) ?_
  refine zr_callI (κ := (75, 74, 11150)) C hAd rfl (by decide) (fun xs P Q M hPQ ⟨a, b, c⟩ => ⟨a, b, fun q => hPQ 0 _ (c q) rfl⟩) [] sc_X7_init_74 ck_RX11_76 ii_X7_init rfl rfl rfl (zdec_at dm_X11_init 73 rfl) (by decide) ⟨by decide, by decide⟩ ⟨by decide, by decide⟩ (Nat.le_of_ble_eq_true rfl) zall_n ⟨rfl, hF152, fun hF154 hR154 => ?_⟩
  obtain ⟨M154, e154⟩ : ∃ q, q = cf_X7_init_74 M150 := ⟨_, rfl⟩
  rw [← e154] at hF154 hR154 ⊢
  change zV Γ mc_X11_init_0 (77, 76, 11163) 147 [(5, zI 8), (4, zRf (zad Γ) 25), (3, zRf (zad Γ) 17), (2, zRf (zad Γ) 5), (1, zRf (zad Γ) 1), (0, zRf (zad Γ) 0)] [zRf (zad Γ) 74, zRf (zad Γ) 0] M154
  refine zr_putF (κ := (77, 76, 11163)) C hini rfl (by decide +kernel) fk_RX11_77 (fun _ => ⟨rfl, rfl⟩) (by decide +kernel) (by decide) (by decide) (zdec_at dm_X11_init 74 rfl) (fun M155 e155 => ?_)
  have hR155 : zRng M155 := by rw [e155]; exact hR154.set (by decide) _ _
  have hF155 : zfrs M155 77 := by rw [e155]; exact hF154.set (by decide) _ _
  refine zr_aload_n C 5 rfl (zdec_at dm_X11_init 75 rfl) rfl ?_
  refine zr_new (κ := (77, 76, 11163)) C hAd rfl (by decide) tyX3 tyX3_ok vc_X3 rfl wsin_X3 cl_RX11_81 ni_X3.1 ni_X3.2 rfl (hF155.o cd_77) ⟨by decide, by decide⟩ (zdec_at dm_X11_init 76 rfl) ?_
  have hF157 := hF155.le (m := 78) (by decide)
  change zV Γ mc_X11_init_0 (78, 77, 11167) 154 [(5, zI 8), (4, zRf (zad Γ) 25), (3, zRf (zad Γ) 17), (2, zRf (zad Γ) 5), (1, zRf (zad Γ) 1), (0, zRf (zad Γ) 0)] [zRf (zad Γ) 77, zRf (zad Γ) 0] M155
  refine zr_dup C rfl (zdec_at dm_X11_init 77 rfl) ?_
  refine zr_callI (κ := (78, 77, 11167)) C hAd rfl (by decide) (fun xs P Q M hPQ ⟨a, b, c⟩ => ⟨a, b, fun q => hPQ 0 _ (c q) rfl⟩) [] sc_X3_init_77 ck_RX11_83 ii_X3_init rfl rfl rfl (zdec_at dm_X11_init 78 rfl) (by decide) ⟨by decide, by decide⟩ ⟨by decide, by decide⟩ (Nat.le_of_ble_eq_true rfl) zall_n ⟨rfl, hF157, fun hF159 hR159 => ?_⟩
  obtain ⟨M159, e159⟩ : ∃ q, q = cf_X3_init_77 M155 := ⟨_, rfl⟩
  rw [← e159] at hF159 hR159 ⊢
  change zV Γ mc_X11_init_0 (99, 98, 15027) 158 [(5, zI 8), (4, zRf (zad Γ) 25), (3, zRf (zad Γ) 17), (2, zRf (zad Γ) 5), (1, zRf (zad Γ) 1), (0, zRf (zad Γ) 0)] [zRf (zad Γ) 77, zRf (zad Γ) 0] M159
  refine zr_putF (κ := (99, 98, 15027)) C hini rfl (by decide +kernel) fk_RX11_84 (fun _ => ⟨rfl, rfl⟩) (by decide +kernel) (by decide) (by decide) (zdec_at dm_X11_init 79 rfl) (fun M160 e160 => ?_)
  have hR160 : zRng M160 := by rw [e160]; exact hR159.set (by decide) _ _
  have hF160 : zfrs M160 99 := by rw [e160]; exact hF159.set (by decide) _ _
  refine zr_aload_n C 5 rfl (zdec_at dm_X11_init 80 rfl) rfl ?_
  refine zr_aload C 1 rfl (zdec_at dm_X11_init 81 rfl) ?_
  refine zr_putF (κ := (99, 98, 15027)) C hini rfl (by decide +kernel) fk_RX11_88 (fun _ => ⟨rfl, rfl⟩) (by decide +kernel) (by decide) (by decide) (zdec_at dm_X11_init 82 rfl) (fun M163 e163 => ?_)
  have hR163 : zRng M163 := by rw [e163]; exact hR160.set (by decide) _ _
  have hF163 : zfrs M163 99 := by rw [e163]; exact hF160.set (by decide) _ _
  refine zr_aload_n C 5 rfl (zdec_at dm_X11_init 83 rfl) rfl ?_
  refine zr_new (κ := (99, 98, 15027)) C hAd rfl (by decide) tyX0 tyX0_ok vc_X0 rfl wsin_X0 cl_RX11_7 ni_X0.1 ni_X0.2 rfl (hF163.o cd_99) ⟨by decide, by decide⟩ (zdec_at dm_X11_init 84 rfl) ?_
  have hF165 := hF163.le (m := 100) (by decide)
  change zV Γ mc_X11_init_0 (100, 99, 15036) 171 [(5, zI 8), (4, zRf (zad Γ) 25), (3, zRf (zad Γ) 17), (2, zRf (zad Γ) 5), (1, zRf (zad Γ) 1), (0, zRf (zad Γ) 0)] [zRf (zad Γ) 99, zRf (zad Γ) 0] M163
  refine zr_dup C rfl (zdec_at dm_X11_init 85 rfl) ?_
  refine zr_callI (κ := (100, 99, 15036)) C hAd rfl (by decide) (fun xs P Q M hPQ ⟨a, b, c⟩ => ⟨a, b, fun q => hPQ 0 _ (c q) rfl⟩) [] sc_X0_init_99 ck_RX11_9 ii_X0_init rfl rfl rfl (zdec_at dm_X11_init 86 rfl) (by decide) ⟨by decide, by decide⟩ ⟨by decide, by decide⟩ (Nat.le_of_ble_eq_true rfl) zall_n ⟨rfl, hF165, fun hF167 hR167 => ?_⟩
  obtain ⟨M167, e167⟩ : ∃ q, q = cf_X0_init_99 M163 := ⟨_, rfl⟩
  rw [← e167] at hF167 hR167 ⊢
  change zV Γ mc_X11_init_0 (103, 102, 15436) 175 [(5, zI 8), (4, zRf (zad Γ) 25), (3, zRf (zad Γ) 17), (2, zRf (zad Γ) 5), (1, zRf (zad Γ) 1), (0, zRf (zad Γ) 0)] [zRf (zad Γ) 99, zRf (zad Γ) 0] M167
  refine zr_putF (κ := (103, 102, 15436)) C hini rfl (by decide +kernel) fk_RX11_92 (fun _ => ⟨rfl, rfl⟩) (by decide +kernel) (by decide) (by decide) (zdec_at dm_X11_init 87 rfl) (fun M168 e168 => ?_)
  have hR168 : zRng M168 := by rw [e168]; exact hR167.set (by decide) _ _
  have hF168 : zfrs M168 103 := by rw [e168]; exact hF167.set (by decide) _ _
  refine zr_aload_n C 5 rfl (zdec_at dm_X11_init 88 rfl) rfl ?_
  refine zr_iconst C (zdec_at dm_X11_init 89 rfl) ?_
  refine zr_putz (κ := (103, 102, 15436)) C fk_RX11_95 (by decide +kernel) (by decide) (by decide) (zdec_at dm_X11_init 90 rfl) (fun M171 e171 => ?_)
  have hR171 : zRng M171 := by rw [e171]; exact hR168.set (by decide) _ _
  have hF171 : zfrs M171 103 := by rw [e171]; exact hF168.set (by decide) _ _
  refine zr_return (κ := (103, 102, 15436)) C rfl rfl (zdec_at dm_X11_init 91 rfl) rfl ⟨by decide, ?_⟩
  have eM : M171 = cf_X11_init_0 M := by rw [e171, e168, e167, e163, e160, e159, e155, e154, e150, e149, e145, e144, e139, e138, e133, e132, e127, e126, e121, e118, e115, e107, e106, e96, e95, e85, e84, e74, e73, e63, e62, e52, e51, e41, e40, e30, e29, e15, e10, e5]; rfl
  rw [eM] at hF171 ⊢
  exact h hF171
