set_option maxRecDepth 100000 in
theorem daX7_init : ∀ q ∈ ([(0, .aload_n 0, 1), (1, .invokespecial 1, 3), (4, .aload_n 0, 1), (5, .bipush 10, 2), (7, .newarray .boolean, 2), (9, .putfield 7, 3), (12, .aload_n 0, 1), (13, .bipush 10, 2), (15, .newarray .int, 2), (17, .putfield 13, 3), (20, .aload_n 0, 1), (21, .bipush 10, 2), (23, .newarray .int, 2), (25, .putfield 17, 3), (28, .aload_n 0, 1), (29, .bipush 50, 2), (31, .newarray .int, 2), (33, .putfield 20, 3), (36, .aload_n 0, 1), (37, .bipush 50, 2), (39, .newarray .int, 2), (41, .putfield 23, 3), (44, .aload_n 0, 1), (45, .bipush 6, 2), (47, .newarray .int, 2), (49, .putfield 26, 3), (52, .aload_n 0, 1), (53, .bipush 6, 2), (55, .newarray .boolean, 2), (57, .putfield 29, 3), (60, .aload_n 0, 1), (61, .bipush 6, 2), (63, .newarray .int, 2), (65, .putfield 32, 3), (68, .aload_n 0, 1), (69, .bipush 36, 2), (71, .newarray .int, 2), (73, .putfield 35, 3), (76, .aload_n 0, 1), (77, .bipush 36, 2), (79, .newarray .int, 2), (81, .putfield 38, 3), (84, .aload_n 0, 1), (85, .bipush 36, 2), (87, .newarray .int, 2), (89, .putfield 41, 3), (92, .aload_n 0, 1), (93, .bipush 36, 2), (95, .newarray .int, 2), (97, .putfield 44, 3), (100, .aload_n 0, 1), (101, .bipush 6, 2), (103, .newarray .int, 2), (105, .putfield 47, 3), (108, .aload_n 0, 1), (109, .sipush 960, 3), (112, .newarray .int, 2), (114, .putfield 50, 3), (117, .aload_n 0, 1), (118, .sipush 960, 3), (121, .newarray .int, 2), (123, .putfield 53, 3), (126, .aload_n 0, 1), (127, .sipush 960, 3), (130, .newarray .int, 2), (132, .putfield 56, 3), (135, .aload_n 0, 1), (136, .sipush 960, 3), (139, .newarray .int, 2), (141, .putfield 59, 3), (144, .aload_n 0, 1), (145, .sipush 960, 3), (148, .newarray .int, 2), (150, .putfield 62, 3), (153, .aload_n 0, 1), (154, .bipush 6, 2), (156, .newarray .int, 2), (158, .putfield 65, 3), (161, .aload_n 0, 1), (162, .bipush 6, 2), (164, .newarray .boolean, 2), (166, .putfield 68, 3), (169, .aload_n 0, 1), (170, .bipush 6, 2), (172, .newarray .int, 2), (174, .putfield 71, 3), (177, .aload_n 0, 1), (178, .bipush 36, 2), (180, .newarray .int, 2), (182, .putfield 74, 3), (185, .aload_n 0, 1), (186, .bipush 36, 2), (188, .newarray .int, 2), (190, .putfield 77, 3), (193, .aload_n 0, 1), (194, .bipush 36, 2), (196, .newarray .int, 2), (198, .putfield 80, 3), (201, .aload_n 0, 1), (202, .bipush 36, 2), (204, .newarray .int, 2), (206, .putfield 83, 3), (209, .aload_n 0, 1), (210, .bipush 36, 2), (212, .newarray .int, 2), (214, .putfield 86, 3), (217, .aload_n 0, 1), (218, .bipush 6, 2), (220, .newarray .int, 2), (222, .putfield 89, 3), (225, .aload_n 0, 1), (226, .sipush 960, 3), (229, .newarray .int, 2), (231, .putfield 92, 3), (234, .aload_n 0, 1), (235, .sipush 960, 3), (238, .newarray .int, 2), (240, .putfield 95, 3), (243, .aload_n 0, 1), (244, .sipush 960, 3), (247, .newarray .int, 2), (249, .putfield 98, 3), (252, .aload_n 0, 1), (253, .sipush 960, 3), (256, .newarray .int, 2), (258, .putfield 101, 3), (261, .aload_n 0, 1), (262, .sipush 960, 3), (265, .newarray .int, 2), (267, .putfield 104, 3), (270, .aload_n 0, 1), (271, .sipush 400, 3), (274, .newarray .int, 2), (276, .putfield 107, 3), (279, .aload_n 0, 1), (280, .bipush 8, 2), (282, .newarray .int, 2), (284, .putfield 110, 3), (287, .aload_n 0, 1), (288, .bipush 8, 2), (290, .newarray .int, 2), (292, .putfield 113, 3), (295, .aload_n 0, 1), (296, .bipush 36, 2), (298, .newarray .boolean, 2), (300, .putfield 116, 3), (303, .aload_n 0, 1), (304, .bipush 60, 2), (306, .newarray .boolean, 2), (308, .putfield 119, 3), (311, .aload_n 0, 1), (312, .bipush 60, 2), (314, .newarray .boolean, 2), (316, .putfield 122, 3), (319, .aload_n 0, 1), (320, .iconst 5, 1), (321, .newarray .int, 2), (323, .putfield 125, 3), (326, .aload_n 0, 1), (327, .sipush 160, 3), (330, .newarray .int, 2), (332, .putfield 128, 3), (335, .aload_n 0, 1), (336, .bipush 6, 2), (338, .newarray .int, 2), (340, .putfield 131, 3), (343, .aload_n 0, 1), (344, .iconst 5, 1), (345, .newarray .int, 2), (347, .putfield 134, 3), (350, .aload_n 0, 1), (351, .iconst 5, 1), (352, .newarray .int, 2), (354, .putfield 137, 3), (357, .return_, 1)] : List (Nat × Instr × Nat)), decode cX7_init q.1 = .ok q.2 := by decide +kernel
theorem dX7_init_0 : decode cX7_init 0 = .ok (.aload_n 0, 1) := daX7_init (0, .aload_n 0, 1) (List.mem_of_getElem? (i := 0) rfl)
theorem dX7_init_1 : decode cX7_init 1 = .ok (.invokespecial 1, 3) := daX7_init (1, .invokespecial 1, 3) (List.mem_of_getElem? (i := 1) rfl)
theorem dX7_init_4 : decode cX7_init 4 = .ok (.aload_n 0, 1) := daX7_init (4, .aload_n 0, 1) (List.mem_of_getElem? (i := 2) rfl)
theorem dX7_init_5 : decode cX7_init 5 = .ok (.bipush 10, 2) := daX7_init (5, .bipush 10, 2) (List.mem_of_getElem? (i := 3) rfl)
theorem dX7_init_7 : decode cX7_init 7 = .ok (.newarray .boolean, 2) := daX7_init (7, .newarray .boolean, 2) (List.mem_of_getElem? (i := 4) rfl)
theorem dX7_init_9 : decode cX7_init 9 = .ok (.putfield 7, 3) := daX7_init (9, .putfield 7, 3) (List.mem_of_getElem? (i := 5) rfl)
theorem dX7_init_12 : decode cX7_init 12 = .ok (.aload_n 0, 1) := daX7_init (12, .aload_n 0, 1) (List.mem_of_getElem? (i := 6) rfl)
theorem dX7_init_13 : decode cX7_init 13 = .ok (.bipush 10, 2) := daX7_init (13, .bipush 10, 2) (List.mem_of_getElem? (i := 7) rfl)
theorem dX7_init_15 : decode cX7_init 15 = .ok (.newarray .int, 2) := daX7_init (15, .newarray .int, 2) (List.mem_of_getElem? (i := 8) rfl)
theorem dX7_init_17 : decode cX7_init 17 = .ok (.putfield 13, 3) := daX7_init (17, .putfield 13, 3) (List.mem_of_getElem? (i := 9) rfl)
theorem dX7_init_20 : decode cX7_init 20 = .ok (.aload_n 0, 1) := daX7_init (20, .aload_n 0, 1) (List.mem_of_getElem? (i := 10) rfl)
theorem dX7_init_21 : decode cX7_init 21 = .ok (.bipush 10, 2) := daX7_init (21, .bipush 10, 2) (List.mem_of_getElem? (i := 11) rfl)
theorem dX7_init_23 : decode cX7_init 23 = .ok (.newarray .int, 2) := daX7_init (23, .newarray .int, 2) (List.mem_of_getElem? (i := 12) rfl)
theorem dX7_init_25 : decode cX7_init 25 = .ok (.putfield 17, 3) := daX7_init (25, .putfield 17, 3) (List.mem_of_getElem? (i := 13) rfl)
theorem dX7_init_28 : decode cX7_init 28 = .ok (.aload_n 0, 1) := daX7_init (28, .aload_n 0, 1) (List.mem_of_getElem? (i := 14) rfl)
theorem dX7_init_29 : decode cX7_init 29 = .ok (.bipush 50, 2) := daX7_init (29, .bipush 50, 2) (List.mem_of_getElem? (i := 15) rfl)
theorem dX7_init_31 : decode cX7_init 31 = .ok (.newarray .int, 2) := daX7_init (31, .newarray .int, 2) (List.mem_of_getElem? (i := 16) rfl)
theorem dX7_init_33 : decode cX7_init 33 = .ok (.putfield 20, 3) := daX7_init (33, .putfield 20, 3) (List.mem_of_getElem? (i := 17) rfl)
theorem dX7_init_36 : decode cX7_init 36 = .ok (.aload_n 0, 1) := daX7_init (36, .aload_n 0, 1) (List.mem_of_getElem? (i := 18) rfl)
theorem dX7_init_37 : decode cX7_init 37 = .ok (.bipush 50, 2) := daX7_init (37, .bipush 50, 2) (List.mem_of_getElem? (i := 19) rfl)
theorem dX7_init_39 : decode cX7_init 39 = .ok (.newarray .int, 2) := daX7_init (39, .newarray .int, 2) (List.mem_of_getElem? (i := 20) rfl)
theorem dX7_init_41 : decode cX7_init 41 = .ok (.putfield 23, 3) := daX7_init (41, .putfield 23, 3) (List.mem_of_getElem? (i := 21) rfl)
theorem dX7_init_44 : decode cX7_init 44 = .ok (.aload_n 0, 1) := daX7_init (44, .aload_n 0, 1) (List.mem_of_getElem? (i := 22) rfl)
theorem dX7_init_45 : decode cX7_init 45 = .ok (.bipush 6, 2) := daX7_init (45, .bipush 6, 2) (List.mem_of_getElem? (i := 23) rfl)
theorem dX7_init_47 : decode cX7_init 47 = .ok (.newarray .int, 2) := daX7_init (47, .newarray .int, 2) (List.mem_of_getElem? (i := 24) rfl)
theorem dX7_init_49 : decode cX7_init 49 = .ok (.putfield 26, 3) := daX7_init (49, .putfield 26, 3) (List.mem_of_getElem? (i := 25) rfl)
theorem dX7_init_52 : decode cX7_init 52 = .ok (.aload_n 0, 1) := daX7_init (52, .aload_n 0, 1) (List.mem_of_getElem? (i := 26) rfl)
theorem dX7_init_53 : decode cX7_init 53 = .ok (.bipush 6, 2) := daX7_init (53, .bipush 6, 2) (List.mem_of_getElem? (i := 27) rfl)
theorem dX7_init_55 : decode cX7_init 55 = .ok (.newarray .boolean, 2) := daX7_init (55, .newarray .boolean, 2) (List.mem_of_getElem? (i := 28) rfl)
theorem dX7_init_57 : decode cX7_init 57 = .ok (.putfield 29, 3) := daX7_init (57, .putfield 29, 3) (List.mem_of_getElem? (i := 29) rfl)
theorem dX7_init_60 : decode cX7_init 60 = .ok (.aload_n 0, 1) := daX7_init (60, .aload_n 0, 1) (List.mem_of_getElem? (i := 30) rfl)
theorem dX7_init_61 : decode cX7_init 61 = .ok (.bipush 6, 2) := daX7_init (61, .bipush 6, 2) (List.mem_of_getElem? (i := 31) rfl)
theorem dX7_init_63 : decode cX7_init 63 = .ok (.newarray .int, 2) := daX7_init (63, .newarray .int, 2) (List.mem_of_getElem? (i := 32) rfl)
theorem dX7_init_65 : decode cX7_init 65 = .ok (.putfield 32, 3) := daX7_init (65, .putfield 32, 3) (List.mem_of_getElem? (i := 33) rfl)
theorem dX7_init_68 : decode cX7_init 68 = .ok (.aload_n 0, 1) := daX7_init (68, .aload_n 0, 1) (List.mem_of_getElem? (i := 34) rfl)
theorem dX7_init_69 : decode cX7_init 69 = .ok (.bipush 36, 2) := daX7_init (69, .bipush 36, 2) (List.mem_of_getElem? (i := 35) rfl)
theorem dX7_init_71 : decode cX7_init 71 = .ok (.newarray .int, 2) := daX7_init (71, .newarray .int, 2) (List.mem_of_getElem? (i := 36) rfl)
theorem dX7_init_73 : decode cX7_init 73 = .ok (.putfield 35, 3) := daX7_init (73, .putfield 35, 3) (List.mem_of_getElem? (i := 37) rfl)
theorem dX7_init_76 : decode cX7_init 76 = .ok (.aload_n 0, 1) := daX7_init (76, .aload_n 0, 1) (List.mem_of_getElem? (i := 38) rfl)
theorem dX7_init_77 : decode cX7_init 77 = .ok (.bipush 36, 2) := daX7_init (77, .bipush 36, 2) (List.mem_of_getElem? (i := 39) rfl)
theorem dX7_init_79 : decode cX7_init 79 = .ok (.newarray .int, 2) := daX7_init (79, .newarray .int, 2) (List.mem_of_getElem? (i := 40) rfl)
theorem dX7_init_81 : decode cX7_init 81 = .ok (.putfield 38, 3) := daX7_init (81, .putfield 38, 3) (List.mem_of_getElem? (i := 41) rfl)
theorem dX7_init_84 : decode cX7_init 84 = .ok (.aload_n 0, 1) := daX7_init (84, .aload_n 0, 1) (List.mem_of_getElem? (i := 42) rfl)
theorem dX7_init_85 : decode cX7_init 85 = .ok (.bipush 36, 2) := daX7_init (85, .bipush 36, 2) (List.mem_of_getElem? (i := 43) rfl)
theorem dX7_init_87 : decode cX7_init 87 = .ok (.newarray .int, 2) := daX7_init (87, .newarray .int, 2) (List.mem_of_getElem? (i := 44) rfl)
theorem dX7_init_89 : decode cX7_init 89 = .ok (.putfield 41, 3) := daX7_init (89, .putfield 41, 3) (List.mem_of_getElem? (i := 45) rfl)
theorem dX7_init_92 : decode cX7_init 92 = .ok (.aload_n 0, 1) := daX7_init (92, .aload_n 0, 1) (List.mem_of_getElem? (i := 46) rfl)
theorem dX7_init_93 : decode cX7_init 93 = .ok (.bipush 36, 2) := daX7_init (93, .bipush 36, 2) (List.mem_of_getElem? (i := 47) rfl)
theorem dX7_init_95 : decode cX7_init 95 = .ok (.newarray .int, 2) := daX7_init (95, .newarray .int, 2) (List.mem_of_getElem? (i := 48) rfl)
theorem dX7_init_97 : decode cX7_init 97 = .ok (.putfield 44, 3) := daX7_init (97, .putfield 44, 3) (List.mem_of_getElem? (i := 49) rfl)
theorem dX7_init_100 : decode cX7_init 100 = .ok (.aload_n 0, 1) := daX7_init (100, .aload_n 0, 1) (List.mem_of_getElem? (i := 50) rfl)
theorem dX7_init_101 : decode cX7_init 101 = .ok (.bipush 6, 2) := daX7_init (101, .bipush 6, 2) (List.mem_of_getElem? (i := 51) rfl)
theorem dX7_init_103 : decode cX7_init 103 = .ok (.newarray .int, 2) := daX7_init (103, .newarray .int, 2) (List.mem_of_getElem? (i := 52) rfl)
theorem dX7_init_105 : decode cX7_init 105 = .ok (.putfield 47, 3) := daX7_init (105, .putfield 47, 3) (List.mem_of_getElem? (i := 53) rfl)
theorem dX7_init_108 : decode cX7_init 108 = .ok (.aload_n 0, 1) := daX7_init (108, .aload_n 0, 1) (List.mem_of_getElem? (i := 54) rfl)
theorem dX7_init_109 : decode cX7_init 109 = .ok (.sipush 960, 3) := daX7_init (109, .sipush 960, 3) (List.mem_of_getElem? (i := 55) rfl)
theorem dX7_init_112 : decode cX7_init 112 = .ok (.newarray .int, 2) := daX7_init (112, .newarray .int, 2) (List.mem_of_getElem? (i := 56) rfl)
theorem dX7_init_114 : decode cX7_init 114 = .ok (.putfield 50, 3) := daX7_init (114, .putfield 50, 3) (List.mem_of_getElem? (i := 57) rfl)
theorem dX7_init_117 : decode cX7_init 117 = .ok (.aload_n 0, 1) := daX7_init (117, .aload_n 0, 1) (List.mem_of_getElem? (i := 58) rfl)
theorem dX7_init_118 : decode cX7_init 118 = .ok (.sipush 960, 3) := daX7_init (118, .sipush 960, 3) (List.mem_of_getElem? (i := 59) rfl)
theorem dX7_init_121 : decode cX7_init 121 = .ok (.newarray .int, 2) := daX7_init (121, .newarray .int, 2) (List.mem_of_getElem? (i := 60) rfl)
theorem dX7_init_123 : decode cX7_init 123 = .ok (.putfield 53, 3) := daX7_init (123, .putfield 53, 3) (List.mem_of_getElem? (i := 61) rfl)
theorem dX7_init_126 : decode cX7_init 126 = .ok (.aload_n 0, 1) := daX7_init (126, .aload_n 0, 1) (List.mem_of_getElem? (i := 62) rfl)
theorem dX7_init_127 : decode cX7_init 127 = .ok (.sipush 960, 3) := daX7_init (127, .sipush 960, 3) (List.mem_of_getElem? (i := 63) rfl)
theorem dX7_init_130 : decode cX7_init 130 = .ok (.newarray .int, 2) := daX7_init (130, .newarray .int, 2) (List.mem_of_getElem? (i := 64) rfl)
theorem dX7_init_132 : decode cX7_init 132 = .ok (.putfield 56, 3) := daX7_init (132, .putfield 56, 3) (List.mem_of_getElem? (i := 65) rfl)
theorem dX7_init_135 : decode cX7_init 135 = .ok (.aload_n 0, 1) := daX7_init (135, .aload_n 0, 1) (List.mem_of_getElem? (i := 66) rfl)
theorem dX7_init_136 : decode cX7_init 136 = .ok (.sipush 960, 3) := daX7_init (136, .sipush 960, 3) (List.mem_of_getElem? (i := 67) rfl)
theorem dX7_init_139 : decode cX7_init 139 = .ok (.newarray .int, 2) := daX7_init (139, .newarray .int, 2) (List.mem_of_getElem? (i := 68) rfl)
theorem dX7_init_141 : decode cX7_init 141 = .ok (.putfield 59, 3) := daX7_init (141, .putfield 59, 3) (List.mem_of_getElem? (i := 69) rfl)
theorem dX7_init_144 : decode cX7_init 144 = .ok (.aload_n 0, 1) := daX7_init (144, .aload_n 0, 1) (List.mem_of_getElem? (i := 70) rfl)
theorem dX7_init_145 : decode cX7_init 145 = .ok (.sipush 960, 3) := daX7_init (145, .sipush 960, 3) (List.mem_of_getElem? (i := 71) rfl)
theorem dX7_init_148 : decode cX7_init 148 = .ok (.newarray .int, 2) := daX7_init (148, .newarray .int, 2) (List.mem_of_getElem? (i := 72) rfl)
theorem dX7_init_150 : decode cX7_init 150 = .ok (.putfield 62, 3) := daX7_init (150, .putfield 62, 3) (List.mem_of_getElem? (i := 73) rfl)
theorem dX7_init_153 : decode cX7_init 153 = .ok (.aload_n 0, 1) := daX7_init (153, .aload_n 0, 1) (List.mem_of_getElem? (i := 74) rfl)
theorem dX7_init_154 : decode cX7_init 154 = .ok (.bipush 6, 2) := daX7_init (154, .bipush 6, 2) (List.mem_of_getElem? (i := 75) rfl)
theorem dX7_init_156 : decode cX7_init 156 = .ok (.newarray .int, 2) := daX7_init (156, .newarray .int, 2) (List.mem_of_getElem? (i := 76) rfl)
theorem dX7_init_158 : decode cX7_init 158 = .ok (.putfield 65, 3) := daX7_init (158, .putfield 65, 3) (List.mem_of_getElem? (i := 77) rfl)
theorem dX7_init_161 : decode cX7_init 161 = .ok (.aload_n 0, 1) := daX7_init (161, .aload_n 0, 1) (List.mem_of_getElem? (i := 78) rfl)
theorem dX7_init_162 : decode cX7_init 162 = .ok (.bipush 6, 2) := daX7_init (162, .bipush 6, 2) (List.mem_of_getElem? (i := 79) rfl)
theorem dX7_init_164 : decode cX7_init 164 = .ok (.newarray .boolean, 2) := daX7_init (164, .newarray .boolean, 2) (List.mem_of_getElem? (i := 80) rfl)
theorem dX7_init_166 : decode cX7_init 166 = .ok (.putfield 68, 3) := daX7_init (166, .putfield 68, 3) (List.mem_of_getElem? (i := 81) rfl)
theorem dX7_init_169 : decode cX7_init 169 = .ok (.aload_n 0, 1) := daX7_init (169, .aload_n 0, 1) (List.mem_of_getElem? (i := 82) rfl)
theorem dX7_init_170 : decode cX7_init 170 = .ok (.bipush 6, 2) := daX7_init (170, .bipush 6, 2) (List.mem_of_getElem? (i := 83) rfl)
theorem dX7_init_172 : decode cX7_init 172 = .ok (.newarray .int, 2) := daX7_init (172, .newarray .int, 2) (List.mem_of_getElem? (i := 84) rfl)
theorem dX7_init_174 : decode cX7_init 174 = .ok (.putfield 71, 3) := daX7_init (174, .putfield 71, 3) (List.mem_of_getElem? (i := 85) rfl)
theorem dX7_init_177 : decode cX7_init 177 = .ok (.aload_n 0, 1) := daX7_init (177, .aload_n 0, 1) (List.mem_of_getElem? (i := 86) rfl)
theorem dX7_init_178 : decode cX7_init 178 = .ok (.bipush 36, 2) := daX7_init (178, .bipush 36, 2) (List.mem_of_getElem? (i := 87) rfl)
theorem dX7_init_180 : decode cX7_init 180 = .ok (.newarray .int, 2) := daX7_init (180, .newarray .int, 2) (List.mem_of_getElem? (i := 88) rfl)
theorem dX7_init_182 : decode cX7_init 182 = .ok (.putfield 74, 3) := daX7_init (182, .putfield 74, 3) (List.mem_of_getElem? (i := 89) rfl)
theorem dX7_init_185 : decode cX7_init 185 = .ok (.aload_n 0, 1) := daX7_init (185, .aload_n 0, 1) (List.mem_of_getElem? (i := 90) rfl)
theorem dX7_init_186 : decode cX7_init 186 = .ok (.bipush 36, 2) := daX7_init (186, .bipush 36, 2) (List.mem_of_getElem? (i := 91) rfl)
theorem dX7_init_188 : decode cX7_init 188 = .ok (.newarray .int, 2) := daX7_init (188, .newarray .int, 2) (List.mem_of_getElem? (i := 92) rfl)
theorem dX7_init_190 : decode cX7_init 190 = .ok (.putfield 77, 3) := daX7_init (190, .putfield 77, 3) (List.mem_of_getElem? (i := 93) rfl)
theorem dX7_init_193 : decode cX7_init 193 = .ok (.aload_n 0, 1) := daX7_init (193, .aload_n 0, 1) (List.mem_of_getElem? (i := 94) rfl)
theorem dX7_init_194 : decode cX7_init 194 = .ok (.bipush 36, 2) := daX7_init (194, .bipush 36, 2) (List.mem_of_getElem? (i := 95) rfl)
theorem dX7_init_196 : decode cX7_init 196 = .ok (.newarray .int, 2) := daX7_init (196, .newarray .int, 2) (List.mem_of_getElem? (i := 96) rfl)
theorem dX7_init_198 : decode cX7_init 198 = .ok (.putfield 80, 3) := daX7_init (198, .putfield 80, 3) (List.mem_of_getElem? (i := 97) rfl)
theorem dX7_init_201 : decode cX7_init 201 = .ok (.aload_n 0, 1) := daX7_init (201, .aload_n 0, 1) (List.mem_of_getElem? (i := 98) rfl)
theorem dX7_init_202 : decode cX7_init 202 = .ok (.bipush 36, 2) := daX7_init (202, .bipush 36, 2) (List.mem_of_getElem? (i := 99) rfl)
theorem dX7_init_204 : decode cX7_init 204 = .ok (.newarray .int, 2) := daX7_init (204, .newarray .int, 2) (List.mem_of_getElem? (i := 100) rfl)
theorem dX7_init_206 : decode cX7_init 206 = .ok (.putfield 83, 3) := daX7_init (206, .putfield 83, 3) (List.mem_of_getElem? (i := 101) rfl)
theorem dX7_init_209 : decode cX7_init 209 = .ok (.aload_n 0, 1) := daX7_init (209, .aload_n 0, 1) (List.mem_of_getElem? (i := 102) rfl)
theorem dX7_init_210 : decode cX7_init 210 = .ok (.bipush 36, 2) := daX7_init (210, .bipush 36, 2) (List.mem_of_getElem? (i := 103) rfl)
theorem dX7_init_212 : decode cX7_init 212 = .ok (.newarray .int, 2) := daX7_init (212, .newarray .int, 2) (List.mem_of_getElem? (i := 104) rfl)
theorem dX7_init_214 : decode cX7_init 214 = .ok (.putfield 86, 3) := daX7_init (214, .putfield 86, 3) (List.mem_of_getElem? (i := 105) rfl)
theorem dX7_init_217 : decode cX7_init 217 = .ok (.aload_n 0, 1) := daX7_init (217, .aload_n 0, 1) (List.mem_of_getElem? (i := 106) rfl)
theorem dX7_init_218 : decode cX7_init 218 = .ok (.bipush 6, 2) := daX7_init (218, .bipush 6, 2) (List.mem_of_getElem? (i := 107) rfl)
theorem dX7_init_220 : decode cX7_init 220 = .ok (.newarray .int, 2) := daX7_init (220, .newarray .int, 2) (List.mem_of_getElem? (i := 108) rfl)
theorem dX7_init_222 : decode cX7_init 222 = .ok (.putfield 89, 3) := daX7_init (222, .putfield 89, 3) (List.mem_of_getElem? (i := 109) rfl)
theorem dX7_init_225 : decode cX7_init 225 = .ok (.aload_n 0, 1) := daX7_init (225, .aload_n 0, 1) (List.mem_of_getElem? (i := 110) rfl)
theorem dX7_init_226 : decode cX7_init 226 = .ok (.sipush 960, 3) := daX7_init (226, .sipush 960, 3) (List.mem_of_getElem? (i := 111) rfl)
theorem dX7_init_229 : decode cX7_init 229 = .ok (.newarray .int, 2) := daX7_init (229, .newarray .int, 2) (List.mem_of_getElem? (i := 112) rfl)
theorem dX7_init_231 : decode cX7_init 231 = .ok (.putfield 92, 3) := daX7_init (231, .putfield 92, 3) (List.mem_of_getElem? (i := 113) rfl)
theorem dX7_init_234 : decode cX7_init 234 = .ok (.aload_n 0, 1) := daX7_init (234, .aload_n 0, 1) (List.mem_of_getElem? (i := 114) rfl)
theorem dX7_init_235 : decode cX7_init 235 = .ok (.sipush 960, 3) := daX7_init (235, .sipush 960, 3) (List.mem_of_getElem? (i := 115) rfl)
theorem dX7_init_238 : decode cX7_init 238 = .ok (.newarray .int, 2) := daX7_init (238, .newarray .int, 2) (List.mem_of_getElem? (i := 116) rfl)
theorem dX7_init_240 : decode cX7_init 240 = .ok (.putfield 95, 3) := daX7_init (240, .putfield 95, 3) (List.mem_of_getElem? (i := 117) rfl)
theorem dX7_init_243 : decode cX7_init 243 = .ok (.aload_n 0, 1) := daX7_init (243, .aload_n 0, 1) (List.mem_of_getElem? (i := 118) rfl)
theorem dX7_init_244 : decode cX7_init 244 = .ok (.sipush 960, 3) := daX7_init (244, .sipush 960, 3) (List.mem_of_getElem? (i := 119) rfl)
theorem dX7_init_247 : decode cX7_init 247 = .ok (.newarray .int, 2) := daX7_init (247, .newarray .int, 2) (List.mem_of_getElem? (i := 120) rfl)
theorem dX7_init_249 : decode cX7_init 249 = .ok (.putfield 98, 3) := daX7_init (249, .putfield 98, 3) (List.mem_of_getElem? (i := 121) rfl)
theorem dX7_init_252 : decode cX7_init 252 = .ok (.aload_n 0, 1) := daX7_init (252, .aload_n 0, 1) (List.mem_of_getElem? (i := 122) rfl)
theorem dX7_init_253 : decode cX7_init 253 = .ok (.sipush 960, 3) := daX7_init (253, .sipush 960, 3) (List.mem_of_getElem? (i := 123) rfl)
theorem dX7_init_256 : decode cX7_init 256 = .ok (.newarray .int, 2) := daX7_init (256, .newarray .int, 2) (List.mem_of_getElem? (i := 124) rfl)
theorem dX7_init_258 : decode cX7_init 258 = .ok (.putfield 101, 3) := daX7_init (258, .putfield 101, 3) (List.mem_of_getElem? (i := 125) rfl)
theorem dX7_init_261 : decode cX7_init 261 = .ok (.aload_n 0, 1) := daX7_init (261, .aload_n 0, 1) (List.mem_of_getElem? (i := 126) rfl)
theorem dX7_init_262 : decode cX7_init 262 = .ok (.sipush 960, 3) := daX7_init (262, .sipush 960, 3) (List.mem_of_getElem? (i := 127) rfl)
theorem dX7_init_265 : decode cX7_init 265 = .ok (.newarray .int, 2) := daX7_init (265, .newarray .int, 2) (List.mem_of_getElem? (i := 128) rfl)
theorem dX7_init_267 : decode cX7_init 267 = .ok (.putfield 104, 3) := daX7_init (267, .putfield 104, 3) (List.mem_of_getElem? (i := 129) rfl)
theorem dX7_init_270 : decode cX7_init 270 = .ok (.aload_n 0, 1) := daX7_init (270, .aload_n 0, 1) (List.mem_of_getElem? (i := 130) rfl)
theorem dX7_init_271 : decode cX7_init 271 = .ok (.sipush 400, 3) := daX7_init (271, .sipush 400, 3) (List.mem_of_getElem? (i := 131) rfl)
theorem dX7_init_274 : decode cX7_init 274 = .ok (.newarray .int, 2) := daX7_init (274, .newarray .int, 2) (List.mem_of_getElem? (i := 132) rfl)
theorem dX7_init_276 : decode cX7_init 276 = .ok (.putfield 107, 3) := daX7_init (276, .putfield 107, 3) (List.mem_of_getElem? (i := 133) rfl)
theorem dX7_init_279 : decode cX7_init 279 = .ok (.aload_n 0, 1) := daX7_init (279, .aload_n 0, 1) (List.mem_of_getElem? (i := 134) rfl)
theorem dX7_init_280 : decode cX7_init 280 = .ok (.bipush 8, 2) := daX7_init (280, .bipush 8, 2) (List.mem_of_getElem? (i := 135) rfl)
theorem dX7_init_282 : decode cX7_init 282 = .ok (.newarray .int, 2) := daX7_init (282, .newarray .int, 2) (List.mem_of_getElem? (i := 136) rfl)
theorem dX7_init_284 : decode cX7_init 284 = .ok (.putfield 110, 3) := daX7_init (284, .putfield 110, 3) (List.mem_of_getElem? (i := 137) rfl)
theorem dX7_init_287 : decode cX7_init 287 = .ok (.aload_n 0, 1) := daX7_init (287, .aload_n 0, 1) (List.mem_of_getElem? (i := 138) rfl)
theorem dX7_init_288 : decode cX7_init 288 = .ok (.bipush 8, 2) := daX7_init (288, .bipush 8, 2) (List.mem_of_getElem? (i := 139) rfl)
theorem dX7_init_290 : decode cX7_init 290 = .ok (.newarray .int, 2) := daX7_init (290, .newarray .int, 2) (List.mem_of_getElem? (i := 140) rfl)
theorem dX7_init_292 : decode cX7_init 292 = .ok (.putfield 113, 3) := daX7_init (292, .putfield 113, 3) (List.mem_of_getElem? (i := 141) rfl)
theorem dX7_init_295 : decode cX7_init 295 = .ok (.aload_n 0, 1) := daX7_init (295, .aload_n 0, 1) (List.mem_of_getElem? (i := 142) rfl)
theorem dX7_init_296 : decode cX7_init 296 = .ok (.bipush 36, 2) := daX7_init (296, .bipush 36, 2) (List.mem_of_getElem? (i := 143) rfl)
theorem dX7_init_298 : decode cX7_init 298 = .ok (.newarray .boolean, 2) := daX7_init (298, .newarray .boolean, 2) (List.mem_of_getElem? (i := 144) rfl)
theorem dX7_init_300 : decode cX7_init 300 = .ok (.putfield 116, 3) := daX7_init (300, .putfield 116, 3) (List.mem_of_getElem? (i := 145) rfl)
theorem dX7_init_303 : decode cX7_init 303 = .ok (.aload_n 0, 1) := daX7_init (303, .aload_n 0, 1) (List.mem_of_getElem? (i := 146) rfl)
theorem dX7_init_304 : decode cX7_init 304 = .ok (.bipush 60, 2) := daX7_init (304, .bipush 60, 2) (List.mem_of_getElem? (i := 147) rfl)
theorem dX7_init_306 : decode cX7_init 306 = .ok (.newarray .boolean, 2) := daX7_init (306, .newarray .boolean, 2) (List.mem_of_getElem? (i := 148) rfl)
theorem dX7_init_308 : decode cX7_init 308 = .ok (.putfield 119, 3) := daX7_init (308, .putfield 119, 3) (List.mem_of_getElem? (i := 149) rfl)
theorem dX7_init_311 : decode cX7_init 311 = .ok (.aload_n 0, 1) := daX7_init (311, .aload_n 0, 1) (List.mem_of_getElem? (i := 150) rfl)
theorem dX7_init_312 : decode cX7_init 312 = .ok (.bipush 60, 2) := daX7_init (312, .bipush 60, 2) (List.mem_of_getElem? (i := 151) rfl)
theorem dX7_init_314 : decode cX7_init 314 = .ok (.newarray .boolean, 2) := daX7_init (314, .newarray .boolean, 2) (List.mem_of_getElem? (i := 152) rfl)
theorem dX7_init_316 : decode cX7_init 316 = .ok (.putfield 122, 3) := daX7_init (316, .putfield 122, 3) (List.mem_of_getElem? (i := 153) rfl)
theorem dX7_init_319 : decode cX7_init 319 = .ok (.aload_n 0, 1) := daX7_init (319, .aload_n 0, 1) (List.mem_of_getElem? (i := 154) rfl)
theorem dX7_init_320 : decode cX7_init 320 = .ok (.iconst 5, 1) := daX7_init (320, .iconst 5, 1) (List.mem_of_getElem? (i := 155) rfl)
theorem dX7_init_321 : decode cX7_init 321 = .ok (.newarray .int, 2) := daX7_init (321, .newarray .int, 2) (List.mem_of_getElem? (i := 156) rfl)
theorem dX7_init_323 : decode cX7_init 323 = .ok (.putfield 125, 3) := daX7_init (323, .putfield 125, 3) (List.mem_of_getElem? (i := 157) rfl)
theorem dX7_init_326 : decode cX7_init 326 = .ok (.aload_n 0, 1) := daX7_init (326, .aload_n 0, 1) (List.mem_of_getElem? (i := 158) rfl)
theorem dX7_init_327 : decode cX7_init 327 = .ok (.sipush 160, 3) := daX7_init (327, .sipush 160, 3) (List.mem_of_getElem? (i := 159) rfl)
theorem dX7_init_330 : decode cX7_init 330 = .ok (.newarray .int, 2) := daX7_init (330, .newarray .int, 2) (List.mem_of_getElem? (i := 160) rfl)
theorem dX7_init_332 : decode cX7_init 332 = .ok (.putfield 128, 3) := daX7_init (332, .putfield 128, 3) (List.mem_of_getElem? (i := 161) rfl)
theorem dX7_init_335 : decode cX7_init 335 = .ok (.aload_n 0, 1) := daX7_init (335, .aload_n 0, 1) (List.mem_of_getElem? (i := 162) rfl)
theorem dX7_init_336 : decode cX7_init 336 = .ok (.bipush 6, 2) := daX7_init (336, .bipush 6, 2) (List.mem_of_getElem? (i := 163) rfl)
theorem dX7_init_338 : decode cX7_init 338 = .ok (.newarray .int, 2) := daX7_init (338, .newarray .int, 2) (List.mem_of_getElem? (i := 164) rfl)
theorem dX7_init_340 : decode cX7_init 340 = .ok (.putfield 131, 3) := daX7_init (340, .putfield 131, 3) (List.mem_of_getElem? (i := 165) rfl)
theorem dX7_init_343 : decode cX7_init 343 = .ok (.aload_n 0, 1) := daX7_init (343, .aload_n 0, 1) (List.mem_of_getElem? (i := 166) rfl)
theorem dX7_init_344 : decode cX7_init 344 = .ok (.iconst 5, 1) := daX7_init (344, .iconst 5, 1) (List.mem_of_getElem? (i := 167) rfl)
theorem dX7_init_345 : decode cX7_init 345 = .ok (.newarray .int, 2) := daX7_init (345, .newarray .int, 2) (List.mem_of_getElem? (i := 168) rfl)
theorem dX7_init_347 : decode cX7_init 347 = .ok (.putfield 134, 3) := daX7_init (347, .putfield 134, 3) (List.mem_of_getElem? (i := 169) rfl)
theorem dX7_init_350 : decode cX7_init 350 = .ok (.aload_n 0, 1) := daX7_init (350, .aload_n 0, 1) (List.mem_of_getElem? (i := 170) rfl)
theorem dX7_init_351 : decode cX7_init 351 = .ok (.iconst 5, 1) := daX7_init (351, .iconst 5, 1) (List.mem_of_getElem? (i := 171) rfl)
theorem dX7_init_352 : decode cX7_init 352 = .ok (.newarray .int, 2) := daX7_init (352, .newarray .int, 2) (List.mem_of_getElem? (i := 172) rfl)
theorem dX7_init_354 : decode cX7_init 354 = .ok (.putfield 137, 3) := daX7_init (354, .putfield 137, 3) (List.mem_of_getElem? (i := 173) rfl)
theorem dX7_init_357 : decode cX7_init 357 = .ok (.return_, 1) := daX7_init (357, .return_, 1) (List.mem_of_getElem? (i := 174) rfl)
def rmX7_init : Room := { frames := 1, cells := 43, slots := 10855, locals := 20 }
theorem zdX7_init : yX7_init.cls = RX7 ∧ yX7_init.cls ≠ "java/lang/invoke/MethodHandle" ∧ yX7_init.cls ≠ "java/lang/invoke/VarHandle" ∧ (parseMethodDescriptor yX7_init.desc).map (fun d => d.parameters.length) = some 0 := by decide +kernel
theorem ko1X7_init : Cond.methodLink RX7 1 Lib.objectInit ∈ wsX7_init := by decide +kernel
theorem ko2X7_init : Cond.instanceMethod Lib.objectInit ∈ wsX7_init := by decide +kernel
theorem ko3X7_init : Cond.code Lib.objectInit ⟨#[0xb1]⟩ 1 none ∈ wsX7_init := by decide +kernel
theorem kaX7_init_boolean : Cond.arrayClass .boolean ∈ wsX7_init := by decide +kernel
theorem kiX7_init_X7 : ∀ w ∈ wsX70, w ∈ wsX7_init := by decide +kernel
theorem kfX7_init_7 : Cond.fieldLink RX7 7 "ShapeJudgeModel" "hasValue" "[Z" ∈ wsX7_init := by decide +kernel
theorem kaX7_init_int : Cond.arrayClass .int ∈ wsX7_init := by decide +kernel
theorem kfX7_init_13 : Cond.fieldLink RX7 13 "ShapeJudgeModel" "values" "[I" ∈ wsX7_init := by decide +kernel
theorem kfX7_init_17 : Cond.fieldLink RX7 17 "ShapeJudgeModel" "many" "[I" ∈ wsX7_init := by decide +kernel
theorem kfX7_init_20 : Cond.fieldLink RX7 20 "ShapeJudgeModel" "names" "[I" ∈ wsX7_init := by decide +kernel
theorem kfX7_init_23 : Cond.fieldLink RX7 23 "ShapeJudgeModel" "tos" "[I" ∈ wsX7_init := by decide +kernel
theorem kfX7_init_26 : Cond.fieldLink RX7 26 "ShapeJudgeModel" "words" "[I" ∈ wsX7_init := by decide +kernel
theorem kfX7_init_29 : Cond.fieldLink RX7 29 "ShapeJudgeModel" "closed" "[Z" ∈ wsX7_init := by decide +kernel
theorem kfX7_init_32 : Cond.fieldLink RX7 32 "ShapeJudgeModel" "parts" "[I" ∈ wsX7_init := by decide +kernel
theorem kfX7_init_35 : Cond.fieldLink RX7 35 "ShapeJudgeModel" "pName" "[I" ∈ wsX7_init := by decide +kernel
theorem kfX7_init_38 : Cond.fieldLink RX7 38 "ShapeJudgeModel" "pTest" "[I" ∈ wsX7_init := by decide +kernel
theorem kfX7_init_41 : Cond.fieldLink RX7 41 "ShapeJudgeModel" "pFirst" "[I" ∈ wsX7_init := by decide +kernel
theorem kfX7_init_44 : Cond.fieldLink RX7 44 "ShapeJudgeModel" "pSecond" "[I" ∈ wsX7_init := by decide +kernel
theorem kfX7_init_47 : Cond.fieldLink RX7 47 "ShapeJudgeModel" "size" "[I" ∈ wsX7_init := by decide +kernel
theorem kfX7_init_50 : Cond.fieldLink RX7 50 "ShapeJudgeModel" "kind" "[I" ∈ wsX7_init := by decide +kernel
theorem kfX7_init_53 : Cond.fieldLink RX7 53 "ShapeJudgeModel" "around" "[I" ∈ wsX7_init := by decide +kernel
theorem kfX7_init_56 : Cond.fieldLink RX7 56 "ShapeJudgeModel" "least" "[I" ∈ wsX7_init := by decide +kernel
theorem kfX7_init_59 : Cond.fieldLink RX7 59 "ShapeJudgeModel" "most" "[I" ∈ wsX7_init := by decide +kernel
theorem kfX7_init_62 : Cond.fieldLink RX7 62 "ShapeJudgeModel" "partOf" "[I" ∈ wsX7_init := by decide +kernel
theorem kfX7_init_65 : Cond.fieldLink RX7 65 "ShapeJudgeModel" "dWords" "[I" ∈ wsX7_init := by decide +kernel
theorem kfX7_init_68 : Cond.fieldLink RX7 68 "ShapeJudgeModel" "dClosed" "[Z" ∈ wsX7_init := by decide +kernel
theorem kfX7_init_71 : Cond.fieldLink RX7 71 "ShapeJudgeModel" "dParts" "[I" ∈ wsX7_init := by decide +kernel
theorem kfX7_init_74 : Cond.fieldLink RX7 74 "ShapeJudgeModel" "dName" "[I" ∈ wsX7_init := by decide +kernel
theorem kfX7_init_77 : Cond.fieldLink RX7 77 "ShapeJudgeModel" "dTest" "[I" ∈ wsX7_init := by decide +kernel
theorem kfX7_init_80 : Cond.fieldLink RX7 80 "ShapeJudgeModel" "dFirst" "[I" ∈ wsX7_init := by decide +kernel
theorem kfX7_init_83 : Cond.fieldLink RX7 83 "ShapeJudgeModel" "dSecond" "[I" ∈ wsX7_init := by decide +kernel
theorem kfX7_init_86 : Cond.fieldLink RX7 86 "ShapeJudgeModel" "dPlace" "[I" ∈ wsX7_init := by decide +kernel
theorem kfX7_init_89 : Cond.fieldLink RX7 89 "ShapeJudgeModel" "dSize" "[I" ∈ wsX7_init := by decide +kernel
theorem kfX7_init_92 : Cond.fieldLink RX7 92 "ShapeJudgeModel" "dKind" "[I" ∈ wsX7_init := by decide +kernel
theorem kfX7_init_95 : Cond.fieldLink RX7 95 "ShapeJudgeModel" "dAround" "[I" ∈ wsX7_init := by decide +kernel
theorem kfX7_init_98 : Cond.fieldLink RX7 98 "ShapeJudgeModel" "dLeast" "[I" ∈ wsX7_init := by decide +kernel
theorem kfX7_init_101 : Cond.fieldLink RX7 101 "ShapeJudgeModel" "dMost" "[I" ∈ wsX7_init := by decide +kernel
theorem kfX7_init_104 : Cond.fieldLink RX7 104 "ShapeJudgeModel" "dPartOf" "[I" ∈ wsX7_init := by decide +kernel
theorem kfX7_init_107 : Cond.fieldLink RX7 107 "ShapeJudgeModel" "tape" "[I" ∈ wsX7_init := by decide +kernel
theorem kfX7_init_110 : Cond.fieldLink RX7 110 "ShapeJudgeModel" "eachAt" "[I" ∈ wsX7_init := by decide +kernel
theorem kfX7_init_113 : Cond.fieldLink RX7 113 "ShapeJudgeModel" "itemAt" "[I" ∈ wsX7_init := by decide +kernel
theorem kfX7_init_116 : Cond.fieldLink RX7 116 "ShapeJudgeModel" "leads" "[Z" ∈ wsX7_init := by decide +kernel
theorem kfX7_init_119 : Cond.fieldLink RX7 119 "ShapeJudgeModel" "fitting" "[Z" ∈ wsX7_init := by decide +kernel
theorem kfX7_init_122 : Cond.fieldLink RX7 122 "ShapeJudgeModel" "sure" "[Z" ∈ wsX7_init := by decide +kernel
theorem kfX7_init_125 : Cond.fieldLink RX7 125 "ShapeJudgeModel" "only" "[I" ∈ wsX7_init := by decide +kernel
theorem kfX7_init_128 : Cond.fieldLink RX7 128 "ShapeJudgeModel" "sets" "[I" ∈ wsX7_init := by decide +kernel
theorem kfX7_init_131 : Cond.fieldLink RX7 131 "ShapeJudgeModel" "ranks" "[I" ∈ wsX7_init := by decide +kernel
theorem kfX7_init_134 : Cond.fieldLink RX7 134 "ShapeJudgeModel" "keptNames" "[I" ∈ wsX7_init := by decide +kernel
theorem kfX7_init_137 : Cond.fieldLink RX7 137 "ShapeJudgeModel" "keptTos" "[I" ∈ wsX7_init := by decide +kernel
def s_X7_init (m : Mem) : Mem := (sto (zal LcM (sto (zal LcM (sto (zal LcM (sto (zal LcM (sto (zal LcM (sto (zal LcM (sto (zal LcM (sto (zal LcM (sto (zal LcM (sto (zal LcM (sto (zal LcM (sto (zal LcM (sto (zal LcM (sto (zal LcM (sto (zal LcM (sto (zal LcM (sto (zal LcM (sto (zal LcM (sto (zal LcM (sto (zal LcM (sto (zal LcM (sto (zal LcM (sto (zal LcM (sto (zal LcM (sto (zal LcM (sto (zal LcM (sto (zal LcM (sto (zal LcM (sto (zal LcM (sto (zal LcM (sto (zal LcM (sto (zal LcM (sto (zal LcM (sto (zal LcM (sto (zal LcM (sto (zal LcM (sto (zal LcM (sto (zal LcM (sto (zal LcM (sto (zal LcM (sto (zal LcM (sto (zal LcM (sto (zal LcM m 1) 0 1 (nI 1)) 2) 0 2 (nI 2)) 3) 0 3 (nI 3)) 4) 0 4 (nI 4)) 5) 0 5 (nI 5)) 6) 0 8 (nI 6)) 7) 0 9 (nI 7)) 8) 0 10 (nI 8)) 9) 0 11 (nI 9)) 10) 0 12 (nI 10)) 11) 0 13 (nI 11)) 12) 0 14 (nI 12)) 13) 0 15 (nI 13)) 14) 0 16 (nI 14)) 15) 0 17 (nI 15)) 16) 0 18 (nI 16)) 17) 0 19 (nI 17)) 18) 0 20 (nI 18)) 19) 0 22 (nI 19)) 20) 0 23 (nI 20)) 21) 0 24 (nI 21)) 22) 0 25 (nI 22)) 23) 0 26 (nI 23)) 24) 0 27 (nI 24)) 25) 0 28 (nI 25)) 26) 0 29 (nI 26)) 27) 0 30 (nI 27)) 28) 0 31 (nI 28)) 29) 0 32 (nI 29)) 30) 0 33 (nI 30)) 31) 0 34 (nI 31)) 32) 0 35 (nI 32)) 33) 0 36 (nI 33)) 34) 0 45 (nI 34)) 35) 0 46 (nI 35)) 36) 0 47 (nI 36)) 37) 0 48 (nI 37)) 38) 0 49 (nI 38)) 39) 0 50 (nI 39)) 40) 0 51 (nI 40)) 41) 0 52 (nI 41)) 42) 0 55 (nI 42)) 43) 0 56 (nI 43))
set_option maxRecDepth 100000 in
set_option maxHeartbeats 4000000 in
theorem c_X7_init (l : Launch) (cA : Nat → ClassId) (D : va_G) {ad : Nat → Nat} {m : Mem} : zCc [] LcM l cA D yX7_init wsX7_init rmX7_init [.ref (ad 0)] 1 ad m 44 (s_X7_init m) 43 10855 := by
  refine zc_met (own := RX7) zsm_zLc (by decide +kernel) rfl rfl (Nat.le_of_ble_eq_true rfl) rfl ?_
  intro K C hK1 hK2 hKl hret
  subst hK1
  subst hK2
  subst hKl
  show zGc LcM K 1 0 0 ad m [(0, .ref (ad 0))] 0 []
  refine zc_aload_n C 0 dX7_init_0 rfl rfl ?_
  refine zc_obj C ko1X7_init ko2X7_init ko3X7_init (Nat.le_of_ble_eq_true rfl) (Nat.le_of_ble_eq_true rfl) dX7_init_1 ?_
  refine zc_aload_n C 0 dX7_init_4 rfl rfl ?_
  refine zc_bipush C (v := 10) dX7_init_5 rfl ?_
  refine zc_newa C (t := 1) (n := 10) (ty := .boolean) rfl rfl (fun _ => rfl) (fun _ h => by cases h) (fun _ => rfl) kaX7_init_boolean (by decide) (by decide) (by decide) (Nat.le_of_ble_eq_true rfl) (Nat.le_of_ble_eq_true rfl) (fun a => [(0, .ref (a 0))]) (fun a => [.ref (a 0)]) rfl rfl (fun a2 h => by constructor <;> simp only [h 0 (by decide)]) dX7_init_7 (fun a1 h1 => ?_)
  refine zc_putFa C (b := 1) (k := 0) (Nat.le_of_ble_eq_true rfl) rfl rfl 1 (Nat.le_of_ble_eq_true rfl) rfl kiX7_init_X7 kfX7_init_7 tyX7 tyX7_ok nmX7 rfl rfl rfl (Nat.le_of_ble_eq_true rfl) (Nat.le_of_ble_eq_true rfl) dX7_init_9 ?_
  refine zc_aload_n C 0 dX7_init_12 rfl rfl ?_
  refine zc_bipush C (v := 10) dX7_init_13 rfl ?_
  refine zc_newa C (t := 0) (n := 10) (ty := .int) rfl rfl (fun _ => rfl) (fun _ h => by cases h) (fun _ => rfl) kaX7_init_int (by decide) (by decide) (by decide) (Nat.le_of_ble_eq_true rfl) (Nat.le_of_ble_eq_true rfl) (fun a => [(0, .ref (a 0))]) (fun a => [.ref (a 0)]) rfl rfl (fun a2 h => by constructor <;> simp only [h 0 (by decide)]) dX7_init_15 (fun a2 h2 => ?_)
  refine zc_putFa C (b := 2) (k := 0) (Nat.le_of_ble_eq_true rfl) rfl rfl 2 (Nat.le_of_ble_eq_true rfl) rfl kiX7_init_X7 kfX7_init_13 tyX7 tyX7_ok nmX7 rfl rfl rfl (Nat.le_of_ble_eq_true rfl) (Nat.le_of_ble_eq_true rfl) dX7_init_17 ?_
  refine zc_aload_n C 0 dX7_init_20 rfl rfl ?_
  refine zc_bipush C (v := 10) dX7_init_21 rfl ?_
  refine zc_newa C (t := 0) (n := 10) (ty := .int) rfl rfl (fun _ => rfl) (fun _ h => by cases h) (fun _ => rfl) kaX7_init_int (by decide) (by decide) (by decide) (Nat.le_of_ble_eq_true rfl) (Nat.le_of_ble_eq_true rfl) (fun a => [(0, .ref (a 0))]) (fun a => [.ref (a 0)]) rfl rfl (fun a2 h => by constructor <;> simp only [h 0 (by decide)]) dX7_init_23 (fun a3 h3 => ?_)
  refine zc_putFa C (b := 3) (k := 0) (Nat.le_of_ble_eq_true rfl) rfl rfl 3 (Nat.le_of_ble_eq_true rfl) rfl kiX7_init_X7 kfX7_init_17 tyX7 tyX7_ok nmX7 rfl rfl rfl (Nat.le_of_ble_eq_true rfl) (Nat.le_of_ble_eq_true rfl) dX7_init_25 ?_
  refine zc_aload_n C 0 dX7_init_28 rfl rfl ?_
  refine zc_bipush C (v := 50) dX7_init_29 rfl ?_
  refine zc_newa C (t := 0) (n := 50) (ty := .int) rfl rfl (fun _ => rfl) (fun _ h => by cases h) (fun _ => rfl) kaX7_init_int (by decide) (by decide) (by decide) (Nat.le_of_ble_eq_true rfl) (Nat.le_of_ble_eq_true rfl) (fun a => [(0, .ref (a 0))]) (fun a => [.ref (a 0)]) rfl rfl (fun a2 h => by constructor <;> simp only [h 0 (by decide)]) dX7_init_31 (fun a4 h4 => ?_)
  refine zc_putFa C (b := 4) (k := 0) (Nat.le_of_ble_eq_true rfl) rfl rfl 4 (Nat.le_of_ble_eq_true rfl) rfl kiX7_init_X7 kfX7_init_20 tyX7 tyX7_ok nmX7 rfl rfl rfl (Nat.le_of_ble_eq_true rfl) (Nat.le_of_ble_eq_true rfl) dX7_init_33 ?_
  refine zc_aload_n C 0 dX7_init_36 rfl rfl ?_
  refine zc_bipush C (v := 50) dX7_init_37 rfl ?_
  refine zc_newa C (t := 0) (n := 50) (ty := .int) rfl rfl (fun _ => rfl) (fun _ h => by cases h) (fun _ => rfl) kaX7_init_int (by decide) (by decide) (by decide) (Nat.le_of_ble_eq_true rfl) (Nat.le_of_ble_eq_true rfl) (fun a => [(0, .ref (a 0))]) (fun a => [.ref (a 0)]) rfl rfl (fun a2 h => by constructor <;> simp only [h 0 (by decide)]) dX7_init_39 (fun a5 h5 => ?_)
  refine zc_putFa C (b := 5) (k := 0) (Nat.le_of_ble_eq_true rfl) rfl rfl 5 (Nat.le_of_ble_eq_true rfl) rfl kiX7_init_X7 kfX7_init_23 tyX7 tyX7_ok nmX7 rfl rfl rfl (Nat.le_of_ble_eq_true rfl) (Nat.le_of_ble_eq_true rfl) dX7_init_41 ?_
  refine zc_aload_n C 0 dX7_init_44 rfl rfl ?_
  refine zc_bipush C (v := 6) dX7_init_45 rfl ?_
  refine zc_newa C (t := 0) (n := 6) (ty := .int) rfl rfl (fun _ => rfl) (fun _ h => by cases h) (fun _ => rfl) kaX7_init_int (by decide) (by decide) (by decide) (Nat.le_of_ble_eq_true rfl) (Nat.le_of_ble_eq_true rfl) (fun a => [(0, .ref (a 0))]) (fun a => [.ref (a 0)]) rfl rfl (fun a2 h => by constructor <;> simp only [h 0 (by decide)]) dX7_init_47 (fun a6 h6 => ?_)
  refine zc_putFa C (b := 6) (k := 0) (Nat.le_of_ble_eq_true rfl) rfl rfl 8 (Nat.le_of_ble_eq_true rfl) rfl kiX7_init_X7 kfX7_init_26 tyX7 tyX7_ok nmX7 rfl rfl rfl (Nat.le_of_ble_eq_true rfl) (Nat.le_of_ble_eq_true rfl) dX7_init_49 ?_
  refine zc_aload_n C 0 dX7_init_52 rfl rfl ?_
  refine zc_bipush C (v := 6) dX7_init_53 rfl ?_
  refine zc_newa C (t := 1) (n := 6) (ty := .boolean) rfl rfl (fun _ => rfl) (fun _ h => by cases h) (fun _ => rfl) kaX7_init_boolean (by decide) (by decide) (by decide) (Nat.le_of_ble_eq_true rfl) (Nat.le_of_ble_eq_true rfl) (fun a => [(0, .ref (a 0))]) (fun a => [.ref (a 0)]) rfl rfl (fun a2 h => by constructor <;> simp only [h 0 (by decide)]) dX7_init_55 (fun a7 h7 => ?_)
  refine zc_putFa C (b := 7) (k := 0) (Nat.le_of_ble_eq_true rfl) rfl rfl 9 (Nat.le_of_ble_eq_true rfl) rfl kiX7_init_X7 kfX7_init_29 tyX7 tyX7_ok nmX7 rfl rfl rfl (Nat.le_of_ble_eq_true rfl) (Nat.le_of_ble_eq_true rfl) dX7_init_57 ?_
  refine zc_aload_n C 0 dX7_init_60 rfl rfl ?_
  refine zc_bipush C (v := 6) dX7_init_61 rfl ?_
  refine zc_newa C (t := 0) (n := 6) (ty := .int) rfl rfl (fun _ => rfl) (fun _ h => by cases h) (fun _ => rfl) kaX7_init_int (by decide) (by decide) (by decide) (Nat.le_of_ble_eq_true rfl) (Nat.le_of_ble_eq_true rfl) (fun a => [(0, .ref (a 0))]) (fun a => [.ref (a 0)]) rfl rfl (fun a2 h => by constructor <;> simp only [h 0 (by decide)]) dX7_init_63 (fun a8 h8 => ?_)
  refine zc_putFa C (b := 8) (k := 0) (Nat.le_of_ble_eq_true rfl) rfl rfl 10 (Nat.le_of_ble_eq_true rfl) rfl kiX7_init_X7 kfX7_init_32 tyX7 tyX7_ok nmX7 rfl rfl rfl (Nat.le_of_ble_eq_true rfl) (Nat.le_of_ble_eq_true rfl) dX7_init_65 ?_
  refine zc_aload_n C 0 dX7_init_68 rfl rfl ?_
  refine zc_bipush C (v := 36) dX7_init_69 rfl ?_
  refine zc_newa C (t := 0) (n := 36) (ty := .int) rfl rfl (fun _ => rfl) (fun _ h => by cases h) (fun _ => rfl) kaX7_init_int (by decide) (by decide) (by decide) (Nat.le_of_ble_eq_true rfl) (Nat.le_of_ble_eq_true rfl) (fun a => [(0, .ref (a 0))]) (fun a => [.ref (a 0)]) rfl rfl (fun a2 h => by constructor <;> simp only [h 0 (by decide)]) dX7_init_71 (fun a9 h9 => ?_)
  refine zc_putFa C (b := 9) (k := 0) (Nat.le_of_ble_eq_true rfl) rfl rfl 11 (Nat.le_of_ble_eq_true rfl) rfl kiX7_init_X7 kfX7_init_35 tyX7 tyX7_ok nmX7 rfl rfl rfl (Nat.le_of_ble_eq_true rfl) (Nat.le_of_ble_eq_true rfl) dX7_init_73 ?_
  refine zc_aload_n C 0 dX7_init_76 rfl rfl ?_
  refine zc_bipush C (v := 36) dX7_init_77 rfl ?_
  refine zc_newa C (t := 0) (n := 36) (ty := .int) rfl rfl (fun _ => rfl) (fun _ h => by cases h) (fun _ => rfl) kaX7_init_int (by decide) (by decide) (by decide) (Nat.le_of_ble_eq_true rfl) (Nat.le_of_ble_eq_true rfl) (fun a => [(0, .ref (a 0))]) (fun a => [.ref (a 0)]) rfl rfl (fun a2 h => by constructor <;> simp only [h 0 (by decide)]) dX7_init_79 (fun a10 h10 => ?_)
  refine zc_putFa C (b := 10) (k := 0) (Nat.le_of_ble_eq_true rfl) rfl rfl 12 (Nat.le_of_ble_eq_true rfl) rfl kiX7_init_X7 kfX7_init_38 tyX7 tyX7_ok nmX7 rfl rfl rfl (Nat.le_of_ble_eq_true rfl) (Nat.le_of_ble_eq_true rfl) dX7_init_81 ?_
  refine zc_aload_n C 0 dX7_init_84 rfl rfl ?_
  refine zc_bipush C (v := 36) dX7_init_85 rfl ?_
  refine zc_newa C (t := 0) (n := 36) (ty := .int) rfl rfl (fun _ => rfl) (fun _ h => by cases h) (fun _ => rfl) kaX7_init_int (by decide) (by decide) (by decide) (Nat.le_of_ble_eq_true rfl) (Nat.le_of_ble_eq_true rfl) (fun a => [(0, .ref (a 0))]) (fun a => [.ref (a 0)]) rfl rfl (fun a2 h => by constructor <;> simp only [h 0 (by decide)]) dX7_init_87 (fun a11 h11 => ?_)
  refine zc_putFa C (b := 11) (k := 0) (Nat.le_of_ble_eq_true rfl) rfl rfl 13 (Nat.le_of_ble_eq_true rfl) rfl kiX7_init_X7 kfX7_init_41 tyX7 tyX7_ok nmX7 rfl rfl rfl (Nat.le_of_ble_eq_true rfl) (Nat.le_of_ble_eq_true rfl) dX7_init_89 ?_
  refine zc_aload_n C 0 dX7_init_92 rfl rfl ?_
  refine zc_bipush C (v := 36) dX7_init_93 rfl ?_
  refine zc_newa C (t := 0) (n := 36) (ty := .int) rfl rfl (fun _ => rfl) (fun _ h => by cases h) (fun _ => rfl) kaX7_init_int (by decide) (by decide) (by decide) (Nat.le_of_ble_eq_true rfl) (Nat.le_of_ble_eq_true rfl) (fun a => [(0, .ref (a 0))]) (fun a => [.ref (a 0)]) rfl rfl (fun a2 h => by constructor <;> simp only [h 0 (by decide)]) dX7_init_95 (fun a12 h12 => ?_)
  refine zc_putFa C (b := 12) (k := 0) (Nat.le_of_ble_eq_true rfl) rfl rfl 14 (Nat.le_of_ble_eq_true rfl) rfl kiX7_init_X7 kfX7_init_44 tyX7 tyX7_ok nmX7 rfl rfl rfl (Nat.le_of_ble_eq_true rfl) (Nat.le_of_ble_eq_true rfl) dX7_init_97 ?_
  refine zc_aload_n C 0 dX7_init_100 rfl rfl ?_
  refine zc_bipush C (v := 6) dX7_init_101 rfl ?_
  refine zc_newa C (t := 0) (n := 6) (ty := .int) rfl rfl (fun _ => rfl) (fun _ h => by cases h) (fun _ => rfl) kaX7_init_int (by decide) (by decide) (by decide) (Nat.le_of_ble_eq_true rfl) (Nat.le_of_ble_eq_true rfl) (fun a => [(0, .ref (a 0))]) (fun a => [.ref (a 0)]) rfl rfl (fun a2 h => by constructor <;> simp only [h 0 (by decide)]) dX7_init_103 (fun a13 h13 => ?_)
  refine zc_putFa C (b := 13) (k := 0) (Nat.le_of_ble_eq_true rfl) rfl rfl 15 (Nat.le_of_ble_eq_true rfl) rfl kiX7_init_X7 kfX7_init_47 tyX7 tyX7_ok nmX7 rfl rfl rfl (Nat.le_of_ble_eq_true rfl) (Nat.le_of_ble_eq_true rfl) dX7_init_105 ?_
  refine zc_aload_n C 0 dX7_init_108 rfl rfl ?_
  refine zc_sipush C (v := 960) dX7_init_109 rfl ?_
  refine zc_newa C (t := 0) (n := 960) (ty := .int) rfl rfl (fun _ => rfl) (fun _ h => by cases h) (fun _ => rfl) kaX7_init_int (by decide) (by decide) (by decide) (Nat.le_of_ble_eq_true rfl) (Nat.le_of_ble_eq_true rfl) (fun a => [(0, .ref (a 0))]) (fun a => [.ref (a 0)]) rfl rfl (fun a2 h => by constructor <;> simp only [h 0 (by decide)]) dX7_init_112 (fun a14 h14 => ?_)
  refine zc_putFa C (b := 14) (k := 0) (Nat.le_of_ble_eq_true rfl) rfl rfl 16 (Nat.le_of_ble_eq_true rfl) rfl kiX7_init_X7 kfX7_init_50 tyX7 tyX7_ok nmX7 rfl rfl rfl (Nat.le_of_ble_eq_true rfl) (Nat.le_of_ble_eq_true rfl) dX7_init_114 ?_
  refine zc_aload_n C 0 dX7_init_117 rfl rfl ?_
  refine zc_sipush C (v := 960) dX7_init_118 rfl ?_
  refine zc_newa C (t := 0) (n := 960) (ty := .int) rfl rfl (fun _ => rfl) (fun _ h => by cases h) (fun _ => rfl) kaX7_init_int (by decide) (by decide) (by decide) (Nat.le_of_ble_eq_true rfl) (Nat.le_of_ble_eq_true rfl) (fun a => [(0, .ref (a 0))]) (fun a => [.ref (a 0)]) rfl rfl (fun a2 h => by constructor <;> simp only [h 0 (by decide)]) dX7_init_121 (fun a15 h15 => ?_)
  refine zc_putFa C (b := 15) (k := 0) (Nat.le_of_ble_eq_true rfl) rfl rfl 17 (Nat.le_of_ble_eq_true rfl) rfl kiX7_init_X7 kfX7_init_53 tyX7 tyX7_ok nmX7 rfl rfl rfl (Nat.le_of_ble_eq_true rfl) (Nat.le_of_ble_eq_true rfl) dX7_init_123 ?_
  refine zc_aload_n C 0 dX7_init_126 rfl rfl ?_
  refine zc_sipush C (v := 960) dX7_init_127 rfl ?_
  refine zc_newa C (t := 0) (n := 960) (ty := .int) rfl rfl (fun _ => rfl) (fun _ h => by cases h) (fun _ => rfl) kaX7_init_int (by decide) (by decide) (by decide) (Nat.le_of_ble_eq_true rfl) (Nat.le_of_ble_eq_true rfl) (fun a => [(0, .ref (a 0))]) (fun a => [.ref (a 0)]) rfl rfl (fun a2 h => by constructor <;> simp only [h 0 (by decide)]) dX7_init_130 (fun a16 h16 => ?_)
  refine zc_putFa C (b := 16) (k := 0) (Nat.le_of_ble_eq_true rfl) rfl rfl 18 (Nat.le_of_ble_eq_true rfl) rfl kiX7_init_X7 kfX7_init_56 tyX7 tyX7_ok nmX7 rfl rfl rfl (Nat.le_of_ble_eq_true rfl) (Nat.le_of_ble_eq_true rfl) dX7_init_132 ?_
  refine zc_aload_n C 0 dX7_init_135 rfl rfl ?_
  refine zc_sipush C (v := 960) dX7_init_136 rfl ?_
  refine zc_newa C (t := 0) (n := 960) (ty := .int) rfl rfl (fun _ => rfl) (fun _ h => by cases h) (fun _ => rfl) kaX7_init_int (by decide) (by decide) (by decide) (Nat.le_of_ble_eq_true rfl) (Nat.le_of_ble_eq_true rfl) (fun a => [(0, .ref (a 0))]) (fun a => [.ref (a 0)]) rfl rfl (fun a2 h => by constructor <;> simp only [h 0 (by decide)]) dX7_init_139 (fun a17 h17 => ?_)
  refine zc_putFa C (b := 17) (k := 0) (Nat.le_of_ble_eq_true rfl) rfl rfl 19 (Nat.le_of_ble_eq_true rfl) rfl kiX7_init_X7 kfX7_init_59 tyX7 tyX7_ok nmX7 rfl rfl rfl (Nat.le_of_ble_eq_true rfl) (Nat.le_of_ble_eq_true rfl) dX7_init_141 ?_
  refine zc_aload_n C 0 dX7_init_144 rfl rfl ?_
  refine zc_sipush C (v := 960) dX7_init_145 rfl ?_
  refine zc_newa C (t := 0) (n := 960) (ty := .int) rfl rfl (fun _ => rfl) (fun _ h => by cases h) (fun _ => rfl) kaX7_init_int (by decide) (by decide) (by decide) (Nat.le_of_ble_eq_true rfl) (Nat.le_of_ble_eq_true rfl) (fun a => [(0, .ref (a 0))]) (fun a => [.ref (a 0)]) rfl rfl (fun a2 h => by constructor <;> simp only [h 0 (by decide)]) dX7_init_148 (fun a18 h18 => ?_)
  refine zc_putFa C (b := 18) (k := 0) (Nat.le_of_ble_eq_true rfl) rfl rfl 20 (Nat.le_of_ble_eq_true rfl) rfl kiX7_init_X7 kfX7_init_62 tyX7 tyX7_ok nmX7 rfl rfl rfl (Nat.le_of_ble_eq_true rfl) (Nat.le_of_ble_eq_true rfl) dX7_init_150 ?_
  refine zc_aload_n C 0 dX7_init_153 rfl rfl ?_
  refine zc_bipush C (v := 6) dX7_init_154 rfl ?_
  refine zc_newa C (t := 0) (n := 6) (ty := .int) rfl rfl (fun _ => rfl) (fun _ h => by cases h) (fun _ => rfl) kaX7_init_int (by decide) (by decide) (by decide) (Nat.le_of_ble_eq_true rfl) (Nat.le_of_ble_eq_true rfl) (fun a => [(0, .ref (a 0))]) (fun a => [.ref (a 0)]) rfl rfl (fun a2 h => by constructor <;> simp only [h 0 (by decide)]) dX7_init_156 (fun a19 h19 => ?_)
  refine zc_putFa C (b := 19) (k := 0) (Nat.le_of_ble_eq_true rfl) rfl rfl 22 (Nat.le_of_ble_eq_true rfl) rfl kiX7_init_X7 kfX7_init_65 tyX7 tyX7_ok nmX7 rfl rfl rfl (Nat.le_of_ble_eq_true rfl) (Nat.le_of_ble_eq_true rfl) dX7_init_158 ?_
  refine zc_aload_n C 0 dX7_init_161 rfl rfl ?_
  refine zc_bipush C (v := 6) dX7_init_162 rfl ?_
  refine zc_newa C (t := 1) (n := 6) (ty := .boolean) rfl rfl (fun _ => rfl) (fun _ h => by cases h) (fun _ => rfl) kaX7_init_boolean (by decide) (by decide) (by decide) (Nat.le_of_ble_eq_true rfl) (Nat.le_of_ble_eq_true rfl) (fun a => [(0, .ref (a 0))]) (fun a => [.ref (a 0)]) rfl rfl (fun a2 h => by constructor <;> simp only [h 0 (by decide)]) dX7_init_164 (fun a20 h20 => ?_)
  refine zc_putFa C (b := 20) (k := 0) (Nat.le_of_ble_eq_true rfl) rfl rfl 23 (Nat.le_of_ble_eq_true rfl) rfl kiX7_init_X7 kfX7_init_68 tyX7 tyX7_ok nmX7 rfl rfl rfl (Nat.le_of_ble_eq_true rfl) (Nat.le_of_ble_eq_true rfl) dX7_init_166 ?_
  refine zc_aload_n C 0 dX7_init_169 rfl rfl ?_
  refine zc_bipush C (v := 6) dX7_init_170 rfl ?_
  refine zc_newa C (t := 0) (n := 6) (ty := .int) rfl rfl (fun _ => rfl) (fun _ h => by cases h) (fun _ => rfl) kaX7_init_int (by decide) (by decide) (by decide) (Nat.le_of_ble_eq_true rfl) (Nat.le_of_ble_eq_true rfl) (fun a => [(0, .ref (a 0))]) (fun a => [.ref (a 0)]) rfl rfl (fun a2 h => by constructor <;> simp only [h 0 (by decide)]) dX7_init_172 (fun a21 h21 => ?_)
  refine zc_putFa C (b := 21) (k := 0) (Nat.le_of_ble_eq_true rfl) rfl rfl 24 (Nat.le_of_ble_eq_true rfl) rfl kiX7_init_X7 kfX7_init_71 tyX7 tyX7_ok nmX7 rfl rfl rfl (Nat.le_of_ble_eq_true rfl) (Nat.le_of_ble_eq_true rfl) dX7_init_174 ?_
  refine zc_aload_n C 0 dX7_init_177 rfl rfl ?_
  refine zc_bipush C (v := 36) dX7_init_178 rfl ?_
  refine zc_newa C (t := 0) (n := 36) (ty := .int) rfl rfl (fun _ => rfl) (fun _ h => by cases h) (fun _ => rfl) kaX7_init_int (by decide) (by decide) (by decide) (Nat.le_of_ble_eq_true rfl) (Nat.le_of_ble_eq_true rfl) (fun a => [(0, .ref (a 0))]) (fun a => [.ref (a 0)]) rfl rfl (fun a2 h => by constructor <;> simp only [h 0 (by decide)]) dX7_init_180 (fun a22 h22 => ?_)
  refine zc_putFa C (b := 22) (k := 0) (Nat.le_of_ble_eq_true rfl) rfl rfl 25 (Nat.le_of_ble_eq_true rfl) rfl kiX7_init_X7 kfX7_init_74 tyX7 tyX7_ok nmX7 rfl rfl rfl (Nat.le_of_ble_eq_true rfl) (Nat.le_of_ble_eq_true rfl) dX7_init_182 ?_
  refine zc_aload_n C 0 dX7_init_185 rfl rfl ?_
  refine zc_bipush C (v := 36) dX7_init_186 rfl ?_
  refine zc_newa C (t := 0) (n := 36) (ty := .int) rfl rfl (fun _ => rfl) (fun _ h => by cases h) (fun _ => rfl) kaX7_init_int (by decide) (by decide) (by decide) (Nat.le_of_ble_eq_true rfl) (Nat.le_of_ble_eq_true rfl) (fun a => [(0, .ref (a 0))]) (fun a => [.ref (a 0)]) rfl rfl (fun a2 h => by constructor <;> simp only [h 0 (by decide)]) dX7_init_188 (fun a23 h23 => ?_)
  refine zc_putFa C (b := 23) (k := 0) (Nat.le_of_ble_eq_true rfl) rfl rfl 26 (Nat.le_of_ble_eq_true rfl) rfl kiX7_init_X7 kfX7_init_77 tyX7 tyX7_ok nmX7 rfl rfl rfl (Nat.le_of_ble_eq_true rfl) (Nat.le_of_ble_eq_true rfl) dX7_init_190 ?_
  refine zc_aload_n C 0 dX7_init_193 rfl rfl ?_
  refine zc_bipush C (v := 36) dX7_init_194 rfl ?_
  refine zc_newa C (t := 0) (n := 36) (ty := .int) rfl rfl (fun _ => rfl) (fun _ h => by cases h) (fun _ => rfl) kaX7_init_int (by decide) (by decide) (by decide) (Nat.le_of_ble_eq_true rfl) (Nat.le_of_ble_eq_true rfl) (fun a => [(0, .ref (a 0))]) (fun a => [.ref (a 0)]) rfl rfl (fun a2 h => by constructor <;> simp only [h 0 (by decide)]) dX7_init_196 (fun a24 h24 => ?_)
  refine zc_putFa C (b := 24) (k := 0) (Nat.le_of_ble_eq_true rfl) rfl rfl 27 (Nat.le_of_ble_eq_true rfl) rfl kiX7_init_X7 kfX7_init_80 tyX7 tyX7_ok nmX7 rfl rfl rfl (Nat.le_of_ble_eq_true rfl) (Nat.le_of_ble_eq_true rfl) dX7_init_198 ?_
  refine zc_aload_n C 0 dX7_init_201 rfl rfl ?_
  refine zc_bipush C (v := 36) dX7_init_202 rfl ?_
  refine zc_newa C (t := 0) (n := 36) (ty := .int) rfl rfl (fun _ => rfl) (fun _ h => by cases h) (fun _ => rfl) kaX7_init_int (by decide) (by decide) (by decide) (Nat.le_of_ble_eq_true rfl) (Nat.le_of_ble_eq_true rfl) (fun a => [(0, .ref (a 0))]) (fun a => [.ref (a 0)]) rfl rfl (fun a2 h => by constructor <;> simp only [h 0 (by decide)]) dX7_init_204 (fun a25 h25 => ?_)
  refine zc_putFa C (b := 25) (k := 0) (Nat.le_of_ble_eq_true rfl) rfl rfl 28 (Nat.le_of_ble_eq_true rfl) rfl kiX7_init_X7 kfX7_init_83 tyX7 tyX7_ok nmX7 rfl rfl rfl (Nat.le_of_ble_eq_true rfl) (Nat.le_of_ble_eq_true rfl) dX7_init_206 ?_
  refine zc_aload_n C 0 dX7_init_209 rfl rfl ?_
  refine zc_bipush C (v := 36) dX7_init_210 rfl ?_
  refine zc_newa C (t := 0) (n := 36) (ty := .int) rfl rfl (fun _ => rfl) (fun _ h => by cases h) (fun _ => rfl) kaX7_init_int (by decide) (by decide) (by decide) (Nat.le_of_ble_eq_true rfl) (Nat.le_of_ble_eq_true rfl) (fun a => [(0, .ref (a 0))]) (fun a => [.ref (a 0)]) rfl rfl (fun a2 h => by constructor <;> simp only [h 0 (by decide)]) dX7_init_212 (fun a26 h26 => ?_)
  refine zc_putFa C (b := 26) (k := 0) (Nat.le_of_ble_eq_true rfl) rfl rfl 29 (Nat.le_of_ble_eq_true rfl) rfl kiX7_init_X7 kfX7_init_86 tyX7 tyX7_ok nmX7 rfl rfl rfl (Nat.le_of_ble_eq_true rfl) (Nat.le_of_ble_eq_true rfl) dX7_init_214 ?_
  refine zc_aload_n C 0 dX7_init_217 rfl rfl ?_
  refine zc_bipush C (v := 6) dX7_init_218 rfl ?_
  refine zc_newa C (t := 0) (n := 6) (ty := .int) rfl rfl (fun _ => rfl) (fun _ h => by cases h) (fun _ => rfl) kaX7_init_int (by decide) (by decide) (by decide) (Nat.le_of_ble_eq_true rfl) (Nat.le_of_ble_eq_true rfl) (fun a => [(0, .ref (a 0))]) (fun a => [.ref (a 0)]) rfl rfl (fun a2 h => by constructor <;> simp only [h 0 (by decide)]) dX7_init_220 (fun a27 h27 => ?_)
  refine zc_putFa C (b := 27) (k := 0) (Nat.le_of_ble_eq_true rfl) rfl rfl 30 (Nat.le_of_ble_eq_true rfl) rfl kiX7_init_X7 kfX7_init_89 tyX7 tyX7_ok nmX7 rfl rfl rfl (Nat.le_of_ble_eq_true rfl) (Nat.le_of_ble_eq_true rfl) dX7_init_222 ?_
  refine zc_aload_n C 0 dX7_init_225 rfl rfl ?_
  refine zc_sipush C (v := 960) dX7_init_226 rfl ?_
  refine zc_newa C (t := 0) (n := 960) (ty := .int) rfl rfl (fun _ => rfl) (fun _ h => by cases h) (fun _ => rfl) kaX7_init_int (by decide) (by decide) (by decide) (Nat.le_of_ble_eq_true rfl) (Nat.le_of_ble_eq_true rfl) (fun a => [(0, .ref (a 0))]) (fun a => [.ref (a 0)]) rfl rfl (fun a2 h => by constructor <;> simp only [h 0 (by decide)]) dX7_init_229 (fun a28 h28 => ?_)
  refine zc_putFa C (b := 28) (k := 0) (Nat.le_of_ble_eq_true rfl) rfl rfl 31 (Nat.le_of_ble_eq_true rfl) rfl kiX7_init_X7 kfX7_init_92 tyX7 tyX7_ok nmX7 rfl rfl rfl (Nat.le_of_ble_eq_true rfl) (Nat.le_of_ble_eq_true rfl) dX7_init_231 ?_
  refine zc_aload_n C 0 dX7_init_234 rfl rfl ?_
  refine zc_sipush C (v := 960) dX7_init_235 rfl ?_
  refine zc_newa C (t := 0) (n := 960) (ty := .int) rfl rfl (fun _ => rfl) (fun _ h => by cases h) (fun _ => rfl) kaX7_init_int (by decide) (by decide) (by decide) (Nat.le_of_ble_eq_true rfl) (Nat.le_of_ble_eq_true rfl) (fun a => [(0, .ref (a 0))]) (fun a => [.ref (a 0)]) rfl rfl (fun a2 h => by constructor <;> simp only [h 0 (by decide)]) dX7_init_238 (fun a29 h29 => ?_)
  refine zc_putFa C (b := 29) (k := 0) (Nat.le_of_ble_eq_true rfl) rfl rfl 32 (Nat.le_of_ble_eq_true rfl) rfl kiX7_init_X7 kfX7_init_95 tyX7 tyX7_ok nmX7 rfl rfl rfl (Nat.le_of_ble_eq_true rfl) (Nat.le_of_ble_eq_true rfl) dX7_init_240 ?_
  refine zc_aload_n C 0 dX7_init_243 rfl rfl ?_
  refine zc_sipush C (v := 960) dX7_init_244 rfl ?_
  refine zc_newa C (t := 0) (n := 960) (ty := .int) rfl rfl (fun _ => rfl) (fun _ h => by cases h) (fun _ => rfl) kaX7_init_int (by decide) (by decide) (by decide) (Nat.le_of_ble_eq_true rfl) (Nat.le_of_ble_eq_true rfl) (fun a => [(0, .ref (a 0))]) (fun a => [.ref (a 0)]) rfl rfl (fun a2 h => by constructor <;> simp only [h 0 (by decide)]) dX7_init_247 (fun a30 h30 => ?_)
  refine zc_putFa C (b := 30) (k := 0) (Nat.le_of_ble_eq_true rfl) rfl rfl 33 (Nat.le_of_ble_eq_true rfl) rfl kiX7_init_X7 kfX7_init_98 tyX7 tyX7_ok nmX7 rfl rfl rfl (Nat.le_of_ble_eq_true rfl) (Nat.le_of_ble_eq_true rfl) dX7_init_249 ?_
  refine zc_aload_n C 0 dX7_init_252 rfl rfl ?_
  refine zc_sipush C (v := 960) dX7_init_253 rfl ?_
  refine zc_newa C (t := 0) (n := 960) (ty := .int) rfl rfl (fun _ => rfl) (fun _ h => by cases h) (fun _ => rfl) kaX7_init_int (by decide) (by decide) (by decide) (Nat.le_of_ble_eq_true rfl) (Nat.le_of_ble_eq_true rfl) (fun a => [(0, .ref (a 0))]) (fun a => [.ref (a 0)]) rfl rfl (fun a2 h => by constructor <;> simp only [h 0 (by decide)]) dX7_init_256 (fun a31 h31 => ?_)
  refine zc_putFa C (b := 31) (k := 0) (Nat.le_of_ble_eq_true rfl) rfl rfl 34 (Nat.le_of_ble_eq_true rfl) rfl kiX7_init_X7 kfX7_init_101 tyX7 tyX7_ok nmX7 rfl rfl rfl (Nat.le_of_ble_eq_true rfl) (Nat.le_of_ble_eq_true rfl) dX7_init_258 ?_
  refine zc_aload_n C 0 dX7_init_261 rfl rfl ?_
  refine zc_sipush C (v := 960) dX7_init_262 rfl ?_
  refine zc_newa C (t := 0) (n := 960) (ty := .int) rfl rfl (fun _ => rfl) (fun _ h => by cases h) (fun _ => rfl) kaX7_init_int (by decide) (by decide) (by decide) (Nat.le_of_ble_eq_true rfl) (Nat.le_of_ble_eq_true rfl) (fun a => [(0, .ref (a 0))]) (fun a => [.ref (a 0)]) rfl rfl (fun a2 h => by constructor <;> simp only [h 0 (by decide)]) dX7_init_265 (fun a32 h32 => ?_)
  refine zc_putFa C (b := 32) (k := 0) (Nat.le_of_ble_eq_true rfl) rfl rfl 35 (Nat.le_of_ble_eq_true rfl) rfl kiX7_init_X7 kfX7_init_104 tyX7 tyX7_ok nmX7 rfl rfl rfl (Nat.le_of_ble_eq_true rfl) (Nat.le_of_ble_eq_true rfl) dX7_init_267 ?_
  refine zc_aload_n C 0 dX7_init_270 rfl rfl ?_
  refine zc_sipush C (v := 400) dX7_init_271 rfl ?_
  refine zc_newa C (t := 0) (n := 400) (ty := .int) rfl rfl (fun _ => rfl) (fun _ h => by cases h) (fun _ => rfl) kaX7_init_int (by decide) (by decide) (by decide) (Nat.le_of_ble_eq_true rfl) (Nat.le_of_ble_eq_true rfl) (fun a => [(0, .ref (a 0))]) (fun a => [.ref (a 0)]) rfl rfl (fun a2 h => by constructor <;> simp only [h 0 (by decide)]) dX7_init_274 (fun a33 h33 => ?_)
  refine zc_putFa C (b := 33) (k := 0) (Nat.le_of_ble_eq_true rfl) rfl rfl 36 (Nat.le_of_ble_eq_true rfl) rfl kiX7_init_X7 kfX7_init_107 tyX7 tyX7_ok nmX7 rfl rfl rfl (Nat.le_of_ble_eq_true rfl) (Nat.le_of_ble_eq_true rfl) dX7_init_276 ?_
  refine zc_aload_n C 0 dX7_init_279 rfl rfl ?_
  refine zc_bipush C (v := 8) dX7_init_280 rfl ?_
  refine zc_newa C (t := 0) (n := 8) (ty := .int) rfl rfl (fun _ => rfl) (fun _ h => by cases h) (fun _ => rfl) kaX7_init_int (by decide) (by decide) (by decide) (Nat.le_of_ble_eq_true rfl) (Nat.le_of_ble_eq_true rfl) (fun a => [(0, .ref (a 0))]) (fun a => [.ref (a 0)]) rfl rfl (fun a2 h => by constructor <;> simp only [h 0 (by decide)]) dX7_init_282 (fun a34 h34 => ?_)
  refine zc_putFa C (b := 34) (k := 0) (Nat.le_of_ble_eq_true rfl) rfl rfl 45 (Nat.le_of_ble_eq_true rfl) rfl kiX7_init_X7 kfX7_init_110 tyX7 tyX7_ok nmX7 rfl rfl rfl (Nat.le_of_ble_eq_true rfl) (Nat.le_of_ble_eq_true rfl) dX7_init_284 ?_
  refine zc_aload_n C 0 dX7_init_287 rfl rfl ?_
  refine zc_bipush C (v := 8) dX7_init_288 rfl ?_
  refine zc_newa C (t := 0) (n := 8) (ty := .int) rfl rfl (fun _ => rfl) (fun _ h => by cases h) (fun _ => rfl) kaX7_init_int (by decide) (by decide) (by decide) (Nat.le_of_ble_eq_true rfl) (Nat.le_of_ble_eq_true rfl) (fun a => [(0, .ref (a 0))]) (fun a => [.ref (a 0)]) rfl rfl (fun a2 h => by constructor <;> simp only [h 0 (by decide)]) dX7_init_290 (fun a35 h35 => ?_)
  refine zc_putFa C (b := 35) (k := 0) (Nat.le_of_ble_eq_true rfl) rfl rfl 46 (Nat.le_of_ble_eq_true rfl) rfl kiX7_init_X7 kfX7_init_113 tyX7 tyX7_ok nmX7 rfl rfl rfl (Nat.le_of_ble_eq_true rfl) (Nat.le_of_ble_eq_true rfl) dX7_init_292 ?_
  refine zc_aload_n C 0 dX7_init_295 rfl rfl ?_
  refine zc_bipush C (v := 36) dX7_init_296 rfl ?_
  refine zc_newa C (t := 1) (n := 36) (ty := .boolean) rfl rfl (fun _ => rfl) (fun _ h => by cases h) (fun _ => rfl) kaX7_init_boolean (by decide) (by decide) (by decide) (Nat.le_of_ble_eq_true rfl) (Nat.le_of_ble_eq_true rfl) (fun a => [(0, .ref (a 0))]) (fun a => [.ref (a 0)]) rfl rfl (fun a2 h => by constructor <;> simp only [h 0 (by decide)]) dX7_init_298 (fun a36 h36 => ?_)
  refine zc_putFa C (b := 36) (k := 0) (Nat.le_of_ble_eq_true rfl) rfl rfl 47 (Nat.le_of_ble_eq_true rfl) rfl kiX7_init_X7 kfX7_init_116 tyX7 tyX7_ok nmX7 rfl rfl rfl (Nat.le_of_ble_eq_true rfl) (Nat.le_of_ble_eq_true rfl) dX7_init_300 ?_
  refine zc_aload_n C 0 dX7_init_303 rfl rfl ?_
  refine zc_bipush C (v := 60) dX7_init_304 rfl ?_
  refine zc_newa C (t := 1) (n := 60) (ty := .boolean) rfl rfl (fun _ => rfl) (fun _ h => by cases h) (fun _ => rfl) kaX7_init_boolean (by decide) (by decide) (by decide) (Nat.le_of_ble_eq_true rfl) (Nat.le_of_ble_eq_true rfl) (fun a => [(0, .ref (a 0))]) (fun a => [.ref (a 0)]) rfl rfl (fun a2 h => by constructor <;> simp only [h 0 (by decide)]) dX7_init_306 (fun a37 h37 => ?_)
  refine zc_putFa C (b := 37) (k := 0) (Nat.le_of_ble_eq_true rfl) rfl rfl 48 (Nat.le_of_ble_eq_true rfl) rfl kiX7_init_X7 kfX7_init_119 tyX7 tyX7_ok nmX7 rfl rfl rfl (Nat.le_of_ble_eq_true rfl) (Nat.le_of_ble_eq_true rfl) dX7_init_308 ?_
  refine zc_aload_n C 0 dX7_init_311 rfl rfl ?_
  refine zc_bipush C (v := 60) dX7_init_312 rfl ?_
  refine zc_newa C (t := 1) (n := 60) (ty := .boolean) rfl rfl (fun _ => rfl) (fun _ h => by cases h) (fun _ => rfl) kaX7_init_boolean (by decide) (by decide) (by decide) (Nat.le_of_ble_eq_true rfl) (Nat.le_of_ble_eq_true rfl) (fun a => [(0, .ref (a 0))]) (fun a => [.ref (a 0)]) rfl rfl (fun a2 h => by constructor <;> simp only [h 0 (by decide)]) dX7_init_314 (fun a38 h38 => ?_)
  refine zc_putFa C (b := 38) (k := 0) (Nat.le_of_ble_eq_true rfl) rfl rfl 49 (Nat.le_of_ble_eq_true rfl) rfl kiX7_init_X7 kfX7_init_122 tyX7 tyX7_ok nmX7 rfl rfl rfl (Nat.le_of_ble_eq_true rfl) (Nat.le_of_ble_eq_true rfl) dX7_init_316 ?_
  refine zc_aload_n C 0 dX7_init_319 rfl rfl ?_
  refine zc_iconst C (v := 5) dX7_init_320 rfl ?_
  refine zc_newa C (t := 0) (n := 5) (ty := .int) rfl rfl (fun _ => rfl) (fun _ h => by cases h) (fun _ => rfl) kaX7_init_int (by decide) (by decide) (by decide) (Nat.le_of_ble_eq_true rfl) (Nat.le_of_ble_eq_true rfl) (fun a => [(0, .ref (a 0))]) (fun a => [.ref (a 0)]) rfl rfl (fun a2 h => by constructor <;> simp only [h 0 (by decide)]) dX7_init_321 (fun a39 h39 => ?_)
  refine zc_putFa C (b := 39) (k := 0) (Nat.le_of_ble_eq_true rfl) rfl rfl 50 (Nat.le_of_ble_eq_true rfl) rfl kiX7_init_X7 kfX7_init_125 tyX7 tyX7_ok nmX7 rfl rfl rfl (Nat.le_of_ble_eq_true rfl) (Nat.le_of_ble_eq_true rfl) dX7_init_323 ?_
  refine zc_aload_n C 0 dX7_init_326 rfl rfl ?_
  refine zc_sipush C (v := 160) dX7_init_327 rfl ?_
  refine zc_newa C (t := 0) (n := 160) (ty := .int) rfl rfl (fun _ => rfl) (fun _ h => by cases h) (fun _ => rfl) kaX7_init_int (by decide) (by decide) (by decide) (Nat.le_of_ble_eq_true rfl) (Nat.le_of_ble_eq_true rfl) (fun a => [(0, .ref (a 0))]) (fun a => [.ref (a 0)]) rfl rfl (fun a2 h => by constructor <;> simp only [h 0 (by decide)]) dX7_init_330 (fun a40 h40 => ?_)
  refine zc_putFa C (b := 40) (k := 0) (Nat.le_of_ble_eq_true rfl) rfl rfl 51 (Nat.le_of_ble_eq_true rfl) rfl kiX7_init_X7 kfX7_init_128 tyX7 tyX7_ok nmX7 rfl rfl rfl (Nat.le_of_ble_eq_true rfl) (Nat.le_of_ble_eq_true rfl) dX7_init_332 ?_
  refine zc_aload_n C 0 dX7_init_335 rfl rfl ?_
  refine zc_bipush C (v := 6) dX7_init_336 rfl ?_
  refine zc_newa C (t := 0) (n := 6) (ty := .int) rfl rfl (fun _ => rfl) (fun _ h => by cases h) (fun _ => rfl) kaX7_init_int (by decide) (by decide) (by decide) (Nat.le_of_ble_eq_true rfl) (Nat.le_of_ble_eq_true rfl) (fun a => [(0, .ref (a 0))]) (fun a => [.ref (a 0)]) rfl rfl (fun a2 h => by constructor <;> simp only [h 0 (by decide)]) dX7_init_338 (fun a41 h41 => ?_)
  refine zc_putFa C (b := 41) (k := 0) (Nat.le_of_ble_eq_true rfl) rfl rfl 52 (Nat.le_of_ble_eq_true rfl) rfl kiX7_init_X7 kfX7_init_131 tyX7 tyX7_ok nmX7 rfl rfl rfl (Nat.le_of_ble_eq_true rfl) (Nat.le_of_ble_eq_true rfl) dX7_init_340 ?_
  refine zc_aload_n C 0 dX7_init_343 rfl rfl ?_
  refine zc_iconst C (v := 5) dX7_init_344 rfl ?_
  refine zc_newa C (t := 0) (n := 5) (ty := .int) rfl rfl (fun _ => rfl) (fun _ h => by cases h) (fun _ => rfl) kaX7_init_int (by decide) (by decide) (by decide) (Nat.le_of_ble_eq_true rfl) (Nat.le_of_ble_eq_true rfl) (fun a => [(0, .ref (a 0))]) (fun a => [.ref (a 0)]) rfl rfl (fun a2 h => by constructor <;> simp only [h 0 (by decide)]) dX7_init_345 (fun a42 h42 => ?_)
  refine zc_putFa C (b := 42) (k := 0) (Nat.le_of_ble_eq_true rfl) rfl rfl 55 (Nat.le_of_ble_eq_true rfl) rfl kiX7_init_X7 kfX7_init_134 tyX7 tyX7_ok nmX7 rfl rfl rfl (Nat.le_of_ble_eq_true rfl) (Nat.le_of_ble_eq_true rfl) dX7_init_347 ?_
  refine zc_aload_n C 0 dX7_init_350 rfl rfl ?_
  refine zc_iconst C (v := 5) dX7_init_351 rfl ?_
  refine zc_newa C (t := 0) (n := 5) (ty := .int) rfl rfl (fun _ => rfl) (fun _ h => by cases h) (fun _ => rfl) kaX7_init_int (by decide) (by decide) (by decide) (Nat.le_of_ble_eq_true rfl) (Nat.le_of_ble_eq_true rfl) (fun a => [(0, .ref (a 0))]) (fun a => [.ref (a 0)]) rfl rfl (fun a2 h => by constructor <;> simp only [h 0 (by decide)]) dX7_init_352 (fun a43 h43 => ?_)
  refine zc_putFa C (b := 43) (k := 0) (Nat.le_of_ble_eq_true rfl) rfl rfl 56 (Nat.le_of_ble_eq_true rfl) rfl kiX7_init_X7 kfX7_init_137 tyX7 tyX7_ok nmX7 rfl rfl rfl (Nat.le_of_ble_eq_true rfl) (Nat.le_of_ble_eq_true rfl) dX7_init_354 ?_
  refine hret _ _ a43 (fun i hi => ?_) dX7_init_357
  rw [h43 i (by omega), h42 i (by omega), h41 i (by omega), h40 i (by omega), h39 i (by omega), h38 i (by omega), h37 i (by omega), h36 i (by omega), h35 i (by omega), h34 i (by omega), h33 i (by omega), h32 i (by omega), h31 i (by omega), h30 i (by omega), h29 i (by omega), h28 i (by omega), h27 i (by omega), h26 i (by omega), h25 i (by omega), h24 i (by omega), h23 i (by omega), h22 i (by omega), h21 i (by omega), h20 i (by omega), h19 i (by omega), h18 i (by omega), h17 i (by omega), h16 i (by omega), h15 i (by omega), h14 i (by omega), h13 i (by omega), h12 i (by omega), h11 i (by omega), h10 i (by omega), h9 i (by omega), h8 i (by omega), h7 i (by omega), h6 i (by omega), h5 i (by omega), h4 i (by omega), h3 i (by omega), h2 i (by omega), h1 i (by omega)]
