theorem dX2_setsTaken_35 : decode cX2_setsTaken 35 = .ok (.iload_n 1, 1) := by decide +kernel
theorem dX2_setsTaken_36 : decode cX2_setsTaken 36 = .ok (.iconst 5, 1) := by decide +kernel
theorem dX2_setsTaken_37 : decode cX2_setsTaken 37 = .ok (.imul, 1) := by decide +kernel
theorem dX2_setsTaken_38 : decode cX2_setsTaken 38 = .ok (.iload 7, 2) := by decide +kernel
theorem dX2_setsTaken_40 : decode cX2_setsTaken 40 = .ok (.iadd, 1) := by decide +kernel
theorem dX2_setsTaken_41 : decode cX2_setsTaken 41 = .ok (.istore 8, 2) := by decide +kernel
theorem dX2_setsTaken_43 : decode cX2_setsTaken 43 = .ok (.iload 4, 2) := by decide +kernel
theorem dX2_setsTaken_45 : decode cX2_setsTaken 45 = .ok (.iload 7, 2) := by decide +kernel
theorem dX2_setsTaken_47 : decode cX2_setsTaken 47 = .ok (.ishr, 1) := by decide +kernel
theorem dX2_setsTaken_48 : decode cX2_setsTaken 48 = .ok (.iconst 1, 1) := by decide +kernel
theorem dX2_setsTaken_49 : decode cX2_setsTaken 49 = .ok (.iand, 1) := by decide +kernel
theorem dX2_setsTaken_50 : decode cX2_setsTaken 50 = .ok (.ifCond .eq 68, 3) := by decide +kernel
theorem dX2_setsTaken_53 : decode cX2_setsTaken 53 = .ok (.aload_n 0, 1) := by decide +kernel
theorem dX2_setsTaken_54 : decode cX2_setsTaken 54 = .ok (.getfield 18, 3) := by decide +kernel
theorem dX2_setsTaken_57 : decode cX2_setsTaken 57 = .ok (.iload 7, 2) := by decide +kernel
theorem dX2_setsTaken_59 : decode cX2_setsTaken 59 = .ok (.iaload, 1) := by decide +kernel
theorem dX2_setsTaken_60 : decode cX2_setsTaken 60 = .ok (.iload 5, 2) := by decide +kernel
theorem dX2_setsTaken_62 : decode cX2_setsTaken 62 = .ok (.iand, 1) := by decide +kernel
theorem dX2_setsTaken_63 : decode cX2_setsTaken 63 = .ok (.ifCond .eq 55, 3) := by decide +kernel
theorem dX2_setsTaken_66 : decode cX2_setsTaken 66 = .ok (.aload_n 0, 1) := by decide +kernel
theorem dX2_setsTaken_67 : decode cX2_setsTaken 67 = .ok (.getfield 24, 3) := by decide +kernel
theorem dX2_setsTaken_70 : decode cX2_setsTaken 70 = .ok (.getfield 83, 3) := by decide +kernel
theorem dX2_setsTaken_73 : decode cX2_setsTaken 73 = .ok (.iload 8, 2) := by decide +kernel
theorem dX2_setsTaken_75 : decode cX2_setsTaken 75 = .ok (.iaload, 1) := by decide +kernel
theorem dX2_setsTaken_76 : decode cX2_setsTaken 76 = .ok (.aload_n 0, 1) := by decide +kernel
theorem dX2_setsTaken_77 : decode cX2_setsTaken 77 = .ok (.getfield 28, 3) := by decide +kernel
theorem dX2_setsTaken_80 : decode cX2_setsTaken 80 = .ok (.getfield 120, 3) := by decide +kernel
theorem dX2_setsTaken_83 : decode cX2_setsTaken 83 = .ok (.iload_n 2, 1) := by decide +kernel
theorem dX2_setsTaken_84 : decode cX2_setsTaken 84 = .ok (.iaload, 1) := by decide +kernel
theorem dX2_setsTaken_85 : decode cX2_setsTaken 85 = .ok (.if_icmp .ne 33, 3) := by decide +kernel
theorem dX2_setsTaken_88 : decode cX2_setsTaken 88 = .ok (.aload_n 0, 1) := by decide +kernel
theorem dX2_setsTaken_89 : decode cX2_setsTaken 89 = .ok (.aload_n 0, 1) := by decide +kernel
theorem dX2_setsTaken_90 : decode cX2_setsTaken 90 = .ok (.getfield 24, 3) := by decide +kernel
theorem dX2_setsTaken_93 : decode cX2_setsTaken 93 = .ok (.getfield 123, 3) := by decide +kernel
theorem dX2_setsTaken_96 : decode cX2_setsTaken 96 = .ok (.iload 8, 2) := by decide +kernel
theorem dX2_setsTaken_98 : decode cX2_setsTaken 98 = .ok (.iaload, 1) := by decide +kernel
theorem dX2_setsTaken_99 : decode cX2_setsTaken 99 = .ok (.iload_n 2, 1) := by decide +kernel
theorem dX2_setsTaken_100 : decode cX2_setsTaken 100 = .ok (.aload_n 3, 1) := by decide +kernel
theorem dX2_setsTaken_101 : decode cX2_setsTaken 101 = .ok (.invokevirtual 126, 3) := by decide +kernel
theorem dX2_setsTaken_104 : decode cX2_setsTaken 104 = .ok (.ifCond .eq 14, 3) := by decide +kernel
theorem dX2_setsTaken_107 : decode cX2_setsTaken 107 = .ok (.iload 6, 2) := by decide +kernel
theorem dX2_setsTaken_109 : decode cX2_setsTaken 109 = .ok (.iconst 1, 1) := by decide +kernel
theorem dX2_setsTaken_110 : decode cX2_setsTaken 110 = .ok (.iconst 1, 1) := by decide +kernel
theorem dX2_setsTaken_111 : decode cX2_setsTaken 111 = .ok (.iload 7, 2) := by decide +kernel
theorem dX2_setsTaken_113 : decode cX2_setsTaken 113 = .ok (.ishl, 1) := by decide +kernel
theorem dX2_setsTaken_114 : decode cX2_setsTaken 114 = .ok (.ishl, 1) := by decide +kernel
theorem dX2_setsTaken_115 : decode cX2_setsTaken 115 = .ok (.ior, 1) := by decide +kernel
theorem dX2_setsTaken_116 : decode cX2_setsTaken 116 = .ok (.istore 6, 2) := by decide +kernel
theorem dX2_setsTaken_118 : decode cX2_setsTaken 118 = .ok (.iinc 7 1, 3) := by decide +kernel
theorem dX2_setsTaken_121 : decode cX2_setsTaken 121 = .ok (.goto (-100), 3) := by decide +kernel
theorem dX2_setsTaken_124 : decode cX2_setsTaken 124 = .ok (.iload 6, 2) := by decide +kernel
theorem dX2_setsTaken_126 : decode cX2_setsTaken 126 = .ok (.ireturn, 1) := by decide +kernel
theorem dX2_passes_0 : decode cX2_passes 0 = .ok (.aload_n 0, 1) := by decide +kernel
theorem dX2_passes_1 : decode cX2_passes 1 = .ok (.getfield 28, 3) := by decide +kernel
theorem dX2_passes_4 : decode cX2_passes 4 = .ok (.getfield 129, 3) := by decide +kernel
theorem dX2_passes_7 : decode cX2_passes 7 = .ok (.iload_n 2, 1) := by decide +kernel
theorem dX2_passes_8 : decode cX2_passes 8 = .ok (.iaload, 1) := by decide +kernel
theorem dX2_passes_9 : decode cX2_passes 9 = .ok (.istore 4, 2) := by decide +kernel
theorem dX2_passes_11 : decode cX2_passes 11 = .ok (.aload_n 0, 1) := by decide +kernel
theorem dX2_passes_12 : decode cX2_passes 12 = .ok (.getfield 28, 3) := by decide +kernel
theorem dX2_passes_15 : decode cX2_passes 15 = .ok (.getfield 132, 3) := by decide +kernel
theorem dX2_passes_18 : decode cX2_passes 18 = .ok (.iload_n 2, 1) := by decide +kernel
theorem dX2_passes_19 : decode cX2_passes 19 = .ok (.iaload, 1) := by decide +kernel
theorem dX2_passes_20 : decode cX2_passes 20 = .ok (.tableswitch 91 0 2 #[28, 30, 59], 28) := by decide +kernel
theorem dX2_passes_48 : decode cX2_passes 48 = .ok (.iconst 1, 1) := by decide +kernel
theorem dX2_passes_49 : decode cX2_passes 49 = .ok (.ireturn, 1) := by decide +kernel
theorem dX2_passes_50 : decode cX2_passes 50 = .ok (.iload 4, 2) := by decide +kernel
theorem dX2_passes_52 : decode cX2_passes 52 = .ok (.ifCond .lt 25, 3) := by decide +kernel
theorem dX2_passes_55 : decode cX2_passes 55 = .ok (.iload 4, 2) := by decide +kernel
theorem dX2_passes_57 : decode cX2_passes 57 = .ok (.bipush 6, 2) := by decide +kernel
theorem dX2_passes_59 : decode cX2_passes 59 = .ok (.if_icmp .ge 18, 3) := by decide +kernel
theorem dX2_passes_62 : decode cX2_passes 62 = .ok (.aload_n 3, 1) := by decide +kernel
theorem dX2_passes_63 : decode cX2_passes 63 = .ok (.iload 4, 2) := by decide +kernel
theorem dX2_passes_65 : decode cX2_passes 65 = .ok (.iaload, 1) := by decide +kernel
theorem dX2_passes_66 : decode cX2_passes 66 = .ok (.iload_n 1, 1) := by decide +kernel
theorem dX2_passes_67 : decode cX2_passes 67 = .ok (.ishr, 1) := by decide +kernel
theorem dX2_passes_68 : decode cX2_passes 68 = .ok (.iconst 1, 1) := by decide +kernel
theorem dX2_passes_69 : decode cX2_passes 69 = .ok (.iand, 1) := by decide +kernel
theorem dX2_passes_70 : decode cX2_passes 70 = .ok (.ifCond .eq 7, 3) := by decide +kernel
theorem dX2_passes_73 : decode cX2_passes 73 = .ok (.iconst 1, 1) := by decide +kernel
theorem dX2_passes_74 : decode cX2_passes 74 = .ok (.goto 4, 3) := by decide +kernel
theorem dX2_passes_77 : decode cX2_passes 77 = .ok (.iconst 0, 1) := by decide +kernel
theorem dX2_passes_78 : decode cX2_passes 78 = .ok (.ireturn, 1) := by decide +kernel
theorem dX2_passes_79 : decode cX2_passes 79 = .ok (.iload 4, 2) := by decide +kernel
theorem dX2_passes_81 : decode cX2_passes 81 = .ok (.ifCond .lt 28, 3) := by decide +kernel
theorem dX2_passes_84 : decode cX2_passes 84 = .ok (.iload 4, 2) := by decide +kernel
theorem dX2_passes_86 : decode cX2_passes 86 = .ok (.bipush 6, 2) := by decide +kernel
theorem dX2_passes_88 : decode cX2_passes 88 = .ok (.if_icmp .ge 21, 3) := by decide +kernel
theorem dX2_passes_91 : decode cX2_passes 91 = .ok (.aload_n 0, 1) := by decide +kernel
theorem dX2_passes_92 : decode cX2_passes 92 = .ok (.getfield 9, 3) := by decide +kernel
theorem dX2_passes_95 : decode cX2_passes 95 = .ok (.iload 4, 2) := by decide +kernel
theorem dX2_passes_97 : decode cX2_passes 97 = .ok (.iaload, 1) := by decide +kernel
theorem dX2_passes_98 : decode cX2_passes 98 = .ok (.iload_n 1, 1) := by decide +kernel
theorem dX2_passes_99 : decode cX2_passes 99 = .ok (.ishr, 1) := by decide +kernel
theorem dX2_passes_100 : decode cX2_passes 100 = .ok (.iconst 1, 1) := by decide +kernel
theorem dX2_passes_101 : decode cX2_passes 101 = .ok (.iand, 1) := by decide +kernel
theorem dX2_passes_102 : decode cX2_passes 102 = .ok (.ifCond .ne 7, 3) := by decide +kernel
theorem dX2_passes_105 : decode cX2_passes 105 = .ok (.iconst 1, 1) := by decide +kernel
theorem dX2_passes_106 : decode cX2_passes 106 = .ok (.goto 4, 3) := by decide +kernel
theorem dX2_passes_109 : decode cX2_passes 109 = .ok (.iconst 0, 1) := by decide +kernel
theorem dX2_passes_110 : decode cX2_passes 110 = .ok (.ireturn, 1) := by decide +kernel
theorem dX2_passes_111 : decode cX2_passes 111 = .ok (.aload_n 0, 1) := by decide +kernel
theorem dX2_passes_112 : decode cX2_passes 112 = .ok (.getfield 24, 3) := by decide +kernel
theorem dX2_passes_115 : decode cX2_passes 115 = .ok (.getfield 135, 3) := by decide +kernel
theorem dX2_passes_118 : decode cX2_passes 118 = .ok (.iload_n 1, 1) := by decide +kernel
theorem dX2_passes_119 : decode cX2_passes 119 = .ok (.baload, 1) := by decide +kernel
theorem dX2_passes_120 : decode cX2_passes 120 = .ok (.ifCond .eq 42, 3) := by decide +kernel
theorem dX2_passes_123 : decode cX2_passes 123 = .ok (.aload_n 0, 1) := by decide +kernel
theorem dX2_passes_124 : decode cX2_passes 124 = .ok (.getfield 24, 3) := by decide +kernel
theorem dX2_passes_127 : decode cX2_passes 127 = .ok (.getfield 138, 3) := by decide +kernel
theorem dX2_passes_130 : decode cX2_passes 130 = .ok (.iload_n 1, 1) := by decide +kernel
theorem dX2_passes_131 : decode cX2_passes 131 = .ok (.iaload, 1) := by decide +kernel
theorem dX2_passes_132 : decode cX2_passes 132 = .ok (.iload 4, 2) := by decide +kernel
theorem dX2_passes_134 : decode cX2_passes 134 = .ok (.if_icmp .lt 28, 3) := by decide +kernel
theorem dX2_passes_137 : decode cX2_passes 137 = .ok (.aload_n 0, 1) := by decide +kernel
theorem dX2_passes_138 : decode cX2_passes 138 = .ok (.getfield 24, 3) := by decide +kernel
theorem dX2_passes_141 : decode cX2_passes 141 = .ok (.getfield 138, 3) := by decide +kernel
theorem dX2_passes_144 : decode cX2_passes 144 = .ok (.iload_n 1, 1) := by decide +kernel
theorem dX2_passes_145 : decode cX2_passes 145 = .ok (.iaload, 1) := by decide +kernel
theorem dX2_passes_146 : decode cX2_passes 146 = .ok (.aload_n 0, 1) := by decide +kernel
theorem dX2_passes_147 : decode cX2_passes 147 = .ok (.getfield 28, 3) := by decide +kernel
theorem dX2_passes_150 : decode cX2_passes 150 = .ok (.getfield 141, 3) := by decide +kernel
theorem dX2_passes_153 : decode cX2_passes 153 = .ok (.iload_n 2, 1) := by decide +kernel
theorem dX2_passes_154 : decode cX2_passes 154 = .ok (.iaload, 1) := by decide +kernel
theorem dX2_passes_155 : decode cX2_passes 155 = .ok (.if_icmp .gt 7, 3) := by decide +kernel
theorem dX2_passes_158 : decode cX2_passes 158 = .ok (.iconst 1, 1) := by decide +kernel
theorem dX2_passes_159 : decode cX2_passes 159 = .ok (.goto 4, 3) := by decide +kernel
theorem dX2_passes_162 : decode cX2_passes 162 = .ok (.iconst 0, 1) := by decide +kernel
theorem dX2_passes_163 : decode cX2_passes 163 = .ok (.ireturn, 1) := by decide +kernel
set_option maxRecDepth 20000 in
theorem ggX2_leastPartOf_X2_wantedEdges : GoodIn wsX2_leastPartOf wsX2_wantedEdges := goodIn_r _ [6, 7, 8, 9, 10, 11, 12, 13, 14, 5, 15, 16, 17, 59, 60, 61, 62, 63, 64, 65, 66, 67, 68, 69, 70, 71, 72, 73, 74, 75, 76, 77, 78, 79, 80, 81, 82, 83, 84, 85, 86, 87, 88, 89, 90, 91] (by decide +kernel) (by decide +kernel)
set_option maxRecDepth 20000 in
theorem gX2_leastPartOf_X2_wantedEdges : GoodIn wsX2_leastPartOf (wsV RX2 90 RX2 yX2_wantedEdges wsX2_wantedEdges) := goodIn_app (goodIn_of _ (by decide +kernel)) ggX2_leastPartOf_X2_wantedEdges
set_option maxRecDepth 20000 in
theorem ggX2_leastPartOf_X2_bindToLeastPart : GoodIn wsX2_leastPartOf wsX2_bindToLeastPart := goodIn_r _ [21, 9, 22, 1, 23, 24, 25, 26, 5, 27, 28, 2, 3, 4, 6, 7, 8, 10, 11, 12, 13, 14, 15, 16, 17, 29, 30, 31, 32, 33, 34, 35, 36, 37, 38, 39, 40, 41, 42, 43, 44, 45, 46, 47, 48, 49, 50, 51, 52, 53, 54, 55, 56, 57, 58, 59, 60, 61, 62, 63, 64, 65, 66, 67, 68, 76, 77, 78, 79, 80, 81, 82, 83, 84, 85, 86, 87, 88, 89, 90, 91, 69, 70, 71, 72, 73, 74, 75] (by decide +kernel) (by decide +kernel)
set_option maxRecDepth 20000 in
theorem gX2_leastPartOf_X2_bindToLeastPart : GoodIn wsX2_leastPartOf (wsV RX2 144 RX2 yX2_bindToLeastPart wsX2_bindToLeastPart) := goodIn_app (goodIn_of _ (by decide +kernel)) ggX2_leastPartOf_X2_bindToLeastPart
theorem dX2_leastPartOf_0 : decode cX2_leastPartOf 0 = .ok (.aload_n 0, 1) := by decide +kernel
theorem dX2_leastPartOf_1 : decode cX2_leastPartOf 1 = .ok (.iload_n 1, 1) := by decide +kernel
theorem dX2_leastPartOf_2 : decode cX2_leastPartOf 2 = .ok (.iload_n 2, 1) := by decide +kernel
theorem dX2_leastPartOf_3 : decode cX2_leastPartOf 3 = .ok (.invokevirtual 90, 3) := by decide +kernel
theorem dX2_leastPartOf_6 : decode cX2_leastPartOf 6 = .ok (.istore 4, 2) := by decide +kernel
theorem dX2_leastPartOf_8 : decode cX2_leastPartOf 8 = .ok (.bipush (-4), 2) := by decide +kernel
theorem dX2_leastPartOf_10 : decode cX2_leastPartOf 10 = .ok (.istore 5, 2) := by decide +kernel
theorem dX2_leastPartOf_12 : decode cX2_leastPartOf 12 = .ok (.iconst 0, 1) := by decide +kernel
theorem dX2_leastPartOf_13 : decode cX2_leastPartOf 13 = .ok (.istore 6, 2) := by decide +kernel
theorem dX2_leastPartOf_15 : decode cX2_leastPartOf 15 = .ok (.iload 6, 2) := by decide +kernel
theorem dX2_leastPartOf_17 : decode cX2_leastPartOf 17 = .ok (.iload_n 3, 1) := by decide +kernel
theorem dX2_leastPartOf_18 : decode cX2_leastPartOf 18 = .ok (.if_icmp .gt 35, 3) := by decide +kernel
theorem dX2_leastPartOf_21 : decode cX2_leastPartOf 21 = .ok (.iload 6, 2) := by decide +kernel
theorem dX2_leastPartOf_23 : decode cX2_leastPartOf 23 = .ok (.iconst 5, 1) := by decide +kernel
theorem dX2_leastPartOf_24 : decode cX2_leastPartOf 24 = .ok (.if_icmp .ge 29, 3) := by decide +kernel
theorem dX2_leastPartOf_27 : decode cX2_leastPartOf 27 = .ok (.iload 4, 2) := by decide +kernel
theorem dX2_leastPartOf_29 : decode cX2_leastPartOf 29 = .ok (.iload 6, 2) := by decide +kernel
theorem dX2_leastPartOf_31 : decode cX2_leastPartOf 31 = .ok (.ishr, 1) := by decide +kernel
theorem dX2_leastPartOf_32 : decode cX2_leastPartOf 32 = .ok (.iconst 1, 1) := by decide +kernel
theorem dX2_leastPartOf_33 : decode cX2_leastPartOf 33 = .ok (.iand, 1) := by decide +kernel
theorem dX2_leastPartOf_34 : decode cX2_leastPartOf 34 = .ok (.ifCond .eq 13, 3) := by decide +kernel
theorem dX2_leastPartOf_37 : decode cX2_leastPartOf 37 = .ok (.aload_n 0, 1) := by decide +kernel
theorem dX2_leastPartOf_38 : decode cX2_leastPartOf 38 = .ok (.iload_n 1, 1) := by decide +kernel
theorem dX2_leastPartOf_39 : decode cX2_leastPartOf 39 = .ok (.iload_n 2, 1) := by decide +kernel
theorem dX2_leastPartOf_40 : decode cX2_leastPartOf 40 = .ok (.iload 6, 2) := by decide +kernel
theorem dX2_leastPartOf_42 : decode cX2_leastPartOf 42 = .ok (.invokevirtual 144, 3) := by decide +kernel
theorem dX2_leastPartOf_45 : decode cX2_leastPartOf 45 = .ok (.istore 5, 2) := by decide +kernel
theorem dX2_leastPartOf_47 : decode cX2_leastPartOf 47 = .ok (.iinc 6 1, 3) := by decide +kernel
theorem dX2_leastPartOf_50 : decode cX2_leastPartOf 50 = .ok (.goto (-35), 3) := by decide +kernel
theorem dX2_leastPartOf_53 : decode cX2_leastPartOf 53 = .ok (.iconst 0, 1) := by decide +kernel
theorem dX2_leastPartOf_54 : decode cX2_leastPartOf 54 = .ok (.istore 6, 2) := by decide +kernel
theorem dX2_leastPartOf_56 : decode cX2_leastPartOf 56 = .ok (.iload 6, 2) := by decide +kernel
theorem dX2_leastPartOf_58 : decode cX2_leastPartOf 58 = .ok (.iconst 5, 1) := by decide +kernel
theorem dX2_leastPartOf_59 : decode cX2_leastPartOf 59 = .ok (.if_icmp .ge 18, 3) := by decide +kernel
theorem dX2_leastPartOf_62 : decode cX2_leastPartOf 62 = .ok (.aload_n 0, 1) := by decide +kernel
theorem dX2_leastPartOf_63 : decode cX2_leastPartOf 63 = .ok (.getfield 18, 3) := by decide +kernel
theorem dX2_leastPartOf_66 : decode cX2_leastPartOf 66 = .ok (.iload 6, 2) := by decide +kernel
theorem dX2_leastPartOf_68 : decode cX2_leastPartOf 68 = .ok (.bipush 63, 2) := by decide +kernel
theorem dX2_leastPartOf_70 : decode cX2_leastPartOf 70 = .ok (.iastore, 1) := by decide +kernel
theorem dX2_leastPartOf_71 : decode cX2_leastPartOf 71 = .ok (.iinc 6 1, 3) := by decide +kernel
theorem dX2_leastPartOf_74 : decode cX2_leastPartOf 74 = .ok (.goto (-18), 3) := by decide +kernel
theorem dX2_leastPartOf_77 : decode cX2_leastPartOf 77 = .ok (.iload 5, 2) := by decide +kernel
theorem dX2_leastPartOf_79 : decode cX2_leastPartOf 79 = .ok (.ireturn, 1) := by decide +kernel
set_option maxRecDepth 20000 in
theorem ggX2_bindToLeastPart_X2_suits : GoodIn wsX2_bindToLeastPart wsX2_suits := goodIn_r _ [9, 1, 10, 11, 12, 13, 8, 14, 15, 16, 17, 18, 19, 20, 21, 22, 23, 24, 25, 26, 27, 28, 29, 30, 31, 32, 33, 34, 35, 3, 36, 37, 38, 39, 40, 41, 42, 43, 4, 44, 45, 46, 47, 48, 49, 50, 51, 52, 53, 54, 55, 56, 57, 58, 59, 60, 61, 62, 63, 64, 65, 66, 67, 68, 69, 70, 71, 72, 73, 74, 75, 76, 77, 78, 79, 80, 81, 82, 83, 84, 85, 86, 87] (by decide +kernel) (by decide +kernel)
set_option maxRecDepth 20000 in
theorem gX2_bindToLeastPart_X2_suits : GoodIn wsX2_bindToLeastPart (wsV RX2 63 RX2 yX2_suits wsX2_suits) := goodIn_app (goodIn_of _ (by decide +kernel)) ggX2_bindToLeastPart_X2_suits
theorem dX2_bindToLeastPart_0 : decode cX2_bindToLeastPart 0 = .ok (.iconst 0, 1) := by decide +kernel
theorem dX2_bindToLeastPart_1 : decode cX2_bindToLeastPart 1 = .ok (.istore 4, 2) := by decide +kernel
theorem dX2_bindToLeastPart_3 : decode cX2_bindToLeastPart 3 = .ok (.iload 4, 2) := by decide +kernel
theorem dX2_bindToLeastPart_5 : decode cX2_bindToLeastPart 5 = .ok (.aload_n 0, 1) := by decide +kernel
theorem dX2_bindToLeastPart_6 : decode cX2_bindToLeastPart 6 = .ok (.getfield 28, 3) := by decide +kernel
theorem dX2_bindToLeastPart_9 : decode cX2_bindToLeastPart 9 = .ok (.getfield 148, 3) := by decide +kernel
theorem dX2_bindToLeastPart_12 : decode cX2_bindToLeastPart 12 = .ok (.iload_n 2, 1) := by decide +kernel
theorem dX2_bindToLeastPart_13 : decode cX2_bindToLeastPart 13 = .ok (.iaload, 1) := by decide +kernel
theorem dX2_bindToLeastPart_14 : decode cX2_bindToLeastPart 14 = .ok (.if_icmp .ge 35, 3) := by decide +kernel
theorem dX2_bindToLeastPart_17 : decode cX2_bindToLeastPart 17 = .ok (.aload_n 0, 1) := by decide +kernel
theorem dX2_bindToLeastPart_18 : decode cX2_bindToLeastPart 18 = .ok (.getfield 18, 3) := by decide +kernel
theorem dX2_bindToLeastPart_21 : decode cX2_bindToLeastPart 21 = .ok (.iload_n 3, 1) := by decide +kernel
theorem dX2_bindToLeastPart_22 : decode cX2_bindToLeastPart 22 = .ok (.iconst 1, 1) := by decide +kernel
theorem dX2_bindToLeastPart_23 : decode cX2_bindToLeastPart 23 = .ok (.iload 4, 2) := by decide +kernel
theorem dX2_bindToLeastPart_25 : decode cX2_bindToLeastPart 25 = .ok (.ishl, 1) := by decide +kernel
theorem dX2_bindToLeastPart_26 : decode cX2_bindToLeastPart 26 = .ok (.iastore, 1) := by decide +kernel
theorem dX2_bindToLeastPart_27 : decode cX2_bindToLeastPart 27 = .ok (.aload_n 0, 1) := by decide +kernel
theorem dX2_bindToLeastPart_28 : decode cX2_bindToLeastPart 28 = .ok (.iload_n 1, 1) := by decide +kernel
theorem dX2_bindToLeastPart_29 : decode cX2_bindToLeastPart 29 = .ok (.iload_n 2, 1) := by decide +kernel
theorem dX2_bindToLeastPart_30 : decode cX2_bindToLeastPart 30 = .ok (.aload_n 0, 1) := by decide +kernel
theorem dX2_bindToLeastPart_31 : decode cX2_bindToLeastPart 31 = .ok (.getfield 9, 3) := by decide +kernel
theorem dX2_bindToLeastPart_34 : decode cX2_bindToLeastPart 34 = .ok (.invokevirtual 63, 3) := by decide +kernel
theorem dX2_bindToLeastPart_37 : decode cX2_bindToLeastPart 37 = .ok (.ifCond .eq 6, 3) := by decide +kernel
theorem dX2_bindToLeastPart_40 : decode cX2_bindToLeastPart 40 = .ok (.iload 4, 2) := by decide +kernel
theorem dX2_bindToLeastPart_42 : decode cX2_bindToLeastPart 42 = .ok (.ireturn, 1) := by decide +kernel
theorem dX2_bindToLeastPart_43 : decode cX2_bindToLeastPart 43 = .ok (.iinc 4 1, 3) := by decide +kernel
theorem dX2_bindToLeastPart_46 : decode cX2_bindToLeastPart 46 = .ok (.goto (-43), 3) := by decide +kernel
theorem dX2_bindToLeastPart_49 : decode cX2_bindToLeastPart 49 = .ok (.bipush (-4), 2) := by decide +kernel
theorem dX2_bindToLeastPart_51 : decode cX2_bindToLeastPart 51 = .ok (.ireturn, 1) := by decide +kernel
set_option maxRecDepth 20000 in
theorem ggX2_surplusEdges_X2_readFits : GoodIn wsX2_surplusEdges wsX2_readFits := goodIn_r _ [10, 11, 1, 12, 2, 13, 14, 15, 16, 17, 18, 19, 20, 21, 22, 9, 23, 24, 25, 26, 27, 28, 29, 30, 31, 32, 33, 34, 3, 35, 36, 37, 38, 39, 40, 4, 5, 41, 42, 43, 44, 45, 46, 47, 48, 49, 50, 51, 52, 53, 54, 55, 56, 57, 58, 59, 60, 61, 62, 63, 64, 65, 66, 67, 68, 69, 70, 71, 84, 85, 86, 87, 88, 89, 90, 91, 92, 93, 94, 95, 96, 97, 98, 99, 100, 101, 102, 103, 104, 105, 106, 107, 108, 109, 110, 111, 112, 113, 114, 115, 116] (by decide +kernel) (by decide +kernel)
set_option maxRecDepth 20000 in
theorem gX2_surplusEdges_X2_readFits : GoodIn wsX2_surplusEdges (wsV RX2 151 RX2 yX2_readFits wsX2_readFits) := goodIn_app (goodIn_of _ (by decide +kernel)) ggX2_surplusEdges_X2_readFits
set_option maxRecDepth 20000 in
theorem ggX2_surplusEdges_J6_bitCount_0f7a4 : GoodIn wsX2_surplusEdges wsJ6_bitCount_0f7a4 := goodIn_r _ [75, 76, 77, 78] (by decide +kernel) (by decide +kernel)
set_option maxRecDepth 20000 in
theorem gX2_surplusEdges_J6_bitCount_0f7a4 : GoodIn wsX2_surplusEdges (va_wsS RX2 154 yJ6_bitCount_0f7a4 wsJ6_bitCount_0f7a4) := goodIn_app (goodIn_of _ (by decide +kernel)) ggX2_surplusEdges_J6_bitCount_0f7a4
set_option maxRecDepth 20000 in
theorem ggX2_surplusEdges_X2_forget : GoodIn wsX2_surplusEdges wsX2_forget := goodIn_r _ [82, 11, 83, 84, 85, 86, 87, 88, 89, 90, 91, 92, 93] (by decide +kernel) (by decide +kernel)
set_option maxRecDepth 20000 in
theorem gX2_surplusEdges_X2_forget : GoodIn wsX2_surplusEdges (wsV RX2 32 RX2 yX2_forget wsX2_forget) := goodIn_app (goodIn_of _ (by decide +kernel)) ggX2_surplusEdges_X2_forget
theorem dX2_surplusEdges_0 : decode cX2_surplusEdges 0 = .ok (.aload_n 0, 1) := by decide +kernel
theorem dX2_surplusEdges_1 : decode cX2_surplusEdges 1 = .ok (.invokevirtual 151, 3) := by decide +kernel
theorem dX2_surplusEdges_4 : decode cX2_surplusEdges 4 = .ok (.aload_n 0, 1) := by decide +kernel
theorem dX2_surplusEdges_5 : decode cX2_surplusEdges 5 = .ok (.getfield 9, 3) := by decide +kernel
theorem dX2_surplusEdges_8 : decode cX2_surplusEdges 8 = .ok (.iload_n 2, 1) := by decide +kernel
theorem dX2_surplusEdges_9 : decode cX2_surplusEdges 9 = .ok (.iaload, 1) := by decide +kernel
theorem dX2_surplusEdges_10 : decode cX2_surplusEdges 10 = .ok (.iload_n 1, 1) := by decide +kernel
theorem dX2_surplusEdges_11 : decode cX2_surplusEdges 11 = .ok (.ishr, 1) := by decide +kernel
theorem dX2_surplusEdges_12 : decode cX2_surplusEdges 12 = .ok (.iconst 1, 1) := by decide +kernel
theorem dX2_surplusEdges_13 : decode cX2_surplusEdges 13 = .ok (.iand, 1) := by decide +kernel
theorem dX2_surplusEdges_14 : decode cX2_surplusEdges 14 = .ok (.ifCond .eq 5, 3) := by decide +kernel
theorem dX2_surplusEdges_17 : decode cX2_surplusEdges 17 = .ok (.iconst 0, 1) := by decide +kernel
theorem dX2_surplusEdges_18 : decode cX2_surplusEdges 18 = .ok (.ireturn, 1) := by decide +kernel
theorem dX2_surplusEdges_19 : decode cX2_surplusEdges 19 = .ok (.bipush (-4), 2) := by decide +kernel
theorem dX2_surplusEdges_21 : decode cX2_surplusEdges 21 = .ok (.istore_n 3, 1) := by decide +kernel
theorem dX2_surplusEdges_22 : decode cX2_surplusEdges 22 = .ok (.iconst 1, 1) := by decide +kernel
theorem dX2_surplusEdges_23 : decode cX2_surplusEdges 23 = .ok (.aload_n 0, 1) := by decide +kernel
theorem dX2_surplusEdges_24 : decode cX2_surplusEdges 24 = .ok (.getfield 24, 3) := by decide +kernel
theorem dX2_surplusEdges_27 : decode cX2_surplusEdges 27 = .ok (.getfield 71, 3) := by decide +kernel
theorem dX2_surplusEdges_30 : decode cX2_surplusEdges 30 = .ok (.iload_n 1, 1) := by decide +kernel
theorem dX2_surplusEdges_31 : decode cX2_surplusEdges 31 = .ok (.iaload, 1) := by decide +kernel
theorem dX2_surplusEdges_32 : decode cX2_surplusEdges 32 = .ok (.ishl, 1) := by decide +kernel
theorem dX2_surplusEdges_33 : decode cX2_surplusEdges 33 = .ok (.istore 4, 2) := by decide +kernel
theorem dX2_surplusEdges_35 : decode cX2_surplusEdges 35 = .ok (.aload_n 0, 1) := by decide +kernel
theorem dX2_surplusEdges_36 : decode cX2_surplusEdges 36 = .ok (.iload_n 1, 1) := by decide +kernel
theorem dX2_surplusEdges_37 : decode cX2_surplusEdges 37 = .ok (.putfield 74, 3) := by decide +kernel
theorem dX2_surplusEdges_40 : decode cX2_surplusEdges 40 = .ok (.iconst 1, 1) := by decide +kernel
theorem dX2_surplusEdges_41 : decode cX2_surplusEdges 41 = .ok (.istore 5, 2) := by decide +kernel
theorem dX2_surplusEdges_43 : decode cX2_surplusEdges 43 = .ok (.iload 5, 2) := by decide +kernel
theorem dX2_surplusEdges_45 : decode cX2_surplusEdges 45 = .ok (.iconst 2, 1) := by decide +kernel
theorem dX2_surplusEdges_46 : decode cX2_surplusEdges 46 = .ok (.if_icmp .gt 82, 3) := by decide +kernel
theorem dX2_surplusEdges_49 : decode cX2_surplusEdges 49 = .ok (.iload_n 3, 1) := by decide +kernel
theorem dX2_surplusEdges_50 : decode cX2_surplusEdges 50 = .ok (.bipush (-4), 2) := by decide +kernel
theorem dX2_surplusEdges_52 : decode cX2_surplusEdges 52 = .ok (.if_icmp .ne 76, 3) := by decide +kernel
theorem dX2_surplusEdges_55 : decode cX2_surplusEdges 55 = .ok (.iconst 1, 1) := by decide +kernel
theorem dX2_surplusEdges_56 : decode cX2_surplusEdges 56 = .ok (.istore 6, 2) := by decide +kernel
theorem dX2_surplusEdges_58 : decode cX2_surplusEdges 58 = .ok (.iload 6, 2) := by decide +kernel
theorem dX2_surplusEdges_60 : decode cX2_surplusEdges 60 = .ok (.iload 4, 2) := by decide +kernel
theorem dX2_surplusEdges_62 : decode cX2_surplusEdges 62 = .ok (.if_icmp .ge 60, 3) := by decide +kernel
theorem dX2_surplusEdges_65 : decode cX2_surplusEdges 65 = .ok (.iload_n 3, 1) := by decide +kernel
theorem dX2_surplusEdges_66 : decode cX2_surplusEdges 66 = .ok (.bipush (-4), 2) := by decide +kernel
theorem dX2_surplusEdges_68 : decode cX2_surplusEdges 68 = .ok (.if_icmp .ne 54, 3) := by decide +kernel
theorem dX2_surplusEdges_71 : decode cX2_surplusEdges 71 = .ok (.iload 6, 2) := by decide +kernel
theorem dX2_surplusEdges_73 : decode cX2_surplusEdges 73 = .ok (.invokestatic 154, 3) := by decide +kernel
theorem dX2_surplusEdges_76 : decode cX2_surplusEdges 76 = .ok (.iload 5, 2) := by decide +kernel
theorem dX2_surplusEdges_78 : decode cX2_surplusEdges 78 = .ok (.if_icmp .ne 38, 3) := by decide +kernel
theorem dX2_surplusEdges_81 : decode cX2_surplusEdges 81 = .ok (.aload_n 0, 1) := by decide +kernel
theorem dX2_surplusEdges_82 : decode cX2_surplusEdges 82 = .ok (.iload 6, 2) := by decide +kernel
theorem dX2_surplusEdges_84 : decode cX2_surplusEdges 84 = .ok (.putfield 77, 3) := by decide +kernel
theorem dX2_surplusEdges_87 : decode cX2_surplusEdges 87 = .ok (.aload_n 0, 1) := by decide +kernel
theorem dX2_surplusEdges_88 : decode cX2_surplusEdges 88 = .ok (.invokevirtual 32, 3) := by decide +kernel
theorem dX2_surplusEdges_91 : decode cX2_surplusEdges 91 = .ok (.aload_n 0, 1) := by decide +kernel
theorem dX2_surplusEdges_92 : decode cX2_surplusEdges 92 = .ok (.invokevirtual 151, 3) := by decide +kernel
theorem dX2_surplusEdges_95 : decode cX2_surplusEdges 95 = .ok (.aload_n 0, 1) := by decide +kernel
theorem dX2_surplusEdges_96 : decode cX2_surplusEdges 96 = .ok (.getfield 9, 3) := by decide +kernel
theorem dX2_surplusEdges_99 : decode cX2_surplusEdges 99 = .ok (.iload_n 2, 1) := by decide +kernel
theorem dX2_surplusEdges_100 : decode cX2_surplusEdges 100 = .ok (.iaload, 1) := by decide +kernel
theorem dX2_surplusEdges_101 : decode cX2_surplusEdges 101 = .ok (.iload_n 1, 1) := by decide +kernel
theorem dX2_surplusEdges_102 : decode cX2_surplusEdges 102 = .ok (.ishr, 1) := by decide +kernel
theorem dX2_surplusEdges_103 : decode cX2_surplusEdges 103 = .ok (.iconst 1, 1) := by decide +kernel
theorem dX2_surplusEdges_104 : decode cX2_surplusEdges 104 = .ok (.iand, 1) := by decide +kernel
theorem dX2_surplusEdges_105 : decode cX2_surplusEdges 105 = .ok (.ifCond .eq 8, 3) := by decide +kernel
theorem dX2_surplusEdges_108 : decode cX2_surplusEdges 108 = .ok (.iload 6, 2) := by decide +kernel
theorem dX2_surplusEdges_110 : decode cX2_surplusEdges 110 = .ok (.goto 5, 3) := by decide +kernel
theorem dX2_surplusEdges_113 : decode cX2_surplusEdges 113 = .ok (.bipush (-4), 2) := by decide +kernel
theorem dX2_surplusEdges_115 : decode cX2_surplusEdges 115 = .ok (.istore_n 3, 1) := by decide +kernel
theorem dX2_surplusEdges_116 : decode cX2_surplusEdges 116 = .ok (.iinc 6 1, 3) := by decide +kernel
theorem dX2_surplusEdges_119 : decode cX2_surplusEdges 119 = .ok (.goto (-61), 3) := by decide +kernel
theorem dX2_surplusEdges_122 : decode cX2_surplusEdges 122 = .ok (.iinc 5 1, 3) := by decide +kernel
theorem dX2_surplusEdges_125 : decode cX2_surplusEdges 125 = .ok (.goto (-82), 3) := by decide +kernel
theorem dX2_surplusEdges_128 : decode cX2_surplusEdges 128 = .ok (.aload_n 0, 1) := by decide +kernel
theorem dX2_surplusEdges_129 : decode cX2_surplusEdges 129 = .ok (.iconst 0, 1) := by decide +kernel
theorem dX2_surplusEdges_130 : decode cX2_surplusEdges 130 = .ok (.putfield 77, 3) := by decide +kernel
theorem dX2_surplusEdges_133 : decode cX2_surplusEdges 133 = .ok (.aload_n 0, 1) := by decide +kernel
theorem dX2_surplusEdges_134 : decode cX2_surplusEdges 134 = .ok (.invokevirtual 32, 3) := by decide +kernel
theorem dX2_surplusEdges_137 : decode cX2_surplusEdges 137 = .ok (.iload_n 3, 1) := by decide +kernel
theorem dX2_surplusEdges_138 : decode cX2_surplusEdges 138 = .ok (.ireturn, 1) := by decide +kernel
theorem dX3_init_0 : decode cX3_init 0 = .ok (.aload_n 0, 1) := by decide +kernel
theorem dX3_init_1 : decode cX3_init 1 = .ok (.invokespecial 3, 3) := by decide +kernel
theorem dX3_init_4 : decode cX3_init 4 = .ok (.aload_n 0, 1) := by decide +kernel
theorem dX3_init_5 : decode cX3_init 5 = .ok (.sipush 400, 3) := by decide +kernel
theorem dX3_init_8 : decode cX3_init 8 = .ok (.newarray .byte, 2) := by decide +kernel
theorem dX3_init_10 : decode cX3_init 10 = .ok (.putfield 9, 3) := by decide +kernel
theorem dX3_init_13 : decode cX3_init 13 = .ok (.return_, 1) := by decide +kernel
theorem dX3_byteAt_0 : decode cX3_byteAt 0 = .ok (.iload_n 1, 1) := by decide +kernel
theorem dX3_byteAt_1 : decode cX3_byteAt 1 = .ok (.ifCond .lt 31, 3) := by decide +kernel
theorem dX3_byteAt_4 : decode cX3_byteAt 4 = .ok (.iload_n 1, 1) := by decide +kernel
theorem dX3_byteAt_5 : decode cX3_byteAt 5 = .ok (.aload_n 0, 1) := by decide +kernel
theorem dX3_byteAt_6 : decode cX3_byteAt 6 = .ok (.getfield 15, 3) := by decide +kernel
theorem dX3_byteAt_9 : decode cX3_byteAt 9 = .ok (.if_icmp .ge 23, 3) := by decide +kernel
theorem dX3_byteAt_12 : decode cX3_byteAt 12 = .ok (.iload_n 1, 1) := by decide +kernel
theorem dX3_byteAt_13 : decode cX3_byteAt 13 = .ok (.sipush 400, 3) := by decide +kernel
theorem dX3_byteAt_16 : decode cX3_byteAt 16 = .ok (.if_icmp .ge 16, 3) := by decide +kernel
theorem dX3_byteAt_19 : decode cX3_byteAt 19 = .ok (.aload_n 0, 1) := by decide +kernel
theorem dX3_byteAt_20 : decode cX3_byteAt 20 = .ok (.getfield 9, 3) := by decide +kernel
theorem dX3_byteAt_23 : decode cX3_byteAt 23 = .ok (.iload_n 1, 1) := by decide +kernel
theorem dX3_byteAt_24 : decode cX3_byteAt 24 = .ok (.baload, 1) := by decide +kernel
theorem dX3_byteAt_25 : decode cX3_byteAt 25 = .ok (.sipush 255, 3) := by decide +kernel
theorem dX3_byteAt_28 : decode cX3_byteAt 28 = .ok (.iand, 1) := by decide +kernel
theorem dX3_byteAt_29 : decode cX3_byteAt 29 = .ok (.goto 4, 3) := by decide +kernel
theorem dX3_byteAt_32 : decode cX3_byteAt 32 = .ok (.iconst (-1), 1) := by decide +kernel
theorem dX3_byteAt_33 : decode cX3_byteAt 33 = .ok (.ireturn, 1) := by decide +kernel
theorem dX3_append_0 : decode cX3_append 0 = .ok (.bipush 24, 2) := by decide +kernel
theorem dX3_append_2 : decode cX3_append 2 = .ok (.istore_n 2, 1) := by decide +kernel
theorem dX3_append_3 : decode cX3_append 3 = .ok (.iload_n 2, 1) := by decide +kernel
theorem dX3_append_4 : decode cX3_append 4 = .ok (.ifCond .lt 42, 3) := by decide +kernel
theorem dX3_append_7 : decode cX3_append 7 = .ok (.aload_n 0, 1) := by decide +kernel
theorem dX3_append_8 : decode cX3_append 8 = .ok (.getfield 15, 3) := by decide +kernel
theorem dX3_append_11 : decode cX3_append 11 = .ok (.sipush 400, 3) := by decide +kernel
theorem dX3_append_14 : decode cX3_append 14 = .ok (.if_icmp .ge 32, 3) := by decide +kernel
theorem dX3_append_17 : decode cX3_append 17 = .ok (.aload_n 0, 1) := by decide +kernel
theorem dX3_append_18 : decode cX3_append 18 = .ok (.getfield 9, 3) := by decide +kernel
theorem dX3_append_21 : decode cX3_append 21 = .ok (.aload_n 0, 1) := by decide +kernel
theorem dX3_append_22 : decode cX3_append 22 = .ok (.getfield 15, 3) := by decide +kernel
theorem dX3_append_25 : decode cX3_append 25 = .ok (.iload_n 1, 1) := by decide +kernel
theorem dX3_append_26 : decode cX3_append 26 = .ok (.iload_n 2, 1) := by decide +kernel
theorem dX3_append_27 : decode cX3_append 27 = .ok (.iushr, 1) := by decide +kernel
theorem dX3_append_28 : decode cX3_append 28 = .ok (.i2b, 1) := by decide +kernel
theorem dX3_append_29 : decode cX3_append 29 = .ok (.bastore, 1) := by decide +kernel
theorem dX3_append_30 : decode cX3_append 30 = .ok (.aload_n 0, 1) := by decide +kernel
theorem dX3_append_31 : decode cX3_append 31 = .ok (.dup, 1) := by decide +kernel
theorem dX3_append_32 : decode cX3_append 32 = .ok (.getfield 15, 3) := by decide +kernel
theorem dX3_append_35 : decode cX3_append 35 = .ok (.iconst 1, 1) := by decide +kernel
theorem dX3_append_36 : decode cX3_append 36 = .ok (.iadd, 1) := by decide +kernel
theorem dX3_append_37 : decode cX3_append 37 = .ok (.putfield 15, 3) := by decide +kernel
theorem dX3_append_40 : decode cX3_append 40 = .ok (.iinc 2 (-8), 3) := by decide +kernel
theorem dX3_append_43 : decode cX3_append 43 = .ok (.goto (-40), 3) := by decide +kernel
theorem dX3_append_46 : decode cX3_append 46 = .ok (.return_, 1) := by decide +kernel
set_option maxRecDepth 20000 in
theorem ggX4_init_X5_init : GoodIn wsX4_init wsX5_init := goodIn_r _ [10, 11, 2, 3, 12, 13, 14, 15, 16, 17] (by decide +kernel) (by decide +kernel)
set_option maxRecDepth 20000 in
theorem gX4_init_X5_init : GoodIn wsX4_init (wsX5_init) := ggX4_init_X5_init
theorem dX4_init_0 : decode cX4_init 0 = .ok (.aload_n 0, 1) := by decide +kernel
theorem dX4_init_1 : decode cX4_init 1 = .ok (.invokespecial 3, 3) := by decide +kernel
theorem dX4_init_4 : decode cX4_init 4 = .ok (.aload_n 0, 1) := by decide +kernel
theorem dX4_init_5 : decode cX4_init 5 = .ok (.new 9, 3) := by decide +kernel
theorem dX4_init_8 : decode cX4_init 8 = .ok (.dup, 1) := by decide +kernel
theorem dX4_init_9 : decode cX4_init 9 = .ok (.aload_n 1, 1) := by decide +kernel
theorem dX4_init_10 : decode cX4_init 10 = .ok (.invokespecial 11, 3) := by decide +kernel
theorem dX4_init_13 : decode cX4_init 13 = .ok (.putfield 14, 3) := by decide +kernel
theorem dX4_init_16 : decode cX4_init 16 = .ok (.return_, 1) := by decide +kernel
set_option maxRecDepth 20000 in
theorem ggX4_readText_X0_clear : GoodIn wsX4_readText wsX0_clear := goodIn_r _ [14, 15, 16, 17, 18, 285, 286, 287, 288, 289, 290, 291, 292, 293, 294, 295, 296, 297, 298, 299, 300] (by decide +kernel) (by decide +kernel)
set_option maxRecDepth 20000 in
theorem gX4_readText_X0_clear : GoodIn wsX4_readText (wsV RX4 24 RX0 yX0_clear wsX0_clear) := goodIn_app (goodIn_of _ (by decide +kernel)) ggX4_readText_X0_clear
set_option maxRecDepth 20000 in
theorem ggX4_readText_X5_rewind : GoodIn wsX4_readText wsX5_rewind := goodIn_r _ [23, 24, 280, 281, 282, 283, 284] (by decide +kernel) (by decide +kernel)
set_option maxRecDepth 20000 in
theorem gX4_readText_X5_rewind : GoodIn wsX4_readText (wsV RX4 29 RX5 yX5_rewind wsX5_rewind) := goodIn_app (goodIn_of _ (by decide +kernel)) ggX4_readText_X5_rewind
set_option maxRecDepth 20000 in
theorem ggX4_readText_X5_advance : GoodIn wsX4_readText wsX5_advance := goodIn_r _ [28, 24, 29, 30, 31, 32, 33, 34, 35, 36, 37, 38, 39, 40, 41, 42, 22, 43, 44, 45, 46, 47, 48, 49, 50, 51, 52, 53, 54, 55, 56, 57, 58, 59, 60, 61, 62, 63, 64, 65, 66, 67, 68, 69, 70, 71, 72, 73, 74, 75, 76, 77, 78, 79, 80, 81, 82, 83, 84, 85, 86, 87, 88, 89, 90, 91, 92, 93, 94, 95, 96, 97, 98, 99, 100, 101, 102, 103, 104, 105, 106, 107, 280, 281, 282, 283, 284, 301, 302] (by decide +kernel) (by decide +kernel)
set_option maxRecDepth 20000 in
theorem gX4_readText_X5_advance : GoodIn wsX4_readText (wsV RX4 51 RX5 yX5_advance wsX5_advance) := goodIn_app (goodIn_of _ (by decide +kernel)) ggX4_readText_X5_advance
set_option maxRecDepth 20000 in
theorem ggX4_readText_X4_fail : GoodIn wsX4_readText wsX4_fail := goodIn_r _ [112, 7, 2, 113, 8, 270, 271, 272, 273, 274, 275, 276, 277, 278, 279, 280, 281, 282, 283, 284] (by decide +kernel) (by decide +kernel)
set_option maxRecDepth 20000 in
theorem gX4_readText_X4_fail : GoodIn wsX4_readText (wsV RX4 57 RX4 yX4_fail wsX4_fail) := goodIn_app (goodIn_of _ (by decide +kernel)) ggX4_readText_X4_fail
set_option maxRecDepth 20000 in
theorem ggX4_readText_X4_takeToken : GoodIn wsX4_readText wsX4_takeToken := goodIn_r _ [117, 3, 118, 119, 120, 111, 121, 2, 9, 1, 122, 123, 108, 109, 110, 112, 7, 113, 8, 124, 125, 126, 13, 127, 15, 128, 129, 130, 131, 132, 133, 134, 135, 136, 137, 18, 16, 138, 139, 140, 141, 142, 143, 144, 145, 146, 147, 148, 149, 150, 151, 152, 153, 4, 154, 155, 156, 157, 158, 159, 160, 161, 162, 163, 164, 165, 17, 166, 167, 168, 169, 170, 171, 172, 173, 174, 175, 176, 177, 178, 179, 180, 181, 182, 183, 184, 185, 186, 187, 188, 189, 190, 191, 192, 193, 194, 195, 196, 197, 198, 199, 200, 201, 202, 203, 204, 205, 206, 207, 208, 209, 210, 211, 212, 213, 214, 215, 5, 6, 216, 217, 218, 219, 220, 221, 222, 223, 224, 225, 226, 227, 228, 229, 230, 231, 232, 270, 271, 272, 273, 274, 275, 276, 277, 278, 279, 280, 281, 282, 283, 284, 285, 286, 287, 288, 289, 290, 291, 292, 293, 294, 295, 296, 297, 298, 299, 300] (by decide +kernel) (by decide +kernel)
set_option maxRecDepth 20000 in
theorem gX4_readText_X4_takeToken : GoodIn wsX4_readText (wsV RX4 61 RX4 yX4_takeToken wsX4_takeToken) := goodIn_app (goodIn_of _ (by decide +kernel)) ggX4_readText_X4_takeToken
set_option maxRecDepth 20000 in
theorem ggX4_readText_X4_linkShapes : GoodIn wsX4_readText wsX4_linkShapes := goodIn_r _ [236, 1, 7, 8, 237, 238, 239, 13, 240, 15, 133, 192, 194, 136, 241, 242, 243, 244, 191, 245, 125, 126, 127, 128, 246, 247, 248, 249, 250, 251, 252, 253, 254, 255, 256, 257, 158, 159, 160, 161, 258, 259, 260, 261, 262, 263, 264, 265, 137, 266, 267, 268, 269, 270, 271, 272, 273, 274, 275, 276, 277, 278, 279, 285, 286, 287, 288, 289, 290, 291, 292, 293, 294, 295, 296, 297, 298, 299, 300] (by decide +kernel) (by decide +kernel)
set_option maxRecDepth 20000 in
theorem gX4_readText_X4_linkShapes : GoodIn wsX4_readText (wsV RX4 64 RX4 yX4_linkShapes wsX4_linkShapes) := goodIn_app (goodIn_of _ (by decide +kernel)) ggX4_readText_X4_linkShapes
theorem dX4_readText_0 : decode cX4_readText 0 = .ok (.aload_n 0, 1) := by decide +kernel
theorem dX4_readText_1 : decode cX4_readText 1 = .ok (.aload_n 1, 1) := by decide +kernel
theorem dX4_readText_2 : decode cX4_readText 2 = .ok (.putfield 20, 3) := by decide +kernel
theorem dX4_readText_5 : decode cX4_readText 5 = .ok (.aload_n 0, 1) := by decide +kernel
theorem dX4_readText_6 : decode cX4_readText 6 = .ok (.getfield 20, 3) := by decide +kernel
theorem dX4_readText_9 : decode cX4_readText 9 = .ok (.invokevirtual 24, 3) := by decide +kernel
theorem dX4_readText_12 : decode cX4_readText 12 = .ok (.aload_n 0, 1) := by decide +kernel
theorem dX4_readText_13 : decode cX4_readText 13 = .ok (.getfield 14, 3) := by decide +kernel
theorem dX4_readText_16 : decode cX4_readText 16 = .ok (.invokevirtual 29, 3) := by decide +kernel
theorem dX4_readText_19 : decode cX4_readText 19 = .ok (.aload_n 0, 1) := by decide +kernel
theorem dX4_readText_20 : decode cX4_readText 20 = .ok (.iconst 0, 1) := by decide +kernel
theorem dX4_readText_21 : decode cX4_readText 21 = .ok (.putfield 32, 3) := by decide +kernel
theorem dX4_readText_24 : decode cX4_readText 24 = .ok (.aload_n 0, 1) := by decide +kernel
theorem dX4_readText_25 : decode cX4_readText 25 = .ok (.iconst 0, 1) := by decide +kernel
theorem dX4_readText_26 : decode cX4_readText 26 = .ok (.putfield 36, 3) := by decide +kernel
theorem dX4_readText_29 : decode cX4_readText 29 = .ok (.aload_n 0, 1) := by decide +kernel
theorem dX4_readText_30 : decode cX4_readText 30 = .ok (.iconst 0, 1) := by decide +kernel
theorem dX4_readText_31 : decode cX4_readText 31 = .ok (.putfield 39, 3) := by decide +kernel
theorem dX4_readText_34 : decode cX4_readText 34 = .ok (.aload_n 0, 1) := by decide +kernel
theorem dX4_readText_35 : decode cX4_readText 35 = .ok (.iconst 0, 1) := by decide +kernel
theorem dX4_readText_36 : decode cX4_readText 36 = .ok (.putfield 42, 3) := by decide +kernel
theorem dX4_readText_39 : decode cX4_readText 39 = .ok (.aload_n 0, 1) := by decide +kernel
theorem dX4_readText_40 : decode cX4_readText 40 = .ok (.iconst 0, 1) := by decide +kernel
theorem dX4_readText_41 : decode cX4_readText 41 = .ok (.putfield 45, 3) := by decide +kernel
theorem dX4_readText_44 : decode cX4_readText 44 = .ok (.aload_n 0, 1) := by decide +kernel
theorem dX4_readText_45 : decode cX4_readText 45 = .ok (.iconst 0, 1) := by decide +kernel
theorem dX4_readText_46 : decode cX4_readText 46 = .ok (.putfield 48, 3) := by decide +kernel
theorem dX4_readText_49 : decode cX4_readText 49 = .ok (.iconst 0, 1) := by decide +kernel
theorem dX4_readText_50 : decode cX4_readText 50 = .ok (.istore_n 2, 1) := by decide +kernel
theorem dX4_readText_51 : decode cX4_readText 51 = .ok (.iload_n 2, 1) := by decide +kernel
theorem dX4_readText_52 : decode cX4_readText 52 = .ok (.sipush 400, 3) := by decide +kernel
theorem dX4_readText_55 : decode cX4_readText 55 = .ok (.if_icmp .gt 55, 3) := by decide +kernel
theorem dX4_readText_58 : decode cX4_readText 58 = .ok (.aload_n 0, 1) := by decide +kernel
theorem dX4_readText_59 : decode cX4_readText 59 = .ok (.getfield 45, 3) := by decide +kernel
theorem dX4_readText_62 : decode cX4_readText 62 = .ok (.ifCond .ne 48, 3) := by decide +kernel
theorem dX4_readText_65 : decode cX4_readText 65 = .ok (.aload_n 0, 1) := by decide +kernel
theorem dX4_readText_66 : decode cX4_readText 66 = .ok (.getfield 32, 3) := by decide +kernel
theorem dX4_readText_69 : decode cX4_readText 69 = .ok (.bipush 14, 2) := by decide +kernel
theorem dX4_readText_71 : decode cX4_readText 71 = .ok (.if_icmp .eq 39, 3) := by decide +kernel
theorem dX4_readText_74 : decode cX4_readText 74 = .ok (.aload_n 0, 1) := by decide +kernel
theorem dX4_readText_75 : decode cX4_readText 75 = .ok (.getfield 14, 3) := by decide +kernel
theorem dX4_readText_78 : decode cX4_readText 78 = .ok (.invokevirtual 51, 3) := by decide +kernel
theorem dX4_readText_81 : decode cX4_readText 81 = .ok (.aload_n 0, 1) := by decide +kernel
theorem dX4_readText_82 : decode cX4_readText 82 = .ok (.getfield 14, 3) := by decide +kernel
theorem dX4_readText_85 : decode cX4_readText 85 = .ok (.getfield 54, 3) := by decide +kernel
theorem dX4_readText_88 : decode cX4_readText 88 = .ok (.iconst 1, 1) := by decide +kernel
theorem dX4_readText_89 : decode cX4_readText 89 = .ok (.if_icmp .ne 11, 3) := by decide +kernel
theorem dX4_readText_92 : decode cX4_readText 92 = .ok (.aload_n 0, 1) := by decide +kernel
theorem dX4_readText_93 : decode cX4_readText 93 = .ok (.iconst 1, 1) := by decide +kernel
theorem dX4_readText_94 : decode cX4_readText 94 = .ok (.invokevirtual 57, 3) := by decide +kernel
theorem dX4_readText_97 : decode cX4_readText 97 = .ok (.goto 7, 3) := by decide +kernel
theorem dX4_readText_100 : decode cX4_readText 100 = .ok (.aload_n 0, 1) := by decide +kernel
theorem dX4_readText_101 : decode cX4_readText 101 = .ok (.invokevirtual 61, 3) := by decide +kernel
theorem dX4_readText_104 : decode cX4_readText 104 = .ok (.iinc 2 1, 3) := by decide +kernel
theorem dX4_readText_107 : decode cX4_readText 107 = .ok (.goto (-56), 3) := by decide +kernel
theorem dX4_readText_110 : decode cX4_readText 110 = .ok (.aload_n 0, 1) := by decide +kernel
theorem dX4_readText_111 : decode cX4_readText 111 = .ok (.getfield 45, 3) := by decide +kernel
theorem dX4_readText_114 : decode cX4_readText 114 = .ok (.ifCond .ne 7, 3) := by decide +kernel
theorem dX4_readText_117 : decode cX4_readText 117 = .ok (.aload_n 0, 1) := by decide +kernel
theorem dX4_readText_118 : decode cX4_readText 118 = .ok (.invokevirtual 64, 3) := by decide +kernel
theorem dX4_readText_121 : decode cX4_readText 121 = .ok (.return_, 1) := by decide +kernel
theorem dX4_fail_0 : decode cX4_fail 0 = .ok (.aload_n 0, 1) := by decide +kernel
theorem dX4_fail_1 : decode cX4_fail 1 = .ok (.iload_n 1, 1) := by decide +kernel
theorem dX4_fail_2 : decode cX4_fail 2 = .ok (.putfield 45, 3) := by decide +kernel
theorem dX4_fail_5 : decode cX4_fail 5 = .ok (.aload_n 0, 1) := by decide +kernel
theorem dX4_fail_6 : decode cX4_fail 6 = .ok (.aload_n 0, 1) := by decide +kernel
theorem dX4_fail_7 : decode cX4_fail 7 = .ok (.getfield 14, 3) := by decide +kernel
theorem dX4_fail_10 : decode cX4_fail 10 = .ok (.getfield 67, 3) := by decide +kernel
theorem dX4_fail_13 : decode cX4_fail 13 = .ok (.putfield 48, 3) := by decide +kernel
theorem dX4_fail_16 : decode cX4_fail 16 = .ok (.return_, 1) := by decide +kernel
set_option maxRecDepth 20000 in
theorem ggX4_takeToken_X4_takeShapeWord : GoodIn wsX4_takeToken wsX4_takeShapeWord := goodIn_r _ [6, 7, 8, 9, 10, 1, 11, 12, 13, 14, 5, 15, 16, 17, 18, 19, 20, 21, 22, 23, 24, 25, 26, 27, 28, 29, 30, 31, 32, 33, 34, 35, 36, 136, 137, 138, 139, 140, 141, 142, 143, 144, 145, 146, 147, 148, 149, 150, 151, 152, 153, 154, 155, 156, 157, 158, 159, 160, 161, 162, 163, 164, 165, 166] (by decide +kernel) (by decide +kernel)
set_option maxRecDepth 20000 in
theorem gX4_takeToken_X4_takeShapeWord : GoodIn wsX4_takeToken (wsV RX4 70 RX4 yX4_takeShapeWord wsX4_takeShapeWord) := goodIn_app (goodIn_of _ (by decide +kernel)) ggX4_takeToken_X4_takeShapeWord
set_option maxRecDepth 20000 in
theorem ggX4_takeToken_X4_takeSign : GoodIn wsX4_takeToken wsX4_takeSign := goodIn_r _ [40, 7, 8, 1, 12, 13, 14, 5, 15, 16, 17, 18, 136, 137, 138, 139, 140, 141, 142, 143, 144, 145, 146, 147, 148, 149, 150] (by decide +kernel) (by decide +kernel)
set_option maxRecDepth 20000 in
theorem gX4_takeToken_X4_takeSign : GoodIn wsX4_takeToken (wsV RX4 73 RX4 yX4_takeSign wsX4_takeSign) := goodIn_app (goodIn_of _ (by decide +kernel)) ggX4_takeToken_X4_takeSign
set_option maxRecDepth 20000 in
theorem ggX4_takeToken_X4_takeBody : GoodIn wsX4_takeToken wsX4_takeBody := goodIn_r _ [44, 7, 8, 45, 46, 47, 5, 48, 11, 9, 1, 49, 50, 51, 52, 53, 12, 13, 14, 15, 16, 17, 18, 54, 55, 56, 22, 57, 24, 30, 58, 59, 60, 61, 62, 63, 64, 65, 66, 67, 32, 68, 69, 70, 71, 72, 36, 73, 35, 74, 75, 76, 77, 78, 79, 80, 81, 31, 37, 38, 39, 40, 136, 137, 138, 139, 140, 141, 142, 143, 144, 145, 146, 147, 148, 149, 150, 151, 152, 153, 154, 155, 156, 157, 158, 159, 160, 161, 162, 163, 164, 165, 166] (by decide +kernel) (by decide +kernel)
set_option maxRecDepth 20000 in
theorem gX4_takeToken_X4_takeBody : GoodIn wsX4_takeToken (wsV RX4 77 RX4 yX4_takeBody wsX4_takeBody) := goodIn_app (goodIn_of _ (by decide +kernel)) ggX4_takeToken_X4_takeBody
set_option maxRecDepth 20000 in
theorem ggX4_takeToken_X4_takeOne : GoodIn wsX4_takeToken wsX4_takeOne := goodIn_r _ [48, 7, 8, 11, 9, 1, 49, 50, 51, 5, 52, 53, 12, 13, 14, 15, 16, 17, 18, 54, 55, 56, 22, 57, 24, 30, 58, 59, 60, 61, 62, 63, 64, 65, 66, 67, 32, 68, 69, 70, 71, 72, 36, 73, 35, 136, 137, 138, 139, 140, 141, 142, 143, 144, 145, 146, 147, 148, 149, 150, 151, 152, 153, 154, 155, 156, 157, 158, 159, 160, 161, 162, 163, 164, 165, 166] (by decide +kernel) (by decide +kernel)
set_option maxRecDepth 20000 in
theorem gX4_takeToken_X4_takeOne : GoodIn wsX4_takeToken (wsV RX4 80 RX4 yX4_takeOne wsX4_takeOne) := goodIn_app (goodIn_of _ (by decide +kernel)) ggX4_takeToken_X4_takeOne
set_option maxRecDepth 20000 in
theorem ggX4_takeToken_X4_takeTest : GoodIn wsX4_takeToken wsX4_takeTest := goodIn_r _ [85, 7, 8, 9, 1, 86, 11, 87, 88, 89, 90, 22, 91, 92, 66, 93, 94, 95, 12, 13, 14, 5, 15, 16, 17, 18, 136, 137, 138, 139, 140, 141, 142, 143, 144, 145, 146, 147, 148, 149, 150, 151, 152, 153, 154, 155, 156, 157, 158, 159, 160, 161, 162, 163, 164, 165, 166] (by decide +kernel) (by decide +kernel)
set_option maxRecDepth 20000 in
theorem gX4_takeToken_X4_takeTest : GoodIn wsX4_takeToken (wsV RX4 83 RX4 yX4_takeTest wsX4_takeTest) := goodIn_app (goodIn_of _ (by decide +kernel)) ggX4_takeToken_X4_takeTest
set_option maxRecDepth 20000 in
theorem ggX4_takeToken_X4_takeReference : GoodIn wsX4_takeToken wsX4_takeReference := goodIn_r _ [99, 7, 8, 9, 86, 11, 17, 1, 88, 89, 90, 22, 91, 92, 66, 93, 94, 95, 12, 13, 14, 5, 15, 16, 18, 136, 137, 138, 139, 140, 141, 142, 143, 144, 145, 146, 147, 148, 149, 150, 151, 152, 153, 154, 155, 156, 157, 158, 159, 160, 161, 162, 163, 164, 165, 166] (by decide +kernel) (by decide +kernel)
set_option maxRecDepth 20000 in
theorem gX4_takeToken_X4_takeReference : GoodIn wsX4_takeToken (wsV RX4 86 RX4 yX4_takeReference wsX4_takeReference) := goodIn_app (goodIn_of _ (by decide +kernel)) ggX4_takeToken_X4_takeReference
set_option maxRecDepth 20000 in
theorem ggX4_takeToken_X4_takeLastNumber : GoodIn wsX4_takeToken wsX4_takeLastNumber := goodIn_r _ [103, 87, 104, 9, 7, 11, 1, 105, 106, 107, 5, 108, 8, 16, 12, 13, 14, 15, 17, 18, 88, 89, 90, 22, 91, 92, 66, 93, 94, 95, 136, 137, 138, 139, 140, 141, 142, 143, 144, 145, 146, 147, 148, 149, 150, 151, 152, 153, 154, 155, 156, 157, 158, 159, 160, 161, 162, 163, 164, 165, 166] (by decide +kernel) (by decide +kernel)
set_option maxRecDepth 20000 in
theorem gX4_takeToken_X4_takeLastNumber : GoodIn wsX4_takeToken (wsV RX4 89 RX4 yX4_takeLastNumber wsX4_takeLastNumber) := goodIn_app (goodIn_of _ (by decide +kernel)) ggX4_takeToken_X4_takeLastNumber
set_option maxRecDepth 20000 in
theorem ggX4_takeToken_X4_takeBehindOne : GoodIn wsX4_takeToken wsX4_takeBehindOne := goodIn_r _ [112, 7, 8, 1, 113, 114, 115, 5, 116, 53, 117, 118, 12, 13, 14, 15, 16, 17, 18, 119, 120, 121, 122, 9, 123, 70, 71, 22, 72, 36, 73, 24, 35, 58, 59, 60, 61, 124, 125, 126, 127, 74, 75, 76, 77, 78, 79, 80, 81, 31, 37, 38, 39, 40, 136, 137, 138, 139, 140, 141, 142, 143, 144, 145, 146, 147, 148, 149, 150, 151, 152, 153, 154, 155, 156, 157, 158, 159, 160, 161, 162, 163, 164, 165, 166] (by decide +kernel) (by decide +kernel)
set_option maxRecDepth 20000 in
theorem gX4_takeToken_X4_takeBehindOne : GoodIn wsX4_takeToken (wsV RX4 92 RX4 yX4_takeBehindOne wsX4_takeBehindOne) := goodIn_app (goodIn_of _ (by decide +kernel)) ggX4_takeToken_X4_takeBehindOne
set_option maxRecDepth 20000 in
theorem ggX4_takeToken_X4_takeLeast : GoodIn wsX4_takeToken wsX4_takeLeast := goodIn_r _ [131, 7, 11, 87, 1, 105, 106, 107, 5, 108, 8, 16, 12, 13, 14, 15, 17, 18, 136, 137, 138, 139, 140, 141, 142, 143, 144, 145, 146, 147, 148, 149, 150] (by decide +kernel) (by decide +kernel)
set_option maxRecDepth 20000 in
theorem gX4_takeToken_X4_takeLeast : GoodIn wsX4_takeToken (wsV RX4 95 RX4 yX4_takeLeast wsX4_takeLeast) := goodIn_app (goodIn_of _ (by decide +kernel)) ggX4_takeToken_X4_takeLeast
set_option maxRecDepth 20000 in
theorem ggX4_takeToken_X4_takeMost : GoodIn wsX4_takeToken wsX4_takeMost := goodIn_r _ [135, 87, 9, 7, 11, 1, 105, 106, 107, 5, 108, 8, 16, 12, 13, 14, 15, 17, 18, 123, 70, 71, 22, 72, 36, 73, 24, 35, 58, 59, 60, 61, 136, 137, 138, 139, 140, 141, 142, 143, 144, 145, 146, 147, 148, 149, 150, 151, 152, 153, 154, 155, 156, 157, 158, 159, 160, 161, 162, 163, 164, 165, 166] (by decide +kernel) (by decide +kernel)
set_option maxRecDepth 20000 in
theorem gX4_takeToken_X4_takeMost : GoodIn wsX4_takeToken (wsV RX4 98 RX4 yX4_takeMost wsX4_takeMost) := goodIn_app (goodIn_of _ (by decide +kernel)) ggX4_takeToken_X4_takeMost
set_option maxRecDepth 20000 in
theorem ggX4_takeToken_X4_takeBehindItem : GoodIn wsX4_takeToken wsX4_takeBehindItem := goodIn_r _ [116, 7, 8, 53, 117, 1, 118, 12, 13, 14, 5, 15, 16, 17, 18, 119, 120, 121, 122, 9, 123, 70, 71, 22, 72, 36, 73, 24, 35, 58, 59, 60, 61, 124, 125, 126, 127, 74, 75, 76, 77, 78, 79, 80, 81, 31, 37, 38, 39, 40, 136, 137, 138, 139, 140, 141, 142, 143, 144, 145, 146, 147, 148, 149, 150, 151, 152, 153, 154, 155, 156, 157, 158, 159, 160, 161, 162, 163, 164, 165, 166] (by decide +kernel) (by decide +kernel)
set_option maxRecDepth 20000 in
theorem gX4_takeToken_X4_takeBehindItem : GoodIn wsX4_takeToken (wsV RX4 101 RX4 yX4_takeBehindItem wsX4_takeBehindItem) := goodIn_app (goodIn_of _ (by decide +kernel)) ggX4_takeToken_X4_takeBehindItem
theorem dX4_takeToken_0 : decode cX4_takeToken 0 = .ok (.aload_n 0, 1) := by decide +kernel
theorem dX4_takeToken_1 : decode cX4_takeToken 1 = .ok (.getfield 32, 3) := by decide +kernel
theorem dX4_takeToken_4 : decode cX4_takeToken 4 = .ok (.tableswitch 169 0 12 #[68, 75, 85, 92, 99, 106, 113, 123, 130, 137, 144, 151, 162], 68) := by decide +kernel
theorem dX4_takeToken_72 : decode cX4_takeToken 72 = .ok (.aload_n 0, 1) := by decide +kernel
theorem dX4_takeToken_73 : decode cX4_takeToken 73 = .ok (.invokevirtual 70, 3) := by decide +kernel
theorem dX4_takeToken_76 : decode cX4_takeToken 76 = .ok (.goto 104, 3) := by decide +kernel
theorem dX4_takeToken_79 : decode cX4_takeToken 79 = .ok (.aload_n 0, 1) := by decide +kernel
theorem dX4_takeToken_80 : decode cX4_takeToken 80 = .ok (.bipush 61, 2) := by decide +kernel
theorem dX4_takeToken_82 : decode cX4_takeToken 82 = .ok (.iconst 2, 1) := by decide +kernel
theorem dX4_takeToken_83 : decode cX4_takeToken 83 = .ok (.invokevirtual 73, 3) := by decide +kernel
theorem dX4_takeToken_86 : decode cX4_takeToken 86 = .ok (.goto 94, 3) := by decide +kernel
theorem dX4_takeToken_89 : decode cX4_takeToken 89 = .ok (.aload_n 0, 1) := by decide +kernel
theorem dX4_takeToken_90 : decode cX4_takeToken 90 = .ok (.invokevirtual 77, 3) := by decide +kernel
theorem dX4_takeToken_93 : decode cX4_takeToken 93 = .ok (.goto 87, 3) := by decide +kernel
theorem dX4_takeToken_96 : decode cX4_takeToken 96 = .ok (.aload_n 0, 1) := by decide +kernel
theorem dX4_takeToken_97 : decode cX4_takeToken 97 = .ok (.invokevirtual 80, 3) := by decide +kernel
theorem dX4_takeToken_100 : decode cX4_takeToken 100 = .ok (.goto 80, 3) := by decide +kernel
theorem dX4_takeToken_103 : decode cX4_takeToken 103 = .ok (.aload_n 0, 1) := by decide +kernel
theorem dX4_takeToken_104 : decode cX4_takeToken 104 = .ok (.invokevirtual 83, 3) := by decide +kernel
theorem dX4_takeToken_107 : decode cX4_takeToken 107 = .ok (.goto 73, 3) := by decide +kernel
theorem dX4_takeToken_110 : decode cX4_takeToken 110 = .ok (.aload_n 0, 1) := by decide +kernel
theorem dX4_takeToken_111 : decode cX4_takeToken 111 = .ok (.invokevirtual 86, 3) := by decide +kernel
theorem dX4_takeToken_114 : decode cX4_takeToken 114 = .ok (.goto 66, 3) := by decide +kernel
theorem dX4_takeToken_117 : decode cX4_takeToken 117 = .ok (.aload_n 0, 1) := by decide +kernel
theorem dX4_takeToken_118 : decode cX4_takeToken 118 = .ok (.iconst 5, 1) := by decide +kernel
theorem dX4_takeToken_119 : decode cX4_takeToken 119 = .ok (.bipush 7, 2) := by decide +kernel
theorem dX4_takeToken_121 : decode cX4_takeToken 121 = .ok (.invokevirtual 73, 3) := by decide +kernel
theorem dX4_takeToken_124 : decode cX4_takeToken 124 = .ok (.goto 56, 3) := by decide +kernel
theorem dX4_takeToken_127 : decode cX4_takeToken 127 = .ok (.aload_n 0, 1) := by decide +kernel
theorem dX4_takeToken_128 : decode cX4_takeToken 128 = .ok (.invokevirtual 89, 3) := by decide +kernel
theorem dX4_takeToken_131 : decode cX4_takeToken 131 = .ok (.goto 49, 3) := by decide +kernel
theorem dX4_takeToken_134 : decode cX4_takeToken 134 = .ok (.aload_n 0, 1) := by decide +kernel
theorem dX4_takeToken_135 : decode cX4_takeToken 135 = .ok (.invokevirtual 92, 3) := by decide +kernel
theorem dX4_takeToken_138 : decode cX4_takeToken 138 = .ok (.goto 42, 3) := by decide +kernel
theorem dX4_takeToken_141 : decode cX4_takeToken 141 = .ok (.aload_n 0, 1) := by decide +kernel
theorem dX4_takeToken_142 : decode cX4_takeToken 142 = .ok (.invokevirtual 95, 3) := by decide +kernel
theorem dX4_takeToken_145 : decode cX4_takeToken 145 = .ok (.goto 35, 3) := by decide +kernel
theorem dX4_takeToken_148 : decode cX4_takeToken 148 = .ok (.aload_n 0, 1) := by decide +kernel
theorem dX4_takeToken_149 : decode cX4_takeToken 149 = .ok (.invokevirtual 98, 3) := by decide +kernel
theorem dX4_takeToken_152 : decode cX4_takeToken 152 = .ok (.goto 28, 3) := by decide +kernel
theorem dX4_takeToken_155 : decode cX4_takeToken 155 = .ok (.aload_n 0, 1) := by decide +kernel
theorem dX4_takeToken_156 : decode cX4_takeToken 156 = .ok (.bipush 93, 2) := by decide +kernel
theorem dX4_takeToken_158 : decode cX4_takeToken 158 = .ok (.bipush 12, 2) := by decide +kernel
theorem dX4_takeToken_160 : decode cX4_takeToken 160 = .ok (.invokevirtual 73, 3) := by decide +kernel
theorem dX4_takeToken_163 : decode cX4_takeToken 163 = .ok (.goto 17, 3) := by decide +kernel
theorem dX4_takeToken_166 : decode cX4_takeToken 166 = .ok (.aload_n 0, 1) := by decide +kernel
theorem dX4_takeToken_167 : decode cX4_takeToken 167 = .ok (.invokevirtual 101, 3) := by decide +kernel
theorem dX4_takeToken_170 : decode cX4_takeToken 170 = .ok (.goto 10, 3) := by decide +kernel
theorem dX4_takeToken_173 : decode cX4_takeToken 173 = .ok (.aload_n 0, 1) := by decide +kernel
theorem dX4_takeToken_174 : decode cX4_takeToken 174 = .ok (.bipush 59, 2) := by decide +kernel
theorem dX4_takeToken_176 : decode cX4_takeToken 176 = .ok (.iconst 0, 1) := by decide +kernel
theorem dX4_takeToken_177 : decode cX4_takeToken 177 = .ok (.invokevirtual 73, 3) := by decide +kernel
theorem dX4_takeToken_180 : decode cX4_takeToken 180 = .ok (.return_, 1) := by decide +kernel
set_option maxRecDepth 20000 in
theorem ggX4_takeSign_X4_fail : GoodIn wsX4_takeSign wsX4_fail := goodIn_r _ [8, 9, 1, 10, 11, 12, 13, 14, 15, 16, 17, 18, 19, 20, 21, 22, 23, 24, 25, 26] (by decide +kernel) (by decide +kernel)
set_option maxRecDepth 20000 in
theorem gX4_takeSign_X4_fail : GoodIn wsX4_takeSign (wsV RX4 57 RX4 yX4_fail wsX4_fail) := goodIn_app (goodIn_of _ (by decide +kernel)) ggX4_takeSign_X4_fail
theorem dX4_takeSign_0 : decode cX4_takeSign 0 = .ok (.aload_n 0, 1) := by decide +kernel
theorem dX4_takeSign_1 : decode cX4_takeSign 1 = .ok (.getfield 14, 3) := by decide +kernel
theorem dX4_takeSign_4 : decode cX4_takeSign 4 = .ok (.getfield 54, 3) := by decide +kernel
theorem dX4_takeSign_7 : decode cX4_takeSign 7 = .ok (.iload_n 1, 1) := by decide +kernel
theorem dX4_takeSign_8 : decode cX4_takeSign 8 = .ok (.if_icmp .ne 11, 3) := by decide +kernel
theorem dX4_takeSign_11 : decode cX4_takeSign 11 = .ok (.aload_n 0, 1) := by decide +kernel
theorem dX4_takeSign_12 : decode cX4_takeSign 12 = .ok (.iload_n 2, 1) := by decide +kernel
theorem dX4_takeSign_13 : decode cX4_takeSign 13 = .ok (.putfield 32, 3) := by decide +kernel
theorem dX4_takeSign_16 : decode cX4_takeSign 16 = .ok (.goto 8, 3) := by decide +kernel
theorem dX4_takeSign_19 : decode cX4_takeSign 19 = .ok (.aload_n 0, 1) := by decide +kernel
theorem dX4_takeSign_20 : decode cX4_takeSign 20 = .ok (.iconst 2, 1) := by decide +kernel
theorem dX4_takeSign_21 : decode cX4_takeSign 21 = .ok (.invokevirtual 57, 3) := by decide +kernel
theorem dX4_takeSign_24 : decode cX4_takeSign 24 = .ok (.return_, 1) := by decide +kernel
set_option maxRecDepth 20000 in
theorem ggX4_takeShapeWord_X4_fail : GoodIn wsX4_takeShapeWord wsX4_fail := goodIn_r _ [11, 12, 1, 13, 14, 33, 34, 35, 36, 37, 38, 39, 40, 41, 42, 43, 44, 45, 46, 47] (by decide +kernel) (by decide +kernel)
set_option maxRecDepth 20000 in
theorem gX4_takeShapeWord_X4_fail : GoodIn wsX4_takeShapeWord (wsV RX4 57 RX4 yX4_fail wsX4_fail) := goodIn_app (goodIn_of _ (by decide +kernel)) ggX4_takeShapeWord_X4_fail
set_option maxRecDepth 20000 in
theorem ggX4_takeShapeWord_X0_shapeOf : GoodIn wsX4_takeShapeWord wsX0_shapeOf := goodIn_r _ [19, 20, 21, 48, 49, 50, 51, 52, 53, 54, 55, 56, 57, 58, 59, 60, 61, 62, 63] (by decide +kernel) (by decide +kernel)
set_option maxRecDepth 20000 in
theorem gX4_takeShapeWord_X0_shapeOf : GoodIn wsX4_takeShapeWord (wsV RX4 110 RX0 yX0_shapeOf wsX0_shapeOf) := goodIn_app (goodIn_of _ (by decide +kernel)) ggX4_takeShapeWord_X0_shapeOf
set_option maxRecDepth 20000 in
theorem ggX4_takeShapeWord_X0_openShape : GoodIn wsX4_takeShapeWord wsX0_openShape := goodIn_r _ [25, 20, 21, 26, 27, 28, 29, 30, 31, 32, 48, 49, 50, 51, 52, 53, 54, 55, 56, 57, 58, 59, 60, 61, 62, 63] (by decide +kernel) (by decide +kernel)
set_option maxRecDepth 20000 in
theorem gX4_takeShapeWord_X0_openShape : GoodIn wsX4_takeShapeWord (wsV RX4 114 RX0 yX0_openShape wsX0_openShape) := goodIn_app (goodIn_of _ (by decide +kernel)) ggX4_takeShapeWord_X0_openShape
theorem dX4_takeShapeWord_0 : decode cX4_takeShapeWord 0 = .ok (.aload_n 0, 1) := by decide +kernel
theorem dX4_takeShapeWord_1 : decode cX4_takeShapeWord 1 = .ok (.getfield 14, 3) := by decide +kernel
theorem dX4_takeShapeWord_4 : decode cX4_takeShapeWord 4 = .ok (.getfield 54, 3) := by decide +kernel
theorem dX4_takeShapeWord_7 : decode cX4_takeShapeWord 7 = .ok (.ifCond .ne 22, 3) := by decide +kernel
theorem dX4_takeShapeWord_10 : decode cX4_takeShapeWord 10 = .ok (.aload_n 0, 1) := by decide +kernel
theorem dX4_takeShapeWord_11 : decode cX4_takeShapeWord 11 = .ok (.getfield 20, 3) := by decide +kernel
theorem dX4_takeShapeWord_14 : decode cX4_takeShapeWord 14 = .ok (.getfield 104, 3) := by decide +kernel
theorem dX4_takeShapeWord_17 : decode cX4_takeShapeWord 17 = .ok (.ifCond .le 12, 3) := by decide +kernel
theorem dX4_takeShapeWord_20 : decode cX4_takeShapeWord 20 = .ok (.aload_n 0, 1) := by decide +kernel
theorem dX4_takeShapeWord_21 : decode cX4_takeShapeWord 21 = .ok (.bipush 14, 2) := by decide +kernel
theorem dX4_takeShapeWord_23 : decode cX4_takeShapeWord 23 = .ok (.putfield 32, 3) := by decide +kernel
theorem dX4_takeShapeWord_26 : decode cX4_takeShapeWord 26 = .ok (.goto 86, 3) := by decide +kernel
theorem dX4_takeShapeWord_29 : decode cX4_takeShapeWord 29 = .ok (.aload_n 0, 1) := by decide +kernel
theorem dX4_takeShapeWord_30 : decode cX4_takeShapeWord 30 = .ok (.getfield 14, 3) := by decide +kernel
theorem dX4_takeShapeWord_33 : decode cX4_takeShapeWord 33 = .ok (.getfield 54, 3) := by decide +kernel
theorem dX4_takeShapeWord_36 : decode cX4_takeShapeWord 36 = .ok (.iconst 2, 1) := by decide +kernel
theorem dX4_takeShapeWord_37 : decode cX4_takeShapeWord 37 = .ok (.if_icmp .eq 11, 3) := by decide +kernel
theorem dX4_takeShapeWord_40 : decode cX4_takeShapeWord 40 = .ok (.aload_n 0, 1) := by decide +kernel
theorem dX4_takeShapeWord_41 : decode cX4_takeShapeWord 41 = .ok (.iconst 2, 1) := by decide +kernel
theorem dX4_takeShapeWord_42 : decode cX4_takeShapeWord 42 = .ok (.invokevirtual 57, 3) := by decide +kernel
theorem dX4_takeShapeWord_45 : decode cX4_takeShapeWord 45 = .ok (.goto 67, 3) := by decide +kernel
theorem dX4_takeShapeWord_48 : decode cX4_takeShapeWord 48 = .ok (.aload_n 0, 1) := by decide +kernel
theorem dX4_takeShapeWord_49 : decode cX4_takeShapeWord 49 = .ok (.getfield 20, 3) := by decide +kernel
theorem dX4_takeShapeWord_52 : decode cX4_takeShapeWord 52 = .ok (.getfield 104, 3) := by decide +kernel
theorem dX4_takeShapeWord_55 : decode cX4_takeShapeWord 55 = .ok (.bipush 6, 2) := by decide +kernel
theorem dX4_takeShapeWord_57 : decode cX4_takeShapeWord 57 = .ok (.if_icmp .lt 11, 3) := by decide +kernel
theorem dX4_takeShapeWord_60 : decode cX4_takeShapeWord 60 = .ok (.aload_n 0, 1) := by decide +kernel
theorem dX4_takeShapeWord_61 : decode cX4_takeShapeWord 61 = .ok (.iconst 4, 1) := by decide +kernel
theorem dX4_takeShapeWord_62 : decode cX4_takeShapeWord 62 = .ok (.invokevirtual 57, 3) := by decide +kernel
theorem dX4_takeShapeWord_65 : decode cX4_takeShapeWord 65 = .ok (.goto 47, 3) := by decide +kernel
theorem dX4_takeShapeWord_68 : decode cX4_takeShapeWord 68 = .ok (.aload_n 0, 1) := by decide +kernel
theorem dX4_takeShapeWord_69 : decode cX4_takeShapeWord 69 = .ok (.getfield 20, 3) := by decide +kernel
theorem dX4_takeShapeWord_72 : decode cX4_takeShapeWord 72 = .ok (.aload_n 0, 1) := by decide +kernel
theorem dX4_takeShapeWord_73 : decode cX4_takeShapeWord 73 = .ok (.getfield 14, 3) := by decide +kernel
theorem dX4_takeShapeWord_76 : decode cX4_takeShapeWord 76 = .ok (.getfield 107, 3) := by decide +kernel
theorem dX4_takeShapeWord_79 : decode cX4_takeShapeWord 79 = .ok (.invokevirtual 110, 3) := by decide +kernel
theorem dX4_takeShapeWord_82 : decode cX4_takeShapeWord 82 = .ok (.ifCond .lt 11, 3) := by decide +kernel
theorem dX4_takeShapeWord_85 : decode cX4_takeShapeWord 85 = .ok (.aload_n 0, 1) := by decide +kernel
theorem dX4_takeShapeWord_86 : decode cX4_takeShapeWord 86 = .ok (.iconst 5, 1) := by decide +kernel
theorem dX4_takeShapeWord_87 : decode cX4_takeShapeWord 87 = .ok (.invokevirtual 57, 3) := by decide +kernel
theorem dX4_takeShapeWord_90 : decode cX4_takeShapeWord 90 = .ok (.goto 22, 3) := by decide +kernel
theorem dX4_takeShapeWord_93 : decode cX4_takeShapeWord 93 = .ok (.aload_n 0, 1) := by decide +kernel
theorem dX4_takeShapeWord_94 : decode cX4_takeShapeWord 94 = .ok (.getfield 20, 3) := by decide +kernel
theorem dX4_takeShapeWord_97 : decode cX4_takeShapeWord 97 = .ok (.aload_n 0, 1) := by decide +kernel
theorem dX4_takeShapeWord_98 : decode cX4_takeShapeWord 98 = .ok (.getfield 14, 3) := by decide +kernel
theorem dX4_takeShapeWord_101 : decode cX4_takeShapeWord 101 = .ok (.getfield 107, 3) := by decide +kernel
theorem dX4_takeShapeWord_104 : decode cX4_takeShapeWord 104 = .ok (.invokevirtual 114, 3) := by decide +kernel
theorem dX4_takeShapeWord_107 : decode cX4_takeShapeWord 107 = .ok (.aload_n 0, 1) := by decide +kernel
theorem dX4_takeShapeWord_108 : decode cX4_takeShapeWord 108 = .ok (.iconst 1, 1) := by decide +kernel
theorem dX4_takeShapeWord_109 : decode cX4_takeShapeWord 109 = .ok (.putfield 32, 3) := by decide +kernel
theorem dX4_takeShapeWord_112 : decode cX4_takeShapeWord 112 = .ok (.return_, 1) := by decide +kernel
set_option maxRecDepth 20000 in
theorem ggX4_takeBody_X4_takeOne : GoodIn wsX4_takeBody wsX4_takeOne := goodIn_r _ [7, 1, 2, 8, 9, 10, 11, 12, 13, 6, 14, 15, 16, 17, 18, 19, 20, 21, 22, 23, 24, 25, 26, 27, 28, 29, 30, 31, 32, 33, 34, 35, 36, 37, 38, 39, 40, 41, 42, 43, 44, 45, 46, 47, 48, 62, 63, 64, 65, 66, 67, 68, 69, 70, 71, 72, 73, 74, 75, 76, 77, 78, 79, 80, 81, 82, 83, 84, 85, 86, 87, 88, 89, 90, 91, 92] (by decide +kernel) (by decide +kernel)
set_option maxRecDepth 20000 in
theorem gX4_takeBody_X4_takeOne : GoodIn wsX4_takeBody (wsV RX4 80 RX4 yX4_takeOne wsX4_takeOne) := goodIn_app (goodIn_of _ (by decide +kernel)) ggX4_takeBody_X4_takeOne
set_option maxRecDepth 20000 in
theorem ggX4_takeBody_X4_takeShapeEnd : GoodIn wsX4_takeBody wsX4_takeShapeEnd := goodIn_r _ [52, 1, 2, 9, 10, 53, 54, 55, 26, 56, 28, 57, 30, 31, 32, 33, 58, 59, 60, 6, 61, 16, 17, 18, 19, 20, 21, 22, 62, 63, 64, 65, 66, 67, 68, 69, 70, 71, 72, 73, 74, 75, 76, 77, 78, 79, 80, 81, 82, 83, 84, 85, 86, 87, 88, 89, 90, 91, 92] (by decide +kernel) (by decide +kernel)
set_option maxRecDepth 20000 in
theorem gX4_takeBody_X4_takeShapeEnd : GoodIn wsX4_takeBody (wsV RX4 117 RX4 yX4_takeShapeEnd wsX4_takeShapeEnd) := goodIn_app (goodIn_of _ (by decide +kernel)) ggX4_takeBody_X4_takeShapeEnd
theorem dX4_takeBody_0 : decode cX4_takeBody 0 = .ok (.aload_n 0, 1) := by decide +kernel
theorem dX4_takeBody_1 : decode cX4_takeBody 1 = .ok (.getfield 14, 3) := by decide +kernel
theorem dX4_takeBody_4 : decode cX4_takeBody 4 = .ok (.getfield 54, 3) := by decide +kernel
theorem dX4_takeBody_7 : decode cX4_takeBody 7 = .ok (.bipush 40, 2) := by decide +kernel
theorem dX4_takeBody_9 : decode cX4_takeBody 9 = .ok (.if_icmp .eq 14, 3) := by decide +kernel
theorem dX4_takeBody_12 : decode cX4_takeBody 12 = .ok (.aload_n 0, 1) := by decide +kernel
theorem dX4_takeBody_13 : decode cX4_takeBody 13 = .ok (.getfield 14, 3) := by decide +kernel
theorem dX4_takeBody_16 : decode cX4_takeBody 16 = .ok (.getfield 54, 3) := by decide +kernel
theorem dX4_takeBody_19 : decode cX4_takeBody 19 = .ok (.iconst 3, 1) := by decide +kernel
theorem dX4_takeBody_20 : decode cX4_takeBody 20 = .ok (.if_icmp .ne 10, 3) := by decide +kernel
theorem dX4_takeBody_23 : decode cX4_takeBody 23 = .ok (.aload_n 0, 1) := by decide +kernel
theorem dX4_takeBody_24 : decode cX4_takeBody 24 = .ok (.invokevirtual 80, 3) := by decide +kernel
theorem dX4_takeBody_27 : decode cX4_takeBody 27 = .ok (.goto 7, 3) := by decide +kernel
theorem dX4_takeBody_30 : decode cX4_takeBody 30 = .ok (.aload_n 0, 1) := by decide +kernel
theorem dX4_takeBody_31 : decode cX4_takeBody 31 = .ok (.invokevirtual 117, 3) := by decide +kernel
theorem dX4_takeBody_34 : decode cX4_takeBody 34 = .ok (.return_, 1) := by decide +kernel
set_option maxRecDepth 20000 in
theorem ggX4_takeShapeEnd_X0_closeShape : GoodIn wsX4_takeShapeEnd wsX0_closeShape := goodIn_r _ [9, 10, 11, 12, 13, 14, 8, 15, 43, 44, 45, 46, 47, 48, 49, 50, 51, 52, 53, 54, 55, 56, 57, 58] (by decide +kernel) (by decide +kernel)
set_option maxRecDepth 20000 in
theorem gX4_takeShapeEnd_X0_closeShape : GoodIn wsX4_takeShapeEnd (wsV RX4 120 RX0 yX0_closeShape wsX0_closeShape) := goodIn_app (goodIn_of _ (by decide +kernel)) ggX4_takeShapeEnd_X0_closeShape
set_option maxRecDepth 20000 in
theorem ggX4_takeShapeEnd_X4_takeSign : GoodIn wsX4_takeShapeEnd wsX4_takeSign := goodIn_r _ [20, 1, 2, 4, 21, 22, 23, 19, 24, 25, 26, 27, 28, 29, 30, 31, 32, 33, 34, 35, 36, 37, 38, 39, 40, 41, 42] (by decide +kernel) (by decide +kernel)
set_option maxRecDepth 20000 in
theorem gX4_takeShapeEnd_X4_takeSign : GoodIn wsX4_takeShapeEnd (wsV RX4 73 RX4 yX4_takeSign wsX4_takeSign) := goodIn_app (goodIn_of _ (by decide +kernel)) ggX4_takeShapeEnd_X4_takeSign
theorem dX4_takeShapeEnd_0 : decode cX4_takeShapeEnd 0 = .ok (.aload_n 0, 1) := by decide +kernel
theorem dX4_takeShapeEnd_1 : decode cX4_takeShapeEnd 1 = .ok (.getfield 14, 3) := by decide +kernel
theorem dX4_takeShapeEnd_4 : decode cX4_takeShapeEnd 4 = .ok (.getfield 54, 3) := by decide +kernel
theorem dX4_takeShapeEnd_7 : decode cX4_takeShapeEnd 7 = .ok (.iconst 4, 1) := by decide +kernel
theorem dX4_takeShapeEnd_8 : decode cX4_takeShapeEnd 8 = .ok (.if_icmp .ne 19, 3) := by decide +kernel
theorem dX4_takeShapeEnd_11 : decode cX4_takeShapeEnd 11 = .ok (.aload_n 0, 1) := by decide +kernel
theorem dX4_takeShapeEnd_12 : decode cX4_takeShapeEnd 12 = .ok (.getfield 20, 3) := by decide +kernel
theorem dX4_takeShapeEnd_15 : decode cX4_takeShapeEnd 15 = .ok (.invokevirtual 120, 3) := by decide +kernel
theorem dX4_takeShapeEnd_18 : decode cX4_takeShapeEnd 18 = .ok (.aload_n 0, 1) := by decide +kernel
theorem dX4_takeShapeEnd_19 : decode cX4_takeShapeEnd 19 = .ok (.bipush 13, 2) := by decide +kernel
theorem dX4_takeShapeEnd_21 : decode cX4_takeShapeEnd 21 = .ok (.putfield 32, 3) := by decide +kernel
theorem dX4_takeShapeEnd_24 : decode cX4_takeShapeEnd 24 = .ok (.goto 10, 3) := by decide +kernel
theorem dX4_takeShapeEnd_27 : decode cX4_takeShapeEnd 27 = .ok (.aload_n 0, 1) := by decide +kernel
theorem dX4_takeShapeEnd_28 : decode cX4_takeShapeEnd 28 = .ok (.bipush 59, 2) := by decide +kernel
theorem dX4_takeShapeEnd_30 : decode cX4_takeShapeEnd 30 = .ok (.iconst 0, 1) := by decide +kernel
theorem dX4_takeShapeEnd_31 : decode cX4_takeShapeEnd 31 = .ok (.invokevirtual 73, 3) := by decide +kernel
theorem dX4_takeShapeEnd_34 : decode cX4_takeShapeEnd 34 = .ok (.return_, 1) := by decide +kernel
set_option maxRecDepth 20000 in
theorem ggX4_takeOne_X4_takeOpening : GoodIn wsX4_takeOne wsX4_takeOpening := goodIn_r _ [10, 11, 5, 12, 13, 14, 9, 15, 16, 1, 17, 18, 45, 46, 47, 48, 49, 50, 51, 52, 53, 54, 55, 56, 57, 58, 59] (by decide +kernel) (by decide +kernel)
set_option maxRecDepth 20000 in
theorem gX4_takeOne_X4_takeOpening : GoodIn wsX4_takeOne (wsV RX4 123 RX4 yX4_takeOpening wsX4_takeOpening) := goodIn_app (goodIn_of _ (by decide +kernel)) ggX4_takeOne_X4_takeOpening
set_option maxRecDepth 20000 in
theorem ggX4_takeOne_X4_fail : GoodIn wsX4_takeOne wsX4_fail := goodIn_r _ [15, 16, 1, 17, 18, 45, 46, 47, 48, 49, 50, 51, 52, 53, 54, 55, 56, 57, 58, 59] (by decide +kernel) (by decide +kernel)
set_option maxRecDepth 20000 in
theorem gX4_takeOne_X4_fail : GoodIn wsX4_takeOne (wsV RX4 57 RX4 yX4_fail wsX4_fail) := goodIn_app (goodIn_of _ (by decide +kernel)) ggX4_takeOne_X4_fail
set_option maxRecDepth 20000 in
theorem ggX4_takeOne_X0_hasRoomForPart : GoodIn wsX4_takeOne wsX0_hasRoomForPart := goodIn_r _ [23, 24, 25, 26, 27, 28, 22, 29, 60, 61, 62, 63, 64, 65, 66, 67, 68, 69, 70, 71, 72, 73, 74, 75] (by decide +kernel) (by decide +kernel)
set_option maxRecDepth 20000 in
theorem gX4_takeOne_X0_hasRoomForPart : GoodIn wsX4_takeOne (wsV RX4 126 RX0 yX0_hasRoomForPart wsX0_hasRoomForPart) := goodIn_app (goodIn_of _ (by decide +kernel)) ggX4_takeOne_X0_hasRoomForPart
set_option maxRecDepth 20000 in
theorem ggX4_takeOne_X0_addPart : GoodIn wsX4_takeOne wsX0_addPart := goodIn_r _ [33, 24, 25, 34, 35, 36, 37, 20, 21, 22, 23, 26, 27, 28, 29, 38, 39, 40, 41, 42, 43, 44, 60, 61, 62, 63, 64, 65, 66, 67, 68, 69, 70, 71, 72, 73, 74, 75] (by decide +kernel) (by decide +kernel)
set_option maxRecDepth 20000 in
theorem gX4_takeOne_X0_addPart : GoodIn wsX4_takeOne (wsV RX4 130 RX0 yX0_addPart wsX0_addPart) := goodIn_app (goodIn_of _ (by decide +kernel)) ggX4_takeOne_X0_addPart
theorem dX4_takeOne_0 : decode cX4_takeOne 0 = .ok (.aload_n 0, 1) := by decide +kernel
theorem dX4_takeOne_1 : decode cX4_takeOne 1 = .ok (.getfield 14, 3) := by decide +kernel
theorem dX4_takeOne_4 : decode cX4_takeOne 4 = .ok (.getfield 54, 3) := by decide +kernel
theorem dX4_takeOne_7 : decode cX4_takeOne 7 = .ok (.bipush 40, 2) := by decide +kernel
theorem dX4_takeOne_9 : decode cX4_takeOne 9 = .ok (.if_icmp .ne 10, 3) := by decide +kernel
theorem dX4_takeOne_12 : decode cX4_takeOne 12 = .ok (.aload_n 0, 1) := by decide +kernel
theorem dX4_takeOne_13 : decode cX4_takeOne 13 = .ok (.invokevirtual 123, 3) := by decide +kernel
theorem dX4_takeOne_16 : decode cX4_takeOne 16 = .ok (.goto 89, 3) := by decide +kernel
theorem dX4_takeOne_19 : decode cX4_takeOne 19 = .ok (.aload_n 0, 1) := by decide +kernel
theorem dX4_takeOne_20 : decode cX4_takeOne 20 = .ok (.getfield 14, 3) := by decide +kernel
theorem dX4_takeOne_23 : decode cX4_takeOne 23 = .ok (.getfield 54, 3) := by decide +kernel
theorem dX4_takeOne_26 : decode cX4_takeOne 26 = .ok (.iconst 3, 1) := by decide +kernel
theorem dX4_takeOne_27 : decode cX4_takeOne 27 = .ok (.if_icmp .eq 11, 3) := by decide +kernel
theorem dX4_takeOne_30 : decode cX4_takeOne 30 = .ok (.aload_n 0, 1) := by decide +kernel
theorem dX4_takeOne_31 : decode cX4_takeOne 31 = .ok (.iconst 2, 1) := by decide +kernel
theorem dX4_takeOne_32 : decode cX4_takeOne 32 = .ok (.invokevirtual 57, 3) := by decide +kernel
theorem dX4_takeOne_35 : decode cX4_takeOne 35 = .ok (.goto 70, 3) := by decide +kernel
theorem dX4_takeOne_38 : decode cX4_takeOne 38 = .ok (.aload_n 0, 1) := by decide +kernel
theorem dX4_takeOne_39 : decode cX4_takeOne 39 = .ok (.getfield 14, 3) := by decide +kernel
theorem dX4_takeOne_42 : decode cX4_takeOne 42 = .ok (.getfield 107, 3) := by decide +kernel
theorem dX4_takeOne_45 : decode cX4_takeOne 45 = .ok (.ifCond .lt 15, 3) := by decide +kernel
theorem dX4_takeOne_48 : decode cX4_takeOne 48 = .ok (.aload_n 0, 1) := by decide +kernel
theorem dX4_takeOne_49 : decode cX4_takeOne 49 = .ok (.getfield 14, 3) := by decide +kernel
theorem dX4_takeOne_52 : decode cX4_takeOne 52 = .ok (.getfield 107, 3) := by decide +kernel
theorem dX4_takeOne_55 : decode cX4_takeOne 55 = .ok (.bipush 10, 2) := by decide +kernel
theorem dX4_takeOne_57 : decode cX4_takeOne 57 = .ok (.if_icmp .lt 11, 3) := by decide +kernel
theorem dX4_takeOne_60 : decode cX4_takeOne 60 = .ok (.aload_n 0, 1) := by decide +kernel
theorem dX4_takeOne_61 : decode cX4_takeOne 61 = .ok (.iconst 3, 1) := by decide +kernel
theorem dX4_takeOne_62 : decode cX4_takeOne 62 = .ok (.invokevirtual 57, 3) := by decide +kernel
theorem dX4_takeOne_65 : decode cX4_takeOne 65 = .ok (.goto 40, 3) := by decide +kernel
theorem dX4_takeOne_68 : decode cX4_takeOne 68 = .ok (.aload_n 0, 1) := by decide +kernel
theorem dX4_takeOne_69 : decode cX4_takeOne 69 = .ok (.getfield 20, 3) := by decide +kernel
theorem dX4_takeOne_72 : decode cX4_takeOne 72 = .ok (.invokevirtual 126, 3) := by decide +kernel
theorem dX4_takeOne_75 : decode cX4_takeOne 75 = .ok (.ifCond .ne 11, 3) := by decide +kernel
theorem dX4_takeOne_78 : decode cX4_takeOne 78 = .ok (.aload_n 0, 1) := by decide +kernel
theorem dX4_takeOne_79 : decode cX4_takeOne 79 = .ok (.iconst 4, 1) := by decide +kernel
theorem dX4_takeOne_80 : decode cX4_takeOne 80 = .ok (.invokevirtual 57, 3) := by decide +kernel
theorem dX4_takeOne_83 : decode cX4_takeOne 83 = .ok (.goto 22, 3) := by decide +kernel
theorem dX4_takeOne_86 : decode cX4_takeOne 86 = .ok (.aload_n 0, 1) := by decide +kernel
theorem dX4_takeOne_87 : decode cX4_takeOne 87 = .ok (.getfield 20, 3) := by decide +kernel
theorem dX4_takeOne_90 : decode cX4_takeOne 90 = .ok (.aload_n 0, 1) := by decide +kernel
theorem dX4_takeOne_91 : decode cX4_takeOne 91 = .ok (.getfield 14, 3) := by decide +kernel
theorem dX4_takeOne_94 : decode cX4_takeOne 94 = .ok (.getfield 107, 3) := by decide +kernel
theorem dX4_takeOne_97 : decode cX4_takeOne 97 = .ok (.invokevirtual 130, 3) := by decide +kernel
theorem dX4_takeOne_100 : decode cX4_takeOne 100 = .ok (.aload_n 0, 1) := by decide +kernel
theorem dX4_takeOne_101 : decode cX4_takeOne 101 = .ok (.iconst 4, 1) := by decide +kernel
theorem dX4_takeOne_102 : decode cX4_takeOne 102 = .ok (.putfield 32, 3) := by decide +kernel
theorem dX4_takeOne_105 : decode cX4_takeOne 105 = .ok (.return_, 1) := by decide +kernel
set_option maxRecDepth 20000 in
theorem ggX4_takeOpening_X4_fail : GoodIn wsX4_takeOpening wsX4_fail := goodIn_r _ [7, 8, 9, 10, 11, 12, 13, 14, 15, 16, 17, 18, 19, 20, 21, 22, 23, 24, 25, 26] (by decide +kernel) (by decide +kernel)
set_option maxRecDepth 20000 in
theorem gX4_takeOpening_X4_fail : GoodIn wsX4_takeOpening (wsV RX4 57 RX4 yX4_fail wsX4_fail) := goodIn_app (goodIn_of _ (by decide +kernel)) ggX4_takeOpening_X4_fail
theorem dX4_takeOpening_0 : decode cX4_takeOpening 0 = .ok (.aload_n 0, 1) := by decide +kernel
theorem dX4_takeOpening_1 : decode cX4_takeOpening 1 = .ok (.getfield 36, 3) := by decide +kernel
theorem dX4_takeOpening_4 : decode cX4_takeOpening 4 = .ok (.bipush 6, 2) := by decide +kernel
theorem dX4_takeOpening_6 : decode cX4_takeOpening 6 = .ok (.if_icmp .lt 11, 3) := by decide +kernel
theorem dX4_takeOpening_9 : decode cX4_takeOpening 9 = .ok (.aload_n 0, 1) := by decide +kernel
theorem dX4_takeOpening_10 : decode cX4_takeOpening 10 = .ok (.iconst 4, 1) := by decide +kernel
theorem dX4_takeOpening_11 : decode cX4_takeOpening 11 = .ok (.invokevirtual 57, 3) := by decide +kernel
theorem dX4_takeOpening_14 : decode cX4_takeOpening 14 = .ok (.goto 18, 3) := by decide +kernel
theorem dX4_takeOpening_17 : decode cX4_takeOpening 17 = .ok (.aload_n 0, 1) := by decide +kernel
theorem dX4_takeOpening_18 : decode cX4_takeOpening 18 = .ok (.dup, 1) := by decide +kernel
theorem dX4_takeOpening_19 : decode cX4_takeOpening 19 = .ok (.getfield 36, 3) := by decide +kernel
theorem dX4_takeOpening_22 : decode cX4_takeOpening 22 = .ok (.iconst 1, 1) := by decide +kernel
theorem dX4_takeOpening_23 : decode cX4_takeOpening 23 = .ok (.iadd, 1) := by decide +kernel
theorem dX4_takeOpening_24 : decode cX4_takeOpening 24 = .ok (.putfield 36, 3) := by decide +kernel
theorem dX4_takeOpening_27 : decode cX4_takeOpening 27 = .ok (.aload_n 0, 1) := by decide +kernel
theorem dX4_takeOpening_28 : decode cX4_takeOpening 28 = .ok (.iconst 3, 1) := by decide +kernel
theorem dX4_takeOpening_29 : decode cX4_takeOpening 29 = .ok (.putfield 32, 3) := by decide +kernel
theorem dX4_takeOpening_32 : decode cX4_takeOpening 32 = .ok (.return_, 1) := by decide +kernel
set_option maxRecDepth 20000 in
theorem ggX4_takeTest_X0_tellPart : GoodIn wsX4_takeTest wsX0_tellPart := goodIn_r _ [12, 13, 14, 15, 16, 17, 41, 42, 43, 44, 45, 46, 47, 48, 49, 50, 51, 52, 53, 54, 55, 56] (by decide +kernel) (by decide +kernel)
set_option maxRecDepth 20000 in
theorem gX4_takeTest_X0_tellPart : GoodIn wsX4_takeTest (wsV RX4 133 RX0 yX0_tellPart wsX0_tellPart) := goodIn_app (goodIn_of _ (by decide +kernel)) ggX4_takeTest_X0_tellPart
set_option maxRecDepth 20000 in
theorem ggX4_takeTest_X4_fail : GoodIn wsX4_takeTest wsX4_fail := goodIn_r _ [22, 23, 1, 24, 25, 26, 27, 28, 29, 30, 31, 32, 33, 34, 35, 36, 37, 38, 39, 40] (by decide +kernel) (by decide +kernel)
set_option maxRecDepth 20000 in
theorem gX4_takeTest_X4_fail : GoodIn wsX4_takeTest (wsV RX4 57 RX4 yX4_fail wsX4_fail) := goodIn_app (goodIn_of _ (by decide +kernel)) ggX4_takeTest_X4_fail
theorem dX4_takeTest_0 : decode cX4_takeTest 0 = .ok (.aload_n 0, 1) := by decide +kernel
theorem dX4_takeTest_1 : decode cX4_takeTest 1 = .ok (.getfield 14, 3) := by decide +kernel
theorem dX4_takeTest_4 : decode cX4_takeTest 4 = .ok (.getfield 54, 3) := by decide +kernel
theorem dX4_takeTest_7 : decode cX4_takeTest 7 = .ok (.bipush 46, 2) := by decide +kernel
theorem dX4_takeTest_9 : decode cX4_takeTest 9 = .ok (.if_icmp .ne 23, 3) := by decide +kernel
theorem dX4_takeTest_12 : decode cX4_takeTest 12 = .ok (.aload_n 0, 1) := by decide +kernel
theorem dX4_takeTest_13 : decode cX4_takeTest 13 = .ok (.getfield 20, 3) := by decide +kernel
theorem dX4_takeTest_16 : decode cX4_takeTest 16 = .ok (.iconst 0, 1) := by decide +kernel
theorem dX4_takeTest_17 : decode cX4_takeTest 17 = .ok (.iconst 0, 1) := by decide +kernel
theorem dX4_takeTest_18 : decode cX4_takeTest 18 = .ok (.iconst 0, 1) := by decide +kernel
theorem dX4_takeTest_19 : decode cX4_takeTest 19 = .ok (.iconst 0, 1) := by decide +kernel
theorem dX4_takeTest_20 : decode cX4_takeTest 20 = .ok (.invokevirtual 133, 3) := by decide +kernel
theorem dX4_takeTest_23 : decode cX4_takeTest 23 = .ok (.aload_n 0, 1) := by decide +kernel
theorem dX4_takeTest_24 : decode cX4_takeTest 24 = .ok (.bipush 8, 2) := by decide +kernel
theorem dX4_takeTest_26 : decode cX4_takeTest 26 = .ok (.putfield 32, 3) := by decide +kernel
theorem dX4_takeTest_29 : decode cX4_takeTest 29 = .ok (.goto 92, 3) := by decide +kernel
theorem dX4_takeTest_32 : decode cX4_takeTest 32 = .ok (.aload_n 0, 1) := by decide +kernel
theorem dX4_takeTest_33 : decode cX4_takeTest 33 = .ok (.getfield 14, 3) := by decide +kernel
theorem dX4_takeTest_36 : decode cX4_takeTest 36 = .ok (.getfield 54, 3) := by decide +kernel
theorem dX4_takeTest_39 : decode cX4_takeTest 39 = .ok (.bipush 64, 2) := by decide +kernel
theorem dX4_takeTest_41 : decode cX4_takeTest 41 = .ok (.if_icmp .eq 15, 3) := by decide +kernel
theorem dX4_takeTest_44 : decode cX4_takeTest 44 = .ok (.aload_n 0, 1) := by decide +kernel
theorem dX4_takeTest_45 : decode cX4_takeTest 45 = .ok (.getfield 14, 3) := by decide +kernel
theorem dX4_takeTest_48 : decode cX4_takeTest 48 = .ok (.getfield 54, 3) := by decide +kernel
theorem dX4_takeTest_51 : decode cX4_takeTest 51 = .ok (.bipush 33, 2) := by decide +kernel
theorem dX4_takeTest_53 : decode cX4_takeTest 53 = .ok (.if_icmp .ne 32, 3) := by decide +kernel
theorem dX4_takeTest_56 : decode cX4_takeTest 56 = .ok (.aload_n 0, 1) := by decide +kernel
theorem dX4_takeTest_57 : decode cX4_takeTest 57 = .ok (.aload_n 0, 1) := by decide +kernel
theorem dX4_takeTest_58 : decode cX4_takeTest 58 = .ok (.getfield 14, 3) := by decide +kernel
theorem dX4_takeTest_61 : decode cX4_takeTest 61 = .ok (.getfield 54, 3) := by decide +kernel
theorem dX4_takeTest_64 : decode cX4_takeTest 64 = .ok (.bipush 64, 2) := by decide +kernel
theorem dX4_takeTest_66 : decode cX4_takeTest 66 = .ok (.if_icmp .ne 7, 3) := by decide +kernel
theorem dX4_takeTest_69 : decode cX4_takeTest 69 = .ok (.iconst 1, 1) := by decide +kernel
theorem dX4_takeTest_70 : decode cX4_takeTest 70 = .ok (.goto 4, 3) := by decide +kernel
theorem dX4_takeTest_73 : decode cX4_takeTest 73 = .ok (.iconst 2, 1) := by decide +kernel
theorem dX4_takeTest_74 : decode cX4_takeTest 74 = .ok (.putfield 137, 3) := by decide +kernel
theorem dX4_takeTest_77 : decode cX4_takeTest 77 = .ok (.aload_n 0, 1) := by decide +kernel
theorem dX4_takeTest_78 : decode cX4_takeTest 78 = .ok (.iconst 5, 1) := by decide +kernel
theorem dX4_takeTest_79 : decode cX4_takeTest 79 = .ok (.putfield 32, 3) := by decide +kernel
theorem dX4_takeTest_82 : decode cX4_takeTest 82 = .ok (.goto 39, 3) := by decide +kernel
theorem dX4_takeTest_85 : decode cX4_takeTest 85 = .ok (.aload_n 0, 1) := by decide +kernel
theorem dX4_takeTest_86 : decode cX4_takeTest 86 = .ok (.getfield 14, 3) := by decide +kernel
theorem dX4_takeTest_89 : decode cX4_takeTest 89 = .ok (.getfield 54, 3) := by decide +kernel
theorem dX4_takeTest_92 : decode cX4_takeTest 92 = .ok (.iconst 3, 1) := by decide +kernel
theorem dX4_takeTest_93 : decode cX4_takeTest 93 = .ok (.if_icmp .ne 23, 3) := by decide +kernel
theorem dX4_takeTest_96 : decode cX4_takeTest 96 = .ok (.aload_n 0, 1) := by decide +kernel
theorem dX4_takeTest_97 : decode cX4_takeTest 97 = .ok (.aload_n 0, 1) := by decide +kernel
theorem dX4_takeTest_98 : decode cX4_takeTest 98 = .ok (.getfield 14, 3) := by decide +kernel
theorem dX4_takeTest_101 : decode cX4_takeTest 101 = .ok (.getfield 107, 3) := by decide +kernel
theorem dX4_takeTest_104 : decode cX4_takeTest 104 = .ok (.putfield 140, 3) := by decide +kernel
theorem dX4_takeTest_107 : decode cX4_takeTest 107 = .ok (.aload_n 0, 1) := by decide +kernel
theorem dX4_takeTest_108 : decode cX4_takeTest 108 = .ok (.bipush 6, 2) := by decide +kernel
theorem dX4_takeTest_110 : decode cX4_takeTest 110 = .ok (.putfield 32, 3) := by decide +kernel
theorem dX4_takeTest_113 : decode cX4_takeTest 113 = .ok (.goto 8, 3) := by decide +kernel
theorem dX4_takeTest_116 : decode cX4_takeTest 116 = .ok (.aload_n 0, 1) := by decide +kernel
theorem dX4_takeTest_117 : decode cX4_takeTest 117 = .ok (.iconst 2, 1) := by decide +kernel
theorem dX4_takeTest_118 : decode cX4_takeTest 118 = .ok (.invokevirtual 57, 3) := by decide +kernel
theorem dX4_takeTest_121 : decode cX4_takeTest 121 = .ok (.return_, 1) := by decide +kernel
set_option maxRecDepth 20000 in
theorem ggX4_takeReference_X0_tellPart : GoodIn wsX4_takeReference wsX0_tellPart := goodIn_r _ [12, 13, 14, 15, 16, 17, 40, 41, 42, 43, 44, 45, 46, 47, 48, 49, 50, 51, 52, 53, 54, 55] (by decide +kernel) (by decide +kernel)
set_option maxRecDepth 20000 in
theorem gX4_takeReference_X0_tellPart : GoodIn wsX4_takeReference (wsV RX4 133 RX0 yX0_tellPart wsX0_tellPart) := goodIn_app (goodIn_of _ (by decide +kernel)) ggX4_takeReference_X0_tellPart
set_option maxRecDepth 20000 in
theorem ggX4_takeReference_X4_fail : GoodIn wsX4_takeReference wsX4_fail := goodIn_r _ [22, 23, 1, 6, 24, 25, 26, 27, 28, 29, 30, 31, 32, 33, 34, 35, 36, 37, 38, 39] (by decide +kernel) (by decide +kernel)
set_option maxRecDepth 20000 in
theorem gX4_takeReference_X4_fail : GoodIn wsX4_takeReference (wsV RX4 57 RX4 yX4_fail wsX4_fail) := goodIn_app (goodIn_of _ (by decide +kernel)) ggX4_takeReference_X4_fail
theorem dX4_takeReference_0 : decode cX4_takeReference 0 = .ok (.aload_n 0, 1) := by decide +kernel
theorem dX4_takeReference_1 : decode cX4_takeReference 1 = .ok (.getfield 14, 3) := by decide +kernel
theorem dX4_takeReference_4 : decode cX4_takeReference 4 = .ok (.getfield 54, 3) := by decide +kernel
theorem dX4_takeReference_7 : decode cX4_takeReference 7 = .ok (.iconst 2, 1) := by decide +kernel
theorem dX4_takeReference_8 : decode cX4_takeReference 8 = .ok (.if_icmp .ne 38, 3) := by decide +kernel
theorem dX4_takeReference_11 : decode cX4_takeReference 11 = .ok (.aload_n 0, 1) := by decide +kernel
theorem dX4_takeReference_12 : decode cX4_takeReference 12 = .ok (.getfield 20, 3) := by decide +kernel
theorem dX4_takeReference_15 : decode cX4_takeReference 15 = .ok (.aload_n 0, 1) := by decide +kernel
theorem dX4_takeReference_16 : decode cX4_takeReference 16 = .ok (.getfield 137, 3) := by decide +kernel
theorem dX4_takeReference_19 : decode cX4_takeReference 19 = .ok (.aload_n 0, 1) := by decide +kernel
theorem dX4_takeReference_20 : decode cX4_takeReference 20 = .ok (.getfield 14, 3) := by decide +kernel
theorem dX4_takeReference_23 : decode cX4_takeReference 23 = .ok (.getfield 107, 3) := by decide +kernel
theorem dX4_takeReference_26 : decode cX4_takeReference 26 = .ok (.iconst 0, 1) := by decide +kernel
theorem dX4_takeReference_27 : decode cX4_takeReference 27 = .ok (.aload_n 0, 1) := by decide +kernel
theorem dX4_takeReference_28 : decode cX4_takeReference 28 = .ok (.getfield 14, 3) := by decide +kernel
theorem dX4_takeReference_31 : decode cX4_takeReference 31 = .ok (.getfield 67, 3) := by decide +kernel
theorem dX4_takeReference_34 : decode cX4_takeReference 34 = .ok (.invokevirtual 133, 3) := by decide +kernel
theorem dX4_takeReference_37 : decode cX4_takeReference 37 = .ok (.aload_n 0, 1) := by decide +kernel
theorem dX4_takeReference_38 : decode cX4_takeReference 38 = .ok (.bipush 8, 2) := by decide +kernel
theorem dX4_takeReference_40 : decode cX4_takeReference 40 = .ok (.putfield 32, 3) := by decide +kernel
theorem dX4_takeReference_43 : decode cX4_takeReference 43 = .ok (.goto 8, 3) := by decide +kernel
theorem dX4_takeReference_46 : decode cX4_takeReference 46 = .ok (.aload_n 0, 1) := by decide +kernel
theorem dX4_takeReference_47 : decode cX4_takeReference 47 = .ok (.iconst 2, 1) := by decide +kernel
theorem dX4_takeReference_48 : decode cX4_takeReference 48 = .ok (.invokevirtual 57, 3) := by decide +kernel
theorem dX4_takeReference_51 : decode cX4_takeReference 51 = .ok (.return_, 1) := by decide +kernel
set_option maxRecDepth 20000 in
theorem ggX4_takeLastNumber_X4_isNumberFrom : GoodIn wsX4_takeLastNumber wsX4_isNumberFrom := goodIn_r _ [11, 4, 12, 5, 13, 14, 15, 16, 10, 17, 18, 19, 30, 31, 32, 33, 34, 35, 36, 37, 38, 39, 40, 41, 42, 43, 44] (by decide +kernel) (by decide +kernel)
set_option maxRecDepth 20000 in
theorem gX4_takeLastNumber_X4_isNumberFrom : GoodIn wsX4_takeLastNumber (wsV RX4 146 RX4 yX4_isNumberFrom wsX4_isNumberFrom) := goodIn_app (goodIn_of _ (by decide +kernel)) ggX4_takeLastNumber_X4_isNumberFrom
set_option maxRecDepth 20000 in
theorem ggX4_takeLastNumber_X0_tellPart : GoodIn wsX4_takeLastNumber wsX0_tellPart := goodIn_r _ [24, 25, 26, 27, 28, 29, 45, 46, 47, 48, 49, 50, 51, 52, 53, 54, 55, 56, 57, 58, 59, 60] (by decide +kernel) (by decide +kernel)
set_option maxRecDepth 20000 in
theorem gX4_takeLastNumber_X0_tellPart : GoodIn wsX4_takeLastNumber (wsV RX4 133 RX0 yX0_tellPart wsX0_tellPart) := goodIn_app (goodIn_of _ (by decide +kernel)) ggX4_takeLastNumber_X0_tellPart
theorem dX4_takeLastNumber_0 : decode cX4_takeLastNumber 0 = .ok (.aload_n 0, 1) := by decide +kernel
theorem dX4_takeLastNumber_1 : decode cX4_takeLastNumber 1 = .ok (.aload_n 0, 1) := by decide +kernel
theorem dX4_takeLastNumber_2 : decode cX4_takeLastNumber 2 = .ok (.getfield 140, 3) := by decide +kernel
theorem dX4_takeLastNumber_5 : decode cX4_takeLastNumber 5 = .ok (.ldc 145, 2) := by decide +kernel
theorem dX4_takeLastNumber_7 : decode cX4_takeLastNumber 7 = .ok (.invokevirtual 146, 3) := by decide +kernel
theorem dX4_takeLastNumber_10 : decode cX4_takeLastNumber 10 = .ok (.ifCond .eq 29, 3) := by decide +kernel
theorem dX4_takeLastNumber_13 : decode cX4_takeLastNumber 13 = .ok (.aload_n 0, 1) := by decide +kernel
theorem dX4_takeLastNumber_14 : decode cX4_takeLastNumber 14 = .ok (.getfield 20, 3) := by decide +kernel
theorem dX4_takeLastNumber_17 : decode cX4_takeLastNumber 17 = .ok (.iconst 3, 1) := by decide +kernel
theorem dX4_takeLastNumber_18 : decode cX4_takeLastNumber 18 = .ok (.aload_n 0, 1) := by decide +kernel
theorem dX4_takeLastNumber_19 : decode cX4_takeLastNumber 19 = .ok (.getfield 140, 3) := by decide +kernel
theorem dX4_takeLastNumber_22 : decode cX4_takeLastNumber 22 = .ok (.aload_n 0, 1) := by decide +kernel
theorem dX4_takeLastNumber_23 : decode cX4_takeLastNumber 23 = .ok (.getfield 14, 3) := by decide +kernel
theorem dX4_takeLastNumber_26 : decode cX4_takeLastNumber 26 = .ok (.getfield 107, 3) := by decide +kernel
theorem dX4_takeLastNumber_29 : decode cX4_takeLastNumber 29 = .ok (.iconst 0, 1) := by decide +kernel
theorem dX4_takeLastNumber_30 : decode cX4_takeLastNumber 30 = .ok (.invokevirtual 133, 3) := by decide +kernel
theorem dX4_takeLastNumber_33 : decode cX4_takeLastNumber 33 = .ok (.aload_n 0, 1) := by decide +kernel
theorem dX4_takeLastNumber_34 : decode cX4_takeLastNumber 34 = .ok (.bipush 8, 2) := by decide +kernel
theorem dX4_takeLastNumber_36 : decode cX4_takeLastNumber 36 = .ok (.putfield 32, 3) := by decide +kernel
theorem dX4_takeLastNumber_39 : decode cX4_takeLastNumber 39 = .ok (.return_, 1) := by decide +kernel
set_option maxRecDepth 20000 in
theorem ggX4_takeBehindOne_X4_takeBehindItem : GoodIn wsX4_takeBehindOne wsX4_takeBehindItem := goodIn_r _ [8, 1, 2, 9, 10, 3, 11, 12, 13, 14, 7, 15, 16, 17, 18, 19, 20, 21, 22, 23, 24, 25, 26, 27, 28, 29, 30, 31, 32, 33, 34, 35, 36, 37, 38, 39, 40, 41, 42, 43, 44, 45, 46, 47, 48, 49, 50, 51, 52, 53, 54, 55, 56, 57, 58, 59, 60, 61, 62, 63, 64, 65, 66, 67, 68, 69, 70, 71, 72, 73, 74, 75, 76, 77, 78, 79, 80, 81, 82, 83, 84] (by decide +kernel) (by decide +kernel)
set_option maxRecDepth 20000 in
theorem gX4_takeBehindOne_X4_takeBehindItem : GoodIn wsX4_takeBehindOne (wsV RX4 101 RX4 yX4_takeBehindItem wsX4_takeBehindItem) := goodIn_app (goodIn_of _ (by decide +kernel)) ggX4_takeBehindOne_X4_takeBehindItem
theorem dX4_takeBehindOne_0 : decode cX4_takeBehindOne 0 = .ok (.aload_n 0, 1) := by decide +kernel
theorem dX4_takeBehindOne_1 : decode cX4_takeBehindOne 1 = .ok (.getfield 14, 3) := by decide +kernel
theorem dX4_takeBehindOne_4 : decode cX4_takeBehindOne 4 = .ok (.getfield 54, 3) := by decide +kernel
theorem dX4_takeBehindOne_7 : decode cX4_takeBehindOne 7 = .ok (.bipush 91, 2) := by decide +kernel
theorem dX4_takeBehindOne_9 : decode cX4_takeBehindOne 9 = .ok (.if_icmp .ne 12, 3) := by decide +kernel
theorem dX4_takeBehindOne_12 : decode cX4_takeBehindOne 12 = .ok (.aload_n 0, 1) := by decide +kernel
theorem dX4_takeBehindOne_13 : decode cX4_takeBehindOne 13 = .ok (.bipush 9, 2) := by decide +kernel
theorem dX4_takeBehindOne_15 : decode cX4_takeBehindOne 15 = .ok (.putfield 32, 3) := by decide +kernel
theorem dX4_takeBehindOne_18 : decode cX4_takeBehindOne 18 = .ok (.goto 7, 3) := by decide +kernel
theorem dX4_takeBehindOne_21 : decode cX4_takeBehindOne 21 = .ok (.aload_n 0, 1) := by decide +kernel
theorem dX4_takeBehindOne_22 : decode cX4_takeBehindOne 22 = .ok (.invokevirtual 101, 3) := by decide +kernel
theorem dX4_takeBehindOne_25 : decode cX4_takeBehindOne 25 = .ok (.return_, 1) := by decide +kernel
set_option maxRecDepth 20000 in
theorem ggX4_takeLeast_X4_isNumberFrom : GoodIn wsX4_takeLeast wsX4_isNumberFrom := goodIn_r _ [9, 1, 10, 2, 11, 12, 13, 14, 8, 15, 16, 17, 18, 19, 20, 21, 22, 23, 24, 25, 26, 27, 28, 29, 30, 31, 32] (by decide +kernel) (by decide +kernel)
set_option maxRecDepth 20000 in
theorem gX4_takeLeast_X4_isNumberFrom : GoodIn wsX4_takeLeast (wsV RX4 146 RX4 yX4_isNumberFrom wsX4_isNumberFrom) := goodIn_app (goodIn_of _ (by decide +kernel)) ggX4_takeLeast_X4_isNumberFrom
theorem dX4_takeLeast_0 : decode cX4_takeLeast 0 = .ok (.aload_n 0, 1) := by decide +kernel
theorem dX4_takeLeast_1 : decode cX4_takeLeast 1 = .ok (.iconst 0, 1) := by decide +kernel
theorem dX4_takeLeast_2 : decode cX4_takeLeast 2 = .ok (.iconst 5, 1) := by decide +kernel
theorem dX4_takeLeast_3 : decode cX4_takeLeast 3 = .ok (.invokevirtual 146, 3) := by decide +kernel
theorem dX4_takeLeast_6 : decode cX4_takeLeast 6 = .ok (.ifCond .eq 20, 3) := by decide +kernel
theorem dX4_takeLeast_9 : decode cX4_takeLeast 9 = .ok (.aload_n 0, 1) := by decide +kernel
theorem dX4_takeLeast_10 : decode cX4_takeLeast 10 = .ok (.aload_n 0, 1) := by decide +kernel
theorem dX4_takeLeast_11 : decode cX4_takeLeast 11 = .ok (.getfield 14, 3) := by decide +kernel
theorem dX4_takeLeast_14 : decode cX4_takeLeast 14 = .ok (.getfield 107, 3) := by decide +kernel
theorem dX4_takeLeast_17 : decode cX4_takeLeast 17 = .ok (.putfield 140, 3) := by decide +kernel
theorem dX4_takeLeast_20 : decode cX4_takeLeast 20 = .ok (.aload_n 0, 1) := by decide +kernel
theorem dX4_takeLeast_21 : decode cX4_takeLeast 21 = .ok (.bipush 10, 2) := by decide +kernel
theorem dX4_takeLeast_23 : decode cX4_takeLeast 23 = .ok (.putfield 32, 3) := by decide +kernel
theorem dX4_takeLeast_26 : decode cX4_takeLeast 26 = .ok (.return_, 1) := by decide +kernel
set_option maxRecDepth 20000 in
theorem ggX4_takeMost_X4_isNumberFrom : GoodIn wsX4_takeMost wsX4_isNumberFrom := goodIn_r _ [10, 3, 11, 4, 12, 13, 14, 15, 9, 16, 17, 18, 32, 33, 34, 35, 36, 37, 38, 39, 40, 41, 42, 43, 44, 45, 46] (by decide +kernel) (by decide +kernel)
set_option maxRecDepth 20000 in
theorem gX4_takeMost_X4_isNumberFrom : GoodIn wsX4_takeMost (wsV RX4 146 RX4 yX4_isNumberFrom wsX4_isNumberFrom) := goodIn_app (goodIn_of _ (by decide +kernel)) ggX4_takeMost_X4_isNumberFrom
set_option maxRecDepth 20000 in
theorem ggX4_takeMost_X0_addStep : GoodIn wsX4_takeMost wsX0_addStep := goodIn_r _ [23, 24, 25, 26, 27, 28, 29, 30, 22, 31, 47, 48, 49, 50, 51, 52, 53, 54, 55, 56, 57, 58, 59, 60, 61, 62] (by decide +kernel) (by decide +kernel)
set_option maxRecDepth 20000 in
theorem gX4_takeMost_X0_addStep : GoodIn wsX4_takeMost (wsV RX4 150 RX0 yX0_addStep wsX0_addStep) := goodIn_app (goodIn_of _ (by decide +kernel)) ggX4_takeMost_X0_addStep
theorem dX4_takeMost_0 : decode cX4_takeMost 0 = .ok (.aload_n 0, 1) := by decide +kernel
theorem dX4_takeMost_1 : decode cX4_takeMost 1 = .ok (.aload_n 0, 1) := by decide +kernel
theorem dX4_takeMost_2 : decode cX4_takeMost 2 = .ok (.getfield 140, 3) := by decide +kernel
theorem dX4_takeMost_5 : decode cX4_takeMost 5 = .ok (.iconst 5, 1) := by decide +kernel
theorem dX4_takeMost_6 : decode cX4_takeMost 6 = .ok (.invokevirtual 146, 3) := by decide +kernel
theorem dX4_takeMost_9 : decode cX4_takeMost 9 = .ok (.ifCond .eq 32, 3) := by decide +kernel
theorem dX4_takeMost_12 : decode cX4_takeMost 12 = .ok (.aload_n 0, 1) := by decide +kernel
theorem dX4_takeMost_13 : decode cX4_takeMost 13 = .ok (.getfield 20, 3) := by decide +kernel
theorem dX4_takeMost_16 : decode cX4_takeMost 16 = .ok (.iconst 1, 1) := by decide +kernel
theorem dX4_takeMost_17 : decode cX4_takeMost 17 = .ok (.aload_n 0, 1) := by decide +kernel
theorem dX4_takeMost_18 : decode cX4_takeMost 18 = .ok (.getfield 140, 3) := by decide +kernel
theorem dX4_takeMost_21 : decode cX4_takeMost 21 = .ok (.bipush 8, 2) := by decide +kernel
theorem dX4_takeMost_23 : decode cX4_takeMost 23 = .ok (.imul, 1) := by decide +kernel
theorem dX4_takeMost_24 : decode cX4_takeMost 24 = .ok (.aload_n 0, 1) := by decide +kernel
theorem dX4_takeMost_25 : decode cX4_takeMost 25 = .ok (.getfield 14, 3) := by decide +kernel
theorem dX4_takeMost_28 : decode cX4_takeMost 28 = .ok (.getfield 107, 3) := by decide +kernel
theorem dX4_takeMost_31 : decode cX4_takeMost 31 = .ok (.iadd, 1) := by decide +kernel
theorem dX4_takeMost_32 : decode cX4_takeMost 32 = .ok (.invokevirtual 150, 3) := by decide +kernel
theorem dX4_takeMost_35 : decode cX4_takeMost 35 = .ok (.aload_n 0, 1) := by decide +kernel
theorem dX4_takeMost_36 : decode cX4_takeMost 36 = .ok (.bipush 11, 2) := by decide +kernel
theorem dX4_takeMost_38 : decode cX4_takeMost 38 = .ok (.putfield 32, 3) := by decide +kernel
theorem dX4_takeMost_41 : decode cX4_takeMost 41 = .ok (.return_, 1) := by decide +kernel
set_option maxRecDepth 20000 in
theorem ggX4_isNumberFrom_X4_fail : GoodIn wsX4_isNumberFrom wsX4_fail := goodIn_r _ [9, 4, 1, 10, 11, 12, 13, 14, 15, 16, 17, 18, 19, 20, 21, 22, 23, 24, 25, 26] (by decide +kernel) (by decide +kernel)
set_option maxRecDepth 20000 in
theorem gX4_isNumberFrom_X4_fail : GoodIn wsX4_isNumberFrom (wsV RX4 57 RX4 yX4_fail wsX4_fail) := goodIn_app (goodIn_of _ (by decide +kernel)) ggX4_isNumberFrom_X4_fail
theorem dX4_isNumberFrom_0 : decode cX4_isNumberFrom 0 = .ok (.aload_n 0, 1) := by decide +kernel
theorem dX4_isNumberFrom_1 : decode cX4_isNumberFrom 1 = .ok (.getfield 14, 3) := by decide +kernel
theorem dX4_isNumberFrom_4 : decode cX4_isNumberFrom 4 = .ok (.getfield 54, 3) := by decide +kernel
theorem dX4_isNumberFrom_7 : decode cX4_isNumberFrom 7 = .ok (.iconst 3, 1) := by decide +kernel
theorem dX4_isNumberFrom_8 : decode cX4_isNumberFrom 8 = .ok (.if_icmp .eq 11, 3) := by decide +kernel
theorem dX4_isNumberFrom_11 : decode cX4_isNumberFrom 11 = .ok (.aload_n 0, 1) := by decide +kernel
theorem dX4_isNumberFrom_12 : decode cX4_isNumberFrom 12 = .ok (.iconst 2, 1) := by decide +kernel
theorem dX4_isNumberFrom_13 : decode cX4_isNumberFrom 13 = .ok (.invokevirtual 57, 3) := by decide +kernel
theorem dX4_isNumberFrom_16 : decode cX4_isNumberFrom 16 = .ok (.goto 30, 3) := by decide +kernel
theorem dX4_isNumberFrom_19 : decode cX4_isNumberFrom 19 = .ok (.aload_n 0, 1) := by decide +kernel
theorem dX4_isNumberFrom_20 : decode cX4_isNumberFrom 20 = .ok (.getfield 14, 3) := by decide +kernel
theorem dX4_isNumberFrom_23 : decode cX4_isNumberFrom 23 = .ok (.getfield 107, 3) := by decide +kernel
theorem dX4_isNumberFrom_26 : decode cX4_isNumberFrom 26 = .ok (.iload_n 1, 1) := by decide +kernel
theorem dX4_isNumberFrom_27 : decode cX4_isNumberFrom 27 = .ok (.if_icmp .lt 14, 3) := by decide +kernel
theorem dX4_isNumberFrom_30 : decode cX4_isNumberFrom 30 = .ok (.aload_n 0, 1) := by decide +kernel
theorem dX4_isNumberFrom_31 : decode cX4_isNumberFrom 31 = .ok (.getfield 14, 3) := by decide +kernel
theorem dX4_isNumberFrom_34 : decode cX4_isNumberFrom 34 = .ok (.getfield 107, 3) := by decide +kernel
theorem dX4_isNumberFrom_37 : decode cX4_isNumberFrom 37 = .ok (.iload_n 2, 1) := by decide +kernel
theorem dX4_isNumberFrom_38 : decode cX4_isNumberFrom 38 = .ok (.if_icmp .le 8, 3) := by decide +kernel
theorem dX4_isNumberFrom_41 : decode cX4_isNumberFrom 41 = .ok (.aload_n 0, 1) := by decide +kernel
theorem dX4_isNumberFrom_42 : decode cX4_isNumberFrom 42 = .ok (.iconst 3, 1) := by decide +kernel
theorem dX4_isNumberFrom_43 : decode cX4_isNumberFrom 43 = .ok (.invokevirtual 57, 3) := by decide +kernel
theorem dX4_isNumberFrom_46 : decode cX4_isNumberFrom 46 = .ok (.aload_n 0, 1) := by decide +kernel
theorem dX4_isNumberFrom_47 : decode cX4_isNumberFrom 47 = .ok (.getfield 45, 3) := by decide +kernel
theorem dX4_isNumberFrom_50 : decode cX4_isNumberFrom 50 = .ok (.ifCond .ne 7, 3) := by decide +kernel
theorem dX4_isNumberFrom_53 : decode cX4_isNumberFrom 53 = .ok (.iconst 1, 1) := by decide +kernel
theorem dX4_isNumberFrom_54 : decode cX4_isNumberFrom 54 = .ok (.goto 4, 3) := by decide +kernel
theorem dX4_isNumberFrom_57 : decode cX4_isNumberFrom 57 = .ok (.iconst 0, 1) := by decide +kernel
theorem dX4_isNumberFrom_58 : decode cX4_isNumberFrom 58 = .ok (.ireturn, 1) := by decide +kernel
set_option maxRecDepth 20000 in
theorem ggX4_takeBehindItem_X4_fail : GoodIn wsX4_takeBehindItem wsX4_fail := goodIn_r _ [11, 12, 1, 13, 14, 50, 51, 52, 53, 54, 55, 56, 57, 58, 59, 60, 61, 62, 63, 64] (by decide +kernel) (by decide +kernel)
set_option maxRecDepth 20000 in
theorem gX4_takeBehindItem_X4_fail : GoodIn wsX4_takeBehindItem (wsV RX4 57 RX4 yX4_fail wsX4_fail) := goodIn_app (goodIn_of _ (by decide +kernel)) ggX4_takeBehindItem_X4_fail
set_option maxRecDepth 20000 in
theorem ggX4_takeBehindItem_X4_settleComma : GoodIn wsX4_takeBehindItem wsX4_settleComma := goodIn_r _ [18, 4, 3, 19, 20, 21, 22, 23, 24, 25, 26, 27, 28, 29, 30, 31, 32, 50, 51, 52, 53, 54, 55, 56, 57, 58, 59, 65, 66, 67, 68, 69, 70, 71, 72, 73, 74, 75, 76, 77, 78, 79, 80] (by decide +kernel) (by decide +kernel)
set_option maxRecDepth 20000 in
theorem gX4_takeBehindItem_X4_settleComma : GoodIn wsX4_takeBehindItem (wsV RX4 153 RX4 yX4_settleComma wsX4_settleComma) := goodIn_app (goodIn_of _ (by decide +kernel)) ggX4_takeBehindItem_X4_settleComma
set_option maxRecDepth 20000 in
theorem ggX4_takeBehindItem_X4_settleBar : GoodIn wsX4_takeBehindItem wsX4_settleBar := goodIn_r _ [36, 6, 3, 19, 20, 21, 22, 23, 24, 25, 26, 27, 28, 29, 30, 31, 32, 50, 51, 52, 53, 54, 55, 56, 57, 58, 59, 65, 66, 67, 68, 69, 70, 71, 72, 73, 74, 75, 76, 77, 78, 79, 80] (by decide +kernel) (by decide +kernel)
set_option maxRecDepth 20000 in
theorem gX4_takeBehindItem_X4_settleBar : GoodIn wsX4_takeBehindItem (wsV RX4 156 RX4 yX4_settleBar wsX4_settleBar) := goodIn_app (goodIn_of _ (by decide +kernel)) ggX4_takeBehindItem_X4_settleBar
set_option maxRecDepth 20000 in
theorem ggX4_takeBehindItem_X4_takeShapeEnd : GoodIn wsX4_takeBehindItem wsX4_takeShapeEnd := goodIn_r _ [40, 1, 2, 19, 5, 41, 42, 43, 23, 44, 27, 45, 29, 30, 31, 32, 46, 47, 48, 10, 49, 7, 8, 9, 11, 12, 13, 14, 50, 51, 52, 53, 54, 55, 56, 57, 58, 59, 60, 61, 62, 63, 64, 65, 66, 67, 68, 69, 70, 71, 72, 73, 74, 75, 76, 77, 78, 79, 80] (by decide +kernel) (by decide +kernel)
set_option maxRecDepth 20000 in
theorem gX4_takeBehindItem_X4_takeShapeEnd : GoodIn wsX4_takeBehindItem (wsV RX4 117 RX4 yX4_takeShapeEnd wsX4_takeShapeEnd) := goodIn_app (goodIn_of _ (by decide +kernel)) ggX4_takeBehindItem_X4_takeShapeEnd
theorem dX4_takeBehindItem_0 : decode cX4_takeBehindItem 0 = .ok (.aload_n 0, 1) := by decide +kernel
theorem dX4_takeBehindItem_1 : decode cX4_takeBehindItem 1 = .ok (.getfield 14, 3) := by decide +kernel
theorem dX4_takeBehindItem_4 : decode cX4_takeBehindItem 4 = .ok (.getfield 54, 3) := by decide +kernel
theorem dX4_takeBehindItem_7 : decode cX4_takeBehindItem 7 = .ok (.istore_n 1, 1) := by decide +kernel
theorem dX4_takeBehindItem_8 : decode cX4_takeBehindItem 8 = .ok (.aload_n 0, 1) := by decide +kernel
theorem dX4_takeBehindItem_9 : decode cX4_takeBehindItem 9 = .ok (.getfield 36, 3) := by decide +kernel
theorem dX4_takeBehindItem_12 : decode cX4_takeBehindItem 12 = .ok (.ifCond .le 17, 3) := by decide +kernel
theorem dX4_takeBehindItem_15 : decode cX4_takeBehindItem 15 = .ok (.iload_n 1, 1) := by decide +kernel
theorem dX4_takeBehindItem_16 : decode cX4_takeBehindItem 16 = .ok (.bipush 41, 2) := by decide +kernel
theorem dX4_takeBehindItem_18 : decode cX4_takeBehindItem 18 = .ok (.if_icmp .ne 7, 3) := by decide +kernel
theorem dX4_takeBehindItem_21 : decode cX4_takeBehindItem 21 = .ok (.iconst 1, 1) := by decide +kernel
theorem dX4_takeBehindItem_22 : decode cX4_takeBehindItem 22 = .ok (.goto 23, 3) := by decide +kernel
theorem dX4_takeBehindItem_25 : decode cX4_takeBehindItem 25 = .ok (.iconst 0, 1) := by decide +kernel
theorem dX4_takeBehindItem_26 : decode cX4_takeBehindItem 26 = .ok (.goto 19, 3) := by decide +kernel
theorem dX4_takeBehindItem_29 : decode cX4_takeBehindItem 29 = .ok (.iload_n 1, 1) := by decide +kernel
theorem dX4_takeBehindItem_30 : decode cX4_takeBehindItem 30 = .ok (.bipush 59, 2) := by decide +kernel
theorem dX4_takeBehindItem_32 : decode cX4_takeBehindItem 32 = .ok (.if_icmp .eq 8, 3) := by decide +kernel
theorem dX4_takeBehindItem_35 : decode cX4_takeBehindItem 35 = .ok (.iload_n 1, 1) := by decide +kernel
theorem dX4_takeBehindItem_36 : decode cX4_takeBehindItem 36 = .ok (.iconst 4, 1) := by decide +kernel
theorem dX4_takeBehindItem_37 : decode cX4_takeBehindItem 37 = .ok (.if_icmp .ne 7, 3) := by decide +kernel
theorem dX4_takeBehindItem_40 : decode cX4_takeBehindItem 40 = .ok (.iconst 1, 1) := by decide +kernel
theorem dX4_takeBehindItem_41 : decode cX4_takeBehindItem 41 = .ok (.goto 4, 3) := by decide +kernel
theorem dX4_takeBehindItem_44 : decode cX4_takeBehindItem 44 = .ok (.iconst 0, 1) := by decide +kernel
theorem dX4_takeBehindItem_45 : decode cX4_takeBehindItem 45 = .ok (.istore_n 2, 1) := by decide +kernel
theorem dX4_takeBehindItem_46 : decode cX4_takeBehindItem 46 = .ok (.iload_n 1, 1) := by decide +kernel
theorem dX4_takeBehindItem_47 : decode cX4_takeBehindItem 47 = .ok (.bipush 44, 2) := by decide +kernel
theorem dX4_takeBehindItem_49 : decode cX4_takeBehindItem 49 = .ok (.if_icmp .eq 19, 3) := by decide +kernel
theorem dX4_takeBehindItem_52 : decode cX4_takeBehindItem 52 = .ok (.iload_n 1, 1) := by decide +kernel
theorem dX4_takeBehindItem_53 : decode cX4_takeBehindItem 53 = .ok (.bipush 124, 2) := by decide +kernel
theorem dX4_takeBehindItem_55 : decode cX4_takeBehindItem 55 = .ok (.if_icmp .eq 13, 3) := by decide +kernel
theorem dX4_takeBehindItem_58 : decode cX4_takeBehindItem 58 = .ok (.iload_n 2, 1) := by decide +kernel
theorem dX4_takeBehindItem_59 : decode cX4_takeBehindItem 59 = .ok (.ifCond .ne 9, 3) := by decide +kernel
theorem dX4_takeBehindItem_62 : decode cX4_takeBehindItem 62 = .ok (.aload_n 0, 1) := by decide +kernel
theorem dX4_takeBehindItem_63 : decode cX4_takeBehindItem 63 = .ok (.iconst 2, 1) := by decide +kernel
theorem dX4_takeBehindItem_64 : decode cX4_takeBehindItem 64 = .ok (.invokevirtual 57, 3) := by decide +kernel
theorem dX4_takeBehindItem_67 : decode cX4_takeBehindItem 67 = .ok (.return_, 1) := by decide +kernel
theorem dX4_takeBehindItem_68 : decode cX4_takeBehindItem 68 = .ok (.aload_n 0, 1) := by decide +kernel
theorem dX4_takeBehindItem_69 : decode cX4_takeBehindItem 69 = .ok (.invokevirtual 153, 3) := by decide +kernel
theorem dX4_takeBehindItem_72 : decode cX4_takeBehindItem 72 = .ok (.iload_n 1, 1) := by decide +kernel
theorem dX4_takeBehindItem_73 : decode cX4_takeBehindItem 73 = .ok (.bipush 44, 2) := by decide +kernel
theorem dX4_takeBehindItem_75 : decode cX4_takeBehindItem 75 = .ok (.if_icmp .ne 24, 3) := by decide +kernel
theorem dX4_takeBehindItem_78 : decode cX4_takeBehindItem 78 = .ok (.aload_n 0, 1) := by decide +kernel
theorem dX4_takeBehindItem_79 : decode cX4_takeBehindItem 79 = .ok (.dup, 1) := by decide +kernel
theorem dX4_takeBehindItem_80 : decode cX4_takeBehindItem 80 = .ok (.getfield 39, 3) := by decide +kernel
theorem dX4_takeBehindItem_83 : decode cX4_takeBehindItem 83 = .ok (.iconst 1, 1) := by decide +kernel
theorem dX4_takeBehindItem_84 : decode cX4_takeBehindItem 84 = .ok (.aload_n 0, 1) := by decide +kernel
theorem dX4_takeBehindItem_85 : decode cX4_takeBehindItem 85 = .ok (.getfield 36, 3) := by decide +kernel
theorem dX4_takeBehindItem_88 : decode cX4_takeBehindItem 88 = .ok (.ishl, 1) := by decide +kernel
theorem dX4_takeBehindItem_89 : decode cX4_takeBehindItem 89 = .ok (.ior, 1) := by decide +kernel
theorem dX4_takeBehindItem_90 : decode cX4_takeBehindItem 90 = .ok (.putfield 39, 3) := by decide +kernel
theorem dX4_takeBehindItem_93 : decode cX4_takeBehindItem 93 = .ok (.aload_n 0, 1) := by decide +kernel
theorem dX4_takeBehindItem_94 : decode cX4_takeBehindItem 94 = .ok (.iconst 3, 1) := by decide +kernel
theorem dX4_takeBehindItem_95 : decode cX4_takeBehindItem 95 = .ok (.putfield 32, 3) := by decide +kernel
theorem dX4_takeBehindItem_98 : decode cX4_takeBehindItem 98 = .ok (.return_, 1) := by decide +kernel
theorem dX4_takeBehindItem_99 : decode cX4_takeBehindItem 99 = .ok (.aload_n 0, 1) := by decide +kernel
theorem dX4_takeBehindItem_100 : decode cX4_takeBehindItem 100 = .ok (.invokevirtual 156, 3) := by decide +kernel
theorem dX4_takeBehindItem_103 : decode cX4_takeBehindItem 103 = .ok (.iload_n 1, 1) := by decide +kernel
theorem dX4_takeBehindItem_104 : decode cX4_takeBehindItem 104 = .ok (.bipush 124, 2) := by decide +kernel
theorem dX4_takeBehindItem_106 : decode cX4_takeBehindItem 106 = .ok (.if_icmp .ne 26, 3) := by decide +kernel
theorem dX4_takeBehindItem_109 : decode cX4_takeBehindItem 109 = .ok (.aload_n 0, 1) := by decide +kernel
theorem dX4_takeBehindItem_110 : decode cX4_takeBehindItem 110 = .ok (.dup, 1) := by decide +kernel
theorem dX4_takeBehindItem_111 : decode cX4_takeBehindItem 111 = .ok (.getfield 42, 3) := by decide +kernel
theorem dX4_takeBehindItem_114 : decode cX4_takeBehindItem 114 = .ok (.iconst 1, 1) := by decide +kernel
theorem dX4_takeBehindItem_115 : decode cX4_takeBehindItem 115 = .ok (.aload_n 0, 1) := by decide +kernel
theorem dX4_takeBehindItem_116 : decode cX4_takeBehindItem 116 = .ok (.getfield 36, 3) := by decide +kernel
theorem dX4_takeBehindItem_119 : decode cX4_takeBehindItem 119 = .ok (.ishl, 1) := by decide +kernel
theorem dX4_takeBehindItem_120 : decode cX4_takeBehindItem 120 = .ok (.ior, 1) := by decide +kernel
theorem dX4_takeBehindItem_121 : decode cX4_takeBehindItem 121 = .ok (.putfield 42, 3) := by decide +kernel
theorem dX4_takeBehindItem_124 : decode cX4_takeBehindItem 124 = .ok (.aload_n 0, 1) := by decide +kernel
theorem dX4_takeBehindItem_125 : decode cX4_takeBehindItem 125 = .ok (.iconst 3, 1) := by decide +kernel
theorem dX4_takeBehindItem_126 : decode cX4_takeBehindItem 126 = .ok (.putfield 32, 3) := by decide +kernel
theorem dX4_takeBehindItem_129 : decode cX4_takeBehindItem 129 = .ok (.goto 32, 3) := by decide +kernel
theorem dX4_takeBehindItem_132 : decode cX4_takeBehindItem 132 = .ok (.iload_n 1, 1) := by decide +kernel
theorem dX4_takeBehindItem_133 : decode cX4_takeBehindItem 133 = .ok (.bipush 41, 2) := by decide +kernel
theorem dX4_takeBehindItem_135 : decode cX4_takeBehindItem 135 = .ok (.if_icmp .ne 22, 3) := by decide +kernel
theorem dX4_takeBehindItem_138 : decode cX4_takeBehindItem 138 = .ok (.aload_n 0, 1) := by decide +kernel
theorem dX4_takeBehindItem_139 : decode cX4_takeBehindItem 139 = .ok (.dup, 1) := by decide +kernel
theorem dX4_takeBehindItem_140 : decode cX4_takeBehindItem 140 = .ok (.getfield 36, 3) := by decide +kernel
theorem dX4_takeBehindItem_143 : decode cX4_takeBehindItem 143 = .ok (.iconst 1, 1) := by decide +kernel
theorem dX4_takeBehindItem_144 : decode cX4_takeBehindItem 144 = .ok (.isub, 1) := by decide +kernel
theorem dX4_takeBehindItem_145 : decode cX4_takeBehindItem 145 = .ok (.putfield 36, 3) := by decide +kernel
theorem dX4_takeBehindItem_148 : decode cX4_takeBehindItem 148 = .ok (.aload_n 0, 1) := by decide +kernel
theorem dX4_takeBehindItem_149 : decode cX4_takeBehindItem 149 = .ok (.bipush 8, 2) := by decide +kernel
theorem dX4_takeBehindItem_151 : decode cX4_takeBehindItem 151 = .ok (.putfield 32, 3) := by decide +kernel
theorem dX4_takeBehindItem_154 : decode cX4_takeBehindItem 154 = .ok (.goto 7, 3) := by decide +kernel
theorem dX4_takeBehindItem_157 : decode cX4_takeBehindItem 157 = .ok (.aload_n 0, 1) := by decide +kernel
theorem dX4_takeBehindItem_158 : decode cX4_takeBehindItem 158 = .ok (.invokevirtual 117, 3) := by decide +kernel
theorem dX4_takeBehindItem_161 : decode cX4_takeBehindItem 161 = .ok (.return_, 1) := by decide +kernel
set_option maxRecDepth 20000 in
theorem ggX4_settleComma_X0_addStep : GoodIn wsX4_settleComma wsX0_addStep := goodIn_r _ [8, 9, 10, 11, 12, 13, 14, 15, 7, 16, 27, 28, 29, 30, 31, 32, 33, 34, 35, 36, 37, 38, 39, 40, 41, 42] (by decide +kernel) (by decide +kernel)
set_option maxRecDepth 20000 in
theorem gX4_settleComma_X0_addStep : GoodIn wsX4_settleComma (wsV RX4 150 RX0 yX0_addStep wsX0_addStep) := goodIn_app (goodIn_of _ (by decide +kernel)) ggX4_settleComma_X0_addStep
theorem dX4_settleComma_0 : decode cX4_settleComma 0 = .ok (.aload_n 0, 1) := by decide +kernel
theorem dX4_settleComma_1 : decode cX4_settleComma 1 = .ok (.getfield 39, 3) := by decide +kernel
theorem dX4_settleComma_4 : decode cX4_settleComma 4 = .ok (.aload_n 0, 1) := by decide +kernel
theorem dX4_settleComma_5 : decode cX4_settleComma 5 = .ok (.getfield 36, 3) := by decide +kernel
theorem dX4_settleComma_8 : decode cX4_settleComma 8 = .ok (.ishr, 1) := by decide +kernel
theorem dX4_settleComma_9 : decode cX4_settleComma 9 = .ok (.iconst 1, 1) := by decide +kernel
theorem dX4_settleComma_10 : decode cX4_settleComma 10 = .ok (.iand, 1) := by decide +kernel
theorem dX4_settleComma_11 : decode cX4_settleComma 11 = .ok (.ifCond .eq 29, 3) := by decide +kernel
theorem dX4_settleComma_14 : decode cX4_settleComma 14 = .ok (.aload_n 0, 1) := by decide +kernel
theorem dX4_settleComma_15 : decode cX4_settleComma 15 = .ok (.getfield 20, 3) := by decide +kernel
theorem dX4_settleComma_18 : decode cX4_settleComma 18 = .ok (.iconst 2, 1) := by decide +kernel
theorem dX4_settleComma_19 : decode cX4_settleComma 19 = .ok (.iconst 0, 1) := by decide +kernel
theorem dX4_settleComma_20 : decode cX4_settleComma 20 = .ok (.invokevirtual 150, 3) := by decide +kernel
theorem dX4_settleComma_23 : decode cX4_settleComma 23 = .ok (.aload_n 0, 1) := by decide +kernel
theorem dX4_settleComma_24 : decode cX4_settleComma 24 = .ok (.dup, 1) := by decide +kernel
theorem dX4_settleComma_25 : decode cX4_settleComma 25 = .ok (.getfield 39, 3) := by decide +kernel
theorem dX4_settleComma_28 : decode cX4_settleComma 28 = .ok (.iconst 1, 1) := by decide +kernel
theorem dX4_settleComma_29 : decode cX4_settleComma 29 = .ok (.aload_n 0, 1) := by decide +kernel
theorem dX4_settleComma_30 : decode cX4_settleComma 30 = .ok (.getfield 36, 3) := by decide +kernel
theorem dX4_settleComma_33 : decode cX4_settleComma 33 = .ok (.ishl, 1) := by decide +kernel
theorem dX4_settleComma_34 : decode cX4_settleComma 34 = .ok (.iconst (-1), 1) := by decide +kernel
theorem dX4_settleComma_35 : decode cX4_settleComma 35 = .ok (.ixor, 1) := by decide +kernel
theorem dX4_settleComma_36 : decode cX4_settleComma 36 = .ok (.iand, 1) := by decide +kernel
theorem dX4_settleComma_37 : decode cX4_settleComma 37 = .ok (.putfield 39, 3) := by decide +kernel
theorem dX4_settleComma_40 : decode cX4_settleComma 40 = .ok (.return_, 1) := by decide +kernel
set_option maxRecDepth 20000 in
theorem ggX4_settleBar_X0_addStep : GoodIn wsX4_settleBar wsX0_addStep := goodIn_r _ [8, 9, 10, 11, 12, 13, 14, 15, 7, 16, 27, 28, 29, 30, 31, 32, 33, 34, 35, 36, 37, 38, 39, 40, 41, 42] (by decide +kernel) (by decide +kernel)
set_option maxRecDepth 20000 in
theorem gX4_settleBar_X0_addStep : GoodIn wsX4_settleBar (wsV RX4 150 RX0 yX0_addStep wsX0_addStep) := goodIn_app (goodIn_of _ (by decide +kernel)) ggX4_settleBar_X0_addStep
theorem dX4_settleBar_0 : decode cX4_settleBar 0 = .ok (.aload_n 0, 1) := by decide +kernel
theorem dX4_settleBar_1 : decode cX4_settleBar 1 = .ok (.getfield 42, 3) := by decide +kernel
theorem dX4_settleBar_4 : decode cX4_settleBar 4 = .ok (.aload_n 0, 1) := by decide +kernel
theorem dX4_settleBar_5 : decode cX4_settleBar 5 = .ok (.getfield 36, 3) := by decide +kernel
theorem dX4_settleBar_8 : decode cX4_settleBar 8 = .ok (.ishr, 1) := by decide +kernel
theorem dX4_settleBar_9 : decode cX4_settleBar 9 = .ok (.iconst 1, 1) := by decide +kernel
theorem dX4_settleBar_10 : decode cX4_settleBar 10 = .ok (.iand, 1) := by decide +kernel
theorem dX4_settleBar_11 : decode cX4_settleBar 11 = .ok (.ifCond .eq 29, 3) := by decide +kernel
theorem dX4_settleBar_14 : decode cX4_settleBar 14 = .ok (.aload_n 0, 1) := by decide +kernel
theorem dX4_settleBar_15 : decode cX4_settleBar 15 = .ok (.getfield 20, 3) := by decide +kernel
theorem dX4_settleBar_18 : decode cX4_settleBar 18 = .ok (.iconst 3, 1) := by decide +kernel
theorem dX4_settleBar_19 : decode cX4_settleBar 19 = .ok (.iconst 0, 1) := by decide +kernel
theorem dX4_settleBar_20 : decode cX4_settleBar 20 = .ok (.invokevirtual 150, 3) := by decide +kernel
theorem dX4_settleBar_23 : decode cX4_settleBar 23 = .ok (.aload_n 0, 1) := by decide +kernel
theorem dX4_settleBar_24 : decode cX4_settleBar 24 = .ok (.dup, 1) := by decide +kernel
theorem dX4_settleBar_25 : decode cX4_settleBar 25 = .ok (.getfield 42, 3) := by decide +kernel
theorem dX4_settleBar_28 : decode cX4_settleBar 28 = .ok (.iconst 1, 1) := by decide +kernel
theorem dX4_settleBar_29 : decode cX4_settleBar 29 = .ok (.aload_n 0, 1) := by decide +kernel
theorem dX4_settleBar_30 : decode cX4_settleBar 30 = .ok (.getfield 36, 3) := by decide +kernel
theorem dX4_settleBar_33 : decode cX4_settleBar 33 = .ok (.ishl, 1) := by decide +kernel
theorem dX4_settleBar_34 : decode cX4_settleBar 34 = .ok (.iconst (-1), 1) := by decide +kernel
theorem dX4_settleBar_35 : decode cX4_settleBar 35 = .ok (.ixor, 1) := by decide +kernel
theorem dX4_settleBar_36 : decode cX4_settleBar 36 = .ok (.iand, 1) := by decide +kernel
theorem dX4_settleBar_37 : decode cX4_settleBar 37 = .ok (.putfield 42, 3) := by decide +kernel
theorem dX4_settleBar_40 : decode cX4_settleBar 40 = .ok (.return_, 1) := by decide +kernel
set_option maxRecDepth 20000 in
theorem ggX4_linkShapes_X0_linkReferences : GoodIn wsX4_linkShapes wsX0_linkReferences := goodIn_r _ [8, 9, 10, 11, 12, 13, 14, 15, 16, 7, 17, 18, 19, 20, 21, 22, 23, 63, 64, 65, 66, 67, 68, 69, 70, 71, 72, 73, 74, 75, 76, 77, 78] (by decide +kernel) (by decide +kernel)
set_option maxRecDepth 20000 in
theorem gX4_linkShapes_X0_linkReferences : GoodIn wsX4_linkShapes (wsV RX4 159 RX0 yX0_linkReferences wsX0_linkReferences) := goodIn_app (goodIn_of _ (by decide +kernel)) ggX4_linkShapes_X0_linkReferences
set_option maxRecDepth 20000 in
theorem ggX4_linkShapes_X0_findReach : GoodIn wsX4_linkShapes wsX0_findReach := goodIn_r _ [27, 9, 13, 63, 64, 65, 66, 67, 68, 69, 70, 71, 72, 73, 74, 75, 76, 77, 78] (by decide +kernel) (by decide +kernel)
set_option maxRecDepth 20000 in
theorem gX4_linkShapes_X0_findReach : GoodIn wsX4_linkShapes (wsV RX4 163 RX0 yX0_findReach wsX0_findReach) := goodIn_app (goodIn_of _ (by decide +kernel)) ggX4_linkShapes_X0_findReach
set_option maxRecDepth 20000 in
theorem ggX4_linkShapes_X0_placeOfCircle : GoodIn wsX4_linkShapes wsX0_placeOfCircle := goodIn_r _ [31, 9, 10, 18, 11, 12, 32, 33, 34, 7, 35, 13, 36, 37, 38, 39, 63, 64, 65, 66, 67, 68, 69, 70, 71, 72, 73, 74, 75, 76, 77, 78] (by decide +kernel) (by decide +kernel)
set_option maxRecDepth 20000 in
theorem gX4_linkShapes_X0_placeOfCircle : GoodIn wsX4_linkShapes (wsV RX4 166 RX0 yX0_placeOfCircle wsX0_placeOfCircle) := goodIn_app (goodIn_of _ (by decide +kernel)) ggX4_linkShapes_X0_placeOfCircle
set_option maxRecDepth 20000 in
theorem ggX4_linkShapes_X0_findLevels : GoodIn wsX4_linkShapes wsX0_findLevels := goodIn_r _ [43, 9, 44, 45, 46, 7, 47, 10, 11, 48, 18, 49, 50, 51, 52, 14, 15, 16, 17, 36, 37, 38, 39, 63, 64, 65, 66, 67, 68, 69, 70, 71, 72, 73, 74, 75, 76, 77, 78] (by decide +kernel) (by decide +kernel)
set_option maxRecDepth 20000 in
theorem gX4_linkShapes_X0_findLevels : GoodIn wsX4_linkShapes (wsV RX4 169 RX0 yX0_findLevels wsX0_findLevels) := goodIn_app (goodIn_of _ (by decide +kernel)) ggX4_linkShapes_X0_findLevels
theorem dX4_linkShapes_0 : decode cX4_linkShapes 0 = .ok (.aload_n 0, 1) := by decide +kernel
theorem dX4_linkShapes_1 : decode cX4_linkShapes 1 = .ok (.getfield 20, 3) := by decide +kernel
theorem dX4_linkShapes_4 : decode cX4_linkShapes 4 = .ok (.invokevirtual 159, 3) := by decide +kernel
theorem dX4_linkShapes_7 : decode cX4_linkShapes 7 = .ok (.istore_n 1, 1) := by decide +kernel
theorem dX4_linkShapes_8 : decode cX4_linkShapes 8 = .ok (.iload_n 1, 1) := by decide +kernel
theorem dX4_linkShapes_9 : decode cX4_linkShapes 9 = .ok (.ifCond .lt 15, 3) := by decide +kernel
theorem dX4_linkShapes_12 : decode cX4_linkShapes 12 = .ok (.aload_n 0, 1) := by decide +kernel
theorem dX4_linkShapes_13 : decode cX4_linkShapes 13 = .ok (.bipush 6, 2) := by decide +kernel
theorem dX4_linkShapes_15 : decode cX4_linkShapes 15 = .ok (.putfield 45, 3) := by decide +kernel
theorem dX4_linkShapes_18 : decode cX4_linkShapes 18 = .ok (.aload_n 0, 1) := by decide +kernel
theorem dX4_linkShapes_19 : decode cX4_linkShapes 19 = .ok (.iload_n 1, 1) := by decide +kernel
theorem dX4_linkShapes_20 : decode cX4_linkShapes 20 = .ok (.putfield 48, 3) := by decide +kernel
theorem dX4_linkShapes_23 : decode cX4_linkShapes 23 = .ok (.return_, 1) := by decide +kernel
theorem dX4_linkShapes_24 : decode cX4_linkShapes 24 = .ok (.aload_n 0, 1) := by decide +kernel
theorem dX4_linkShapes_25 : decode cX4_linkShapes 25 = .ok (.getfield 20, 3) := by decide +kernel
theorem dX4_linkShapes_28 : decode cX4_linkShapes 28 = .ok (.invokevirtual 163, 3) := by decide +kernel
theorem dX4_linkShapes_31 : decode cX4_linkShapes 31 = .ok (.aload_n 0, 1) := by decide +kernel
theorem dX4_linkShapes_32 : decode cX4_linkShapes 32 = .ok (.getfield 20, 3) := by decide +kernel
theorem dX4_linkShapes_35 : decode cX4_linkShapes 35 = .ok (.invokevirtual 166, 3) := by decide +kernel
theorem dX4_linkShapes_38 : decode cX4_linkShapes 38 = .ok (.istore_n 2, 1) := by decide +kernel
theorem dX4_linkShapes_39 : decode cX4_linkShapes 39 = .ok (.iload_n 2, 1) := by decide +kernel
theorem dX4_linkShapes_40 : decode cX4_linkShapes 40 = .ok (.ifCond .lt 15, 3) := by decide +kernel
theorem dX4_linkShapes_43 : decode cX4_linkShapes 43 = .ok (.aload_n 0, 1) := by decide +kernel
theorem dX4_linkShapes_44 : decode cX4_linkShapes 44 = .ok (.bipush 7, 2) := by decide +kernel
theorem dX4_linkShapes_46 : decode cX4_linkShapes 46 = .ok (.putfield 45, 3) := by decide +kernel
theorem dX4_linkShapes_49 : decode cX4_linkShapes 49 = .ok (.aload_n 0, 1) := by decide +kernel
theorem dX4_linkShapes_50 : decode cX4_linkShapes 50 = .ok (.iload_n 2, 1) := by decide +kernel
theorem dX4_linkShapes_51 : decode cX4_linkShapes 51 = .ok (.putfield 48, 3) := by decide +kernel
theorem dX4_linkShapes_54 : decode cX4_linkShapes 54 = .ok (.return_, 1) := by decide +kernel
theorem dX4_linkShapes_55 : decode cX4_linkShapes 55 = .ok (.aload_n 0, 1) := by decide +kernel
theorem dX4_linkShapes_56 : decode cX4_linkShapes 56 = .ok (.getfield 20, 3) := by decide +kernel
theorem dX4_linkShapes_59 : decode cX4_linkShapes 59 = .ok (.invokevirtual 169, 3) := by decide +kernel
theorem dX4_linkShapes_62 : decode cX4_linkShapes 62 = .ok (.return_, 1) := by decide +kernel
theorem dX5_init_0 : decode cX5_init 0 = .ok (.aload_n 0, 1) := by decide +kernel
theorem dX5_init_1 : decode cX5_init 1 = .ok (.invokespecial 1, 3) := by decide +kernel
theorem dX5_init_4 : decode cX5_init 4 = .ok (.aload_n 0, 1) := by decide +kernel
theorem dX5_init_5 : decode cX5_init 5 = .ok (.aload_n 1, 1) := by decide +kernel
theorem dX5_init_6 : decode cX5_init 6 = .ok (.putfield 7, 3) := by decide +kernel
theorem dX5_init_9 : decode cX5_init 9 = .ok (.return_, 1) := by decide +kernel
theorem dX5_rewind_0 : decode cX5_rewind 0 = .ok (.aload_n 0, 1) := by decide +kernel
theorem dX5_rewind_1 : decode cX5_rewind 1 = .ok (.iconst 0, 1) := by decide +kernel
theorem dX5_rewind_2 : decode cX5_rewind 2 = .ok (.putfield 13, 3) := by decide +kernel
theorem dX5_rewind_5 : decode cX5_rewind 5 = .ok (.return_, 1) := by decide +kernel
set_option maxRecDepth 20000 in
theorem ggX5_advance_X3_byteAt : GoodIn wsX5_advance wsX3_byteAt := goodIn_r _ [10, 11, 12, 87, 88] (by decide +kernel) (by decide +kernel)
set_option maxRecDepth 20000 in
theorem gX5_advance_X3_byteAt : GoodIn wsX5_advance (wsV RX5 22 RX3 yX3_byteAt wsX3_byteAt) := goodIn_app (goodIn_of _ (by decide +kernel)) ggX5_advance_X3_byteAt
set_option maxRecDepth 20000 in
theorem ggX5_advance_X5_become : GoodIn wsX5_advance wsX5_become := goodIn_r _ [17, 18, 4, 1, 82, 83, 84, 85, 86] (by decide +kernel) (by decide +kernel)
set_option maxRecDepth 20000 in
theorem gX5_advance_X5_become : GoodIn wsX5_advance (wsV RX5 29 RX5 yX5_become wsX5_become) := goodIn_app (goodIn_of _ (by decide +kernel)) ggX5_advance_X5_become
set_option maxRecDepth 20000 in
theorem ggX5_advance_X5_isFigure : GoodIn wsX5_advance wsX5_isFigure := goodIn_r _ [21] (by decide +kernel) (by decide +kernel)
set_option maxRecDepth 20000 in
theorem gX5_advance_X5_isFigure : GoodIn wsX5_advance (va_wsS RX5 36 yX5_isFigure wsX5_isFigure) := goodIn_app (goodIn_of _ (by decide +kernel)) ggX5_advance_X5_isFigure
set_option maxRecDepth 20000 in
theorem ggX5_advance_X5_readNumber : GoodIn wsX5_advance wsX5_readNumber := goodIn_r _ [25, 2, 4, 5, 6, 7, 8, 9, 10, 11, 12, 19, 20, 16, 21, 13, 14, 15, 17, 18, 1, 82, 83, 84, 85, 86, 87, 88] (by decide +kernel) (by decide +kernel)
set_option maxRecDepth 20000 in
theorem gX5_advance_X5_readNumber : GoodIn wsX5_advance (wsV RX5 40 RX5 yX5_readNumber wsX5_readNumber) := goodIn_app (goodIn_of _ (by decide +kernel)) ggX5_advance_X5_readNumber
set_option maxRecDepth 20000 in
theorem ggX5_advance_X5_isClosedText : GoodIn wsX5_advance wsX5_isClosedText := goodIn_r _ [29, 2, 4, 30, 31, 32, 33, 34, 35, 36, 37, 38, 39, 40, 41, 6, 7, 8, 9, 10, 11, 12, 42, 43, 44, 45, 46, 47, 48, 49, 50, 51, 52, 53, 54, 55, 56, 57, 58, 59, 60, 61, 62, 63, 64, 65, 66, 67, 68, 69, 70, 71, 72, 73, 74, 75, 76, 77, 78, 82, 83, 84, 85, 86, 87, 88] (by decide +kernel) (by decide +kernel)
set_option maxRecDepth 20000 in
theorem gX5_advance_X5_isClosedText : GoodIn wsX5_advance (wsV RX5 43 RX5 yX5_isClosedText wsX5_isClosedText) := goodIn_app (goodIn_of _ (by decide +kernel)) ggX5_advance_X5_isClosedText
set_option maxRecDepth 20000 in
theorem ggX5_advance_J0_length_8abf5 : GoodIn wsX5_advance wsJ0_length_8abf5 := goodIn_r _ [34, 35, 36, 37, 38, 33, 39, 40, 41] (by decide +kernel) (by decide +kernel)
set_option maxRecDepth 20000 in
theorem gX5_advance_J0_length_8abf5 : GoodIn wsX5_advance (wsV RX5 49 RJ0 yJ0_length_8abf5 wsJ0_length_8abf5) := goodIn_app (goodIn_of _ (by decide +kernel)) ggX5_advance_J0_length_8abf5
set_option maxRecDepth 20000 in
theorem ggX5_advance_X5_isSign : GoodIn wsX5_advance wsX5_isSign := goodIn_r _ [81] (by decide +kernel) (by decide +kernel)
set_option maxRecDepth 20000 in
theorem gX5_advance_X5_isSign : GoodIn wsX5_advance (va_wsS RX5 54 yX5_isSign wsX5_isSign) := goodIn_app (goodIn_of _ (by decide +kernel)) ggX5_advance_X5_isSign
theorem dX5_advance_0 : decode cX5_advance 0 = .ok (.aload_n 0, 1) := by decide +kernel
theorem dX5_advance_1 : decode cX5_advance 1 = .ok (.getfield 13, 3) := by decide +kernel
theorem dX5_advance_4 : decode cX5_advance 4 = .ok (.istore_n 1, 1) := by decide +kernel
theorem dX5_advance_5 : decode cX5_advance 5 = .ok (.iload_n 1, 1) := by decide +kernel
theorem dX5_advance_6 : decode cX5_advance 6 = .ok (.aload_n 0, 1) := by decide +kernel
theorem dX5_advance_7 : decode cX5_advance 7 = .ok (.getfield 7, 3) := by decide +kernel
theorem dX5_advance_10 : decode cX5_advance 10 = .ok (.getfield 17, 3) := by decide +kernel
theorem dX5_advance_13 : decode cX5_advance 13 = .ok (.if_icmp .ge 22, 3) := by decide +kernel
theorem dX5_advance_16 : decode cX5_advance 16 = .ok (.aload_n 0, 1) := by decide +kernel
theorem dX5_advance_17 : decode cX5_advance 17 = .ok (.getfield 7, 3) := by decide +kernel
theorem dX5_advance_20 : decode cX5_advance 20 = .ok (.iload_n 1, 1) := by decide +kernel
theorem dX5_advance_21 : decode cX5_advance 21 = .ok (.invokevirtual 22, 3) := by decide +kernel
theorem dX5_advance_24 : decode cX5_advance 24 = .ok (.bipush 32, 2) := by decide +kernel
theorem dX5_advance_26 : decode cX5_advance 26 = .ok (.if_icmp .ne 9, 3) := by decide +kernel
theorem dX5_advance_29 : decode cX5_advance 29 = .ok (.iinc 1 1, 3) := by decide +kernel
theorem dX5_advance_32 : decode cX5_advance 32 = .ok (.goto (-27), 3) := by decide +kernel
theorem dX5_advance_35 : decode cX5_advance 35 = .ok (.aload_n 0, 1) := by decide +kernel
theorem dX5_advance_36 : decode cX5_advance 36 = .ok (.iload_n 1, 1) := by decide +kernel
theorem dX5_advance_37 : decode cX5_advance 37 = .ok (.putfield 26, 3) := by decide +kernel
theorem dX5_advance_40 : decode cX5_advance 40 = .ok (.aload_n 0, 1) := by decide +kernel
theorem dX5_advance_41 : decode cX5_advance 41 = .ok (.getfield 7, 3) := by decide +kernel
theorem dX5_advance_44 : decode cX5_advance 44 = .ok (.iload_n 1, 1) := by decide +kernel
theorem dX5_advance_45 : decode cX5_advance 45 = .ok (.invokevirtual 22, 3) := by decide +kernel
theorem dX5_advance_48 : decode cX5_advance 48 = .ok (.istore_n 2, 1) := by decide +kernel
theorem dX5_advance_49 : decode cX5_advance 49 = .ok (.iload_n 2, 1) := by decide +kernel
theorem dX5_advance_50 : decode cX5_advance 50 = .ok (.ifCond .ge 12, 3) := by decide +kernel
theorem dX5_advance_53 : decode cX5_advance 53 = .ok (.aload_n 0, 1) := by decide +kernel
theorem dX5_advance_54 : decode cX5_advance 54 = .ok (.iconst 0, 1) := by decide +kernel
theorem dX5_advance_55 : decode cX5_advance 55 = .ok (.iconst 0, 1) := by decide +kernel
theorem dX5_advance_56 : decode cX5_advance 56 = .ok (.invokevirtual 29, 3) := by decide +kernel
theorem dX5_advance_59 : decode cX5_advance 59 = .ok (.goto 141, 3) := by decide +kernel
theorem dX5_advance_62 : decode cX5_advance 62 = .ok (.iload_n 2, 1) := by decide +kernel
theorem dX5_advance_63 : decode cX5_advance 63 = .ok (.bipush 65, 2) := by decide +kernel
theorem dX5_advance_65 : decode cX5_advance 65 = .ok (.if_icmp .lt 23, 3) := by decide +kernel
theorem dX5_advance_68 : decode cX5_advance 68 = .ok (.iload_n 2, 1) := by decide +kernel
theorem dX5_advance_69 : decode cX5_advance 69 = .ok (.bipush 90, 2) := by decide +kernel
theorem dX5_advance_71 : decode cX5_advance 71 = .ok (.if_icmp .gt 17, 3) := by decide +kernel
theorem dX5_advance_74 : decode cX5_advance 74 = .ok (.aload_n 0, 1) := by decide +kernel
theorem dX5_advance_75 : decode cX5_advance 75 = .ok (.iload_n 2, 1) := by decide +kernel
theorem dX5_advance_76 : decode cX5_advance 76 = .ok (.putfield 33, 3) := by decide +kernel
theorem dX5_advance_79 : decode cX5_advance 79 = .ok (.aload_n 0, 1) := by decide +kernel
theorem dX5_advance_80 : decode cX5_advance 80 = .ok (.iconst 2, 1) := by decide +kernel
theorem dX5_advance_81 : decode cX5_advance 81 = .ok (.iconst 1, 1) := by decide +kernel
theorem dX5_advance_82 : decode cX5_advance 82 = .ok (.invokevirtual 29, 3) := by decide +kernel
theorem dX5_advance_85 : decode cX5_advance 85 = .ok (.goto 115, 3) := by decide +kernel
theorem dX5_advance_88 : decode cX5_advance 88 = .ok (.iload_n 2, 1) := by decide +kernel
theorem dX5_advance_89 : decode cX5_advance 89 = .ok (.bipush 45, 2) := by decide +kernel
theorem dX5_advance_91 : decode cX5_advance 91 = .ok (.if_icmp .eq 10, 3) := by decide +kernel
theorem dX5_advance_94 : decode cX5_advance 94 = .ok (.iload_n 2, 1) := by decide +kernel
theorem dX5_advance_95 : decode cX5_advance 95 = .ok (.invokestatic 36, 3) := by decide +kernel
theorem dX5_advance_98 : decode cX5_advance 98 = .ok (.ifCond .eq 10, 3) := by decide +kernel
theorem dX5_advance_101 : decode cX5_advance 101 = .ok (.aload_n 0, 1) := by decide +kernel
theorem dX5_advance_102 : decode cX5_advance 102 = .ok (.invokevirtual 40, 3) := by decide +kernel
theorem dX5_advance_105 : decode cX5_advance 105 = .ok (.goto 95, 3) := by decide +kernel
theorem dX5_advance_108 : decode cX5_advance 108 = .ok (.iload_n 2, 1) := by decide +kernel
theorem dX5_advance_109 : decode cX5_advance 109 = .ok (.bipush 99, 2) := by decide +kernel
theorem dX5_advance_111 : decode cX5_advance 111 = .ok (.if_icmp .ne 27, 3) := by decide +kernel
theorem dX5_advance_114 : decode cX5_advance 114 = .ok (.aload_n 0, 1) := by decide +kernel
theorem dX5_advance_115 : decode cX5_advance 115 = .ok (.aload_n 0, 1) := by decide +kernel
theorem dX5_advance_116 : decode cX5_advance 116 = .ok (.invokevirtual 43, 3) := by decide +kernel
theorem dX5_advance_119 : decode cX5_advance 119 = .ok (.ifCond .eq 7, 3) := by decide +kernel
theorem dX5_advance_122 : decode cX5_advance 122 = .ok (.iconst 4, 1) := by decide +kernel
theorem dX5_advance_123 : decode cX5_advance 123 = .ok (.goto 4, 3) := by decide +kernel
theorem dX5_advance_126 : decode cX5_advance 126 = .ok (.iconst 1, 1) := by decide +kernel
theorem dX5_advance_127 : decode cX5_advance 127 = .ok (.ldc 47, 2) := by decide +kernel
theorem dX5_advance_129 : decode cX5_advance 129 = .ok (.invokevirtual 49, 3) := by decide +kernel
theorem dX5_advance_132 : decode cX5_advance 132 = .ok (.invokevirtual 29, 3) := by decide +kernel
theorem dX5_advance_135 : decode cX5_advance 135 = .ok (.goto 65, 3) := by decide +kernel
theorem dX5_advance_138 : decode cX5_advance 138 = .ok (.iload_n 2, 1) := by decide +kernel
theorem dX5_advance_139 : decode cX5_advance 139 = .ok (.bipush 46, 2) := by decide +kernel
theorem dX5_advance_141 : decode cX5_advance 141 = .ok (.if_icmp .ne 42, 3) := by decide +kernel
theorem dX5_advance_144 : decode cX5_advance 144 = .ok (.aload_n 0, 1) := by decide +kernel
theorem dX5_advance_145 : decode cX5_advance 145 = .ok (.getfield 7, 3) := by decide +kernel
theorem dX5_advance_148 : decode cX5_advance 148 = .ok (.iload_n 1, 1) := by decide +kernel
theorem dX5_advance_149 : decode cX5_advance 149 = .ok (.iconst 1, 1) := by decide +kernel
theorem dX5_advance_150 : decode cX5_advance 150 = .ok (.iadd, 1) := by decide +kernel
theorem dX5_advance_151 : decode cX5_advance 151 = .ok (.invokevirtual 22, 3) := by decide +kernel
theorem dX5_advance_154 : decode cX5_advance 154 = .ok (.bipush 46, 2) := by decide +kernel
theorem dX5_advance_156 : decode cX5_advance 156 = .ok (.if_icmp .ne 27, 3) := by decide +kernel
theorem dX5_advance_159 : decode cX5_advance 159 = .ok (.aload_n 0, 1) := by decide +kernel
theorem dX5_advance_160 : decode cX5_advance 160 = .ok (.getfield 7, 3) := by decide +kernel
theorem dX5_advance_163 : decode cX5_advance 163 = .ok (.iload_n 1, 1) := by decide +kernel
theorem dX5_advance_164 : decode cX5_advance 164 = .ok (.iconst 2, 1) := by decide +kernel
theorem dX5_advance_165 : decode cX5_advance 165 = .ok (.iadd, 1) := by decide +kernel
theorem dX5_advance_166 : decode cX5_advance 166 = .ok (.invokevirtual 22, 3) := by decide +kernel
theorem dX5_advance_169 : decode cX5_advance 169 = .ok (.bipush 46, 2) := by decide +kernel
theorem dX5_advance_171 : decode cX5_advance 171 = .ok (.if_icmp .ne 12, 3) := by decide +kernel
theorem dX5_advance_174 : decode cX5_advance 174 = .ok (.aload_n 0, 1) := by decide +kernel
theorem dX5_advance_175 : decode cX5_advance 175 = .ok (.iconst 5, 1) := by decide +kernel
theorem dX5_advance_176 : decode cX5_advance 176 = .ok (.iconst 3, 1) := by decide +kernel
theorem dX5_advance_177 : decode cX5_advance 177 = .ok (.invokevirtual 29, 3) := by decide +kernel
theorem dX5_advance_180 : decode cX5_advance 180 = .ok (.goto 20, 3) := by decide +kernel
theorem dX5_advance_183 : decode cX5_advance 183 = .ok (.aload_n 0, 1) := by decide +kernel
theorem dX5_advance_184 : decode cX5_advance 184 = .ok (.iload_n 2, 1) := by decide +kernel
theorem dX5_advance_185 : decode cX5_advance 185 = .ok (.invokestatic 54, 3) := by decide +kernel
theorem dX5_advance_188 : decode cX5_advance 188 = .ok (.ifCond .eq 7, 3) := by decide +kernel
theorem dX5_advance_191 : decode cX5_advance 191 = .ok (.iload_n 2, 1) := by decide +kernel
theorem dX5_advance_192 : decode cX5_advance 192 = .ok (.goto 4, 3) := by decide +kernel
theorem dX5_advance_195 : decode cX5_advance 195 = .ok (.iconst 1, 1) := by decide +kernel
theorem dX5_advance_196 : decode cX5_advance 196 = .ok (.iconst 1, 1) := by decide +kernel
theorem dX5_advance_197 : decode cX5_advance 197 = .ok (.invokevirtual 29, 3) := by decide +kernel
theorem dX5_advance_200 : decode cX5_advance 200 = .ok (.return_, 1) := by decide +kernel
theorem dX5_become_0 : decode cX5_become 0 = .ok (.aload_n 0, 1) := by decide +kernel
theorem dX5_become_1 : decode cX5_become 1 = .ok (.iload_n 1, 1) := by decide +kernel
theorem dX5_become_2 : decode cX5_become 2 = .ok (.putfield 57, 3) := by decide +kernel
theorem dX5_become_5 : decode cX5_become 5 = .ok (.aload_n 0, 1) := by decide +kernel
theorem dX5_become_6 : decode cX5_become 6 = .ok (.aload_n 0, 1) := by decide +kernel
theorem dX5_become_7 : decode cX5_become 7 = .ok (.getfield 26, 3) := by decide +kernel
theorem dX5_become_10 : decode cX5_become 10 = .ok (.iload_n 2, 1) := by decide +kernel
theorem dX5_become_11 : decode cX5_become 11 = .ok (.iadd, 1) := by decide +kernel
theorem dX5_become_12 : decode cX5_become 12 = .ok (.putfield 13, 3) := by decide +kernel
theorem dX5_become_15 : decode cX5_become 15 = .ok (.return_, 1) := by decide +kernel
set_option maxRecDepth 20000 in
theorem ggX5_readNumber_X3_byteAt : GoodIn wsX5_readNumber wsX3_byteAt := goodIn_r _ [8, 9, 10, 26, 27] (by decide +kernel) (by decide +kernel)
set_option maxRecDepth 20000 in
theorem gX5_readNumber_X3_byteAt : GoodIn wsX5_readNumber (wsV RX5 22 RX3 yX3_byteAt wsX3_byteAt) := goodIn_app (goodIn_of _ (by decide +kernel)) ggX5_readNumber_X3_byteAt
set_option maxRecDepth 20000 in
theorem ggX5_readNumber_X5_isFigure : GoodIn wsX5_readNumber wsX5_isFigure := goodIn_r _ [14] (by decide +kernel) (by decide +kernel)
set_option maxRecDepth 20000 in
theorem gX5_readNumber_X5_isFigure : GoodIn wsX5_readNumber (va_wsS RX5 36 yX5_isFigure wsX5_isFigure) := goodIn_app (goodIn_of _ (by decide +kernel)) ggX5_readNumber_X5_isFigure
set_option maxRecDepth 20000 in
theorem ggX5_readNumber_X5_become : GoodIn wsX5_readNumber wsX5_become := goodIn_r _ [18, 19, 2, 20, 21, 22, 23, 24, 25] (by decide +kernel) (by decide +kernel)
set_option maxRecDepth 20000 in
theorem gX5_readNumber_X5_become : GoodIn wsX5_readNumber (wsV RX5 29 RX5 yX5_become wsX5_become) := goodIn_app (goodIn_of _ (by decide +kernel)) ggX5_readNumber_X5_become
theorem dX5_readNumber_0 : decode cX5_readNumber 0 = .ok (.aload_n 0, 1) := by decide +kernel
theorem dX5_readNumber_1 : decode cX5_readNumber 1 = .ok (.getfield 7, 3) := by decide +kernel
theorem dX5_readNumber_4 : decode cX5_readNumber 4 = .ok (.aload_n 0, 1) := by decide +kernel
theorem dX5_readNumber_5 : decode cX5_readNumber 5 = .ok (.getfield 26, 3) := by decide +kernel
theorem dX5_readNumber_8 : decode cX5_readNumber 8 = .ok (.invokevirtual 22, 3) := by decide +kernel
theorem dX5_readNumber_11 : decode cX5_readNumber 11 = .ok (.bipush 45, 2) := by decide +kernel
theorem dX5_readNumber_13 : decode cX5_readNumber 13 = .ok (.if_icmp .ne 7, 3) := by decide +kernel
theorem dX5_readNumber_16 : decode cX5_readNumber 16 = .ok (.iconst 1, 1) := by decide +kernel
theorem dX5_readNumber_17 : decode cX5_readNumber 17 = .ok (.goto 4, 3) := by decide +kernel
theorem dX5_readNumber_20 : decode cX5_readNumber 20 = .ok (.iconst 0, 1) := by decide +kernel
theorem dX5_readNumber_21 : decode cX5_readNumber 21 = .ok (.istore_n 1, 1) := by decide +kernel
theorem dX5_readNumber_22 : decode cX5_readNumber 22 = .ok (.iload_n 1, 1) := by decide +kernel
theorem dX5_readNumber_23 : decode cX5_readNumber 23 = .ok (.ifCond .eq 12, 3) := by decide +kernel
theorem dX5_readNumber_26 : decode cX5_readNumber 26 = .ok (.aload_n 0, 1) := by decide +kernel
theorem dX5_readNumber_27 : decode cX5_readNumber 27 = .ok (.getfield 26, 3) := by decide +kernel
theorem dX5_readNumber_30 : decode cX5_readNumber 30 = .ok (.iconst 1, 1) := by decide +kernel
theorem dX5_readNumber_31 : decode cX5_readNumber 31 = .ok (.iadd, 1) := by decide +kernel
theorem dX5_readNumber_32 : decode cX5_readNumber 32 = .ok (.goto 7, 3) := by decide +kernel
theorem dX5_readNumber_35 : decode cX5_readNumber 35 = .ok (.aload_n 0, 1) := by decide +kernel
theorem dX5_readNumber_36 : decode cX5_readNumber 36 = .ok (.getfield 26, 3) := by decide +kernel
theorem dX5_readNumber_39 : decode cX5_readNumber 39 = .ok (.istore_n 2, 1) := by decide +kernel
theorem dX5_readNumber_40 : decode cX5_readNumber 40 = .ok (.iconst 0, 1) := by decide +kernel
theorem dX5_readNumber_41 : decode cX5_readNumber 41 = .ok (.istore_n 3, 1) := by decide +kernel
theorem dX5_readNumber_42 : decode cX5_readNumber 42 = .ok (.iconst 0, 1) := by decide +kernel
theorem dX5_readNumber_43 : decode cX5_readNumber 43 = .ok (.istore 4, 2) := by decide +kernel
theorem dX5_readNumber_45 : decode cX5_readNumber 45 = .ok (.iload_n 3, 1) := by decide +kernel
theorem dX5_readNumber_46 : decode cX5_readNumber 46 = .ok (.iconst 4, 1) := by decide +kernel
theorem dX5_readNumber_47 : decode cX5_readNumber 47 = .ok (.if_icmp .gt 46, 3) := by decide +kernel
theorem dX5_readNumber_50 : decode cX5_readNumber 50 = .ok (.aload_n 0, 1) := by decide +kernel
theorem dX5_readNumber_51 : decode cX5_readNumber 51 = .ok (.getfield 7, 3) := by decide +kernel
theorem dX5_readNumber_54 : decode cX5_readNumber 54 = .ok (.iload_n 2, 1) := by decide +kernel
theorem dX5_readNumber_55 : decode cX5_readNumber 55 = .ok (.iload_n 3, 1) := by decide +kernel
theorem dX5_readNumber_56 : decode cX5_readNumber 56 = .ok (.iadd, 1) := by decide +kernel
theorem dX5_readNumber_57 : decode cX5_readNumber 57 = .ok (.invokevirtual 22, 3) := by decide +kernel
theorem dX5_readNumber_60 : decode cX5_readNumber 60 = .ok (.invokestatic 36, 3) := by decide +kernel
theorem dX5_readNumber_63 : decode cX5_readNumber 63 = .ok (.ifCond .eq 30, 3) := by decide +kernel
theorem dX5_readNumber_66 : decode cX5_readNumber 66 = .ok (.iload 4, 2) := by decide +kernel
theorem dX5_readNumber_68 : decode cX5_readNumber 68 = .ok (.bipush 10, 2) := by decide +kernel
theorem dX5_readNumber_70 : decode cX5_readNumber 70 = .ok (.imul, 1) := by decide +kernel
theorem dX5_readNumber_71 : decode cX5_readNumber 71 = .ok (.aload_n 0, 1) := by decide +kernel
theorem dX5_readNumber_72 : decode cX5_readNumber 72 = .ok (.getfield 7, 3) := by decide +kernel
theorem dX5_readNumber_75 : decode cX5_readNumber 75 = .ok (.iload_n 2, 1) := by decide +kernel
theorem dX5_readNumber_76 : decode cX5_readNumber 76 = .ok (.iload_n 3, 1) := by decide +kernel
theorem dX5_readNumber_77 : decode cX5_readNumber 77 = .ok (.iadd, 1) := by decide +kernel
theorem dX5_readNumber_78 : decode cX5_readNumber 78 = .ok (.invokevirtual 22, 3) := by decide +kernel
theorem dX5_readNumber_81 : decode cX5_readNumber 81 = .ok (.iadd, 1) := by decide +kernel
theorem dX5_readNumber_82 : decode cX5_readNumber 82 = .ok (.bipush 48, 2) := by decide +kernel
theorem dX5_readNumber_84 : decode cX5_readNumber 84 = .ok (.isub, 1) := by decide +kernel
theorem dX5_readNumber_85 : decode cX5_readNumber 85 = .ok (.istore 4, 2) := by decide +kernel
theorem dX5_readNumber_87 : decode cX5_readNumber 87 = .ok (.iinc 3 1, 3) := by decide +kernel
theorem dX5_readNumber_90 : decode cX5_readNumber 90 = .ok (.goto (-45), 3) := by decide +kernel
theorem dX5_readNumber_93 : decode cX5_readNumber 93 = .ok (.aload_n 0, 1) := by decide +kernel
theorem dX5_readNumber_94 : decode cX5_readNumber 94 = .ok (.iload_n 1, 1) := by decide +kernel
theorem dX5_readNumber_95 : decode cX5_readNumber 95 = .ok (.ifCond .eq 9, 3) := by decide +kernel
theorem dX5_readNumber_98 : decode cX5_readNumber 98 = .ok (.iload 4, 2) := by decide +kernel
theorem dX5_readNumber_100 : decode cX5_readNumber 100 = .ok (.ineg, 1) := by decide +kernel
theorem dX5_readNumber_101 : decode cX5_readNumber 101 = .ok (.goto 5, 3) := by decide +kernel
theorem dX5_readNumber_104 : decode cX5_readNumber 104 = .ok (.iload 4, 2) := by decide +kernel
theorem dX5_readNumber_106 : decode cX5_readNumber 106 = .ok (.putfield 33, 3) := by decide +kernel
theorem dX5_readNumber_109 : decode cX5_readNumber 109 = .ok (.aload_n 0, 1) := by decide +kernel
theorem dX5_readNumber_110 : decode cX5_readNumber 110 = .ok (.iload_n 3, 1) := by decide +kernel
theorem dX5_readNumber_111 : decode cX5_readNumber 111 = .ok (.iconst 1, 1) := by decide +kernel
theorem dX5_readNumber_112 : decode cX5_readNumber 112 = .ok (.if_icmp .lt 12, 3) := by decide +kernel
theorem dX5_readNumber_115 : decode cX5_readNumber 115 = .ok (.iload_n 3, 1) := by decide +kernel
theorem dX5_readNumber_116 : decode cX5_readNumber 116 = .ok (.iconst 4, 1) := by decide +kernel
theorem dX5_readNumber_117 : decode cX5_readNumber 117 = .ok (.if_icmp .gt 7, 3) := by decide +kernel
theorem dX5_readNumber_120 : decode cX5_readNumber 120 = .ok (.iconst 3, 1) := by decide +kernel
theorem dX5_readNumber_121 : decode cX5_readNumber 121 = .ok (.goto 4, 3) := by decide +kernel
theorem dX5_readNumber_124 : decode cX5_readNumber 124 = .ok (.iconst 1, 1) := by decide +kernel
theorem dX5_readNumber_125 : decode cX5_readNumber 125 = .ok (.iload_n 2, 1) := by decide +kernel
theorem dX5_readNumber_126 : decode cX5_readNumber 126 = .ok (.aload_n 0, 1) := by decide +kernel
theorem dX5_readNumber_127 : decode cX5_readNumber 127 = .ok (.getfield 26, 3) := by decide +kernel
theorem dX5_readNumber_130 : decode cX5_readNumber 130 = .ok (.isub, 1) := by decide +kernel
theorem dX5_readNumber_131 : decode cX5_readNumber 131 = .ok (.iload_n 3, 1) := by decide +kernel
theorem dX5_readNumber_132 : decode cX5_readNumber 132 = .ok (.iadd, 1) := by decide +kernel
theorem dX5_readNumber_133 : decode cX5_readNumber 133 = .ok (.invokevirtual 29, 3) := by decide +kernel
theorem dX5_readNumber_136 : decode cX5_readNumber 136 = .ok (.return_, 1) := by decide +kernel
set_option maxRecDepth 20000 in
theorem ggX5_isClosedText_J0_length_8abf5 : GoodIn wsX5_isClosedText wsJ0_length_8abf5 := goodIn_r _ [7, 8, 9, 10, 11, 6, 12, 13, 14] (by decide +kernel) (by decide +kernel)
set_option maxRecDepth 20000 in
theorem gX5_isClosedText_J0_length_8abf5 : GoodIn wsX5_isClosedText (wsV RX5 49 RJ0 yJ0_length_8abf5 wsJ0_length_8abf5) := goodIn_app (goodIn_of _ (by decide +kernel)) ggX5_isClosedText_J0_length_8abf5
set_option maxRecDepth 20000 in
theorem ggX5_isClosedText_X3_byteAt : GoodIn wsX5_isClosedText wsX3_byteAt := goodIn_r _ [19, 20, 21, 64, 65] (by decide +kernel) (by decide +kernel)
set_option maxRecDepth 20000 in
theorem gX5_isClosedText_X3_byteAt : GoodIn wsX5_isClosedText (wsV RX5 22 RX3 yX3_byteAt wsX3_byteAt) := goodIn_app (goodIn_of _ (by decide +kernel)) ggX5_isClosedText_X3_byteAt
set_option maxRecDepth 20000 in
theorem ggX5_isClosedText_J0_charAt_5068e : GoodIn wsX5_isClosedText wsJ0_charAt_5068e := goodIn_r _ [25, 8, 26, 27, 28, 6, 29, 13, 14, 30, 31, 32, 33, 34, 35, 36, 37, 38, 39, 40, 41, 42, 43, 44, 45, 46, 47, 48, 49, 50, 51, 52, 53, 54, 55, 56, 57, 58] (by decide +kernel) (by decide +kernel)
set_option maxRecDepth 20000 in
theorem gX5_isClosedText_J0_charAt_5068e : GoodIn wsX5_isClosedText (wsV RX5 60 RJ0 yJ0_charAt_5068e wsJ0_charAt_5068e) := goodIn_app (goodIn_of _ (by decide +kernel)) ggX5_isClosedText_J0_charAt_5068e
theorem dX5_isClosedText_0 : decode cX5_isClosedText 0 = .ok (.iconst 0, 1) := by decide +kernel
theorem dX5_isClosedText_1 : decode cX5_isClosedText 1 = .ok (.istore_n 1, 1) := by decide +kernel
theorem dX5_isClosedText_2 : decode cX5_isClosedText 2 = .ok (.iload_n 1, 1) := by decide +kernel
theorem dX5_isClosedText_3 : decode cX5_isClosedText 3 = .ok (.ldc 47, 2) := by decide +kernel
theorem dX5_isClosedText_5 : decode cX5_isClosedText 5 = .ok (.invokevirtual 49, 3) := by decide +kernel
theorem dX5_isClosedText_8 : decode cX5_isClosedText 8 = .ok (.if_icmp .ge 33, 3) := by decide +kernel
theorem dX5_isClosedText_11 : decode cX5_isClosedText 11 = .ok (.aload_n 0, 1) := by decide +kernel
theorem dX5_isClosedText_12 : decode cX5_isClosedText 12 = .ok (.getfield 7, 3) := by decide +kernel
theorem dX5_isClosedText_15 : decode cX5_isClosedText 15 = .ok (.aload_n 0, 1) := by decide +kernel
theorem dX5_isClosedText_16 : decode cX5_isClosedText 16 = .ok (.getfield 26, 3) := by decide +kernel
theorem dX5_isClosedText_19 : decode cX5_isClosedText 19 = .ok (.iload_n 1, 1) := by decide +kernel
theorem dX5_isClosedText_20 : decode cX5_isClosedText 20 = .ok (.iadd, 1) := by decide +kernel
theorem dX5_isClosedText_21 : decode cX5_isClosedText 21 = .ok (.invokevirtual 22, 3) := by decide +kernel
theorem dX5_isClosedText_24 : decode cX5_isClosedText 24 = .ok (.ldc 47, 2) := by decide +kernel
theorem dX5_isClosedText_26 : decode cX5_isClosedText 26 = .ok (.iload_n 1, 1) := by decide +kernel
theorem dX5_isClosedText_27 : decode cX5_isClosedText 27 = .ok (.invokevirtual 60, 3) := by decide +kernel
theorem dX5_isClosedText_30 : decode cX5_isClosedText 30 = .ok (.if_icmp .eq 5, 3) := by decide +kernel
theorem dX5_isClosedText_33 : decode cX5_isClosedText 33 = .ok (.iconst 0, 1) := by decide +kernel
theorem dX5_isClosedText_34 : decode cX5_isClosedText 34 = .ok (.ireturn, 1) := by decide +kernel
theorem dX5_isClosedText_35 : decode cX5_isClosedText 35 = .ok (.iinc 1 1, 3) := by decide +kernel
theorem dX5_isClosedText_38 : decode cX5_isClosedText 38 = .ok (.goto (-36), 3) := by decide +kernel
theorem dX5_isClosedText_41 : decode cX5_isClosedText 41 = .ok (.iconst 1, 1) := by decide +kernel
theorem dX5_isClosedText_42 : decode cX5_isClosedText 42 = .ok (.ireturn, 1) := by decide +kernel
theorem dX5_isFigure_0 : decode cX5_isFigure 0 = .ok (.iload_n 0, 1) := by decide +kernel
theorem dX5_isFigure_1 : decode cX5_isFigure 1 = .ok (.bipush 48, 2) := by decide +kernel
theorem dX5_isFigure_3 : decode cX5_isFigure 3 = .ok (.if_icmp .lt 13, 3) := by decide +kernel
theorem dX5_isFigure_6 : decode cX5_isFigure 6 = .ok (.iload_n 0, 1) := by decide +kernel
theorem dX5_isFigure_7 : decode cX5_isFigure 7 = .ok (.bipush 57, 2) := by decide +kernel
theorem dX5_isFigure_9 : decode cX5_isFigure 9 = .ok (.if_icmp .gt 7, 3) := by decide +kernel
theorem dX5_isFigure_12 : decode cX5_isFigure 12 = .ok (.iconst 1, 1) := by decide +kernel
theorem dX5_isFigure_13 : decode cX5_isFigure 13 = .ok (.goto 4, 3) := by decide +kernel
theorem dX5_isFigure_16 : decode cX5_isFigure 16 = .ok (.iconst 0, 1) := by decide +kernel
theorem dX5_isFigure_17 : decode cX5_isFigure 17 = .ok (.ireturn, 1) := by decide +kernel
theorem dX5_isSign_0 : decode cX5_isSign 0 = .ok (.iload_n 0, 1) := by decide +kernel
theorem dX5_isSign_1 : decode cX5_isSign 1 = .ok (.lookupswitch 101 #[(33, 99), (40, 99), (41, 99), (44, 99), (46, 99), (59, 99), (61, 99), (64, 99), (91, 99), (93, 99), (124, 99)], 99) := by decide +kernel
theorem dX5_isSign_100 : decode cX5_isSign 100 = .ok (.iconst 1, 1) := by decide +kernel
theorem dX5_isSign_101 : decode cX5_isSign 101 = .ok (.ireturn, 1) := by decide +kernel
theorem dX5_isSign_102 : decode cX5_isSign 102 = .ok (.iconst 0, 1) := by decide +kernel
theorem dX5_isSign_103 : decode cX5_isSign 103 = .ok (.ireturn, 1) := by decide +kernel
set_option maxRecDepth 20000 in
theorem ggX6_init_X1_init : GoodIn wsX6_init wsX1_init := goodIn_r _ [27, 28, 2, 3, 29, 30, 31, 32, 33, 34, 35, 80, 81, 82, 83, 84, 85, 86] (by decide +kernel) (by decide +kernel)
set_option maxRecDepth 20000 in
theorem gX6_init_X1_init_n9 : GoodIn wsX6_init (wsX1_init) := ggX6_init_X1_init
set_option maxRecDepth 20000 in
theorem ggX6_init_X3_init : GoodIn wsX6_init wsX3_init := goodIn_r _ [37, 38, 2, 3, 39, 40, 94, 95] (by decide +kernel) (by decide +kernel)
set_option maxRecDepth 20000 in
theorem gX6_init_X3_init_n18 : GoodIn wsX6_init (wsX3_init) := ggX6_init_X3_init
set_option maxRecDepth 20000 in
theorem ggX6_init_X4_init : GoodIn wsX6_init wsX4_init := goodIn_r _ [43, 44, 2, 3, 45, 46, 47, 48, 49, 50, 51, 52, 53, 132, 133, 134, 135, 136, 96, 97, 98, 99, 100, 101, 102, 103, 104, 105] (by decide +kernel) (by decide +kernel)
set_option maxRecDepth 20000 in
theorem gX6_init_X4_init : GoodIn wsX6_init (wsX4_init) := ggX6_init_X4_init
set_option maxRecDepth 20000 in
theorem ggX6_init_X0_init : GoodIn wsX6_init wsX0_init := goodIn_r _ [55, 56, 2, 3, 31, 57, 58, 29, 59, 60, 61, 62, 63, 64, 65, 66, 67, 68, 69, 106, 107, 108, 109, 110, 111, 112, 113, 114, 115, 116, 117, 118, 119, 120, 121] (by decide +kernel) (by decide +kernel)
set_option maxRecDepth 20000 in
theorem gX6_init_X0_init_n34 : GoodIn wsX6_init (wsX0_init) := ggX6_init_X0_init
set_option maxRecDepth 20000 in
theorem ggX6_init_X2_init : GoodIn wsX6_init wsX2_init := goodIn_r _ [72, 73, 2, 3, 31, 74, 75, 76, 77, 78, 79, 122, 123, 124, 125, 126, 127, 128, 129, 130, 131] (by decide +kernel) (by decide +kernel)
set_option maxRecDepth 20000 in
theorem gX6_init_X2_init : GoodIn wsX6_init (wsX2_init) := ggX6_init_X2_init
