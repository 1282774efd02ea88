theorem dX7_end_0 : decode cX7_end 0 = .ok (.iload_n 1, 1) := by decide +kernel
theorem dX7_end_1 : decode cX7_end 1 = .ok (.i2l, 1) := by decide +kernel
theorem dX7_end_2 : decode cX7_end 2 = .ok (.lconst 0, 1) := by decide +kernel
theorem dX7_end_3 : decode cX7_end 3 = .ok (.aload_n 0, 1) := by decide +kernel
theorem dX7_end_4 : decode cX7_end 4 = .ok (.getfield 170, 3) := by decide +kernel
theorem dX7_end_7 : decode cX7_end 7 = .ok (.i2l, 1) := by decide +kernel
theorem dX7_end_8 : decode cX7_end 8 = .ok (.invokestatic 144, 3) := by decide +kernel
theorem dX7_end_11 : decode cX7_end 11 = .ok (.ifCond .ne 5, 3) := by decide +kernel
theorem dX7_end_14 : decode cX7_end 14 = .ok (.iconst (-1), 1) := by decide +kernel
theorem dX7_end_15 : decode cX7_end 15 = .ok (.ireturn, 1) := by decide +kernel
theorem dX7_end_16 : decode cX7_end 16 = .ok (.aload_n 0, 1) := by decide +kernel
theorem dX7_end_17 : decode cX7_end 17 = .ok (.getfield 170, 3) := by decide +kernel
theorem dX7_end_20 : decode cX7_end 20 = .ok (.istore_n 2, 1) := by decide +kernel
theorem dX7_end_21 : decode cX7_end 21 = .ok (.aload_n 0, 1) := by decide +kernel
theorem dX7_end_22 : decode cX7_end 22 = .ok (.iload_n 1, 1) := by decide +kernel
theorem dX7_end_23 : decode cX7_end 23 = .ok (.putfield 170, 3) := by decide +kernel
theorem dX7_end_26 : decode cX7_end 26 = .ok (.iload_n 2, 1) := by decide +kernel
theorem dX7_end_27 : decode cX7_end 27 = .ok (.ireturn, 1) := by decide +kernel
theorem dX7_fails_0 : decode cX7_fails 0 = .ok (.aload_n 0, 1) := by decide +kernel
theorem dX7_fails_1 : decode cX7_fails 1 = .ok (.getfield 177, 3) := by decide +kernel
theorem dX7_fails_4 : decode cX7_fails 4 = .ok (.ifCond .ne 13, 3) := by decide +kernel
theorem dX7_fails_7 : decode cX7_fails 7 = .ok (.aload_n 0, 1) := by decide +kernel
theorem dX7_fails_8 : decode cX7_fails 8 = .ok (.iload_n 1, 1) := by decide +kernel
theorem dX7_fails_9 : decode cX7_fails 9 = .ok (.putfield 177, 3) := by decide +kernel
theorem dX7_fails_12 : decode cX7_fails 12 = .ok (.aload_n 0, 1) := by decide +kernel
theorem dX7_fails_13 : decode cX7_fails 13 = .ok (.iload_n 2, 1) := by decide +kernel
theorem dX7_fails_14 : decode cX7_fails 14 = .ok (.putfield 180, 3) := by decide +kernel
theorem dX7_fails_17 : decode cX7_fails 17 = .ok (.return_, 1) := by decide +kernel
theorem dX7_look_0 : decode cX7_look 0 = .ok (.iload_n 1, 1) := by decide +kernel
theorem dX7_look_1 : decode cX7_look 1 = .ok (.aload_n 0, 1) := by decide +kernel
theorem dX7_look_2 : decode cX7_look 2 = .ok (.getfield 170, 3) := by decide +kernel
theorem dX7_look_5 : decode cX7_look 5 = .ok (.if_icmp .ge 12, 3) := by decide +kernel
theorem dX7_look_8 : decode cX7_look 8 = .ok (.aload_n 0, 1) := by decide +kernel
theorem dX7_look_9 : decode cX7_look 9 = .ok (.getfield 107, 3) := by decide +kernel
theorem dX7_look_12 : decode cX7_look 12 = .ok (.iload_n 1, 1) := by decide +kernel
theorem dX7_look_13 : decode cX7_look 13 = .ok (.iaload, 1) := by decide +kernel
theorem dX7_look_14 : decode cX7_look 14 = .ok (.goto 4, 3) := by decide +kernel
theorem dX7_look_17 : decode cX7_look 17 = .ok (.iconst (-1), 1) := by decide +kernel
theorem dX7_look_18 : decode cX7_look 18 = .ok (.ireturn, 1) := by decide +kernel
set_option maxRecDepth 20000 in
theorem ggX7_isClosed_X7_look : GoodIn wsX7_isClosed wsX7_look := goodIn_r _ [7, 8, 9, 10, 11, 12, 13, 14, 15, 16, 17, 18, 19, 20, 21, 22, 23, 24, 25, 26, 27, 28, 29, 30, 31, 32, 33, 34, 35, 36, 37, 38, 39, 40, 41, 42, 43, 44, 45, 46, 47, 48, 49, 50, 51, 52, 53, 54, 55, 56, 57, 58, 59, 60, 61, 62, 63, 64, 65, 66] (by decide +kernel) (by decide +kernel)
set_option maxRecDepth 20000 in
theorem gX7_isClosed_X7_look : GoodIn wsX7_isClosed (wsV RX7 189 RX7 yX7_look wsX7_look) := goodIn_app (goodIn_of _ (by decide +kernel)) ggX7_isClosed_X7_look
theorem dX7_isClosed_0 : decode cX7_isClosed 0 = .ok (.aload_n 0, 1) := by decide +kernel
theorem dX7_isClosed_1 : decode cX7_isClosed 1 = .ok (.getfield 183, 3) := by decide +kernel
theorem dX7_isClosed_4 : decode cX7_isClosed 4 = .ok (.aload_n 0, 1) := by decide +kernel
theorem dX7_isClosed_5 : decode cX7_isClosed 5 = .ok (.getfield 186, 3) := by decide +kernel
theorem dX7_isClosed_8 : decode cX7_isClosed 8 = .ok (.isub, 1) := by decide +kernel
theorem dX7_isClosed_9 : decode cX7_isClosed 9 = .ok (.bipush 6, 2) := by decide +kernel
theorem dX7_isClosed_11 : decode cX7_isClosed 11 = .ok (.if_icmp .ne 95, 3) := by decide +kernel
theorem dX7_isClosed_14 : decode cX7_isClosed 14 = .ok (.aload_n 0, 1) := by decide +kernel
theorem dX7_isClosed_15 : decode cX7_isClosed 15 = .ok (.aload_n 0, 1) := by decide +kernel
theorem dX7_isClosed_16 : decode cX7_isClosed 16 = .ok (.getfield 186, 3) := by decide +kernel
theorem dX7_isClosed_19 : decode cX7_isClosed 19 = .ok (.invokevirtual 189, 3) := by decide +kernel
theorem dX7_isClosed_22 : decode cX7_isClosed 22 = .ok (.bipush 99, 2) := by decide +kernel
theorem dX7_isClosed_24 : decode cX7_isClosed 24 = .ok (.if_icmp .ne 82, 3) := by decide +kernel
theorem dX7_isClosed_27 : decode cX7_isClosed 27 = .ok (.aload_n 0, 1) := by decide +kernel
theorem dX7_isClosed_28 : decode cX7_isClosed 28 = .ok (.aload_n 0, 1) := by decide +kernel
theorem dX7_isClosed_29 : decode cX7_isClosed 29 = .ok (.getfield 186, 3) := by decide +kernel
theorem dX7_isClosed_32 : decode cX7_isClosed 32 = .ok (.iconst 1, 1) := by decide +kernel
theorem dX7_isClosed_33 : decode cX7_isClosed 33 = .ok (.iadd, 1) := by decide +kernel
theorem dX7_isClosed_34 : decode cX7_isClosed 34 = .ok (.invokevirtual 189, 3) := by decide +kernel
theorem dX7_isClosed_37 : decode cX7_isClosed 37 = .ok (.bipush 108, 2) := by decide +kernel
theorem dX7_isClosed_39 : decode cX7_isClosed 39 = .ok (.if_icmp .ne 67, 3) := by decide +kernel
theorem dX7_isClosed_42 : decode cX7_isClosed 42 = .ok (.aload_n 0, 1) := by decide +kernel
theorem dX7_isClosed_43 : decode cX7_isClosed 43 = .ok (.aload_n 0, 1) := by decide +kernel
theorem dX7_isClosed_44 : decode cX7_isClosed 44 = .ok (.getfield 186, 3) := by decide +kernel
theorem dX7_isClosed_47 : decode cX7_isClosed 47 = .ok (.iconst 2, 1) := by decide +kernel
theorem dX7_isClosed_48 : decode cX7_isClosed 48 = .ok (.iadd, 1) := by decide +kernel
theorem dX7_isClosed_49 : decode cX7_isClosed 49 = .ok (.invokevirtual 189, 3) := by decide +kernel
theorem dX7_isClosed_52 : decode cX7_isClosed 52 = .ok (.bipush 111, 2) := by decide +kernel
theorem dX7_isClosed_54 : decode cX7_isClosed 54 = .ok (.if_icmp .ne 52, 3) := by decide +kernel
theorem dX7_isClosed_57 : decode cX7_isClosed 57 = .ok (.aload_n 0, 1) := by decide +kernel
theorem dX7_isClosed_58 : decode cX7_isClosed 58 = .ok (.aload_n 0, 1) := by decide +kernel
theorem dX7_isClosed_59 : decode cX7_isClosed 59 = .ok (.getfield 186, 3) := by decide +kernel
theorem dX7_isClosed_62 : decode cX7_isClosed 62 = .ok (.iconst 3, 1) := by decide +kernel
theorem dX7_isClosed_63 : decode cX7_isClosed 63 = .ok (.iadd, 1) := by decide +kernel
theorem dX7_isClosed_64 : decode cX7_isClosed 64 = .ok (.invokevirtual 189, 3) := by decide +kernel
theorem dX7_isClosed_67 : decode cX7_isClosed 67 = .ok (.bipush 115, 2) := by decide +kernel
theorem dX7_isClosed_69 : decode cX7_isClosed 69 = .ok (.if_icmp .ne 37, 3) := by decide +kernel
theorem dX7_isClosed_72 : decode cX7_isClosed 72 = .ok (.aload_n 0, 1) := by decide +kernel
theorem dX7_isClosed_73 : decode cX7_isClosed 73 = .ok (.aload_n 0, 1) := by decide +kernel
theorem dX7_isClosed_74 : decode cX7_isClosed 74 = .ok (.getfield 186, 3) := by decide +kernel
theorem dX7_isClosed_77 : decode cX7_isClosed 77 = .ok (.iconst 4, 1) := by decide +kernel
theorem dX7_isClosed_78 : decode cX7_isClosed 78 = .ok (.iadd, 1) := by decide +kernel
theorem dX7_isClosed_79 : decode cX7_isClosed 79 = .ok (.invokevirtual 189, 3) := by decide +kernel
theorem dX7_isClosed_82 : decode cX7_isClosed 82 = .ok (.bipush 101, 2) := by decide +kernel
theorem dX7_isClosed_84 : decode cX7_isClosed 84 = .ok (.if_icmp .ne 22, 3) := by decide +kernel
theorem dX7_isClosed_87 : decode cX7_isClosed 87 = .ok (.aload_n 0, 1) := by decide +kernel
theorem dX7_isClosed_88 : decode cX7_isClosed 88 = .ok (.aload_n 0, 1) := by decide +kernel
theorem dX7_isClosed_89 : decode cX7_isClosed 89 = .ok (.getfield 186, 3) := by decide +kernel
theorem dX7_isClosed_92 : decode cX7_isClosed 92 = .ok (.iconst 5, 1) := by decide +kernel
theorem dX7_isClosed_93 : decode cX7_isClosed 93 = .ok (.iadd, 1) := by decide +kernel
theorem dX7_isClosed_94 : decode cX7_isClosed 94 = .ok (.invokevirtual 189, 3) := by decide +kernel
theorem dX7_isClosed_97 : decode cX7_isClosed 97 = .ok (.bipush 100, 2) := by decide +kernel
theorem dX7_isClosed_99 : decode cX7_isClosed 99 = .ok (.if_icmp .ne 7, 3) := by decide +kernel
theorem dX7_isClosed_102 : decode cX7_isClosed 102 = .ok (.iconst 1, 1) := by decide +kernel
theorem dX7_isClosed_103 : decode cX7_isClosed 103 = .ok (.goto 4, 3) := by decide +kernel
theorem dX7_isClosed_106 : decode cX7_isClosed 106 = .ok (.iconst 0, 1) := by decide +kernel
theorem dX7_isClosed_107 : decode cX7_isClosed 107 = .ok (.ireturn, 1) := by decide +kernel
theorem dX7_isSign_0 : decode cX7_isSign 0 = .ok (.iload_n 0, 1) := by decide +kernel
theorem dX7_isSign_1 : decode cX7_isSign 1 = .ok (.bipush 61, 2) := by decide +kernel
theorem dX7_isSign_3 : decode cX7_isSign 3 = .ok (.if_icmp .eq 63, 3) := by decide +kernel
theorem dX7_isSign_6 : decode cX7_isSign 6 = .ok (.iload_n 0, 1) := by decide +kernel
theorem dX7_isSign_7 : decode cX7_isSign 7 = .ok (.bipush 59, 2) := by decide +kernel
theorem dX7_isSign_9 : decode cX7_isSign 9 = .ok (.if_icmp .eq 57, 3) := by decide +kernel
theorem dX7_isSign_12 : decode cX7_isSign 12 = .ok (.iload_n 0, 1) := by decide +kernel
theorem dX7_isSign_13 : decode cX7_isSign 13 = .ok (.bipush 44, 2) := by decide +kernel
theorem dX7_isSign_15 : decode cX7_isSign 15 = .ok (.if_icmp .eq 51, 3) := by decide +kernel
theorem dX7_isSign_18 : decode cX7_isSign 18 = .ok (.iload_n 0, 1) := by decide +kernel
theorem dX7_isSign_19 : decode cX7_isSign 19 = .ok (.bipush 124, 2) := by decide +kernel
theorem dX7_isSign_21 : decode cX7_isSign 21 = .ok (.if_icmp .eq 45, 3) := by decide +kernel
theorem dX7_isSign_24 : decode cX7_isSign 24 = .ok (.iload_n 0, 1) := by decide +kernel
theorem dX7_isSign_25 : decode cX7_isSign 25 = .ok (.bipush 40, 2) := by decide +kernel
theorem dX7_isSign_27 : decode cX7_isSign 27 = .ok (.if_icmp .eq 39, 3) := by decide +kernel
theorem dX7_isSign_30 : decode cX7_isSign 30 = .ok (.iload_n 0, 1) := by decide +kernel
theorem dX7_isSign_31 : decode cX7_isSign 31 = .ok (.bipush 41, 2) := by decide +kernel
theorem dX7_isSign_33 : decode cX7_isSign 33 = .ok (.if_icmp .eq 33, 3) := by decide +kernel
theorem dX7_isSign_36 : decode cX7_isSign 36 = .ok (.iload_n 0, 1) := by decide +kernel
theorem dX7_isSign_37 : decode cX7_isSign 37 = .ok (.bipush 91, 2) := by decide +kernel
theorem dX7_isSign_39 : decode cX7_isSign 39 = .ok (.if_icmp .eq 27, 3) := by decide +kernel
theorem dX7_isSign_42 : decode cX7_isSign 42 = .ok (.iload_n 0, 1) := by decide +kernel
theorem dX7_isSign_43 : decode cX7_isSign 43 = .ok (.bipush 93, 2) := by decide +kernel
theorem dX7_isSign_45 : decode cX7_isSign 45 = .ok (.if_icmp .eq 21, 3) := by decide +kernel
theorem dX7_isSign_48 : decode cX7_isSign 48 = .ok (.iload_n 0, 1) := by decide +kernel
theorem dX7_isSign_49 : decode cX7_isSign 49 = .ok (.bipush 64, 2) := by decide +kernel
theorem dX7_isSign_51 : decode cX7_isSign 51 = .ok (.if_icmp .eq 15, 3) := by decide +kernel
theorem dX7_isSign_54 : decode cX7_isSign 54 = .ok (.iload_n 0, 1) := by decide +kernel
theorem dX7_isSign_55 : decode cX7_isSign 55 = .ok (.bipush 33, 2) := by decide +kernel
theorem dX7_isSign_57 : decode cX7_isSign 57 = .ok (.if_icmp .eq 9, 3) := by decide +kernel
theorem dX7_isSign_60 : decode cX7_isSign 60 = .ok (.iload_n 0, 1) := by decide +kernel
theorem dX7_isSign_61 : decode cX7_isSign 61 = .ok (.bipush 46, 2) := by decide +kernel
theorem dX7_isSign_63 : decode cX7_isSign 63 = .ok (.if_icmp .ne 7, 3) := by decide +kernel
theorem dX7_isSign_66 : decode cX7_isSign 66 = .ok (.iconst 1, 1) := by decide +kernel
theorem dX7_isSign_67 : decode cX7_isSign 67 = .ok (.goto 4, 3) := by decide +kernel
theorem dX7_isSign_70 : decode cX7_isSign 70 = .ok (.iconst 0, 1) := by decide +kernel
theorem dX7_isSign_71 : decode cX7_isSign 71 = .ok (.ireturn, 1) := by decide +kernel
set_option maxRecDepth 20000 in
theorem ggX7_next_X7_look : GoodIn wsX7_next wsX7_look := goodIn_r _ [15, 16, 17, 34, 35, 36, 37, 38, 39, 40, 41, 42, 43, 44, 45, 46, 47, 48, 49, 50, 51, 52, 53, 54, 55, 56, 57, 58, 59, 60, 61, 62, 63, 64, 65, 66, 67, 68, 69, 70, 71, 72, 73, 74, 75, 76, 77, 78, 79, 80, 81, 82, 83, 84, 85, 86, 87, 88, 89, 90] (by decide +kernel) (by decide +kernel)
set_option maxRecDepth 20000 in
theorem gX7_next_X7_look : GoodIn wsX7_next (wsV RX7 189 RX7 yX7_look wsX7_look) := goodIn_app (goodIn_of _ (by decide +kernel)) ggX7_next_X7_look
set_option maxRecDepth 20000 in
theorem ggX7_next_X7_in : GoodIn wsX7_next wsX7_in := goodIn_r _ [20] (by decide +kernel) (by decide +kernel)
set_option maxRecDepth 20000 in
theorem gX7_next_X7_in : GoodIn wsX7_next (va_wsS RX7 144 yX7_in wsX7_in) := goodIn_app (goodIn_of _ (by decide +kernel)) ggX7_next_X7_in
set_option maxRecDepth 20000 in
theorem ggX7_next_X7_fails : GoodIn wsX7_next wsX7_fails := goodIn_r _ [24, 25, 26, 34, 35, 36, 37, 38, 39, 40, 41, 42, 43, 44, 45, 46, 47, 48, 49, 50, 51, 52, 53, 54, 55, 56, 57, 58, 59, 60, 61, 62, 63, 64, 65, 66, 67, 68, 69, 70, 71, 72, 73, 74, 75, 76, 77, 78, 79, 80, 81, 82, 83, 84, 85, 86, 87, 88, 89, 90] (by decide +kernel) (by decide +kernel)
set_option maxRecDepth 20000 in
theorem gX7_next_X7_fails : GoodIn wsX7_next (wsV RX7 207 RX7 yX7_fails wsX7_fails) := goodIn_app (goodIn_of _ (by decide +kernel)) ggX7_next_X7_fails
set_option maxRecDepth 20000 in
theorem ggX7_next_X7_isClosed : GoodIn wsX7_next wsX7_isClosed := goodIn_r _ [30, 1, 2, 11, 12, 13, 14, 15, 16, 17, 34, 35, 36, 37, 38, 39, 40, 41, 42, 43, 44, 45, 46, 47, 48, 49, 50, 51, 52, 53, 54, 55, 56, 57, 58, 59, 60, 61, 62, 63, 64, 65, 66, 67, 68, 69, 70, 71, 72, 73, 74, 75, 76, 77, 78, 79, 80, 81, 82, 83, 84, 85, 86, 87, 88, 89, 90] (by decide +kernel) (by decide +kernel)
set_option maxRecDepth 20000 in
theorem gX7_next_X7_isClosed : GoodIn wsX7_next (wsV RX7 215 RX7 yX7_isClosed wsX7_isClosed) := goodIn_app (goodIn_of _ (by decide +kernel)) ggX7_next_X7_isClosed
set_option maxRecDepth 20000 in
theorem ggX7_next_X7_isSign : GoodIn wsX7_next wsX7_isSign := goodIn_r _ [33] (by decide +kernel) (by decide +kernel)
set_option maxRecDepth 20000 in
theorem gX7_next_X7_isSign : GoodIn wsX7_next (va_wsS RX7 219 yX7_isSign wsX7_isSign) := goodIn_app (goodIn_of _ (by decide +kernel)) ggX7_next_X7_isSign
theorem dX7_next_0 : decode cX7_next 0 = .ok (.aload_n 0, 1) := by decide +kernel
theorem dX7_next_1 : decode cX7_next 1 = .ok (.aload_n 0, 1) := by decide +kernel
theorem dX7_next_2 : decode cX7_next 2 = .ok (.getfield 183, 3) := by decide +kernel
theorem dX7_next_5 : decode cX7_next 5 = .ok (.invokevirtual 189, 3) := by decide +kernel
theorem dX7_next_8 : decode cX7_next 8 = .ok (.bipush 32, 2) := by decide +kernel
theorem dX7_next_10 : decode cX7_next 10 = .ok (.if_icmp .ne 16, 3) := by decide +kernel
theorem dX7_next_13 : decode cX7_next 13 = .ok (.aload_n 0, 1) := by decide +kernel
theorem dX7_next_14 : decode cX7_next 14 = .ok (.dup, 1) := by decide +kernel
theorem dX7_next_15 : decode cX7_next 15 = .ok (.getfield 183, 3) := by decide +kernel
theorem dX7_next_18 : decode cX7_next 18 = .ok (.iconst 1, 1) := by decide +kernel
theorem dX7_next_19 : decode cX7_next 19 = .ok (.iadd, 1) := by decide +kernel
theorem dX7_next_20 : decode cX7_next 20 = .ok (.putfield 183, 3) := by decide +kernel
theorem dX7_next_23 : decode cX7_next 23 = .ok (.goto (-23), 3) := by decide +kernel
theorem dX7_next_26 : decode cX7_next 26 = .ok (.aload_n 0, 1) := by decide +kernel
theorem dX7_next_27 : decode cX7_next 27 = .ok (.aload_n 0, 1) := by decide +kernel
theorem dX7_next_28 : decode cX7_next 28 = .ok (.getfield 183, 3) := by decide +kernel
theorem dX7_next_31 : decode cX7_next 31 = .ok (.putfield 186, 3) := by decide +kernel
theorem dX7_next_34 : decode cX7_next 34 = .ok (.aload_n 0, 1) := by decide +kernel
theorem dX7_next_35 : decode cX7_next 35 = .ok (.aload_n 0, 1) := by decide +kernel
theorem dX7_next_36 : decode cX7_next 36 = .ok (.getfield 183, 3) := by decide +kernel
theorem dX7_next_39 : decode cX7_next 39 = .ok (.invokevirtual 189, 3) := by decide +kernel
theorem dX7_next_42 : decode cX7_next 42 = .ok (.istore_n 1, 1) := by decide +kernel
theorem dX7_next_43 : decode cX7_next 43 = .ok (.iload_n 1, 1) := by decide +kernel
theorem dX7_next_44 : decode cX7_next 44 = .ok (.ifCond .ge 11, 3) := by decide +kernel
theorem dX7_next_47 : decode cX7_next 47 = .ok (.aload_n 0, 1) := by decide +kernel
theorem dX7_next_48 : decode cX7_next 48 = .ok (.iconst 0, 1) := by decide +kernel
theorem dX7_next_49 : decode cX7_next 49 = .ok (.putfield 193, 3) := by decide +kernel
theorem dX7_next_52 : decode cX7_next 52 = .ok (.goto 363, 3) := by decide +kernel
theorem dX7_next_55 : decode cX7_next 55 = .ok (.iload_n 1, 1) := by decide +kernel
theorem dX7_next_56 : decode cX7_next 56 = .ok (.i2l, 1) := by decide +kernel
theorem dX7_next_57 : decode cX7_next 57 = .ok (.ldc2_w 196, 3) := by decide +kernel
theorem dX7_next_60 : decode cX7_next 60 = .ok (.ldc2_w 198, 3) := by decide +kernel
theorem dX7_next_63 : decode cX7_next 63 = .ok (.invokestatic 144, 3) := by decide +kernel
theorem dX7_next_66 : decode cX7_next 66 = .ok (.ifCond .eq 26, 3) := by decide +kernel
theorem dX7_next_69 : decode cX7_next 69 = .ok (.aload_n 0, 1) := by decide +kernel
theorem dX7_next_70 : decode cX7_next 70 = .ok (.iconst 1, 1) := by decide +kernel
theorem dX7_next_71 : decode cX7_next 71 = .ok (.putfield 193, 3) := by decide +kernel
theorem dX7_next_74 : decode cX7_next 74 = .ok (.aload_n 0, 1) := by decide +kernel
theorem dX7_next_75 : decode cX7_next 75 = .ok (.iload_n 1, 1) := by decide +kernel
theorem dX7_next_76 : decode cX7_next 76 = .ok (.putfield 200, 3) := by decide +kernel
theorem dX7_next_79 : decode cX7_next 79 = .ok (.aload_n 0, 1) := by decide +kernel
theorem dX7_next_80 : decode cX7_next 80 = .ok (.dup, 1) := by decide +kernel
theorem dX7_next_81 : decode cX7_next 81 = .ok (.getfield 183, 3) := by decide +kernel
theorem dX7_next_84 : decode cX7_next 84 = .ok (.iconst 1, 1) := by decide +kernel
theorem dX7_next_85 : decode cX7_next 85 = .ok (.iadd, 1) := by decide +kernel
theorem dX7_next_86 : decode cX7_next 86 = .ok (.putfield 183, 3) := by decide +kernel
theorem dX7_next_89 : decode cX7_next 89 = .ok (.goto 326, 3) := by decide +kernel
theorem dX7_next_92 : decode cX7_next 92 = .ok (.iload_n 1, 1) := by decide +kernel
theorem dX7_next_93 : decode cX7_next 93 = .ok (.bipush 45, 2) := by decide +kernel
theorem dX7_next_95 : decode cX7_next 95 = .ok (.if_icmp .eq 17, 3) := by decide +kernel
theorem dX7_next_98 : decode cX7_next 98 = .ok (.iload_n 1, 1) := by decide +kernel
theorem dX7_next_99 : decode cX7_next 99 = .ok (.i2l, 1) := by decide +kernel
theorem dX7_next_100 : decode cX7_next 100 = .ok (.ldc2_w 203, 3) := by decide +kernel
theorem dX7_next_103 : decode cX7_next 103 = .ok (.ldc2_w 205, 3) := by decide +kernel
theorem dX7_next_106 : decode cX7_next 106 = .ok (.invokestatic 144, 3) := by decide +kernel
theorem dX7_next_109 : decode cX7_next 109 = .ok (.ifCond .eq 164, 3) := by decide +kernel
theorem dX7_next_112 : decode cX7_next 112 = .ok (.aload_n 0, 1) := by decide +kernel
theorem dX7_next_113 : decode cX7_next 113 = .ok (.iconst 2, 1) := by decide +kernel
theorem dX7_next_114 : decode cX7_next 114 = .ok (.putfield 193, 3) := by decide +kernel
theorem dX7_next_117 : decode cX7_next 117 = .ok (.aload_n 0, 1) := by decide +kernel
theorem dX7_next_118 : decode cX7_next 118 = .ok (.dup, 1) := by decide +kernel
theorem dX7_next_119 : decode cX7_next 119 = .ok (.getfield 183, 3) := by decide +kernel
theorem dX7_next_122 : decode cX7_next 122 = .ok (.iload_n 1, 1) := by decide +kernel
theorem dX7_next_123 : decode cX7_next 123 = .ok (.bipush 45, 2) := by decide +kernel
theorem dX7_next_125 : decode cX7_next 125 = .ok (.if_icmp .ne 7, 3) := by decide +kernel
theorem dX7_next_128 : decode cX7_next 128 = .ok (.iconst 1, 1) := by decide +kernel
theorem dX7_next_129 : decode cX7_next 129 = .ok (.goto 4, 3) := by decide +kernel
theorem dX7_next_132 : decode cX7_next 132 = .ok (.iconst 0, 1) := by decide +kernel
theorem dX7_next_133 : decode cX7_next 133 = .ok (.iadd, 1) := by decide +kernel
theorem dX7_next_134 : decode cX7_next 134 = .ok (.putfield 183, 3) := by decide +kernel
theorem dX7_next_137 : decode cX7_next 137 = .ok (.aload_n 0, 1) := by decide +kernel
theorem dX7_next_138 : decode cX7_next 138 = .ok (.getfield 183, 3) := by decide +kernel
theorem dX7_next_141 : decode cX7_next 141 = .ok (.istore_n 2, 1) := by decide +kernel
theorem dX7_next_142 : decode cX7_next 142 = .ok (.aload_n 0, 1) := by decide +kernel
theorem dX7_next_143 : decode cX7_next 143 = .ok (.iconst 0, 1) := by decide +kernel
theorem dX7_next_144 : decode cX7_next 144 = .ok (.putfield 200, 3) := by decide +kernel
theorem dX7_next_147 : decode cX7_next 147 = .ok (.aload_n 0, 1) := by decide +kernel
theorem dX7_next_148 : decode cX7_next 148 = .ok (.aload_n 0, 1) := by decide +kernel
theorem dX7_next_149 : decode cX7_next 149 = .ok (.getfield 183, 3) := by decide +kernel
theorem dX7_next_152 : decode cX7_next 152 = .ok (.invokevirtual 189, 3) := by decide +kernel
theorem dX7_next_155 : decode cX7_next 155 = .ok (.i2l, 1) := by decide +kernel
theorem dX7_next_156 : decode cX7_next 156 = .ok (.ldc2_w 203, 3) := by decide +kernel
theorem dX7_next_159 : decode cX7_next 159 = .ok (.ldc2_w 205, 3) := by decide +kernel
theorem dX7_next_162 : decode cX7_next 162 = .ok (.invokestatic 144, 3) := by decide +kernel
theorem dX7_next_165 : decode cX7_next 165 = .ok (.ifCond .eq 56, 3) := by decide +kernel
theorem dX7_next_168 : decode cX7_next 168 = .ok (.aload_n 0, 1) := by decide +kernel
theorem dX7_next_169 : decode cX7_next 169 = .ok (.aload_n 0, 1) := by decide +kernel
theorem dX7_next_170 : decode cX7_next 170 = .ok (.getfield 183, 3) := by decide +kernel
theorem dX7_next_173 : decode cX7_next 173 = .ok (.iload_n 2, 1) := by decide +kernel
theorem dX7_next_174 : decode cX7_next 174 = .ok (.isub, 1) := by decide +kernel
theorem dX7_next_175 : decode cX7_next 175 = .ok (.iconst 4, 1) := by decide +kernel
theorem dX7_next_176 : decode cX7_next 176 = .ok (.if_icmp .ge 25, 3) := by decide +kernel
theorem dX7_next_179 : decode cX7_next 179 = .ok (.bipush 10, 2) := by decide +kernel
theorem dX7_next_181 : decode cX7_next 181 = .ok (.aload_n 0, 1) := by decide +kernel
theorem dX7_next_182 : decode cX7_next 182 = .ok (.getfield 200, 3) := by decide +kernel
theorem dX7_next_185 : decode cX7_next 185 = .ok (.imul, 1) := by decide +kernel
theorem dX7_next_186 : decode cX7_next 186 = .ok (.aload_n 0, 1) := by decide +kernel
theorem dX7_next_187 : decode cX7_next 187 = .ok (.aload_n 0, 1) := by decide +kernel
theorem dX7_next_188 : decode cX7_next 188 = .ok (.getfield 183, 3) := by decide +kernel
theorem dX7_next_191 : decode cX7_next 191 = .ok (.invokevirtual 189, 3) := by decide +kernel
theorem dX7_next_194 : decode cX7_next 194 = .ok (.iadd, 1) := by decide +kernel
theorem dX7_next_195 : decode cX7_next 195 = .ok (.bipush 48, 2) := by decide +kernel
theorem dX7_next_197 : decode cX7_next 197 = .ok (.isub, 1) := by decide +kernel
theorem dX7_next_198 : decode cX7_next 198 = .ok (.goto 7, 3) := by decide +kernel
theorem dX7_next_201 : decode cX7_next 201 = .ok (.aload_n 0, 1) := by decide +kernel
theorem dX7_next_202 : decode cX7_next 202 = .ok (.getfield 200, 3) := by decide +kernel
theorem dX7_next_205 : decode cX7_next 205 = .ok (.putfield 200, 3) := by decide +kernel
theorem dX7_next_208 : decode cX7_next 208 = .ok (.aload_n 0, 1) := by decide +kernel
theorem dX7_next_209 : decode cX7_next 209 = .ok (.dup, 1) := by decide +kernel
theorem dX7_next_210 : decode cX7_next 210 = .ok (.getfield 183, 3) := by decide +kernel
theorem dX7_next_213 : decode cX7_next 213 = .ok (.iconst 1, 1) := by decide +kernel
theorem dX7_next_214 : decode cX7_next 214 = .ok (.iadd, 1) := by decide +kernel
theorem dX7_next_215 : decode cX7_next 215 = .ok (.putfield 183, 3) := by decide +kernel
theorem dX7_next_218 : decode cX7_next 218 = .ok (.goto (-71), 3) := by decide +kernel
theorem dX7_next_221 : decode cX7_next 221 = .ok (.aload_n 0, 1) := by decide +kernel
theorem dX7_next_222 : decode cX7_next 222 = .ok (.iload_n 1, 1) := by decide +kernel
theorem dX7_next_223 : decode cX7_next 223 = .ok (.bipush 45, 2) := by decide +kernel
theorem dX7_next_225 : decode cX7_next 225 = .ok (.if_icmp .ne 11, 3) := by decide +kernel
theorem dX7_next_228 : decode cX7_next 228 = .ok (.aload_n 0, 1) := by decide +kernel
theorem dX7_next_229 : decode cX7_next 229 = .ok (.getfield 200, 3) := by decide +kernel
theorem dX7_next_232 : decode cX7_next 232 = .ok (.ineg, 1) := by decide +kernel
theorem dX7_next_233 : decode cX7_next 233 = .ok (.goto 7, 3) := by decide +kernel
theorem dX7_next_236 : decode cX7_next 236 = .ok (.aload_n 0, 1) := by decide +kernel
theorem dX7_next_237 : decode cX7_next 237 = .ok (.getfield 200, 3) := by decide +kernel
theorem dX7_next_240 : decode cX7_next 240 = .ok (.putfield 200, 3) := by decide +kernel
theorem dX7_next_243 : decode cX7_next 243 = .ok (.aload_n 0, 1) := by decide +kernel
theorem dX7_next_244 : decode cX7_next 244 = .ok (.getfield 183, 3) := by decide +kernel
theorem dX7_next_247 : decode cX7_next 247 = .ok (.iload_n 2, 1) := by decide +kernel
theorem dX7_next_248 : decode cX7_next 248 = .ok (.if_icmp .eq 13, 3) := by decide +kernel
theorem dX7_next_251 : decode cX7_next 251 = .ok (.aload_n 0, 1) := by decide +kernel
theorem dX7_next_252 : decode cX7_next 252 = .ok (.getfield 183, 3) := by decide +kernel
theorem dX7_next_255 : decode cX7_next 255 = .ok (.iload_n 2, 1) := by decide +kernel
theorem dX7_next_256 : decode cX7_next 256 = .ok (.isub, 1) := by decide +kernel
theorem dX7_next_257 : decode cX7_next 257 = .ok (.iconst 4, 1) := by decide +kernel
theorem dX7_next_258 : decode cX7_next 258 = .ok (.if_icmp .le 12, 3) := by decide +kernel
theorem dX7_next_261 : decode cX7_next 261 = .ok (.aload_n 0, 1) := by decide +kernel
theorem dX7_next_262 : decode cX7_next 262 = .ok (.iconst 1, 1) := by decide +kernel
theorem dX7_next_263 : decode cX7_next 263 = .ok (.aload_n 0, 1) := by decide +kernel
theorem dX7_next_264 : decode cX7_next 264 = .ok (.getfield 186, 3) := by decide +kernel
theorem dX7_next_267 : decode cX7_next 267 = .ok (.invokevirtual 207, 3) := by decide +kernel
theorem dX7_next_270 : decode cX7_next 270 = .ok (.goto 145, 3) := by decide +kernel
theorem dX7_next_273 : decode cX7_next 273 = .ok (.iload_n 1, 1) := by decide +kernel
theorem dX7_next_274 : decode cX7_next 274 = .ok (.i2l, 1) := by decide +kernel
theorem dX7_next_275 : decode cX7_next 275 = .ok (.ldc2_w 211, 3) := by decide +kernel
theorem dX7_next_278 : decode cX7_next 278 = .ok (.ldc2_w 213, 3) := by decide +kernel
theorem dX7_next_281 : decode cX7_next 281 = .ok (.invokestatic 144, 3) := by decide +kernel
theorem dX7_next_284 : decode cX7_next 284 = .ok (.ifCond .eq 38, 3) := by decide +kernel
theorem dX7_next_287 : decode cX7_next 287 = .ok (.aload_n 0, 1) := by decide +kernel
theorem dX7_next_288 : decode cX7_next 288 = .ok (.iconst 3, 1) := by decide +kernel
theorem dX7_next_289 : decode cX7_next 289 = .ok (.putfield 193, 3) := by decide +kernel
theorem dX7_next_292 : decode cX7_next 292 = .ok (.aload_n 0, 1) := by decide +kernel
theorem dX7_next_293 : decode cX7_next 293 = .ok (.dup, 1) := by decide +kernel
theorem dX7_next_294 : decode cX7_next 294 = .ok (.getfield 183, 3) := by decide +kernel
theorem dX7_next_297 : decode cX7_next 297 = .ok (.bipush 6, 2) := by decide +kernel
theorem dX7_next_299 : decode cX7_next 299 = .ok (.iadd, 1) := by decide +kernel
theorem dX7_next_300 : decode cX7_next 300 = .ok (.putfield 183, 3) := by decide +kernel
theorem dX7_next_303 : decode cX7_next 303 = .ok (.aload_n 0, 1) := by decide +kernel
theorem dX7_next_304 : decode cX7_next 304 = .ok (.invokevirtual 215, 3) := by decide +kernel
theorem dX7_next_307 : decode cX7_next 307 = .ok (.ifCond .ne 108, 3) := by decide +kernel
theorem dX7_next_310 : decode cX7_next 310 = .ok (.aload_n 0, 1) := by decide +kernel
theorem dX7_next_311 : decode cX7_next 311 = .ok (.iconst 1, 1) := by decide +kernel
theorem dX7_next_312 : decode cX7_next 312 = .ok (.aload_n 0, 1) := by decide +kernel
theorem dX7_next_313 : decode cX7_next 313 = .ok (.getfield 186, 3) := by decide +kernel
theorem dX7_next_316 : decode cX7_next 316 = .ok (.invokevirtual 207, 3) := by decide +kernel
theorem dX7_next_319 : decode cX7_next 319 = .ok (.goto 96, 3) := by decide +kernel
theorem dX7_next_322 : decode cX7_next 322 = .ok (.iload_n 1, 1) := by decide +kernel
theorem dX7_next_323 : decode cX7_next 323 = .ok (.bipush 46, 2) := by decide +kernel
theorem dX7_next_325 : decode cX7_next 325 = .ok (.if_icmp .ne 51, 3) := by decide +kernel
theorem dX7_next_328 : decode cX7_next 328 = .ok (.aload_n 0, 1) := by decide +kernel
theorem dX7_next_329 : decode cX7_next 329 = .ok (.aload_n 0, 1) := by decide +kernel
theorem dX7_next_330 : decode cX7_next 330 = .ok (.getfield 183, 3) := by decide +kernel
theorem dX7_next_333 : decode cX7_next 333 = .ok (.iconst 1, 1) := by decide +kernel
theorem dX7_next_334 : decode cX7_next 334 = .ok (.iadd, 1) := by decide +kernel
theorem dX7_next_335 : decode cX7_next 335 = .ok (.invokevirtual 189, 3) := by decide +kernel
theorem dX7_next_338 : decode cX7_next 338 = .ok (.bipush 46, 2) := by decide +kernel
theorem dX7_next_340 : decode cX7_next 340 = .ok (.if_icmp .ne 36, 3) := by decide +kernel
theorem dX7_next_343 : decode cX7_next 343 = .ok (.aload_n 0, 1) := by decide +kernel
theorem dX7_next_344 : decode cX7_next 344 = .ok (.aload_n 0, 1) := by decide +kernel
theorem dX7_next_345 : decode cX7_next 345 = .ok (.getfield 183, 3) := by decide +kernel
theorem dX7_next_348 : decode cX7_next 348 = .ok (.iconst 2, 1) := by decide +kernel
theorem dX7_next_349 : decode cX7_next 349 = .ok (.iadd, 1) := by decide +kernel
theorem dX7_next_350 : decode cX7_next 350 = .ok (.invokevirtual 189, 3) := by decide +kernel
theorem dX7_next_353 : decode cX7_next 353 = .ok (.bipush 46, 2) := by decide +kernel
theorem dX7_next_355 : decode cX7_next 355 = .ok (.if_icmp .ne 21, 3) := by decide +kernel
theorem dX7_next_358 : decode cX7_next 358 = .ok (.aload_n 0, 1) := by decide +kernel
theorem dX7_next_359 : decode cX7_next 359 = .ok (.iconst 5, 1) := by decide +kernel
theorem dX7_next_360 : decode cX7_next 360 = .ok (.putfield 193, 3) := by decide +kernel
theorem dX7_next_363 : decode cX7_next 363 = .ok (.aload_n 0, 1) := by decide +kernel
theorem dX7_next_364 : decode cX7_next 364 = .ok (.dup, 1) := by decide +kernel
theorem dX7_next_365 : decode cX7_next 365 = .ok (.getfield 183, 3) := by decide +kernel
theorem dX7_next_368 : decode cX7_next 368 = .ok (.iconst 3, 1) := by decide +kernel
theorem dX7_next_369 : decode cX7_next 369 = .ok (.iadd, 1) := by decide +kernel
theorem dX7_next_370 : decode cX7_next 370 = .ok (.putfield 183, 3) := by decide +kernel
theorem dX7_next_373 : decode cX7_next 373 = .ok (.goto 42, 3) := by decide +kernel
theorem dX7_next_376 : decode cX7_next 376 = .ok (.iload_n 1, 1) := by decide +kernel
theorem dX7_next_377 : decode cX7_next 377 = .ok (.invokestatic 219, 3) := by decide +kernel
theorem dX7_next_380 : decode cX7_next 380 = .ok (.ifCond .eq 26, 3) := by decide +kernel
theorem dX7_next_383 : decode cX7_next 383 = .ok (.aload_n 0, 1) := by decide +kernel
theorem dX7_next_384 : decode cX7_next 384 = .ok (.iconst 4, 1) := by decide +kernel
theorem dX7_next_385 : decode cX7_next 385 = .ok (.putfield 193, 3) := by decide +kernel
theorem dX7_next_388 : decode cX7_next 388 = .ok (.aload_n 0, 1) := by decide +kernel
theorem dX7_next_389 : decode cX7_next 389 = .ok (.iload_n 1, 1) := by decide +kernel
theorem dX7_next_390 : decode cX7_next 390 = .ok (.putfield 200, 3) := by decide +kernel
theorem dX7_next_393 : decode cX7_next 393 = .ok (.aload_n 0, 1) := by decide +kernel
theorem dX7_next_394 : decode cX7_next 394 = .ok (.dup, 1) := by decide +kernel
theorem dX7_next_395 : decode cX7_next 395 = .ok (.getfield 183, 3) := by decide +kernel
theorem dX7_next_398 : decode cX7_next 398 = .ok (.iconst 1, 1) := by decide +kernel
theorem dX7_next_399 : decode cX7_next 399 = .ok (.iadd, 1) := by decide +kernel
theorem dX7_next_400 : decode cX7_next 400 = .ok (.putfield 183, 3) := by decide +kernel
theorem dX7_next_403 : decode cX7_next 403 = .ok (.goto 12, 3) := by decide +kernel
theorem dX7_next_406 : decode cX7_next 406 = .ok (.aload_n 0, 1) := by decide +kernel
theorem dX7_next_407 : decode cX7_next 407 = .ok (.iconst 1, 1) := by decide +kernel
theorem dX7_next_408 : decode cX7_next 408 = .ok (.aload_n 0, 1) := by decide +kernel
theorem dX7_next_409 : decode cX7_next 409 = .ok (.getfield 186, 3) := by decide +kernel
theorem dX7_next_412 : decode cX7_next 412 = .ok (.invokevirtual 207, 3) := by decide +kernel
theorem dX7_next_415 : decode cX7_next 415 = .ok (.return_, 1) := by decide +kernel
theorem dX7_is_0 : decode cX7_is 0 = .ok (.aload_n 0, 1) := by decide +kernel
theorem dX7_is_1 : decode cX7_is 1 = .ok (.getfield 177, 3) := by decide +kernel
theorem dX7_is_4 : decode cX7_is 4 = .ok (.ifCond .ne 23, 3) := by decide +kernel
theorem dX7_is_7 : decode cX7_is 7 = .ok (.aload_n 0, 1) := by decide +kernel
theorem dX7_is_8 : decode cX7_is 8 = .ok (.getfield 193, 3) := by decide +kernel
theorem dX7_is_11 : decode cX7_is 11 = .ok (.iconst 4, 1) := by decide +kernel
theorem dX7_is_12 : decode cX7_is 12 = .ok (.if_icmp .ne 15, 3) := by decide +kernel
theorem dX7_is_15 : decode cX7_is 15 = .ok (.aload_n 0, 1) := by decide +kernel
theorem dX7_is_16 : decode cX7_is 16 = .ok (.getfield 200, 3) := by decide +kernel
theorem dX7_is_19 : decode cX7_is 19 = .ok (.iload_n 1, 1) := by decide +kernel
theorem dX7_is_20 : decode cX7_is 20 = .ok (.if_icmp .ne 7, 3) := by decide +kernel
theorem dX7_is_23 : decode cX7_is 23 = .ok (.iconst 1, 1) := by decide +kernel
theorem dX7_is_24 : decode cX7_is 24 = .ok (.goto 4, 3) := by decide +kernel
theorem dX7_is_27 : decode cX7_is 27 = .ok (.iconst 0, 1) := by decide +kernel
theorem dX7_is_28 : decode cX7_is 28 = .ok (.ireturn, 1) := by decide +kernel
set_option maxRecDepth 20000 in
theorem ggX7_taken_X7_fails : GoodIn wsX7_taken wsX7_fails := goodIn_r _ [10, 1, 11, 39, 40, 41, 42, 43, 44, 45, 46, 47, 48, 49, 50, 51, 52, 53, 54, 55, 56, 57, 58, 59, 60, 61, 62, 63, 64, 65, 66, 67, 68, 69, 70, 71, 72, 73, 74, 75, 76, 77, 78, 79, 80, 81, 82, 83, 84, 85, 86, 87, 88, 89, 90, 91, 92, 93, 94, 95] (by decide +kernel) (by decide +kernel)
set_option maxRecDepth 20000 in
theorem gX7_taken_X7_fails : GoodIn wsX7_taken (wsV RX7 207 RX7 yX7_fails wsX7_fails) := goodIn_app (goodIn_of _ (by decide +kernel)) ggX7_taken_X7_fails
set_option maxRecDepth 20000 in
theorem ggX7_taken_X7_next : GoodIn wsX7_taken wsX7_next := goodIn_r _ [15, 16, 3, 2, 17, 18, 4, 19, 20, 21, 22, 23, 24, 25, 9, 26, 27, 28, 29, 30, 31, 6, 7, 8, 10, 1, 11, 32, 33, 34, 35, 36, 37, 38, 39, 40, 41, 42, 43, 44, 45, 46, 47, 48, 49, 50, 51, 52, 53, 54, 55, 56, 57, 58, 59, 60, 61, 62, 63, 64, 65, 66, 67, 68, 69, 70, 71, 72, 73, 74, 75, 76, 77, 78, 79, 80, 81, 82, 83, 84, 85, 86, 87, 88, 89, 90, 91, 92, 93, 94, 95] (by decide +kernel) (by decide +kernel)
set_option maxRecDepth 20000 in
theorem gX7_taken_X7_next : GoodIn wsX7_taken (wsV RX7 225 RX7 yX7_next wsX7_next) := goodIn_app (goodIn_of _ (by decide +kernel)) ggX7_taken_X7_next
theorem dX7_taken_0 : decode cX7_taken 0 = .ok (.aload_n 0, 1) := by decide +kernel
theorem dX7_taken_1 : decode cX7_taken 1 = .ok (.getfield 177, 3) := by decide +kernel
theorem dX7_taken_4 : decode cX7_taken 4 = .ok (.ifCond .ne 20, 3) := by decide +kernel
theorem dX7_taken_7 : decode cX7_taken 7 = .ok (.aload_n 0, 1) := by decide +kernel
theorem dX7_taken_8 : decode cX7_taken 8 = .ok (.getfield 193, 3) := by decide +kernel
theorem dX7_taken_11 : decode cX7_taken 11 = .ok (.iload_n 1, 1) := by decide +kernel
theorem dX7_taken_12 : decode cX7_taken 12 = .ok (.if_icmp .eq 12, 3) := by decide +kernel
theorem dX7_taken_15 : decode cX7_taken 15 = .ok (.aload_n 0, 1) := by decide +kernel
theorem dX7_taken_16 : decode cX7_taken 16 = .ok (.iconst 2, 1) := by decide +kernel
theorem dX7_taken_17 : decode cX7_taken 17 = .ok (.aload_n 0, 1) := by decide +kernel
theorem dX7_taken_18 : decode cX7_taken 18 = .ok (.getfield 186, 3) := by decide +kernel
theorem dX7_taken_21 : decode cX7_taken 21 = .ok (.invokevirtual 207, 3) := by decide +kernel
theorem dX7_taken_24 : decode cX7_taken 24 = .ok (.aload_n 0, 1) := by decide +kernel
theorem dX7_taken_25 : decode cX7_taken 25 = .ok (.getfield 200, 3) := by decide +kernel
theorem dX7_taken_28 : decode cX7_taken 28 = .ok (.istore_n 2, 1) := by decide +kernel
theorem dX7_taken_29 : decode cX7_taken 29 = .ok (.aload_n 0, 1) := by decide +kernel
theorem dX7_taken_30 : decode cX7_taken 30 = .ok (.aload_n 0, 1) := by decide +kernel
theorem dX7_taken_31 : decode cX7_taken 31 = .ok (.getfield 186, 3) := by decide +kernel
theorem dX7_taken_34 : decode cX7_taken 34 = .ok (.putfield 222, 3) := by decide +kernel
theorem dX7_taken_37 : decode cX7_taken 37 = .ok (.aload_n 0, 1) := by decide +kernel
theorem dX7_taken_38 : decode cX7_taken 38 = .ok (.getfield 177, 3) := by decide +kernel
theorem dX7_taken_41 : decode cX7_taken 41 = .ok (.ifCond .ne 7, 3) := by decide +kernel
theorem dX7_taken_44 : decode cX7_taken 44 = .ok (.aload_n 0, 1) := by decide +kernel
theorem dX7_taken_45 : decode cX7_taken 45 = .ok (.invokevirtual 225, 3) := by decide +kernel
theorem dX7_taken_48 : decode cX7_taken 48 = .ok (.iload_n 2, 1) := by decide +kernel
theorem dX7_taken_49 : decode cX7_taken 49 = .ok (.ireturn, 1) := by decide +kernel
set_option maxRecDepth 20000 in
theorem ggX7_taken2_X7_is : GoodIn wsX7_taken2 wsX7_is := goodIn_r _ [7, 1, 8, 9, 42, 43, 44, 45, 46, 47, 48, 49, 50, 51, 52, 53, 54, 55, 56, 57, 58, 59, 60, 61, 62, 63, 64, 65, 66, 67, 68, 69, 70, 71, 72, 73, 74, 75, 76, 77, 78, 79, 80, 81, 82, 83, 84, 85, 86, 87, 88, 89, 90, 91, 92, 93, 94, 95, 96, 97, 98] (by decide +kernel) (by decide +kernel)
set_option maxRecDepth 20000 in
theorem gX7_taken2_X7_is : GoodIn wsX7_taken2 (wsV RX7 228 RX7 yX7_is wsX7_is) := goodIn_app (goodIn_of _ (by decide +kernel)) ggX7_taken2_X7_is
set_option maxRecDepth 20000 in
theorem ggX7_taken2_X7_fails : GoodIn wsX7_taken2 wsX7_fails := goodIn_r _ [13, 1, 14, 42, 43, 44, 45, 46, 47, 48, 49, 50, 51, 52, 53, 54, 55, 56, 57, 58, 59, 60, 61, 62, 63, 64, 65, 66, 67, 68, 69, 70, 71, 72, 73, 74, 75, 76, 77, 78, 79, 80, 81, 82, 83, 84, 85, 86, 87, 88, 89, 90, 91, 92, 93, 94, 95, 96, 97, 98] (by decide +kernel) (by decide +kernel)
set_option maxRecDepth 20000 in
theorem gX7_taken2_X7_fails : GoodIn wsX7_taken2 (wsV RX7 207 RX7 yX7_fails wsX7_fails) := goodIn_app (goodIn_of _ (by decide +kernel)) ggX7_taken2_X7_fails
set_option maxRecDepth 20000 in
theorem ggX7_taken2_X7_next : GoodIn wsX7_taken2 wsX7_next := goodIn_r _ [18, 19, 2, 8, 20, 21, 9, 22, 23, 24, 25, 26, 27, 28, 6, 29, 30, 31, 32, 33, 34, 10, 11, 12, 13, 1, 14, 35, 36, 37, 38, 39, 40, 41, 42, 43, 44, 45, 46, 47, 48, 49, 50, 51, 52, 53, 54, 55, 56, 57, 58, 59, 60, 61, 62, 63, 64, 65, 66, 67, 68, 69, 70, 71, 72, 73, 74, 75, 76, 77, 78, 79, 80, 81, 82, 83, 84, 85, 86, 87, 88, 89, 90, 91, 92, 93, 94, 95, 96, 97, 98] (by decide +kernel) (by decide +kernel)
set_option maxRecDepth 20000 in
theorem gX7_taken2_X7_next : GoodIn wsX7_taken2 (wsV RX7 225 RX7 yX7_next wsX7_next) := goodIn_app (goodIn_of _ (by decide +kernel)) ggX7_taken2_X7_next
theorem dX7_taken2_0 : decode cX7_taken2 0 = .ok (.aload_n 0, 1) := by decide +kernel
theorem dX7_taken2_1 : decode cX7_taken2 1 = .ok (.getfield 177, 3) := by decide +kernel
theorem dX7_taken2_4 : decode cX7_taken2 4 = .ok (.ifCond .ne 20, 3) := by decide +kernel
theorem dX7_taken2_7 : decode cX7_taken2 7 = .ok (.aload_n 0, 1) := by decide +kernel
theorem dX7_taken2_8 : decode cX7_taken2 8 = .ok (.iload_n 1, 1) := by decide +kernel
theorem dX7_taken2_9 : decode cX7_taken2 9 = .ok (.invokevirtual 228, 3) := by decide +kernel
theorem dX7_taken2_12 : decode cX7_taken2 12 = .ok (.ifCond .ne 12, 3) := by decide +kernel
theorem dX7_taken2_15 : decode cX7_taken2 15 = .ok (.aload_n 0, 1) := by decide +kernel
theorem dX7_taken2_16 : decode cX7_taken2 16 = .ok (.iconst 2, 1) := by decide +kernel
theorem dX7_taken2_17 : decode cX7_taken2 17 = .ok (.aload_n 0, 1) := by decide +kernel
theorem dX7_taken2_18 : decode cX7_taken2 18 = .ok (.getfield 186, 3) := by decide +kernel
theorem dX7_taken2_21 : decode cX7_taken2 21 = .ok (.invokevirtual 207, 3) := by decide +kernel
theorem dX7_taken2_24 : decode cX7_taken2 24 = .ok (.aload_n 0, 1) := by decide +kernel
theorem dX7_taken2_25 : decode cX7_taken2 25 = .ok (.getfield 177, 3) := by decide +kernel
theorem dX7_taken2_28 : decode cX7_taken2 28 = .ok (.ifCond .ne 7, 3) := by decide +kernel
theorem dX7_taken2_31 : decode cX7_taken2 31 = .ok (.aload_n 0, 1) := by decide +kernel
theorem dX7_taken2_32 : decode cX7_taken2 32 = .ok (.invokevirtual 225, 3) := by decide +kernel
theorem dX7_taken2_35 : decode cX7_taken2 35 = .ok (.return_, 1) := by decide +kernel
set_option maxRecDepth 20000 in
theorem ggX7_number_X7_in : GoodIn wsX7_number wsX7_in := goodIn_r _ [8] (by decide +kernel) (by decide +kernel)
set_option maxRecDepth 20000 in
theorem gX7_number_X7_in : GoodIn wsX7_number (va_wsS RX7 144 yX7_in wsX7_in) := goodIn_app (goodIn_of _ (by decide +kernel)) ggX7_number_X7_in
set_option maxRecDepth 20000 in
theorem ggX7_number_X7_fails : GoodIn wsX7_number wsX7_fails := goodIn_r _ [12, 1, 13, 43, 44, 45, 46, 47, 48, 49, 50, 51, 52, 53, 54, 55, 56, 57, 58, 59, 60, 61, 62, 63, 64, 65, 66, 67, 68, 69, 70, 71, 72, 73, 74, 75, 76, 77, 78, 79, 80, 81, 82, 83, 84, 85, 86, 87, 88, 89, 90, 91, 92, 93, 94, 95, 96, 97, 98, 99] (by decide +kernel) (by decide +kernel)
set_option maxRecDepth 20000 in
theorem gX7_number_X7_fails : GoodIn wsX7_number (wsV RX7 207 RX7 yX7_fails wsX7_fails) := goodIn_app (goodIn_of _ (by decide +kernel)) ggX7_number_X7_fails
set_option maxRecDepth 20000 in
theorem ggX7_number_X7_taken : GoodIn wsX7_number wsX7_taken := goodIn_r _ [17, 1, 2, 4, 3, 18, 9, 10, 11, 7, 12, 13, 19, 20, 21, 22, 23, 24, 25, 26, 27, 28, 29, 30, 31, 32, 33, 34, 35, 5, 6, 8, 36, 37, 38, 39, 40, 41, 42, 43, 44, 45, 46, 47, 48, 49, 50, 51, 52, 53, 54, 55, 56, 57, 58, 59, 60, 61, 62, 63, 64, 65, 66, 67, 68, 69, 70, 71, 72, 73, 74, 75, 76, 77, 78, 79, 80, 81, 82, 83, 84, 85, 86, 87, 88, 89, 90, 91, 92, 93, 94, 95, 96, 97, 98, 99] (by decide +kernel) (by decide +kernel)
set_option maxRecDepth 20000 in
theorem gX7_number_X7_taken : GoodIn wsX7_number (wsV RX7 231 RX7 yX7_taken wsX7_taken) := goodIn_app (goodIn_of _ (by decide +kernel)) ggX7_number_X7_taken
theorem dX7_number_0 : decode cX7_number 0 = .ok (.aload_n 0, 1) := by decide +kernel
theorem dX7_number_1 : decode cX7_number 1 = .ok (.getfield 177, 3) := by decide +kernel
theorem dX7_number_4 : decode cX7_number 4 = .ok (.ifCond .ne 35, 3) := by decide +kernel
theorem dX7_number_7 : decode cX7_number 7 = .ok (.aload_n 0, 1) := by decide +kernel
theorem dX7_number_8 : decode cX7_number 8 = .ok (.getfield 193, 3) := by decide +kernel
theorem dX7_number_11 : decode cX7_number 11 = .ok (.iconst 2, 1) := by decide +kernel
theorem dX7_number_12 : decode cX7_number 12 = .ok (.if_icmp .ne 27, 3) := by decide +kernel
theorem dX7_number_15 : decode cX7_number 15 = .ok (.aload_n 0, 1) := by decide +kernel
theorem dX7_number_16 : decode cX7_number 16 = .ok (.getfield 200, 3) := by decide +kernel
theorem dX7_number_19 : decode cX7_number 19 = .ok (.i2l, 1) := by decide +kernel
theorem dX7_number_20 : decode cX7_number 20 = .ok (.iload_n 1, 1) := by decide +kernel
theorem dX7_number_21 : decode cX7_number 21 = .ok (.i2l, 1) := by decide +kernel
theorem dX7_number_22 : decode cX7_number 22 = .ok (.iload_n 2, 1) := by decide +kernel
theorem dX7_number_23 : decode cX7_number 23 = .ok (.i2l, 1) := by decide +kernel
theorem dX7_number_24 : decode cX7_number 24 = .ok (.invokestatic 144, 3) := by decide +kernel
theorem dX7_number_27 : decode cX7_number 27 = .ok (.ifCond .ne 12, 3) := by decide +kernel
theorem dX7_number_30 : decode cX7_number 30 = .ok (.aload_n 0, 1) := by decide +kernel
theorem dX7_number_31 : decode cX7_number 31 = .ok (.iconst 3, 1) := by decide +kernel
theorem dX7_number_32 : decode cX7_number 32 = .ok (.aload_n 0, 1) := by decide +kernel
theorem dX7_number_33 : decode cX7_number 33 = .ok (.getfield 186, 3) := by decide +kernel
theorem dX7_number_36 : decode cX7_number 36 = .ok (.invokevirtual 207, 3) := by decide +kernel
theorem dX7_number_39 : decode cX7_number 39 = .ok (.aload_n 0, 1) := by decide +kernel
theorem dX7_number_40 : decode cX7_number 40 = .ok (.iconst 2, 1) := by decide +kernel
theorem dX7_number_41 : decode cX7_number 41 = .ok (.invokevirtual 231, 3) := by decide +kernel
theorem dX7_number_44 : decode cX7_number 44 = .ok (.ireturn, 1) := by decide +kernel
theorem dX7_comes_0 : decode cX7_comes 0 = .ok (.sipush 160, 3) := by decide +kernel
theorem dX7_comes_3 : decode cX7_comes 3 = .ok (.aload_n 0, 1) := by decide +kernel
theorem dX7_comes_4 : decode cX7_comes 4 = .ok (.getfield 234, 3) := by decide +kernel
theorem dX7_comes_7 : decode cX7_comes 7 = .ok (.imul, 1) := by decide +kernel
theorem dX7_comes_8 : decode cX7_comes 8 = .ok (.aload_n 0, 1) := by decide +kernel
theorem dX7_comes_9 : decode cX7_comes 9 = .ok (.getfield 89, 3) := by decide +kernel
theorem dX7_comes_12 : decode cX7_comes 12 = .ok (.aload_n 0, 1) := by decide +kernel
theorem dX7_comes_13 : decode cX7_comes 13 = .ok (.getfield 234, 3) := by decide +kernel
theorem dX7_comes_16 : decode cX7_comes 16 = .ok (.iaload, 1) := by decide +kernel
theorem dX7_comes_17 : decode cX7_comes 17 = .ok (.iadd, 1) := by decide +kernel
theorem dX7_comes_18 : decode cX7_comes 18 = .ok (.istore_n 3, 1) := by decide +kernel
theorem dX7_comes_19 : decode cX7_comes 19 = .ok (.aload_n 0, 1) := by decide +kernel
theorem dX7_comes_20 : decode cX7_comes 20 = .ok (.getfield 92, 3) := by decide +kernel
theorem dX7_comes_23 : decode cX7_comes 23 = .ok (.iload_n 3, 1) := by decide +kernel
theorem dX7_comes_24 : decode cX7_comes 24 = .ok (.iload_n 1, 1) := by decide +kernel
theorem dX7_comes_25 : decode cX7_comes 25 = .ok (.iastore, 1) := by decide +kernel
theorem dX7_comes_26 : decode cX7_comes 26 = .ok (.aload_n 0, 1) := by decide +kernel
theorem dX7_comes_27 : decode cX7_comes 27 = .ok (.getfield 95, 3) := by decide +kernel
theorem dX7_comes_30 : decode cX7_comes 30 = .ok (.iload_n 3, 1) := by decide +kernel
theorem dX7_comes_31 : decode cX7_comes 31 = .ok (.iload_n 2, 1) := by decide +kernel
theorem dX7_comes_32 : decode cX7_comes 32 = .ok (.iastore, 1) := by decide +kernel
theorem dX7_comes_33 : decode cX7_comes 33 = .ok (.aload_n 0, 1) := by decide +kernel
theorem dX7_comes_34 : decode cX7_comes 34 = .ok (.getfield 98, 3) := by decide +kernel
theorem dX7_comes_37 : decode cX7_comes 37 = .ok (.iload_n 3, 1) := by decide +kernel
theorem dX7_comes_38 : decode cX7_comes 38 = .ok (.iconst 1, 1) := by decide +kernel
theorem dX7_comes_39 : decode cX7_comes 39 = .ok (.iastore, 1) := by decide +kernel
theorem dX7_comes_40 : decode cX7_comes 40 = .ok (.aload_n 0, 1) := by decide +kernel
theorem dX7_comes_41 : decode cX7_comes 41 = .ok (.getfield 101, 3) := by decide +kernel
theorem dX7_comes_44 : decode cX7_comes 44 = .ok (.iload_n 3, 1) := by decide +kernel
theorem dX7_comes_45 : decode cX7_comes 45 = .ok (.iconst 1, 1) := by decide +kernel
theorem dX7_comes_46 : decode cX7_comes 46 = .ok (.iastore, 1) := by decide +kernel
theorem dX7_comes_47 : decode cX7_comes 47 = .ok (.aload_n 0, 1) := by decide +kernel
theorem dX7_comes_48 : decode cX7_comes 48 = .ok (.getfield 104, 3) := by decide +kernel
theorem dX7_comes_51 : decode cX7_comes 51 = .ok (.iload_n 3, 1) := by decide +kernel
theorem dX7_comes_52 : decode cX7_comes 52 = .ok (.bipush (-4), 2) := by decide +kernel
theorem dX7_comes_54 : decode cX7_comes 54 = .ok (.iastore, 1) := by decide +kernel
theorem dX7_comes_55 : decode cX7_comes 55 = .ok (.aload_n 0, 1) := by decide +kernel
theorem dX7_comes_56 : decode cX7_comes 56 = .ok (.getfield 89, 3) := by decide +kernel
theorem dX7_comes_59 : decode cX7_comes 59 = .ok (.aload_n 0, 1) := by decide +kernel
theorem dX7_comes_60 : decode cX7_comes 60 = .ok (.getfield 234, 3) := by decide +kernel
theorem dX7_comes_63 : decode cX7_comes 63 = .ok (.dup2, 1) := by decide +kernel
theorem dX7_comes_64 : decode cX7_comes 64 = .ok (.iaload, 1) := by decide +kernel
theorem dX7_comes_65 : decode cX7_comes 65 = .ok (.iconst 1, 1) := by decide +kernel
theorem dX7_comes_66 : decode cX7_comes 66 = .ok (.iadd, 1) := by decide +kernel
theorem dX7_comes_67 : decode cX7_comes 67 = .ok (.iastore, 1) := by decide +kernel
theorem dX7_comes_68 : decode cX7_comes 68 = .ok (.iload_n 3, 1) := by decide +kernel
theorem dX7_comes_69 : decode cX7_comes 69 = .ok (.ireturn, 1) := by decide +kernel
set_option maxRecDepth 20000 in
theorem ggX7_readPart_X7_in : GoodIn wsX7_readPart wsX7_in := goodIn_r _ [18] (by decide +kernel) (by decide +kernel)
set_option maxRecDepth 20000 in
theorem gX7_readPart_X7_in : GoodIn wsX7_readPart (va_wsS RX7 144 yX7_in wsX7_in) := goodIn_app (goodIn_of _ (by decide +kernel)) ggX7_readPart_X7_in
set_option maxRecDepth 20000 in
theorem ggX7_readPart_X7_fails : GoodIn wsX7_readPart wsX7_fails := goodIn_r _ [22, 1, 23, 56, 57, 58, 59, 60, 61, 62, 63, 64, 65, 66, 67, 68, 69, 70, 71, 72, 73, 74, 75, 76, 77, 78, 79, 80, 81, 82, 83, 84, 85, 86, 87, 88, 89, 90, 91, 92, 93, 94, 95, 96, 97, 98, 99, 100, 101, 102, 103, 104, 105, 106, 107, 108, 109, 110, 111, 112] (by decide +kernel) (by decide +kernel)
set_option maxRecDepth 20000 in
theorem gX7_readPart_X7_fails : GoodIn wsX7_readPart (wsV RX7 207 RX7 yX7_fails wsX7_fails) := goodIn_app (goodIn_of _ (by decide +kernel)) ggX7_readPart_X7_fails
set_option maxRecDepth 20000 in
theorem ggX7_readPart_X7_taken : GoodIn wsX7_readPart wsX7_taken := goodIn_r _ [27, 1, 14, 4, 2, 13, 19, 20, 21, 17, 22, 23, 28, 29, 30, 31, 32, 33, 34, 35, 36, 37, 38, 39, 40, 41, 42, 43, 44, 15, 16, 18, 45, 46, 47, 48, 49, 50, 51, 56, 57, 58, 59, 60, 61, 62, 63, 64, 65, 66, 67, 68, 69, 70, 71, 72, 73, 74, 75, 76, 77, 78, 79, 80, 81, 82, 83, 84, 85, 86, 87, 88, 89, 90, 91, 92, 93, 94, 95, 96, 97, 98, 99, 100, 101, 102, 103, 104, 105, 106, 107, 108, 109, 110, 111, 112] (by decide +kernel) (by decide +kernel)
set_option maxRecDepth 20000 in
theorem gX7_readPart_X7_taken : GoodIn wsX7_readPart (wsV RX7 231 RX7 yX7_taken wsX7_taken) := goodIn_app (goodIn_of _ (by decide +kernel)) ggX7_readPart_X7_taken
set_option maxRecDepth 20000 in
theorem ggX7_readPart_X7_is : GoodIn wsX7_readPart wsX7_is := goodIn_r _ [55, 1, 14, 2, 56, 57, 58, 59, 60, 61, 62, 63, 64, 65, 66, 67, 68, 69, 70, 71, 72, 73, 74, 75, 76, 77, 78, 79, 80, 81, 82, 83, 84, 85, 86, 87, 88, 89, 90, 91, 92, 93, 94, 95, 96, 97, 98, 99, 100, 101, 102, 103, 104, 105, 106, 107, 108, 109, 110, 111, 112] (by decide +kernel) (by decide +kernel)
set_option maxRecDepth 20000 in
theorem gX7_readPart_X7_is : GoodIn wsX7_readPart (wsV RX7 228 RX7 yX7_is wsX7_is) := goodIn_app (goodIn_of _ (by decide +kernel)) ggX7_readPart_X7_is
set_option maxRecDepth 20000 in
theorem ggX7_readPart_X7_next : GoodIn wsX7_readPart wsX7_next := goodIn_r _ [31, 32, 4, 14, 33, 34, 2, 35, 36, 37, 38, 39, 40, 41, 17, 42, 43, 44, 15, 16, 18, 19, 20, 21, 22, 1, 23, 45, 46, 47, 48, 49, 50, 51, 56, 57, 58, 59, 60, 61, 62, 63, 64, 65, 66, 67, 68, 69, 70, 71, 72, 73, 74, 75, 76, 77, 78, 79, 80, 81, 82, 83, 84, 85, 86, 87, 88, 89, 90, 91, 92, 93, 94, 95, 96, 97, 98, 99, 100, 101, 102, 103, 104, 105, 106, 107, 108, 109, 110, 111, 112] (by decide +kernel) (by decide +kernel)
set_option maxRecDepth 20000 in
theorem gX7_readPart_X7_next : GoodIn wsX7_readPart (wsV RX7 225 RX7 yX7_next wsX7_next) := goodIn_app (goodIn_of _ (by decide +kernel)) ggX7_readPart_X7_next
theorem dX7_readPart_0 : decode cX7_readPart 0 = .ok (.aload_n 0, 1) := by decide +kernel
theorem dX7_readPart_1 : decode cX7_readPart 1 = .ok (.getfield 177, 3) := by decide +kernel
theorem dX7_readPart_4 : decode cX7_readPart 4 = .ok (.ifCond .ne 27, 3) := by decide +kernel
theorem dX7_readPart_7 : decode cX7_readPart 7 = .ok (.aload_n 0, 1) := by decide +kernel
theorem dX7_readPart_8 : decode cX7_readPart 8 = .ok (.getfield 200, 3) := by decide +kernel
theorem dX7_readPart_11 : decode cX7_readPart 11 = .ok (.i2l, 1) := by decide +kernel
theorem dX7_readPart_12 : decode cX7_readPart 12 = .ok (.lconst 0, 1) := by decide +kernel
theorem dX7_readPart_13 : decode cX7_readPart 13 = .ok (.ldc2_w 160, 3) := by decide +kernel
theorem dX7_readPart_16 : decode cX7_readPart 16 = .ok (.invokestatic 144, 3) := by decide +kernel
theorem dX7_readPart_19 : decode cX7_readPart 19 = .ok (.ifCond .ne 12, 3) := by decide +kernel
theorem dX7_readPart_22 : decode cX7_readPart 22 = .ok (.aload_n 0, 1) := by decide +kernel
theorem dX7_readPart_23 : decode cX7_readPart 23 = .ok (.iconst 3, 1) := by decide +kernel
theorem dX7_readPart_24 : decode cX7_readPart 24 = .ok (.aload_n 0, 1) := by decide +kernel
theorem dX7_readPart_25 : decode cX7_readPart 25 = .ok (.getfield 186, 3) := by decide +kernel
theorem dX7_readPart_28 : decode cX7_readPart 28 = .ok (.invokevirtual 207, 3) := by decide +kernel
theorem dX7_readPart_31 : decode cX7_readPart 31 = .ok (.aload_n 0, 1) := by decide +kernel
theorem dX7_readPart_32 : decode cX7_readPart 32 = .ok (.getfield 177, 3) := by decide +kernel
theorem dX7_readPart_35 : decode cX7_readPart 35 = .ok (.ifCond .ne 26, 3) := by decide +kernel
theorem dX7_readPart_38 : decode cX7_readPart 38 = .ok (.aload_n 0, 1) := by decide +kernel
theorem dX7_readPart_39 : decode cX7_readPart 39 = .ok (.getfield 71, 3) := by decide +kernel
theorem dX7_readPart_42 : decode cX7_readPart 42 = .ok (.aload_n 0, 1) := by decide +kernel
theorem dX7_readPart_43 : decode cX7_readPart 43 = .ok (.getfield 234, 3) := by decide +kernel
theorem dX7_readPart_46 : decode cX7_readPart 46 = .ok (.iaload, 1) := by decide +kernel
theorem dX7_readPart_47 : decode cX7_readPart 47 = .ok (.bipush 6, 2) := by decide +kernel
theorem dX7_readPart_49 : decode cX7_readPart 49 = .ok (.if_icmp .ne 12, 3) := by decide +kernel
theorem dX7_readPart_52 : decode cX7_readPart 52 = .ok (.aload_n 0, 1) := by decide +kernel
theorem dX7_readPart_53 : decode cX7_readPart 53 = .ok (.iconst 4, 1) := by decide +kernel
theorem dX7_readPart_54 : decode cX7_readPart 54 = .ok (.aload_n 0, 1) := by decide +kernel
theorem dX7_readPart_55 : decode cX7_readPart 55 = .ok (.getfield 186, 3) := by decide +kernel
theorem dX7_readPart_58 : decode cX7_readPart 58 = .ok (.invokevirtual 207, 3) := by decide +kernel
theorem dX7_readPart_61 : decode cX7_readPart 61 = .ok (.aload_n 0, 1) := by decide +kernel
theorem dX7_readPart_62 : decode cX7_readPart 62 = .ok (.getfield 177, 3) := by decide +kernel
theorem dX7_readPart_65 : decode cX7_readPart 65 = .ok (.ifCond .le 4, 3) := by decide +kernel
theorem dX7_readPart_68 : decode cX7_readPart 68 = .ok (.return_, 1) := by decide +kernel
theorem dX7_readPart_69 : decode cX7_readPart 69 = .ok (.bipush 6, 2) := by decide +kernel
theorem dX7_readPart_71 : decode cX7_readPart 71 = .ok (.aload_n 0, 1) := by decide +kernel
theorem dX7_readPart_72 : decode cX7_readPart 72 = .ok (.getfield 234, 3) := by decide +kernel
theorem dX7_readPart_75 : decode cX7_readPart 75 = .ok (.imul, 1) := by decide +kernel
theorem dX7_readPart_76 : decode cX7_readPart 76 = .ok (.aload_n 0, 1) := by decide +kernel
theorem dX7_readPart_77 : decode cX7_readPart 77 = .ok (.getfield 71, 3) := by decide +kernel
theorem dX7_readPart_80 : decode cX7_readPart 80 = .ok (.aload_n 0, 1) := by decide +kernel
theorem dX7_readPart_81 : decode cX7_readPart 81 = .ok (.getfield 234, 3) := by decide +kernel
theorem dX7_readPart_84 : decode cX7_readPart 84 = .ok (.iaload, 1) := by decide +kernel
theorem dX7_readPart_85 : decode cX7_readPart 85 = .ok (.iadd, 1) := by decide +kernel
theorem dX7_readPart_86 : decode cX7_readPart 86 = .ok (.istore_n 2, 1) := by decide +kernel
theorem dX7_readPart_87 : decode cX7_readPart 87 = .ok (.aload_n 0, 1) := by decide +kernel
theorem dX7_readPart_88 : decode cX7_readPart 88 = .ok (.getfield 104, 3) := by decide +kernel
theorem dX7_readPart_91 : decode cX7_readPart 91 = .ok (.iload_n 1, 1) := by decide +kernel
theorem dX7_readPart_92 : decode cX7_readPart 92 = .ok (.iload_n 2, 1) := by decide +kernel
theorem dX7_readPart_93 : decode cX7_readPart 93 = .ok (.iastore, 1) := by decide +kernel
theorem dX7_readPart_94 : decode cX7_readPart 94 = .ok (.aload_n 0, 1) := by decide +kernel
theorem dX7_readPart_95 : decode cX7_readPart 95 = .ok (.getfield 71, 3) := by decide +kernel
theorem dX7_readPart_98 : decode cX7_readPart 98 = .ok (.aload_n 0, 1) := by decide +kernel
theorem dX7_readPart_99 : decode cX7_readPart 99 = .ok (.getfield 234, 3) := by decide +kernel
theorem dX7_readPart_102 : decode cX7_readPart 102 = .ok (.dup2, 1) := by decide +kernel
theorem dX7_readPart_103 : decode cX7_readPart 103 = .ok (.iaload, 1) := by decide +kernel
theorem dX7_readPart_104 : decode cX7_readPart 104 = .ok (.iconst 1, 1) := by decide +kernel
theorem dX7_readPart_105 : decode cX7_readPart 105 = .ok (.iadd, 1) := by decide +kernel
theorem dX7_readPart_106 : decode cX7_readPart 106 = .ok (.iastore, 1) := by decide +kernel
theorem dX7_readPart_107 : decode cX7_readPart 107 = .ok (.aload_n 0, 1) := by decide +kernel
theorem dX7_readPart_108 : decode cX7_readPart 108 = .ok (.getfield 74, 3) := by decide +kernel
theorem dX7_readPart_111 : decode cX7_readPart 111 = .ok (.iload_n 2, 1) := by decide +kernel
theorem dX7_readPart_112 : decode cX7_readPart 112 = .ok (.aload_n 0, 1) := by decide +kernel
theorem dX7_readPart_113 : decode cX7_readPart 113 = .ok (.iconst 2, 1) := by decide +kernel
theorem dX7_readPart_114 : decode cX7_readPart 114 = .ok (.invokevirtual 231, 3) := by decide +kernel
theorem dX7_readPart_117 : decode cX7_readPart 117 = .ok (.iastore, 1) := by decide +kernel
theorem dX7_readPart_118 : decode cX7_readPart 118 = .ok (.aload_n 0, 1) := by decide +kernel
theorem dX7_readPart_119 : decode cX7_readPart 119 = .ok (.getfield 80, 3) := by decide +kernel
theorem dX7_readPart_122 : decode cX7_readPart 122 = .ok (.iload_n 2, 1) := by decide +kernel
theorem dX7_readPart_123 : decode cX7_readPart 123 = .ok (.iconst 0, 1) := by decide +kernel
theorem dX7_readPart_124 : decode cX7_readPart 124 = .ok (.iastore, 1) := by decide +kernel
theorem dX7_readPart_125 : decode cX7_readPart 125 = .ok (.aload_n 0, 1) := by decide +kernel
theorem dX7_readPart_126 : decode cX7_readPart 126 = .ok (.getfield 83, 3) := by decide +kernel
theorem dX7_readPart_129 : decode cX7_readPart 129 = .ok (.iload_n 2, 1) := by decide +kernel
theorem dX7_readPart_130 : decode cX7_readPart 130 = .ok (.iconst 0, 1) := by decide +kernel
theorem dX7_readPart_131 : decode cX7_readPart 131 = .ok (.iastore, 1) := by decide +kernel
theorem dX7_readPart_132 : decode cX7_readPart 132 = .ok (.aload_n 0, 1) := by decide +kernel
theorem dX7_readPart_133 : decode cX7_readPart 133 = .ok (.getfield 86, 3) := by decide +kernel
theorem dX7_readPart_136 : decode cX7_readPart 136 = .ok (.iload_n 2, 1) := by decide +kernel
theorem dX7_readPart_137 : decode cX7_readPart 137 = .ok (.iconst 0, 1) := by decide +kernel
theorem dX7_readPart_138 : decode cX7_readPart 138 = .ok (.iastore, 1) := by decide +kernel
theorem dX7_readPart_139 : decode cX7_readPart 139 = .ok (.aload_n 0, 1) := by decide +kernel
theorem dX7_readPart_140 : decode cX7_readPart 140 = .ok (.bipush 46, 2) := by decide +kernel
theorem dX7_readPart_142 : decode cX7_readPart 142 = .ok (.invokevirtual 228, 3) := by decide +kernel
theorem dX7_readPart_145 : decode cX7_readPart 145 = .ok (.ifCond .eq 17, 3) := by decide +kernel
theorem dX7_readPart_148 : decode cX7_readPart 148 = .ok (.aload_n 0, 1) := by decide +kernel
theorem dX7_readPart_149 : decode cX7_readPart 149 = .ok (.getfield 77, 3) := by decide +kernel
theorem dX7_readPart_152 : decode cX7_readPart 152 = .ok (.iload_n 2, 1) := by decide +kernel
theorem dX7_readPart_153 : decode cX7_readPart 153 = .ok (.iconst 0, 1) := by decide +kernel
theorem dX7_readPart_154 : decode cX7_readPart 154 = .ok (.iastore, 1) := by decide +kernel
theorem dX7_readPart_155 : decode cX7_readPart 155 = .ok (.aload_n 0, 1) := by decide +kernel
theorem dX7_readPart_156 : decode cX7_readPart 156 = .ok (.invokevirtual 225, 3) := by decide +kernel
theorem dX7_readPart_159 : decode cX7_readPart 159 = .ok (.goto 141, 3) := by decide +kernel
theorem dX7_readPart_162 : decode cX7_readPart 162 = .ok (.aload_n 0, 1) := by decide +kernel
theorem dX7_readPart_163 : decode cX7_readPart 163 = .ok (.bipush 64, 2) := by decide +kernel
theorem dX7_readPart_165 : decode cX7_readPart 165 = .ok (.invokevirtual 228, 3) := by decide +kernel
theorem dX7_readPart_168 : decode cX7_readPart 168 = .ok (.ifCond .ne 12, 3) := by decide +kernel
theorem dX7_readPart_171 : decode cX7_readPart 171 = .ok (.aload_n 0, 1) := by decide +kernel
theorem dX7_readPart_172 : decode cX7_readPart 172 = .ok (.bipush 33, 2) := by decide +kernel
theorem dX7_readPart_174 : decode cX7_readPart 174 = .ok (.invokevirtual 228, 3) := by decide +kernel
theorem dX7_readPart_177 : decode cX7_readPart 177 = .ok (.ifCond .eq 51, 3) := by decide +kernel
theorem dX7_readPart_180 : decode cX7_readPart 180 = .ok (.aload_n 0, 1) := by decide +kernel
theorem dX7_readPart_181 : decode cX7_readPart 181 = .ok (.getfield 77, 3) := by decide +kernel
theorem dX7_readPart_184 : decode cX7_readPart 184 = .ok (.iload_n 2, 1) := by decide +kernel
theorem dX7_readPart_185 : decode cX7_readPart 185 = .ok (.aload_n 0, 1) := by decide +kernel
theorem dX7_readPart_186 : decode cX7_readPart 186 = .ok (.bipush 64, 2) := by decide +kernel
theorem dX7_readPart_188 : decode cX7_readPart 188 = .ok (.invokevirtual 228, 3) := by decide +kernel
theorem dX7_readPart_191 : decode cX7_readPart 191 = .ok (.ifCond .eq 7, 3) := by decide +kernel
theorem dX7_readPart_194 : decode cX7_readPart 194 = .ok (.iconst 1, 1) := by decide +kernel
theorem dX7_readPart_195 : decode cX7_readPart 195 = .ok (.goto 4, 3) := by decide +kernel
theorem dX7_readPart_198 : decode cX7_readPart 198 = .ok (.iconst 2, 1) := by decide +kernel
theorem dX7_readPart_199 : decode cX7_readPart 199 = .ok (.iastore, 1) := by decide +kernel
theorem dX7_readPart_200 : decode cX7_readPart 200 = .ok (.aload_n 0, 1) := by decide +kernel
theorem dX7_readPart_201 : decode cX7_readPart 201 = .ok (.invokevirtual 225, 3) := by decide +kernel
theorem dX7_readPart_204 : decode cX7_readPart 204 = .ok (.aload_n 0, 1) := by decide +kernel
theorem dX7_readPart_205 : decode cX7_readPart 205 = .ok (.getfield 80, 3) := by decide +kernel
theorem dX7_readPart_208 : decode cX7_readPart 208 = .ok (.iload_n 2, 1) := by decide +kernel
theorem dX7_readPart_209 : decode cX7_readPart 209 = .ok (.aload_n 0, 1) := by decide +kernel
theorem dX7_readPart_210 : decode cX7_readPart 210 = .ok (.iconst 1, 1) := by decide +kernel
theorem dX7_readPart_211 : decode cX7_readPart 211 = .ok (.invokevirtual 231, 3) := by decide +kernel
theorem dX7_readPart_214 : decode cX7_readPart 214 = .ok (.iastore, 1) := by decide +kernel
theorem dX7_readPart_215 : decode cX7_readPart 215 = .ok (.aload_n 0, 1) := by decide +kernel
theorem dX7_readPart_216 : decode cX7_readPart 216 = .ok (.getfield 86, 3) := by decide +kernel
theorem dX7_readPart_219 : decode cX7_readPart 219 = .ok (.iload_n 2, 1) := by decide +kernel
theorem dX7_readPart_220 : decode cX7_readPart 220 = .ok (.aload_n 0, 1) := by decide +kernel
theorem dX7_readPart_221 : decode cX7_readPart 221 = .ok (.getfield 222, 3) := by decide +kernel
theorem dX7_readPart_224 : decode cX7_readPart 224 = .ok (.iastore, 1) := by decide +kernel
theorem dX7_readPart_225 : decode cX7_readPart 225 = .ok (.goto 75, 3) := by decide +kernel
theorem dX7_readPart_228 : decode cX7_readPart 228 = .ok (.aload_n 0, 1) := by decide +kernel
theorem dX7_readPart_229 : decode cX7_readPart 229 = .ok (.getfield 77, 3) := by decide +kernel
theorem dX7_readPart_232 : decode cX7_readPart 232 = .ok (.iload_n 2, 1) := by decide +kernel
theorem dX7_readPart_233 : decode cX7_readPart 233 = .ok (.iconst 3, 1) := by decide +kernel
theorem dX7_readPart_234 : decode cX7_readPart 234 = .ok (.iastore, 1) := by decide +kernel
theorem dX7_readPart_235 : decode cX7_readPart 235 = .ok (.aload_n 0, 1) := by decide +kernel
theorem dX7_readPart_236 : decode cX7_readPart 236 = .ok (.getfield 80, 3) := by decide +kernel
theorem dX7_readPart_239 : decode cX7_readPart 239 = .ok (.iload_n 2, 1) := by decide +kernel
theorem dX7_readPart_240 : decode cX7_readPart 240 = .ok (.aload_n 0, 1) := by decide +kernel
theorem dX7_readPart_241 : decode cX7_readPart 241 = .ok (.iconst 2, 1) := by decide +kernel
theorem dX7_readPart_242 : decode cX7_readPart 242 = .ok (.invokevirtual 231, 3) := by decide +kernel
theorem dX7_readPart_245 : decode cX7_readPart 245 = .ok (.iastore, 1) := by decide +kernel
theorem dX7_readPart_246 : decode cX7_readPart 246 = .ok (.aload_n 0, 1) := by decide +kernel
theorem dX7_readPart_247 : decode cX7_readPart 247 = .ok (.iconst 5, 1) := by decide +kernel
theorem dX7_readPart_248 : decode cX7_readPart 248 = .ok (.invokevirtual 231, 3) := by decide +kernel
theorem dX7_readPart_251 : decode cX7_readPart 251 = .ok (.pop, 1) := by decide +kernel
theorem dX7_readPart_252 : decode cX7_readPart 252 = .ok (.aload_n 0, 1) := by decide +kernel
theorem dX7_readPart_253 : decode cX7_readPart 253 = .ok (.getfield 177, 3) := by decide +kernel
theorem dX7_readPart_256 : decode cX7_readPart 256 = .ok (.ifCond .ne 33, 3) := by decide +kernel
theorem dX7_readPart_259 : decode cX7_readPart 259 = .ok (.aload_n 0, 1) := by decide +kernel
theorem dX7_readPart_260 : decode cX7_readPart 260 = .ok (.getfield 193, 3) := by decide +kernel
theorem dX7_readPart_263 : decode cX7_readPart 263 = .ok (.iconst 2, 1) := by decide +kernel
theorem dX7_readPart_264 : decode cX7_readPart 264 = .ok (.if_icmp .ne 25, 3) := by decide +kernel
theorem dX7_readPart_267 : decode cX7_readPart 267 = .ok (.aload_n 0, 1) := by decide +kernel
theorem dX7_readPart_268 : decode cX7_readPart 268 = .ok (.getfield 200, 3) := by decide +kernel
theorem dX7_readPart_271 : decode cX7_readPart 271 = .ok (.aload_n 0, 1) := by decide +kernel
theorem dX7_readPart_272 : decode cX7_readPart 272 = .ok (.getfield 80, 3) := by decide +kernel
theorem dX7_readPart_275 : decode cX7_readPart 275 = .ok (.iload_n 2, 1) := by decide +kernel
theorem dX7_readPart_276 : decode cX7_readPart 276 = .ok (.iaload, 1) := by decide +kernel
theorem dX7_readPart_277 : decode cX7_readPart 277 = .ok (.if_icmp .ge 12, 3) := by decide +kernel
theorem dX7_readPart_280 : decode cX7_readPart 280 = .ok (.aload_n 0, 1) := by decide +kernel
theorem dX7_readPart_281 : decode cX7_readPart 281 = .ok (.iconst 3, 1) := by decide +kernel
theorem dX7_readPart_282 : decode cX7_readPart 282 = .ok (.aload_n 0, 1) := by decide +kernel
theorem dX7_readPart_283 : decode cX7_readPart 283 = .ok (.getfield 186, 3) := by decide +kernel
theorem dX7_readPart_286 : decode cX7_readPart 286 = .ok (.invokevirtual 207, 3) := by decide +kernel
theorem dX7_readPart_289 : decode cX7_readPart 289 = .ok (.aload_n 0, 1) := by decide +kernel
theorem dX7_readPart_290 : decode cX7_readPart 290 = .ok (.getfield 83, 3) := by decide +kernel
theorem dX7_readPart_293 : decode cX7_readPart 293 = .ok (.iload_n 2, 1) := by decide +kernel
theorem dX7_readPart_294 : decode cX7_readPart 294 = .ok (.aload_n 0, 1) := by decide +kernel
theorem dX7_readPart_295 : decode cX7_readPart 295 = .ok (.iconst 2, 1) := by decide +kernel
theorem dX7_readPart_296 : decode cX7_readPart 296 = .ok (.invokevirtual 231, 3) := by decide +kernel
theorem dX7_readPart_299 : decode cX7_readPart 299 = .ok (.iastore, 1) := by decide +kernel
theorem dX7_readPart_300 : decode cX7_readPart 300 = .ok (.return_, 1) := by decide +kernel
set_option maxRecDepth 20000 in
theorem ggX7_readCount_X7_is : GoodIn wsX7_readCount wsX7_is := goodIn_r _ [12, 2, 3, 4, 58, 59, 60, 61, 62, 63, 64, 65, 66, 67, 68, 69, 70, 71, 72, 73, 74, 75, 76, 77, 78, 79, 80, 81, 82, 83, 84, 85, 86, 87, 88, 89, 90, 91, 92, 93, 94, 95, 96, 97, 98, 99, 100, 101, 102, 103, 104, 105, 106, 107, 108, 109, 110, 111, 112, 113, 114] (by decide +kernel) (by decide +kernel)
set_option maxRecDepth 20000 in
theorem gX7_readCount_X7_is : GoodIn wsX7_readCount (wsV RX7 228 RX7 yX7_is wsX7_is) := goodIn_app (goodIn_of _ (by decide +kernel)) ggX7_readCount_X7_is
set_option maxRecDepth 20000 in
theorem ggX7_readCount_X7_next : GoodIn wsX7_readCount wsX7_next := goodIn_r _ [16, 17, 6, 3, 18, 19, 4, 20, 21, 22, 23, 24, 25, 26, 11, 27, 28, 29, 30, 31, 32, 33, 34, 35, 36, 2, 37, 38, 39, 40, 41, 42, 43, 44, 58, 59, 60, 61, 62, 63, 64, 65, 66, 67, 68, 69, 70, 71, 72, 73, 74, 75, 76, 77, 78, 79, 80, 81, 82, 83, 84, 85, 86, 87, 88, 89, 90, 91, 92, 93, 94, 95, 96, 97, 98, 99, 100, 101, 102, 103, 104, 105, 106, 107, 108, 109, 110, 111, 112, 113, 114] (by decide +kernel) (by decide +kernel)
set_option maxRecDepth 20000 in
theorem gX7_readCount_X7_next : GoodIn wsX7_readCount (wsV RX7 225 RX7 yX7_next wsX7_next) := goodIn_app (goodIn_of _ (by decide +kernel)) ggX7_readCount_X7_next
set_option maxRecDepth 20000 in
theorem ggX7_readCount_X7_number : GoodIn wsX7_readCount wsX7_number := goodIn_r _ [48, 2, 3, 4, 6, 30, 31, 11, 32, 33, 34, 35, 36, 37, 49, 50, 51, 52, 53, 13, 14, 15, 16, 17, 18, 19, 20, 21, 22, 23, 24, 25, 26, 27, 28, 29, 38, 39, 40, 41, 42, 43, 44, 58, 59, 60, 61, 62, 63, 64, 65, 66, 67, 68, 69, 70, 71, 72, 73, 74, 75, 76, 77, 78, 79, 80, 81, 82, 83, 84, 85, 86, 87, 88, 89, 90, 91, 92, 93, 94, 95, 96, 97, 98, 99, 100, 101, 102, 103, 104, 105, 106, 107, 108, 109, 110, 111, 112, 113, 114] (by decide +kernel) (by decide +kernel)
set_option maxRecDepth 20000 in
theorem gX7_readCount_X7_number : GoodIn wsX7_readCount (wsV RX7 237 RX7 yX7_number wsX7_number) := goodIn_app (goodIn_of _ (by decide +kernel)) ggX7_readCount_X7_number
set_option maxRecDepth 20000 in
theorem ggX7_readCount_X7_in : GoodIn wsX7_readCount wsX7_in := goodIn_r _ [32] (by decide +kernel) (by decide +kernel)
set_option maxRecDepth 20000 in
theorem gX7_readCount_X7_in : GoodIn wsX7_readCount (va_wsS RX7 144 yX7_in wsX7_in) := goodIn_app (goodIn_of _ (by decide +kernel)) ggX7_readCount_X7_in
set_option maxRecDepth 20000 in
theorem ggX7_readCount_X7_fails : GoodIn wsX7_readCount wsX7_fails := goodIn_r _ [36, 2, 37, 58, 59, 60, 61, 62, 63, 64, 65, 66, 67, 68, 69, 70, 71, 72, 73, 74, 75, 76, 77, 78, 79, 80, 81, 82, 83, 84, 85, 86, 87, 88, 89, 90, 91, 92, 93, 94, 95, 96, 97, 98, 99, 100, 101, 102, 103, 104, 105, 106, 107, 108, 109, 110, 111, 112, 113, 114] (by decide +kernel) (by decide +kernel)
set_option maxRecDepth 20000 in
theorem gX7_readCount_X7_fails : GoodIn wsX7_readCount (wsV RX7 207 RX7 yX7_fails wsX7_fails) := goodIn_app (goodIn_of _ (by decide +kernel)) ggX7_readCount_X7_fails
set_option maxRecDepth 20000 in
theorem ggX7_readCount_X7_taken2 : GoodIn wsX7_readCount wsX7_taken2 := goodIn_r _ [57, 2, 6, 8, 9, 10, 11, 12, 3, 4, 33, 34, 35, 36, 37, 13, 14, 15, 16, 17, 18, 19, 20, 21, 22, 23, 24, 25, 26, 27, 28, 29, 30, 31, 32, 38, 39, 40, 41, 42, 43, 44, 58, 59, 60, 61, 62, 63, 64, 65, 66, 67, 68, 69, 70, 71, 72, 73, 74, 75, 76, 77, 78, 79, 80, 81, 82, 83, 84, 85, 86, 87, 88, 89, 90, 91, 92, 93, 94, 95, 96, 97, 98, 99, 100, 101, 102, 103, 104, 105, 106, 107, 108, 109, 110, 111, 112, 113, 114] (by decide +kernel) (by decide +kernel)
set_option maxRecDepth 20000 in
theorem gX7_readCount_X7_taken2 : GoodIn wsX7_readCount (wsV RX7 243 RX7 yX7_taken2 wsX7_taken2) := goodIn_app (goodIn_of _ (by decide +kernel)) ggX7_readCount_X7_taken2
theorem dX7_readCount_0 : decode cX7_readCount 0 = .ok (.aload_n 0, 1) := by decide +kernel
theorem dX7_readCount_1 : decode cX7_readCount 1 = .ok (.bipush 91, 2) := by decide +kernel
theorem dX7_readCount_3 : decode cX7_readCount 3 = .ok (.invokevirtual 228, 3) := by decide +kernel
theorem dX7_readCount_6 : decode cX7_readCount 6 = .ok (.ifCond .eq 89, 3) := by decide +kernel
theorem dX7_readCount_9 : decode cX7_readCount 9 = .ok (.aload_n 0, 1) := by decide +kernel
theorem dX7_readCount_10 : decode cX7_readCount 10 = .ok (.invokevirtual 225, 3) := by decide +kernel
theorem dX7_readCount_13 : decode cX7_readCount 13 = .ok (.aload_n 0, 1) := by decide +kernel
theorem dX7_readCount_14 : decode cX7_readCount 14 = .ok (.getfield 98, 3) := by decide +kernel
theorem dX7_readCount_17 : decode cX7_readCount 17 = .ok (.iload_n 1, 1) := by decide +kernel
theorem dX7_readCount_18 : decode cX7_readCount 18 = .ok (.aload_n 0, 1) := by decide +kernel
theorem dX7_readCount_19 : decode cX7_readCount 19 = .ok (.iconst 0, 1) := by decide +kernel
theorem dX7_readCount_20 : decode cX7_readCount 20 = .ok (.iconst 5, 1) := by decide +kernel
theorem dX7_readCount_21 : decode cX7_readCount 21 = .ok (.invokevirtual 237, 3) := by decide +kernel
theorem dX7_readCount_24 : decode cX7_readCount 24 = .ok (.iastore, 1) := by decide +kernel
theorem dX7_readCount_25 : decode cX7_readCount 25 = .ok (.aload_n 0, 1) := by decide +kernel
theorem dX7_readCount_26 : decode cX7_readCount 26 = .ok (.getfield 177, 3) := by decide +kernel
theorem dX7_readCount_29 : decode cX7_readCount 29 = .ok (.ifCond .ne 48, 3) := by decide +kernel
theorem dX7_readCount_32 : decode cX7_readCount 32 = .ok (.aload_n 0, 1) := by decide +kernel
theorem dX7_readCount_33 : decode cX7_readCount 33 = .ok (.getfield 193, 3) := by decide +kernel
theorem dX7_readCount_36 : decode cX7_readCount 36 = .ok (.iconst 2, 1) := by decide +kernel
theorem dX7_readCount_37 : decode cX7_readCount 37 = .ok (.if_icmp .ne 40, 3) := by decide +kernel
theorem dX7_readCount_40 : decode cX7_readCount 40 = .ok (.aload_n 0, 1) := by decide +kernel
theorem dX7_readCount_41 : decode cX7_readCount 41 = .ok (.getfield 200, 3) := by decide +kernel
theorem dX7_readCount_44 : decode cX7_readCount 44 = .ok (.i2l, 1) := by decide +kernel
theorem dX7_readCount_45 : decode cX7_readCount 45 = .ok (.lconst 0, 1) := by decide +kernel
theorem dX7_readCount_46 : decode cX7_readCount 46 = .ok (.ldc2_w 241, 3) := by decide +kernel
theorem dX7_readCount_49 : decode cX7_readCount 49 = .ok (.invokestatic 144, 3) := by decide +kernel
theorem dX7_readCount_52 : decode cX7_readCount 52 = .ok (.ifCond .eq 25, 3) := by decide +kernel
theorem dX7_readCount_55 : decode cX7_readCount 55 = .ok (.aload_n 0, 1) := by decide +kernel
theorem dX7_readCount_56 : decode cX7_readCount 56 = .ok (.getfield 200, 3) := by decide +kernel
theorem dX7_readCount_59 : decode cX7_readCount 59 = .ok (.aload_n 0, 1) := by decide +kernel
theorem dX7_readCount_60 : decode cX7_readCount 60 = .ok (.getfield 98, 3) := by decide +kernel
theorem dX7_readCount_63 : decode cX7_readCount 63 = .ok (.iload_n 1, 1) := by decide +kernel
theorem dX7_readCount_64 : decode cX7_readCount 64 = .ok (.iaload, 1) := by decide +kernel
theorem dX7_readCount_65 : decode cX7_readCount 65 = .ok (.if_icmp .ge 12, 3) := by decide +kernel
theorem dX7_readCount_68 : decode cX7_readCount 68 = .ok (.aload_n 0, 1) := by decide +kernel
theorem dX7_readCount_69 : decode cX7_readCount 69 = .ok (.iconst 3, 1) := by decide +kernel
theorem dX7_readCount_70 : decode cX7_readCount 70 = .ok (.aload_n 0, 1) := by decide +kernel
theorem dX7_readCount_71 : decode cX7_readCount 71 = .ok (.getfield 186, 3) := by decide +kernel
theorem dX7_readCount_74 : decode cX7_readCount 74 = .ok (.invokevirtual 207, 3) := by decide +kernel
theorem dX7_readCount_77 : decode cX7_readCount 77 = .ok (.aload_n 0, 1) := by decide +kernel
theorem dX7_readCount_78 : decode cX7_readCount 78 = .ok (.getfield 101, 3) := by decide +kernel
theorem dX7_readCount_81 : decode cX7_readCount 81 = .ok (.iload_n 1, 1) := by decide +kernel
theorem dX7_readCount_82 : decode cX7_readCount 82 = .ok (.aload_n 0, 1) := by decide +kernel
theorem dX7_readCount_83 : decode cX7_readCount 83 = .ok (.iconst 0, 1) := by decide +kernel
theorem dX7_readCount_84 : decode cX7_readCount 84 = .ok (.iconst 5, 1) := by decide +kernel
theorem dX7_readCount_85 : decode cX7_readCount 85 = .ok (.invokevirtual 237, 3) := by decide +kernel
theorem dX7_readCount_88 : decode cX7_readCount 88 = .ok (.iastore, 1) := by decide +kernel
theorem dX7_readCount_89 : decode cX7_readCount 89 = .ok (.aload_n 0, 1) := by decide +kernel
theorem dX7_readCount_90 : decode cX7_readCount 90 = .ok (.bipush 93, 2) := by decide +kernel
theorem dX7_readCount_92 : decode cX7_readCount 92 = .ok (.invokevirtual 243, 3) := by decide +kernel
theorem dX7_readCount_95 : decode cX7_readCount 95 = .ok (.return_, 1) := by decide +kernel
set_option maxRecDepth 20000 in
theorem ggX7_readAny_X7_comes : GoodIn wsX7_readAny wsX7_comes := goodIn_r _ [11, 12, 13, 14, 6, 15, 16, 17, 84, 85, 86, 87, 88, 89, 90, 91, 92, 93, 94, 95, 96, 97, 98, 99, 100, 101, 102, 103, 104, 105, 106, 107, 108, 109, 110, 111, 112, 113, 114, 115, 116, 117, 118, 119, 120, 121, 122, 123, 124, 125, 126, 127, 128, 129, 130, 131, 132, 133, 134, 135, 136, 137, 138, 139, 140] (by decide +kernel) (by decide +kernel)
set_option maxRecDepth 20000 in
theorem gX7_readAny_X7_comes : GoodIn wsX7_readAny (wsV RX7 246 RX7 yX7_comes wsX7_comes) := goodIn_app (goodIn_of _ (by decide +kernel)) ggX7_readAny_X7_comes
set_option maxRecDepth 20000 in
theorem ggX7_readAny_X7_is : GoodIn wsX7_readAny wsX7_is := goodIn_r _ [21, 3, 5, 22, 84, 85, 86, 87, 88, 89, 90, 91, 92, 93, 94, 95, 96, 97, 98, 99, 100, 101, 102, 103, 104, 105, 106, 107, 108, 109, 110, 111, 112, 113, 114, 115, 116, 117, 118, 119, 120, 121, 122, 123, 124, 125, 126, 127, 128, 129, 130, 131, 132, 133, 134, 135, 136, 137, 138, 139, 140] (by decide +kernel) (by decide +kernel)
set_option maxRecDepth 20000 in
theorem gX7_readAny_X7_is : GoodIn wsX7_readAny (wsV RX7 228 RX7 yX7_is wsX7_is) := goodIn_app (goodIn_of _ (by decide +kernel)) ggX7_readAny_X7_is
set_option maxRecDepth 20000 in
theorem ggX7_readAny_X7_fails : GoodIn wsX7_readAny wsX7_fails := goodIn_r _ [26, 3, 27, 84, 85, 86, 87, 88, 89, 90, 91, 92, 93, 94, 95, 96, 97, 98, 99, 100, 101, 102, 103, 104, 105, 106, 107, 108, 109, 110, 111, 112, 113, 114, 115, 116, 117, 118, 119, 120, 121, 122, 123, 124, 125, 126, 127, 128, 129, 130, 131, 132, 133, 134, 135, 136, 137, 138, 139, 140] (by decide +kernel) (by decide +kernel)
set_option maxRecDepth 20000 in
theorem gX7_readAny_X7_fails : GoodIn wsX7_readAny (wsV RX7 207 RX7 yX7_fails wsX7_fails) := goodIn_app (goodIn_of _ (by decide +kernel)) ggX7_readAny_X7_fails
set_option maxRecDepth 20000 in
theorem ggX7_readAny_X7_next : GoodIn wsX7_readAny wsX7_next := goodIn_r _ [31, 32, 4, 5, 33, 34, 22, 35, 36, 37, 38, 39, 40, 41, 10, 42, 43, 44, 45, 46, 47, 23, 24, 25, 26, 3, 27, 48, 49, 50, 51, 52, 53, 54, 84, 85, 86, 87, 88, 89, 90, 91, 92, 93, 94, 95, 96, 97, 98, 99, 100, 101, 102, 103, 104, 105, 106, 107, 108, 109, 110, 111, 112, 113, 114, 115, 116, 117, 118, 119, 120, 121, 122, 123, 124, 125, 126, 127, 128, 129, 130, 131, 132, 133, 134, 135, 136, 137, 138, 139, 140] (by decide +kernel) (by decide +kernel)
set_option maxRecDepth 20000 in
theorem gX7_readAny_X7_next : GoodIn wsX7_readAny (wsV RX7 225 RX7 yX7_next wsX7_next) := goodIn_app (goodIn_of _ (by decide +kernel)) ggX7_readAny_X7_next
set_option maxRecDepth 20000 in
theorem ggX7_readAny_X7_readPart : GoodIn wsX7_readAny wsX7_readPart := goodIn_r _ [58, 3, 22, 59, 4, 60, 12, 17, 61, 62, 63, 64, 65, 66, 5, 45, 46, 10, 47, 23, 24, 25, 26, 27, 67, 68, 69, 70, 28, 29, 30, 31, 32, 33, 34, 35, 36, 37, 38, 39, 40, 41, 42, 43, 44, 48, 49, 50, 51, 52, 53, 54, 18, 19, 20, 21, 84, 85, 86, 87, 88, 89, 90, 91, 92, 93, 94, 95, 96, 97, 98, 99, 100, 101, 102, 103, 104, 105, 106, 107, 108, 109, 110, 111, 112, 113, 114, 115, 116, 117, 118, 119, 120, 121, 122, 123, 124, 125, 126, 127, 128, 129, 130, 131, 132, 133, 134, 135, 136, 137, 138, 139, 140] (by decide +kernel) (by decide +kernel)
set_option maxRecDepth 20000 in
theorem gX7_readAny_X7_readPart : GoodIn wsX7_readAny (wsV RX7 249 RX7 yX7_readPart wsX7_readPart) := goodIn_app (goodIn_of _ (by decide +kernel)) ggX7_readAny_X7_readPart
set_option maxRecDepth 20000 in
theorem ggX7_readAny_X7_readCount : GoodIn wsX7_readAny wsX7_readCount := goodIn_r _ [74, 15, 3, 5, 22, 75, 4, 16, 18, 19, 20, 10, 21, 28, 29, 30, 31, 32, 33, 34, 35, 36, 37, 38, 39, 40, 41, 42, 43, 44, 45, 46, 47, 23, 24, 25, 26, 27, 48, 49, 50, 51, 52, 53, 54, 76, 77, 78, 79, 67, 68, 69, 70, 66, 80, 81, 82, 83, 84, 85, 86, 87, 88, 89, 90, 91, 92, 93, 94, 95, 96, 97, 98, 99, 100, 101, 102, 103, 104, 105, 106, 107, 108, 109, 110, 111, 112, 113, 114, 115, 116, 117, 118, 119, 120, 121, 122, 123, 124, 125, 126, 127, 128, 129, 130, 131, 132, 133, 134, 135, 136, 137, 138, 139, 140] (by decide +kernel) (by decide +kernel)
set_option maxRecDepth 20000 in
theorem gX7_readAny_X7_readCount : GoodIn wsX7_readAny (wsV RX7 252 RX7 yX7_readCount wsX7_readCount) := goodIn_app (goodIn_of _ (by decide +kernel)) ggX7_readAny_X7_readCount
theorem dX7_readAny_0 : decode cX7_readAny 0 = .ok (.iconst 0, 1) := by decide +kernel
theorem dX7_readAny_1 : decode cX7_readAny 1 = .ok (.istore_n 1, 1) := by decide +kernel
theorem dX7_readAny_2 : decode cX7_readAny 2 = .ok (.aload_n 0, 1) := by decide +kernel
theorem dX7_readAny_3 : decode cX7_readAny 3 = .ok (.getfield 113, 3) := by decide +kernel
theorem dX7_readAny_6 : decode cX7_readAny 6 = .ok (.iconst 0, 1) := by decide +kernel
theorem dX7_readAny_7 : decode cX7_readAny 7 = .ok (.bipush (-4), 2) := by decide +kernel
theorem dX7_readAny_9 : decode cX7_readAny 9 = .ok (.iastore, 1) := by decide +kernel
theorem dX7_readAny_10 : decode cX7_readAny 10 = .ok (.aload_n 0, 1) := by decide +kernel
theorem dX7_readAny_11 : decode cX7_readAny 11 = .ok (.getfield 110, 3) := by decide +kernel
theorem dX7_readAny_14 : decode cX7_readAny 14 = .ok (.iconst 0, 1) := by decide +kernel
theorem dX7_readAny_15 : decode cX7_readAny 15 = .ok (.aload_n 0, 1) := by decide +kernel
theorem dX7_readAny_16 : decode cX7_readAny 16 = .ok (.iconst 1, 1) := by decide +kernel
theorem dX7_readAny_17 : decode cX7_readAny 17 = .ok (.aload_n 0, 1) := by decide +kernel
theorem dX7_readAny_18 : decode cX7_readAny 18 = .ok (.iconst 0, 1) := by decide +kernel
theorem dX7_readAny_19 : decode cX7_readAny 19 = .ok (.bipush (-4), 2) := by decide +kernel
theorem dX7_readAny_21 : decode cX7_readAny 21 = .ok (.invokevirtual 246, 3) := by decide +kernel
theorem dX7_readAny_24 : decode cX7_readAny 24 = .ok (.invokevirtual 246, 3) := by decide +kernel
theorem dX7_readAny_27 : decode cX7_readAny 27 = .ok (.iastore, 1) := by decide +kernel
theorem dX7_readAny_28 : decode cX7_readAny 28 = .ok (.iconst 1, 1) := by decide +kernel
theorem dX7_readAny_29 : decode cX7_readAny 29 = .ok (.istore_n 2, 1) := by decide +kernel
theorem dX7_readAny_30 : decode cX7_readAny 30 = .ok (.iload_n 2, 1) := by decide +kernel
theorem dX7_readAny_31 : decode cX7_readAny 31 = .ok (.ifCond .eq 241, 3) := by decide +kernel
theorem dX7_readAny_34 : decode cX7_readAny 34 = .ok (.aload_n 0, 1) := by decide +kernel
theorem dX7_readAny_35 : decode cX7_readAny 35 = .ok (.getfield 177, 3) := by decide +kernel
theorem dX7_readAny_38 : decode cX7_readAny 38 = .ok (.ifCond .ne 234, 3) := by decide +kernel
theorem dX7_readAny_41 : decode cX7_readAny 41 = .ok (.aload_n 0, 1) := by decide +kernel
theorem dX7_readAny_42 : decode cX7_readAny 42 = .ok (.bipush 40, 2) := by decide +kernel
theorem dX7_readAny_44 : decode cX7_readAny 44 = .ok (.invokevirtual 228, 3) := by decide +kernel
theorem dX7_readAny_47 : decode cX7_readAny 47 = .ok (.ifCond .eq 67, 3) := by decide +kernel
theorem dX7_readAny_50 : decode cX7_readAny 50 = .ok (.iload_n 1, 1) := by decide +kernel
theorem dX7_readAny_51 : decode cX7_readAny 51 = .ok (.bipush 6, 2) := by decide +kernel
theorem dX7_readAny_53 : decode cX7_readAny 53 = .ok (.if_icmp .ne 15, 3) := by decide +kernel
theorem dX7_readAny_56 : decode cX7_readAny 56 = .ok (.aload_n 0, 1) := by decide +kernel
theorem dX7_readAny_57 : decode cX7_readAny 57 = .ok (.iconst 4, 1) := by decide +kernel
theorem dX7_readAny_58 : decode cX7_readAny 58 = .ok (.aload_n 0, 1) := by decide +kernel
theorem dX7_readAny_59 : decode cX7_readAny 59 = .ok (.getfield 186, 3) := by decide +kernel
theorem dX7_readAny_62 : decode cX7_readAny 62 = .ok (.invokevirtual 207, 3) := by decide +kernel
theorem dX7_readAny_65 : decode cX7_readAny 65 = .ok (.goto (-35), 3) := by decide +kernel
theorem dX7_readAny_68 : decode cX7_readAny 68 = .ok (.aload_n 0, 1) := by decide +kernel
theorem dX7_readAny_69 : decode cX7_readAny 69 = .ok (.iconst 2, 1) := by decide +kernel
theorem dX7_readAny_70 : decode cX7_readAny 70 = .ok (.aload_n 0, 1) := by decide +kernel
theorem dX7_readAny_71 : decode cX7_readAny 71 = .ok (.getfield 110, 3) := by decide +kernel
theorem dX7_readAny_74 : decode cX7_readAny 74 = .ok (.iload_n 1, 1) := by decide +kernel
theorem dX7_readAny_75 : decode cX7_readAny 75 = .ok (.iaload, 1) := by decide +kernel
theorem dX7_readAny_76 : decode cX7_readAny 76 = .ok (.invokevirtual 246, 3) := by decide +kernel
theorem dX7_readAny_79 : decode cX7_readAny 79 = .ok (.istore_n 3, 1) := by decide +kernel
theorem dX7_readAny_80 : decode cX7_readAny 80 = .ok (.iinc 1 1, 3) := by decide +kernel
theorem dX7_readAny_83 : decode cX7_readAny 83 = .ok (.aload_n 0, 1) := by decide +kernel
theorem dX7_readAny_84 : decode cX7_readAny 84 = .ok (.getfield 113, 3) := by decide +kernel
theorem dX7_readAny_87 : decode cX7_readAny 87 = .ok (.iload_n 1, 1) := by decide +kernel
theorem dX7_readAny_88 : decode cX7_readAny 88 = .ok (.iload_n 3, 1) := by decide +kernel
theorem dX7_readAny_89 : decode cX7_readAny 89 = .ok (.iastore, 1) := by decide +kernel
theorem dX7_readAny_90 : decode cX7_readAny 90 = .ok (.aload_n 0, 1) := by decide +kernel
theorem dX7_readAny_91 : decode cX7_readAny 91 = .ok (.getfield 110, 3) := by decide +kernel
theorem dX7_readAny_94 : decode cX7_readAny 94 = .ok (.iload_n 1, 1) := by decide +kernel
theorem dX7_readAny_95 : decode cX7_readAny 95 = .ok (.aload_n 0, 1) := by decide +kernel
theorem dX7_readAny_96 : decode cX7_readAny 96 = .ok (.iconst 1, 1) := by decide +kernel
theorem dX7_readAny_97 : decode cX7_readAny 97 = .ok (.aload_n 0, 1) := by decide +kernel
theorem dX7_readAny_98 : decode cX7_readAny 98 = .ok (.iconst 0, 1) := by decide +kernel
theorem dX7_readAny_99 : decode cX7_readAny 99 = .ok (.iload_n 3, 1) := by decide +kernel
theorem dX7_readAny_100 : decode cX7_readAny 100 = .ok (.invokevirtual 246, 3) := by decide +kernel
theorem dX7_readAny_103 : decode cX7_readAny 103 = .ok (.invokevirtual 246, 3) := by decide +kernel
theorem dX7_readAny_106 : decode cX7_readAny 106 = .ok (.iastore, 1) := by decide +kernel
theorem dX7_readAny_107 : decode cX7_readAny 107 = .ok (.aload_n 0, 1) := by decide +kernel
theorem dX7_readAny_108 : decode cX7_readAny 108 = .ok (.invokevirtual 225, 3) := by decide +kernel
theorem dX7_readAny_111 : decode cX7_readAny 111 = .ok (.goto (-81), 3) := by decide +kernel
theorem dX7_readAny_114 : decode cX7_readAny 114 = .ok (.aload_n 0, 1) := by decide +kernel
theorem dX7_readAny_115 : decode cX7_readAny 115 = .ok (.getfield 177, 3) := by decide +kernel
theorem dX7_readAny_118 : decode cX7_readAny 118 = .ok (.ifCond .ne 142, 3) := by decide +kernel
theorem dX7_readAny_121 : decode cX7_readAny 121 = .ok (.aload_n 0, 1) := by decide +kernel
theorem dX7_readAny_122 : decode cX7_readAny 122 = .ok (.getfield 193, 3) := by decide +kernel
theorem dX7_readAny_125 : decode cX7_readAny 125 = .ok (.iconst 2, 1) := by decide +kernel
theorem dX7_readAny_126 : decode cX7_readAny 126 = .ok (.if_icmp .ne 134, 3) := by decide +kernel
theorem dX7_readAny_129 : decode cX7_readAny 129 = .ok (.aload_n 0, 1) := by decide +kernel
theorem dX7_readAny_130 : decode cX7_readAny 130 = .ok (.iconst 2, 1) := by decide +kernel
theorem dX7_readAny_131 : decode cX7_readAny 131 = .ok (.aload_n 0, 1) := by decide +kernel
theorem dX7_readAny_132 : decode cX7_readAny 132 = .ok (.getfield 110, 3) := by decide +kernel
theorem dX7_readAny_135 : decode cX7_readAny 135 = .ok (.iload_n 1, 1) := by decide +kernel
theorem dX7_readAny_136 : decode cX7_readAny 136 = .ok (.iaload, 1) := by decide +kernel
theorem dX7_readAny_137 : decode cX7_readAny 137 = .ok (.invokevirtual 246, 3) := by decide +kernel
theorem dX7_readAny_140 : decode cX7_readAny 140 = .ok (.istore_n 3, 1) := by decide +kernel
theorem dX7_readAny_141 : decode cX7_readAny 141 = .ok (.aload_n 0, 1) := by decide +kernel
theorem dX7_readAny_142 : decode cX7_readAny 142 = .ok (.iload_n 3, 1) := by decide +kernel
theorem dX7_readAny_143 : decode cX7_readAny 143 = .ok (.invokevirtual 249, 3) := by decide +kernel
theorem dX7_readAny_146 : decode cX7_readAny 146 = .ok (.aload_n 0, 1) := by decide +kernel
theorem dX7_readAny_147 : decode cX7_readAny 147 = .ok (.iload_n 3, 1) := by decide +kernel
theorem dX7_readAny_148 : decode cX7_readAny 148 = .ok (.invokevirtual 252, 3) := by decide +kernel
theorem dX7_readAny_151 : decode cX7_readAny 151 = .ok (.aload_n 0, 1) := by decide +kernel
theorem dX7_readAny_152 : decode cX7_readAny 152 = .ok (.bipush 41, 2) := by decide +kernel
theorem dX7_readAny_154 : decode cX7_readAny 154 = .ok (.invokevirtual 228, 3) := by decide +kernel
theorem dX7_readAny_157 : decode cX7_readAny 157 = .ok (.ifCond .eq 31, 3) := by decide +kernel
theorem dX7_readAny_160 : decode cX7_readAny 160 = .ok (.iload_n 1, 1) := by decide +kernel
theorem dX7_readAny_161 : decode cX7_readAny 161 = .ok (.ifCond .le 27, 3) := by decide +kernel
theorem dX7_readAny_164 : decode cX7_readAny 164 = .ok (.aload_n 0, 1) := by decide +kernel
theorem dX7_readAny_165 : decode cX7_readAny 165 = .ok (.getfield 113, 3) := by decide +kernel
theorem dX7_readAny_168 : decode cX7_readAny 168 = .ok (.iload_n 1, 1) := by decide +kernel
theorem dX7_readAny_169 : decode cX7_readAny 169 = .ok (.iaload, 1) := by decide +kernel
theorem dX7_readAny_170 : decode cX7_readAny 170 = .ok (.istore 4, 2) := by decide +kernel
theorem dX7_readAny_172 : decode cX7_readAny 172 = .ok (.iinc 1 (-1), 3) := by decide +kernel
theorem dX7_readAny_175 : decode cX7_readAny 175 = .ok (.aload_n 0, 1) := by decide +kernel
theorem dX7_readAny_176 : decode cX7_readAny 176 = .ok (.invokevirtual 225, 3) := by decide +kernel
theorem dX7_readAny_179 : decode cX7_readAny 179 = .ok (.aload_n 0, 1) := by decide +kernel
theorem dX7_readAny_180 : decode cX7_readAny 180 = .ok (.iload 4, 2) := by decide +kernel
theorem dX7_readAny_182 : decode cX7_readAny 182 = .ok (.invokevirtual 252, 3) := by decide +kernel
theorem dX7_readAny_185 : decode cX7_readAny 185 = .ok (.goto (-34), 3) := by decide +kernel
theorem dX7_readAny_188 : decode cX7_readAny 188 = .ok (.aload_n 0, 1) := by decide +kernel
theorem dX7_readAny_189 : decode cX7_readAny 189 = .ok (.bipush 44, 2) := by decide +kernel
theorem dX7_readAny_191 : decode cX7_readAny 191 = .ok (.invokevirtual 228, 3) := by decide +kernel
theorem dX7_readAny_194 : decode cX7_readAny 194 = .ok (.ifCond .eq 10, 3) := by decide +kernel
theorem dX7_readAny_197 : decode cX7_readAny 197 = .ok (.aload_n 0, 1) := by decide +kernel
theorem dX7_readAny_198 : decode cX7_readAny 198 = .ok (.invokevirtual 225, 3) := by decide +kernel
theorem dX7_readAny_201 : decode cX7_readAny 201 = .ok (.goto 56, 3) := by decide +kernel
theorem dX7_readAny_204 : decode cX7_readAny 204 = .ok (.aload_n 0, 1) := by decide +kernel
theorem dX7_readAny_205 : decode cX7_readAny 205 = .ok (.bipush 124, 2) := by decide +kernel
theorem dX7_readAny_207 : decode cX7_readAny 207 = .ok (.invokevirtual 228, 3) := by decide +kernel
theorem dX7_readAny_210 : decode cX7_readAny 210 = .ok (.ifCond .eq 32, 3) := by decide +kernel
theorem dX7_readAny_213 : decode cX7_readAny 213 = .ok (.aload_n 0, 1) := by decide +kernel
theorem dX7_readAny_214 : decode cX7_readAny 214 = .ok (.getfield 110, 3) := by decide +kernel
theorem dX7_readAny_217 : decode cX7_readAny 217 = .ok (.iload_n 1, 1) := by decide +kernel
theorem dX7_readAny_218 : decode cX7_readAny 218 = .ok (.aload_n 0, 1) := by decide +kernel
theorem dX7_readAny_219 : decode cX7_readAny 219 = .ok (.iconst 1, 1) := by decide +kernel
theorem dX7_readAny_220 : decode cX7_readAny 220 = .ok (.aload_n 0, 1) := by decide +kernel
theorem dX7_readAny_221 : decode cX7_readAny 221 = .ok (.getfield 95, 3) := by decide +kernel
theorem dX7_readAny_224 : decode cX7_readAny 224 = .ok (.aload_n 0, 1) := by decide +kernel
theorem dX7_readAny_225 : decode cX7_readAny 225 = .ok (.getfield 110, 3) := by decide +kernel
theorem dX7_readAny_228 : decode cX7_readAny 228 = .ok (.iload_n 1, 1) := by decide +kernel
theorem dX7_readAny_229 : decode cX7_readAny 229 = .ok (.iaload, 1) := by decide +kernel
theorem dX7_readAny_230 : decode cX7_readAny 230 = .ok (.iaload, 1) := by decide +kernel
theorem dX7_readAny_231 : decode cX7_readAny 231 = .ok (.invokevirtual 246, 3) := by decide +kernel
theorem dX7_readAny_234 : decode cX7_readAny 234 = .ok (.iastore, 1) := by decide +kernel
theorem dX7_readAny_235 : decode cX7_readAny 235 = .ok (.aload_n 0, 1) := by decide +kernel
theorem dX7_readAny_236 : decode cX7_readAny 236 = .ok (.invokevirtual 225, 3) := by decide +kernel
theorem dX7_readAny_239 : decode cX7_readAny 239 = .ok (.goto 18, 3) := by decide +kernel
theorem dX7_readAny_242 : decode cX7_readAny 242 = .ok (.iconst 0, 1) := by decide +kernel
theorem dX7_readAny_243 : decode cX7_readAny 243 = .ok (.istore_n 2, 1) := by decide +kernel
theorem dX7_readAny_244 : decode cX7_readAny 244 = .ok (.iload_n 1, 1) := by decide +kernel
theorem dX7_readAny_245 : decode cX7_readAny 245 = .ok (.ifCond .le 12, 3) := by decide +kernel
theorem dX7_readAny_248 : decode cX7_readAny 248 = .ok (.aload_n 0, 1) := by decide +kernel
theorem dX7_readAny_249 : decode cX7_readAny 249 = .ok (.iconst 2, 1) := by decide +kernel
theorem dX7_readAny_250 : decode cX7_readAny 250 = .ok (.aload_n 0, 1) := by decide +kernel
theorem dX7_readAny_251 : decode cX7_readAny 251 = .ok (.getfield 186, 3) := by decide +kernel
theorem dX7_readAny_254 : decode cX7_readAny 254 = .ok (.invokevirtual 207, 3) := by decide +kernel
theorem dX7_readAny_257 : decode cX7_readAny 257 = .ok (.goto (-227), 3) := by decide +kernel
theorem dX7_readAny_260 : decode cX7_readAny 260 = .ok (.aload_n 0, 1) := by decide +kernel
theorem dX7_readAny_261 : decode cX7_readAny 261 = .ok (.iconst 2, 1) := by decide +kernel
theorem dX7_readAny_262 : decode cX7_readAny 262 = .ok (.aload_n 0, 1) := by decide +kernel
theorem dX7_readAny_263 : decode cX7_readAny 263 = .ok (.getfield 186, 3) := by decide +kernel
theorem dX7_readAny_266 : decode cX7_readAny 266 = .ok (.invokevirtual 207, 3) := by decide +kernel
theorem dX7_readAny_269 : decode cX7_readAny 269 = .ok (.goto (-239), 3) := by decide +kernel
theorem dX7_readAny_272 : decode cX7_readAny 272 = .ok (.return_, 1) := by decide +kernel
set_option maxRecDepth 20000 in
theorem ggX7_readShape_X7_fails : GoodIn wsX7_readShape wsX7_fails := goodIn_r _ [14, 1, 15, 90, 91, 92, 93, 94, 95, 96, 97, 98, 99, 100, 101, 102, 103, 104, 105, 106, 107, 108, 109, 110, 111, 112, 113, 114, 115, 116, 117, 118, 119, 120, 121, 122, 123, 124, 125, 126, 127, 128, 129, 130, 131, 132, 133, 134, 135, 136, 137, 138, 139, 140, 141, 142, 143, 144, 145, 146] (by decide +kernel) (by decide +kernel)
set_option maxRecDepth 20000 in
theorem gX7_readShape_X7_fails : GoodIn wsX7_readShape (wsV RX7 207 RX7 yX7_fails wsX7_fails) := goodIn_app (goodIn_of _ (by decide +kernel)) ggX7_readShape_X7_fails
set_option maxRecDepth 20000 in
theorem ggX7_readShape_X7_taken : GoodIn wsX7_readShape wsX7_taken := goodIn_r _ [19, 1, 2, 3, 6, 20, 10, 11, 12, 13, 14, 15, 21, 22, 23, 24, 25, 26, 27, 28, 29, 30, 31, 32, 33, 34, 35, 36, 37, 38, 39, 40, 41, 42, 43, 44, 45, 46, 47, 90, 91, 92, 93, 94, 95, 96, 97, 98, 99, 100, 101, 102, 103, 104, 105, 106, 107, 108, 109, 110, 111, 112, 113, 114, 115, 116, 117, 118, 119, 120, 121, 122, 123, 124, 125, 126, 127, 128, 129, 130, 131, 132, 133, 134, 135, 136, 137, 138, 139, 140, 141, 142, 143, 144, 145, 146] (by decide +kernel) (by decide +kernel)
set_option maxRecDepth 20000 in
theorem gX7_readShape_X7_taken : GoodIn wsX7_readShape (wsV RX7 231 RX7 yX7_taken wsX7_taken) := goodIn_app (goodIn_of _ (by decide +kernel)) ggX7_readShape_X7_taken
set_option maxRecDepth 20000 in
theorem ggX7_readShape_X7_taken2 : GoodIn wsX7_readShape wsX7_taken2 := goodIn_r _ [51, 1, 3, 52, 53, 54, 13, 55, 2, 6, 10, 11, 12, 14, 15, 21, 22, 23, 24, 25, 26, 27, 28, 29, 30, 31, 32, 33, 34, 35, 36, 37, 38, 39, 40, 41, 42, 43, 44, 45, 46, 47, 90, 91, 92, 93, 94, 95, 96, 97, 98, 99, 100, 101, 102, 103, 104, 105, 106, 107, 108, 109, 110, 111, 112, 113, 114, 115, 116, 117, 118, 119, 120, 121, 122, 123, 124, 125, 126, 127, 128, 129, 130, 131, 132, 133, 134, 135, 136, 137, 138, 139, 140, 141, 142, 143, 144, 145, 146] (by decide +kernel) (by decide +kernel)
set_option maxRecDepth 20000 in
theorem gX7_readShape_X7_taken2 : GoodIn wsX7_readShape (wsV RX7 243 RX7 yX7_taken2 wsX7_taken2) := goodIn_app (goodIn_of _ (by decide +kernel)) ggX7_readShape_X7_taken2
set_option maxRecDepth 20000 in
theorem ggX7_readShape_X7_is : GoodIn wsX7_readShape wsX7_is := goodIn_r _ [55, 1, 2, 6, 90, 91, 92, 93, 94, 95, 96, 97, 98, 99, 100, 101, 102, 103, 104, 105, 106, 107, 108, 109, 110, 111, 112, 113, 114, 115, 116, 117, 118, 119, 120, 121, 122, 123, 124, 125, 126, 127, 128, 129, 130, 131, 132, 133, 134, 135, 136, 137, 138, 139, 140, 141, 142, 143, 144, 145, 146] (by decide +kernel) (by decide +kernel)
set_option maxRecDepth 20000 in
theorem gX7_readShape_X7_is : GoodIn wsX7_readShape (wsV RX7 228 RX7 yX7_is wsX7_is) := goodIn_app (goodIn_of _ (by decide +kernel)) ggX7_readShape_X7_is
set_option maxRecDepth 20000 in
theorem ggX7_readShape_X7_readAny : GoodIn wsX7_readShape wsX7_readAny := goodIn_r _ [59, 60, 61, 1, 3, 2, 62, 63, 64, 65, 13, 66, 4, 7, 67, 68, 69, 70, 52, 53, 54, 55, 6, 10, 11, 12, 14, 15, 21, 22, 23, 24, 25, 26, 27, 28, 29, 30, 31, 32, 33, 34, 35, 36, 37, 38, 39, 40, 41, 42, 43, 44, 45, 46, 47, 71, 72, 73, 74, 75, 8, 76, 77, 78, 79, 80, 20, 16, 17, 18, 19, 81, 82, 83, 84, 85, 86, 87, 88, 89, 48, 49, 50, 51, 90, 91, 92, 93, 94, 95, 96, 97, 98, 99, 100, 101, 102, 103, 104, 105, 106, 107, 108, 109, 110, 111, 112, 113, 114, 115, 116, 117, 118, 119, 120, 121, 122, 123, 124, 125, 126, 127, 128, 129, 130, 131, 132, 133, 134, 135, 136, 137, 138, 139, 140, 141, 142, 143, 144, 145, 146] (by decide +kernel) (by decide +kernel)
set_option maxRecDepth 20000 in
theorem gX7_readShape_X7_readAny : GoodIn wsX7_readShape (wsV RX7 255 RX7 yX7_readAny wsX7_readAny) := goodIn_app (goodIn_of _ (by decide +kernel)) ggX7_readShape_X7_readAny
set_option maxRecDepth 20000 in
theorem ggX7_readShape_X7_next : GoodIn wsX7_readShape wsX7_next := goodIn_r _ [24, 25, 3, 2, 26, 27, 6, 28, 29, 30, 31, 32, 33, 34, 13, 35, 36, 37, 38, 39, 40, 10, 11, 12, 14, 1, 15, 41, 42, 43, 44, 45, 46, 47, 90, 91, 92, 93, 94, 95, 96, 97, 98, 99, 100, 101, 102, 103, 104, 105, 106, 107, 108, 109, 110, 111, 112, 113, 114, 115, 116, 117, 118, 119, 120, 121, 122, 123, 124, 125, 126, 127, 128, 129, 130, 131, 132, 133, 134, 135, 136, 137, 138, 139, 140, 141, 142, 143, 144, 145, 146] (by decide +kernel) (by decide +kernel)
set_option maxRecDepth 20000 in
theorem gX7_readShape_X7_next : GoodIn wsX7_readShape (wsV RX7 225 RX7 yX7_next wsX7_next) := goodIn_app (goodIn_of _ (by decide +kernel)) ggX7_readShape_X7_next
theorem dX7_readShape_0 : decode cX7_readShape 0 = .ok (.aload_n 0, 1) := by decide +kernel
theorem dX7_readShape_1 : decode cX7_readShape 1 = .ok (.getfield 177, 3) := by decide +kernel
theorem dX7_readShape_4 : decode cX7_readShape 4 = .ok (.ifCond .ne 20, 3) := by decide +kernel
theorem dX7_readShape_7 : decode cX7_readShape 7 = .ok (.aload_n 0, 1) := by decide +kernel
theorem dX7_readShape_8 : decode cX7_readShape 8 = .ok (.getfield 193, 3) := by decide +kernel
theorem dX7_readShape_11 : decode cX7_readShape 11 = .ok (.iconst 1, 1) := by decide +kernel
theorem dX7_readShape_12 : decode cX7_readShape 12 = .ok (.if_icmp .eq 12, 3) := by decide +kernel
theorem dX7_readShape_15 : decode cX7_readShape 15 = .ok (.aload_n 0, 1) := by decide +kernel
theorem dX7_readShape_16 : decode cX7_readShape 16 = .ok (.iconst 2, 1) := by decide +kernel
theorem dX7_readShape_17 : decode cX7_readShape 17 = .ok (.aload_n 0, 1) := by decide +kernel
theorem dX7_readShape_18 : decode cX7_readShape 18 = .ok (.getfield 186, 3) := by decide +kernel
theorem dX7_readShape_21 : decode cX7_readShape 21 = .ok (.invokevirtual 207, 3) := by decide +kernel
theorem dX7_readShape_24 : decode cX7_readShape 24 = .ok (.aload_n 0, 1) := by decide +kernel
theorem dX7_readShape_25 : decode cX7_readShape 25 = .ok (.getfield 177, 3) := by decide +kernel
theorem dX7_readShape_28 : decode cX7_readShape 28 = .ok (.ifCond .ne 21, 3) := by decide +kernel
theorem dX7_readShape_31 : decode cX7_readShape 31 = .ok (.aload_n 0, 1) := by decide +kernel
theorem dX7_readShape_32 : decode cX7_readShape 32 = .ok (.getfield 234, 3) := by decide +kernel
theorem dX7_readShape_35 : decode cX7_readShape 35 = .ok (.bipush 6, 2) := by decide +kernel
theorem dX7_readShape_37 : decode cX7_readShape 37 = .ok (.if_icmp .ne 12, 3) := by decide +kernel
theorem dX7_readShape_40 : decode cX7_readShape 40 = .ok (.aload_n 0, 1) := by decide +kernel
theorem dX7_readShape_41 : decode cX7_readShape 41 = .ok (.iconst 4, 1) := by decide +kernel
theorem dX7_readShape_42 : decode cX7_readShape 42 = .ok (.aload_n 0, 1) := by decide +kernel
theorem dX7_readShape_43 : decode cX7_readShape 43 = .ok (.getfield 186, 3) := by decide +kernel
theorem dX7_readShape_46 : decode cX7_readShape 46 = .ok (.invokevirtual 207, 3) := by decide +kernel
theorem dX7_readShape_49 : decode cX7_readShape 49 = .ok (.iconst 0, 1) := by decide +kernel
theorem dX7_readShape_50 : decode cX7_readShape 50 = .ok (.istore_n 1, 1) := by decide +kernel
theorem dX7_readShape_51 : decode cX7_readShape 51 = .ok (.iload_n 1, 1) := by decide +kernel
theorem dX7_readShape_52 : decode cX7_readShape 52 = .ok (.aload_n 0, 1) := by decide +kernel
theorem dX7_readShape_53 : decode cX7_readShape 53 = .ok (.getfield 234, 3) := by decide +kernel
theorem dX7_readShape_56 : decode cX7_readShape 56 = .ok (.if_icmp .ge 38, 3) := by decide +kernel
theorem dX7_readShape_59 : decode cX7_readShape 59 = .ok (.aload_n 0, 1) := by decide +kernel
theorem dX7_readShape_60 : decode cX7_readShape 60 = .ok (.getfield 177, 3) := by decide +kernel
theorem dX7_readShape_63 : decode cX7_readShape 63 = .ok (.ifCond .ne 31, 3) := by decide +kernel
theorem dX7_readShape_66 : decode cX7_readShape 66 = .ok (.aload_n 0, 1) := by decide +kernel
theorem dX7_readShape_67 : decode cX7_readShape 67 = .ok (.getfield 65, 3) := by decide +kernel
theorem dX7_readShape_70 : decode cX7_readShape 70 = .ok (.iload_n 1, 1) := by decide +kernel
theorem dX7_readShape_71 : decode cX7_readShape 71 = .ok (.iaload, 1) := by decide +kernel
theorem dX7_readShape_72 : decode cX7_readShape 72 = .ok (.aload_n 0, 1) := by decide +kernel
theorem dX7_readShape_73 : decode cX7_readShape 73 = .ok (.getfield 200, 3) := by decide +kernel
theorem dX7_readShape_76 : decode cX7_readShape 76 = .ok (.if_icmp .ne 12, 3) := by decide +kernel
theorem dX7_readShape_79 : decode cX7_readShape 79 = .ok (.aload_n 0, 1) := by decide +kernel
theorem dX7_readShape_80 : decode cX7_readShape 80 = .ok (.iconst 5, 1) := by decide +kernel
theorem dX7_readShape_81 : decode cX7_readShape 81 = .ok (.aload_n 0, 1) := by decide +kernel
theorem dX7_readShape_82 : decode cX7_readShape 82 = .ok (.getfield 186, 3) := by decide +kernel
theorem dX7_readShape_85 : decode cX7_readShape 85 = .ok (.invokevirtual 207, 3) := by decide +kernel
theorem dX7_readShape_88 : decode cX7_readShape 88 = .ok (.iinc 1 1, 3) := by decide +kernel
theorem dX7_readShape_91 : decode cX7_readShape 91 = .ok (.goto (-40), 3) := by decide +kernel
theorem dX7_readShape_94 : decode cX7_readShape 94 = .ok (.aload_n 0, 1) := by decide +kernel
theorem dX7_readShape_95 : decode cX7_readShape 95 = .ok (.getfield 177, 3) := by decide +kernel
theorem dX7_readShape_98 : decode cX7_readShape 98 = .ok (.ifCond .le 4, 3) := by decide +kernel
theorem dX7_readShape_101 : decode cX7_readShape 101 = .ok (.return_, 1) := by decide +kernel
theorem dX7_readShape_102 : decode cX7_readShape 102 = .ok (.aload_n 0, 1) := by decide +kernel
theorem dX7_readShape_103 : decode cX7_readShape 103 = .ok (.getfield 65, 3) := by decide +kernel
theorem dX7_readShape_106 : decode cX7_readShape 106 = .ok (.aload_n 0, 1) := by decide +kernel
theorem dX7_readShape_107 : decode cX7_readShape 107 = .ok (.getfield 234, 3) := by decide +kernel
theorem dX7_readShape_110 : decode cX7_readShape 110 = .ok (.aload_n 0, 1) := by decide +kernel
theorem dX7_readShape_111 : decode cX7_readShape 111 = .ok (.iconst 1, 1) := by decide +kernel
theorem dX7_readShape_112 : decode cX7_readShape 112 = .ok (.invokevirtual 231, 3) := by decide +kernel
theorem dX7_readShape_115 : decode cX7_readShape 115 = .ok (.iastore, 1) := by decide +kernel
theorem dX7_readShape_116 : decode cX7_readShape 116 = .ok (.aload_n 0, 1) := by decide +kernel
theorem dX7_readShape_117 : decode cX7_readShape 117 = .ok (.getfield 89, 3) := by decide +kernel
theorem dX7_readShape_120 : decode cX7_readShape 120 = .ok (.aload_n 0, 1) := by decide +kernel
theorem dX7_readShape_121 : decode cX7_readShape 121 = .ok (.getfield 234, 3) := by decide +kernel
theorem dX7_readShape_124 : decode cX7_readShape 124 = .ok (.iconst 0, 1) := by decide +kernel
theorem dX7_readShape_125 : decode cX7_readShape 125 = .ok (.iastore, 1) := by decide +kernel
theorem dX7_readShape_126 : decode cX7_readShape 126 = .ok (.aload_n 0, 1) := by decide +kernel
theorem dX7_readShape_127 : decode cX7_readShape 127 = .ok (.getfield 71, 3) := by decide +kernel
theorem dX7_readShape_130 : decode cX7_readShape 130 = .ok (.aload_n 0, 1) := by decide +kernel
theorem dX7_readShape_131 : decode cX7_readShape 131 = .ok (.getfield 234, 3) := by decide +kernel
theorem dX7_readShape_134 : decode cX7_readShape 134 = .ok (.iconst 0, 1) := by decide +kernel
theorem dX7_readShape_135 : decode cX7_readShape 135 = .ok (.iastore, 1) := by decide +kernel
theorem dX7_readShape_136 : decode cX7_readShape 136 = .ok (.aload_n 0, 1) := by decide +kernel
theorem dX7_readShape_137 : decode cX7_readShape 137 = .ok (.getfield 68, 3) := by decide +kernel
theorem dX7_readShape_140 : decode cX7_readShape 140 = .ok (.aload_n 0, 1) := by decide +kernel
theorem dX7_readShape_141 : decode cX7_readShape 141 = .ok (.getfield 234, 3) := by decide +kernel
theorem dX7_readShape_144 : decode cX7_readShape 144 = .ok (.iconst 0, 1) := by decide +kernel
theorem dX7_readShape_145 : decode cX7_readShape 145 = .ok (.bastore, 1) := by decide +kernel
theorem dX7_readShape_146 : decode cX7_readShape 146 = .ok (.aload_n 0, 1) := by decide +kernel
theorem dX7_readShape_147 : decode cX7_readShape 147 = .ok (.bipush 61, 2) := by decide +kernel
theorem dX7_readShape_149 : decode cX7_readShape 149 = .ok (.invokevirtual 243, 3) := by decide +kernel
theorem dX7_readShape_152 : decode cX7_readShape 152 = .ok (.aload_n 0, 1) := by decide +kernel
theorem dX7_readShape_153 : decode cX7_readShape 153 = .ok (.getfield 177, 3) := by decide +kernel
theorem dX7_readShape_156 : decode cX7_readShape 156 = .ok (.ifCond .ne 24, 3) := by decide +kernel
theorem dX7_readShape_159 : decode cX7_readShape 159 = .ok (.aload_n 0, 1) := by decide +kernel
theorem dX7_readShape_160 : decode cX7_readShape 160 = .ok (.bipush 40, 2) := by decide +kernel
theorem dX7_readShape_162 : decode cX7_readShape 162 = .ok (.invokevirtual 228, 3) := by decide +kernel
theorem dX7_readShape_165 : decode cX7_readShape 165 = .ok (.ifCond .ne 11, 3) := by decide +kernel
theorem dX7_readShape_168 : decode cX7_readShape 168 = .ok (.aload_n 0, 1) := by decide +kernel
theorem dX7_readShape_169 : decode cX7_readShape 169 = .ok (.getfield 193, 3) := by decide +kernel
theorem dX7_readShape_172 : decode cX7_readShape 172 = .ok (.iconst 2, 1) := by decide +kernel
theorem dX7_readShape_173 : decode cX7_readShape 173 = .ok (.if_icmp .ne 7, 3) := by decide +kernel
theorem dX7_readShape_176 : decode cX7_readShape 176 = .ok (.aload_n 0, 1) := by decide +kernel
theorem dX7_readShape_177 : decode cX7_readShape 177 = .ok (.invokevirtual 255, 3) := by decide +kernel
theorem dX7_readShape_180 : decode cX7_readShape 180 = .ok (.aload_n 0, 1) := by decide +kernel
theorem dX7_readShape_181 : decode cX7_readShape 181 = .ok (.getfield 177, 3) := by decide +kernel
theorem dX7_readShape_184 : decode cX7_readShape 184 = .ok (.ifCond .ne 25, 3) := by decide +kernel
theorem dX7_readShape_187 : decode cX7_readShape 187 = .ok (.aload_n 0, 1) := by decide +kernel
theorem dX7_readShape_188 : decode cX7_readShape 188 = .ok (.getfield 193, 3) := by decide +kernel
theorem dX7_readShape_191 : decode cX7_readShape 191 = .ok (.iconst 3, 1) := by decide +kernel
theorem dX7_readShape_192 : decode cX7_readShape 192 = .ok (.if_icmp .ne 17, 3) := by decide +kernel
theorem dX7_readShape_195 : decode cX7_readShape 195 = .ok (.aload_n 0, 1) := by decide +kernel
theorem dX7_readShape_196 : decode cX7_readShape 196 = .ok (.getfield 68, 3) := by decide +kernel
theorem dX7_readShape_199 : decode cX7_readShape 199 = .ok (.aload_n 0, 1) := by decide +kernel
theorem dX7_readShape_200 : decode cX7_readShape 200 = .ok (.getfield 234, 3) := by decide +kernel
theorem dX7_readShape_203 : decode cX7_readShape 203 = .ok (.iconst 1, 1) := by decide +kernel
theorem dX7_readShape_204 : decode cX7_readShape 204 = .ok (.bastore, 1) := by decide +kernel
theorem dX7_readShape_205 : decode cX7_readShape 205 = .ok (.aload_n 0, 1) := by decide +kernel
theorem dX7_readShape_206 : decode cX7_readShape 206 = .ok (.invokevirtual 225, 3) := by decide +kernel
theorem dX7_readShape_209 : decode cX7_readShape 209 = .ok (.aload_n 0, 1) := by decide +kernel
theorem dX7_readShape_210 : decode cX7_readShape 210 = .ok (.bipush 59, 2) := by decide +kernel
theorem dX7_readShape_212 : decode cX7_readShape 212 = .ok (.invokevirtual 243, 3) := by decide +kernel
theorem dX7_readShape_215 : decode cX7_readShape 215 = .ok (.aload_n 0, 1) := by decide +kernel
theorem dX7_readShape_216 : decode cX7_readShape 216 = .ok (.dup, 1) := by decide +kernel
theorem dX7_readShape_217 : decode cX7_readShape 217 = .ok (.getfield 234, 3) := by decide +kernel
theorem dX7_readShape_220 : decode cX7_readShape 220 = .ok (.iconst 1, 1) := by decide +kernel
theorem dX7_readShape_221 : decode cX7_readShape 221 = .ok (.iadd, 1) := by decide +kernel
theorem dX7_readShape_222 : decode cX7_readShape 222 = .ok (.putfield 234, 3) := by decide +kernel
theorem dX7_readShape_225 : decode cX7_readShape 225 = .ok (.return_, 1) := by decide +kernel
theorem dX7_wordAt_0 : decode cX7_wordAt 0 = .ok (.iconst 0, 1) := by decide +kernel
theorem dX7_wordAt_1 : decode cX7_wordAt 1 = .ok (.istore_n 2, 1) := by decide +kernel
theorem dX7_wordAt_2 : decode cX7_wordAt 2 = .ok (.iload_n 2, 1) := by decide +kernel
theorem dX7_wordAt_3 : decode cX7_wordAt 3 = .ok (.aload_n 0, 1) := by decide +kernel
theorem dX7_wordAt_4 : decode cX7_wordAt 4 = .ok (.getfield 234, 3) := by decide +kernel
theorem dX7_wordAt_7 : decode cX7_wordAt 7 = .ok (.if_icmp .ge 21, 3) := by decide +kernel
theorem dX7_wordAt_10 : decode cX7_wordAt 10 = .ok (.aload_n 0, 1) := by decide +kernel
theorem dX7_wordAt_11 : decode cX7_wordAt 11 = .ok (.getfield 65, 3) := by decide +kernel
theorem dX7_wordAt_14 : decode cX7_wordAt 14 = .ok (.iload_n 2, 1) := by decide +kernel
theorem dX7_wordAt_15 : decode cX7_wordAt 15 = .ok (.iaload, 1) := by decide +kernel
theorem dX7_wordAt_16 : decode cX7_wordAt 16 = .ok (.iload_n 1, 1) := by decide +kernel
theorem dX7_wordAt_17 : decode cX7_wordAt 17 = .ok (.if_icmp .ne 5, 3) := by decide +kernel
theorem dX7_wordAt_20 : decode cX7_wordAt 20 = .ok (.iload_n 2, 1) := by decide +kernel
theorem dX7_wordAt_21 : decode cX7_wordAt 21 = .ok (.ireturn, 1) := by decide +kernel
theorem dX7_wordAt_22 : decode cX7_wordAt 22 = .ok (.iinc 2 1, 3) := by decide +kernel
theorem dX7_wordAt_25 : decode cX7_wordAt 25 = .ok (.goto (-23), 3) := by decide +kernel
theorem dX7_wordAt_28 : decode cX7_wordAt 28 = .ok (.bipush (-4), 2) := by decide +kernel
theorem dX7_wordAt_30 : decode cX7_wordAt 30 = .ok (.ireturn, 1) := by decide +kernel
theorem dX7_findLeads_0 : decode cX7_findLeads 0 = .ok (.iload_n 1, 1) := by decide +kernel
theorem dX7_findLeads_1 : decode cX7_findLeads 1 = .ok (.ifCond .eq 10, 3) := by decide +kernel
theorem dX7_findLeads_4 : decode cX7_findLeads 4 = .ok (.aload_n 0, 1) := by decide +kernel
theorem dX7_findLeads_5 : decode cX7_findLeads 5 = .ok (.getfield 234, 3) := by decide +kernel
theorem dX7_findLeads_8 : decode cX7_findLeads 8 = .ok (.goto 7, 3) := by decide +kernel
theorem dX7_findLeads_11 : decode cX7_findLeads 11 = .ok (.aload_n 0, 1) := by decide +kernel
theorem dX7_findLeads_12 : decode cX7_findLeads 12 = .ok (.getfield 258, 3) := by decide +kernel
theorem dX7_findLeads_15 : decode cX7_findLeads 15 = .ok (.istore_n 2, 1) := by decide +kernel
theorem dX7_findLeads_16 : decode cX7_findLeads 16 = .ok (.iconst 0, 1) := by decide +kernel
theorem dX7_findLeads_17 : decode cX7_findLeads 17 = .ok (.istore_n 3, 1) := by decide +kernel
theorem dX7_findLeads_18 : decode cX7_findLeads 18 = .ok (.iload_n 3, 1) := by decide +kernel
theorem dX7_findLeads_19 : decode cX7_findLeads 19 = .ok (.bipush 36, 2) := by decide +kernel
theorem dX7_findLeads_21 : decode cX7_findLeads 21 = .ok (.if_icmp .ge 16, 3) := by decide +kernel
theorem dX7_findLeads_24 : decode cX7_findLeads 24 = .ok (.aload_n 0, 1) := by decide +kernel
theorem dX7_findLeads_25 : decode cX7_findLeads 25 = .ok (.getfield 116, 3) := by decide +kernel
theorem dX7_findLeads_28 : decode cX7_findLeads 28 = .ok (.iload_n 3, 1) := by decide +kernel
theorem dX7_findLeads_29 : decode cX7_findLeads 29 = .ok (.iconst 0, 1) := by decide +kernel
theorem dX7_findLeads_30 : decode cX7_findLeads 30 = .ok (.bastore, 1) := by decide +kernel
theorem dX7_findLeads_31 : decode cX7_findLeads 31 = .ok (.iinc 3 1, 3) := by decide +kernel
theorem dX7_findLeads_34 : decode cX7_findLeads 34 = .ok (.goto (-16), 3) := by decide +kernel
theorem dX7_findLeads_37 : decode cX7_findLeads 37 = .ok (.iconst 0, 1) := by decide +kernel
theorem dX7_findLeads_38 : decode cX7_findLeads 38 = .ok (.istore_n 3, 1) := by decide +kernel
theorem dX7_findLeads_39 : decode cX7_findLeads 39 = .ok (.iload_n 3, 1) := by decide +kernel
theorem dX7_findLeads_40 : decode cX7_findLeads 40 = .ok (.iload_n 2, 1) := by decide +kernel
theorem dX7_findLeads_41 : decode cX7_findLeads 41 = .ok (.if_icmp .ge 118, 3) := by decide +kernel
theorem dX7_findLeads_44 : decode cX7_findLeads 44 = .ok (.iconst 0, 1) := by decide +kernel
theorem dX7_findLeads_45 : decode cX7_findLeads 45 = .ok (.istore 4, 2) := by decide +kernel
theorem dX7_findLeads_47 : decode cX7_findLeads 47 = .ok (.iload 4, 2) := by decide +kernel
theorem dX7_findLeads_49 : decode cX7_findLeads 49 = .ok (.iload_n 1, 1) := by decide +kernel
theorem dX7_findLeads_50 : decode cX7_findLeads 50 = .ok (.ifCond .eq 12, 3) := by decide +kernel
theorem dX7_findLeads_53 : decode cX7_findLeads 53 = .ok (.aload_n 0, 1) := by decide +kernel
theorem dX7_findLeads_54 : decode cX7_findLeads 54 = .ok (.getfield 71, 3) := by decide +kernel
theorem dX7_findLeads_57 : decode cX7_findLeads 57 = .ok (.iload_n 3, 1) := by decide +kernel
theorem dX7_findLeads_58 : decode cX7_findLeads 58 = .ok (.iaload, 1) := by decide +kernel
theorem dX7_findLeads_59 : decode cX7_findLeads 59 = .ok (.goto 9, 3) := by decide +kernel
theorem dX7_findLeads_62 : decode cX7_findLeads 62 = .ok (.aload_n 0, 1) := by decide +kernel
theorem dX7_findLeads_63 : decode cX7_findLeads 63 = .ok (.getfield 32, 3) := by decide +kernel
theorem dX7_findLeads_66 : decode cX7_findLeads 66 = .ok (.iload_n 3, 1) := by decide +kernel
theorem dX7_findLeads_67 : decode cX7_findLeads 67 = .ok (.iaload, 1) := by decide +kernel
theorem dX7_findLeads_68 : decode cX7_findLeads 68 = .ok (.if_icmp .ge 85, 3) := by decide +kernel
theorem dX7_findLeads_71 : decode cX7_findLeads 71 = .ok (.bipush 6, 2) := by decide +kernel
theorem dX7_findLeads_73 : decode cX7_findLeads 73 = .ok (.iload_n 3, 1) := by decide +kernel
theorem dX7_findLeads_74 : decode cX7_findLeads 74 = .ok (.imul, 1) := by decide +kernel
theorem dX7_findLeads_75 : decode cX7_findLeads 75 = .ok (.iload 4, 2) := by decide +kernel
theorem dX7_findLeads_77 : decode cX7_findLeads 77 = .ok (.iadd, 1) := by decide +kernel
theorem dX7_findLeads_78 : decode cX7_findLeads 78 = .ok (.istore 5, 2) := by decide +kernel
theorem dX7_findLeads_80 : decode cX7_findLeads 80 = .ok (.iload_n 1, 1) := by decide +kernel
theorem dX7_findLeads_81 : decode cX7_findLeads 81 = .ok (.ifCond .eq 13, 3) := by decide +kernel
theorem dX7_findLeads_84 : decode cX7_findLeads 84 = .ok (.aload_n 0, 1) := by decide +kernel
theorem dX7_findLeads_85 : decode cX7_findLeads 85 = .ok (.getfield 77, 3) := by decide +kernel
theorem dX7_findLeads_88 : decode cX7_findLeads 88 = .ok (.iload 5, 2) := by decide +kernel
theorem dX7_findLeads_90 : decode cX7_findLeads 90 = .ok (.iaload, 1) := by decide +kernel
theorem dX7_findLeads_91 : decode cX7_findLeads 91 = .ok (.goto 10, 3) := by decide +kernel
theorem dX7_findLeads_94 : decode cX7_findLeads 94 = .ok (.aload_n 0, 1) := by decide +kernel
theorem dX7_findLeads_95 : decode cX7_findLeads 95 = .ok (.getfield 38, 3) := by decide +kernel
theorem dX7_findLeads_98 : decode cX7_findLeads 98 = .ok (.iload 5, 2) := by decide +kernel
theorem dX7_findLeads_100 : decode cX7_findLeads 100 = .ok (.iaload, 1) := by decide +kernel
theorem dX7_findLeads_101 : decode cX7_findLeads 101 = .ok (.istore 6, 2) := by decide +kernel
theorem dX7_findLeads_103 : decode cX7_findLeads 103 = .ok (.iload 6, 2) := by decide +kernel
theorem dX7_findLeads_105 : decode cX7_findLeads 105 = .ok (.iconst 1, 1) := by decide +kernel
theorem dX7_findLeads_106 : decode cX7_findLeads 106 = .ok (.if_icmp .eq 9, 3) := by decide +kernel
theorem dX7_findLeads_109 : decode cX7_findLeads 109 = .ok (.iload 6, 2) := by decide +kernel
theorem dX7_findLeads_111 : decode cX7_findLeads 111 = .ok (.iconst 2, 1) := by decide +kernel
theorem dX7_findLeads_112 : decode cX7_findLeads 112 = .ok (.if_icmp .ne 35, 3) := by decide +kernel
theorem dX7_findLeads_115 : decode cX7_findLeads 115 = .ok (.aload_n 0, 1) := by decide +kernel
theorem dX7_findLeads_116 : decode cX7_findLeads 116 = .ok (.getfield 116, 3) := by decide +kernel
theorem dX7_findLeads_119 : decode cX7_findLeads 119 = .ok (.bipush 6, 2) := by decide +kernel
theorem dX7_findLeads_121 : decode cX7_findLeads 121 = .ok (.iload_n 3, 1) := by decide +kernel
theorem dX7_findLeads_122 : decode cX7_findLeads 122 = .ok (.imul, 1) := by decide +kernel
theorem dX7_findLeads_123 : decode cX7_findLeads 123 = .ok (.iload_n 1, 1) := by decide +kernel
theorem dX7_findLeads_124 : decode cX7_findLeads 124 = .ok (.ifCond .eq 13, 3) := by decide +kernel
theorem dX7_findLeads_127 : decode cX7_findLeads 127 = .ok (.aload_n 0, 1) := by decide +kernel
theorem dX7_findLeads_128 : decode cX7_findLeads 128 = .ok (.getfield 80, 3) := by decide +kernel
theorem dX7_findLeads_131 : decode cX7_findLeads 131 = .ok (.iload 5, 2) := by decide +kernel
theorem dX7_findLeads_133 : decode cX7_findLeads 133 = .ok (.iaload, 1) := by decide +kernel
theorem dX7_findLeads_134 : decode cX7_findLeads 134 = .ok (.goto 10, 3) := by decide +kernel
theorem dX7_findLeads_137 : decode cX7_findLeads 137 = .ok (.aload_n 0, 1) := by decide +kernel
theorem dX7_findLeads_138 : decode cX7_findLeads 138 = .ok (.getfield 41, 3) := by decide +kernel
theorem dX7_findLeads_141 : decode cX7_findLeads 141 = .ok (.iload 5, 2) := by decide +kernel
theorem dX7_findLeads_143 : decode cX7_findLeads 143 = .ok (.iaload, 1) := by decide +kernel
theorem dX7_findLeads_144 : decode cX7_findLeads 144 = .ok (.iadd, 1) := by decide +kernel
theorem dX7_findLeads_145 : decode cX7_findLeads 145 = .ok (.iconst 1, 1) := by decide +kernel
theorem dX7_findLeads_146 : decode cX7_findLeads 146 = .ok (.bastore, 1) := by decide +kernel
theorem dX7_findLeads_147 : decode cX7_findLeads 147 = .ok (.iinc 4 1, 3) := by decide +kernel
theorem dX7_findLeads_150 : decode cX7_findLeads 150 = .ok (.goto (-103), 3) := by decide +kernel
theorem dX7_findLeads_153 : decode cX7_findLeads 153 = .ok (.iinc 3 1, 3) := by decide +kernel
theorem dX7_findLeads_156 : decode cX7_findLeads 156 = .ok (.goto (-117), 3) := by decide +kernel
theorem dX7_findLeads_159 : decode cX7_findLeads 159 = .ok (.iconst 0, 1) := by decide +kernel
theorem dX7_findLeads_160 : decode cX7_findLeads 160 = .ok (.istore_n 3, 1) := by decide +kernel
theorem dX7_findLeads_161 : decode cX7_findLeads 161 = .ok (.iload_n 3, 1) := by decide +kernel
theorem dX7_findLeads_162 : decode cX7_findLeads 162 = .ok (.iload_n 2, 1) := by decide +kernel
theorem dX7_findLeads_163 : decode cX7_findLeads 163 = .ok (.if_icmp .ge 103, 3) := by decide +kernel
theorem dX7_findLeads_166 : decode cX7_findLeads 166 = .ok (.iconst 0, 1) := by decide +kernel
theorem dX7_findLeads_167 : decode cX7_findLeads 167 = .ok (.istore 4, 2) := by decide +kernel
theorem dX7_findLeads_169 : decode cX7_findLeads 169 = .ok (.iload 4, 2) := by decide +kernel
theorem dX7_findLeads_171 : decode cX7_findLeads 171 = .ok (.iload_n 2, 1) := by decide +kernel
theorem dX7_findLeads_172 : decode cX7_findLeads 172 = .ok (.if_icmp .ge 88, 3) := by decide +kernel
theorem dX7_findLeads_175 : decode cX7_findLeads 175 = .ok (.iconst 0, 1) := by decide +kernel
theorem dX7_findLeads_176 : decode cX7_findLeads 176 = .ok (.istore 5, 2) := by decide +kernel
theorem dX7_findLeads_178 : decode cX7_findLeads 178 = .ok (.iload 5, 2) := by decide +kernel
theorem dX7_findLeads_180 : decode cX7_findLeads 180 = .ok (.iload_n 2, 1) := by decide +kernel
theorem dX7_findLeads_181 : decode cX7_findLeads 181 = .ok (.if_icmp .ge 73, 3) := by decide +kernel
theorem dX7_findLeads_184 : decode cX7_findLeads 184 = .ok (.aload_n 0, 1) := by decide +kernel
theorem dX7_findLeads_185 : decode cX7_findLeads 185 = .ok (.getfield 116, 3) := by decide +kernel
theorem dX7_findLeads_188 : decode cX7_findLeads 188 = .ok (.bipush 6, 2) := by decide +kernel
theorem dX7_findLeads_190 : decode cX7_findLeads 190 = .ok (.iload 4, 2) := by decide +kernel
theorem dX7_findLeads_192 : decode cX7_findLeads 192 = .ok (.imul, 1) := by decide +kernel
theorem dX7_findLeads_193 : decode cX7_findLeads 193 = .ok (.iload 5, 2) := by decide +kernel
theorem dX7_findLeads_195 : decode cX7_findLeads 195 = .ok (.iadd, 1) := by decide +kernel
theorem dX7_findLeads_196 : decode cX7_findLeads 196 = .ok (.aload_n 0, 1) := by decide +kernel
theorem dX7_findLeads_197 : decode cX7_findLeads 197 = .ok (.getfield 116, 3) := by decide +kernel
theorem dX7_findLeads_200 : decode cX7_findLeads 200 = .ok (.bipush 6, 2) := by decide +kernel
theorem dX7_findLeads_202 : decode cX7_findLeads 202 = .ok (.iload 4, 2) := by decide +kernel
theorem dX7_findLeads_204 : decode cX7_findLeads 204 = .ok (.imul, 1) := by decide +kernel
theorem dX7_findLeads_205 : decode cX7_findLeads 205 = .ok (.iload 5, 2) := by decide +kernel
theorem dX7_findLeads_207 : decode cX7_findLeads 207 = .ok (.iadd, 1) := by decide +kernel
theorem dX7_findLeads_208 : decode cX7_findLeads 208 = .ok (.baload, 1) := by decide +kernel
theorem dX7_findLeads_209 : decode cX7_findLeads 209 = .ok (.ifCond .ne 33, 3) := by decide +kernel
theorem dX7_findLeads_212 : decode cX7_findLeads 212 = .ok (.aload_n 0, 1) := by decide +kernel
theorem dX7_findLeads_213 : decode cX7_findLeads 213 = .ok (.getfield 116, 3) := by decide +kernel
theorem dX7_findLeads_216 : decode cX7_findLeads 216 = .ok (.bipush 6, 2) := by decide +kernel
theorem dX7_findLeads_218 : decode cX7_findLeads 218 = .ok (.iload 4, 2) := by decide +kernel
theorem dX7_findLeads_220 : decode cX7_findLeads 220 = .ok (.imul, 1) := by decide +kernel
theorem dX7_findLeads_221 : decode cX7_findLeads 221 = .ok (.iload_n 3, 1) := by decide +kernel
theorem dX7_findLeads_222 : decode cX7_findLeads 222 = .ok (.iadd, 1) := by decide +kernel
theorem dX7_findLeads_223 : decode cX7_findLeads 223 = .ok (.baload, 1) := by decide +kernel
theorem dX7_findLeads_224 : decode cX7_findLeads 224 = .ok (.ifCond .eq 22, 3) := by decide +kernel
theorem dX7_findLeads_227 : decode cX7_findLeads 227 = .ok (.aload_n 0, 1) := by decide +kernel
theorem dX7_findLeads_228 : decode cX7_findLeads 228 = .ok (.getfield 116, 3) := by decide +kernel
theorem dX7_findLeads_231 : decode cX7_findLeads 231 = .ok (.bipush 6, 2) := by decide +kernel
theorem dX7_findLeads_233 : decode cX7_findLeads 233 = .ok (.iload_n 3, 1) := by decide +kernel
theorem dX7_findLeads_234 : decode cX7_findLeads 234 = .ok (.imul, 1) := by decide +kernel
theorem dX7_findLeads_235 : decode cX7_findLeads 235 = .ok (.iload 5, 2) := by decide +kernel
theorem dX7_findLeads_237 : decode cX7_findLeads 237 = .ok (.iadd, 1) := by decide +kernel
theorem dX7_findLeads_238 : decode cX7_findLeads 238 = .ok (.baload, 1) := by decide +kernel
theorem dX7_findLeads_239 : decode cX7_findLeads 239 = .ok (.ifCond .eq 7, 3) := by decide +kernel
theorem dX7_findLeads_242 : decode cX7_findLeads 242 = .ok (.iconst 1, 1) := by decide +kernel
theorem dX7_findLeads_243 : decode cX7_findLeads 243 = .ok (.goto 4, 3) := by decide +kernel
theorem dX7_findLeads_246 : decode cX7_findLeads 246 = .ok (.iconst 0, 1) := by decide +kernel
theorem dX7_findLeads_247 : decode cX7_findLeads 247 = .ok (.bastore, 1) := by decide +kernel
theorem dX7_findLeads_248 : decode cX7_findLeads 248 = .ok (.iinc 5 1, 3) := by decide +kernel
theorem dX7_findLeads_251 : decode cX7_findLeads 251 = .ok (.goto (-73), 3) := by decide +kernel
theorem dX7_findLeads_254 : decode cX7_findLeads 254 = .ok (.iinc 4 1, 3) := by decide +kernel
theorem dX7_findLeads_257 : decode cX7_findLeads 257 = .ok (.goto (-88), 3) := by decide +kernel
theorem dX7_findLeads_260 : decode cX7_findLeads 260 = .ok (.iinc 3 1, 3) := by decide +kernel
theorem dX7_findLeads_263 : decode cX7_findLeads 263 = .ok (.goto (-102), 3) := by decide +kernel
theorem dX7_findLeads_266 : decode cX7_findLeads 266 = .ok (.return_, 1) := by decide +kernel
set_option maxRecDepth 20000 in
theorem ggX7_settleWords_X7_wordAt : GoodIn wsX7_settleWords wsX7_wordAt := goodIn_r _ [12, 1, 13, 27, 28, 29, 30, 31, 32, 33, 34, 35, 36, 37, 38, 39, 40, 41, 42, 43, 44, 45, 46, 47, 48, 49, 50, 51, 52, 53, 54, 55, 56, 57, 58, 59, 60, 61, 62, 63, 64, 65, 66, 67, 68, 69, 70, 71, 72, 73, 74, 75, 76, 77, 78, 79, 80, 81, 82, 83] (by decide +kernel) (by decide +kernel)
set_option maxRecDepth 20000 in
theorem gX7_settleWords_X7_wordAt : GoodIn wsX7_settleWords (wsV RX7 261 RX7 yX7_wordAt wsX7_wordAt) := goodIn_app (goodIn_of _ (by decide +kernel)) ggX7_settleWords_X7_wordAt
set_option maxRecDepth 20000 in
theorem ggX7_settleWords_X7_fails : GoodIn wsX7_settleWords wsX7_fails := goodIn_r _ [17, 2, 18, 27, 28, 29, 30, 31, 32, 33, 34, 35, 36, 37, 38, 39, 40, 41, 42, 43, 44, 45, 46, 47, 48, 49, 50, 51, 52, 53, 54, 55, 56, 57, 58, 59, 60, 61, 62, 63, 64, 65, 66, 67, 68, 69, 70, 71, 72, 73, 74, 75, 76, 77, 78, 79, 80, 81, 82, 83] (by decide +kernel) (by decide +kernel)
set_option maxRecDepth 20000 in
theorem gX7_settleWords_X7_fails : GoodIn wsX7_settleWords (wsV RX7 207 RX7 yX7_fails wsX7_fails) := goodIn_app (goodIn_of _ (by decide +kernel)) ggX7_settleWords_X7_fails
set_option maxRecDepth 20000 in
theorem ggX7_settleWords_X7_findLeads : GoodIn wsX7_settleWords wsX7_findLeads := goodIn_r _ [22, 1, 23, 7, 3, 24, 4, 25, 5, 26, 27, 28, 29, 30, 31, 32, 33, 34, 35, 36, 37, 38, 39, 40, 41, 42, 43, 44, 45, 46, 47, 48, 49, 50, 51, 52, 53, 54, 55, 56, 57, 58, 59, 60, 61, 62, 63, 64, 65, 66, 67, 68, 69, 70, 71, 72, 73, 74, 75, 76, 77, 78, 79, 80, 81, 82, 83] (by decide +kernel) (by decide +kernel)
set_option maxRecDepth 20000 in
theorem gX7_settleWords_X7_findLeads : GoodIn wsX7_settleWords (wsV RX7 264 RX7 yX7_findLeads wsX7_findLeads) := goodIn_app (goodIn_of _ (by decide +kernel)) ggX7_settleWords_X7_findLeads
theorem dX7_settleWords_0 : decode cX7_settleWords 0 = .ok (.iconst 0, 1) := by decide +kernel
theorem dX7_settleWords_1 : decode cX7_settleWords 1 = .ok (.istore_n 1, 1) := by decide +kernel
theorem dX7_settleWords_2 : decode cX7_settleWords 2 = .ok (.iload_n 1, 1) := by decide +kernel
theorem dX7_settleWords_3 : decode cX7_settleWords 3 = .ok (.aload_n 0, 1) := by decide +kernel
theorem dX7_settleWords_4 : decode cX7_settleWords 4 = .ok (.getfield 234, 3) := by decide +kernel
theorem dX7_settleWords_7 : decode cX7_settleWords 7 = .ok (.if_icmp .ge 107, 3) := by decide +kernel
theorem dX7_settleWords_10 : decode cX7_settleWords 10 = .ok (.aload_n 0, 1) := by decide +kernel
theorem dX7_settleWords_11 : decode cX7_settleWords 11 = .ok (.getfield 177, 3) := by decide +kernel
theorem dX7_settleWords_14 : decode cX7_settleWords 14 = .ok (.ifCond .ne 100, 3) := by decide +kernel
theorem dX7_settleWords_17 : decode cX7_settleWords 17 = .ok (.iconst 0, 1) := by decide +kernel
theorem dX7_settleWords_18 : decode cX7_settleWords 18 = .ok (.istore_n 2, 1) := by decide +kernel
theorem dX7_settleWords_19 : decode cX7_settleWords 19 = .ok (.iload_n 2, 1) := by decide +kernel
theorem dX7_settleWords_20 : decode cX7_settleWords 20 = .ok (.aload_n 0, 1) := by decide +kernel
theorem dX7_settleWords_21 : decode cX7_settleWords 21 = .ok (.getfield 71, 3) := by decide +kernel
theorem dX7_settleWords_24 : decode cX7_settleWords 24 = .ok (.iload_n 1, 1) := by decide +kernel
theorem dX7_settleWords_25 : decode cX7_settleWords 25 = .ok (.iaload, 1) := by decide +kernel
theorem dX7_settleWords_26 : decode cX7_settleWords 26 = .ok (.if_icmp .ge 82, 3) := by decide +kernel
theorem dX7_settleWords_29 : decode cX7_settleWords 29 = .ok (.aload_n 0, 1) := by decide +kernel
theorem dX7_settleWords_30 : decode cX7_settleWords 30 = .ok (.getfield 177, 3) := by decide +kernel
theorem dX7_settleWords_33 : decode cX7_settleWords 33 = .ok (.ifCond .ne 75, 3) := by decide +kernel
theorem dX7_settleWords_36 : decode cX7_settleWords 36 = .ok (.bipush 6, 2) := by decide +kernel
theorem dX7_settleWords_38 : decode cX7_settleWords 38 = .ok (.iload_n 1, 1) := by decide +kernel
theorem dX7_settleWords_39 : decode cX7_settleWords 39 = .ok (.imul, 1) := by decide +kernel
theorem dX7_settleWords_40 : decode cX7_settleWords 40 = .ok (.iload_n 2, 1) := by decide +kernel
theorem dX7_settleWords_41 : decode cX7_settleWords 41 = .ok (.iadd, 1) := by decide +kernel
theorem dX7_settleWords_42 : decode cX7_settleWords 42 = .ok (.istore_n 3, 1) := by decide +kernel
theorem dX7_settleWords_43 : decode cX7_settleWords 43 = .ok (.aload_n 0, 1) := by decide +kernel
theorem dX7_settleWords_44 : decode cX7_settleWords 44 = .ok (.getfield 77, 3) := by decide +kernel
theorem dX7_settleWords_47 : decode cX7_settleWords 47 = .ok (.iload_n 3, 1) := by decide +kernel
theorem dX7_settleWords_48 : decode cX7_settleWords 48 = .ok (.iaload, 1) := by decide +kernel
theorem dX7_settleWords_49 : decode cX7_settleWords 49 = .ok (.iconst 1, 1) := by decide +kernel
theorem dX7_settleWords_50 : decode cX7_settleWords 50 = .ok (.if_icmp .eq 13, 3) := by decide +kernel
theorem dX7_settleWords_53 : decode cX7_settleWords 53 = .ok (.aload_n 0, 1) := by decide +kernel
theorem dX7_settleWords_54 : decode cX7_settleWords 54 = .ok (.getfield 77, 3) := by decide +kernel
theorem dX7_settleWords_57 : decode cX7_settleWords 57 = .ok (.iload_n 3, 1) := by decide +kernel
theorem dX7_settleWords_58 : decode cX7_settleWords 58 = .ok (.iaload, 1) := by decide +kernel
theorem dX7_settleWords_59 : decode cX7_settleWords 59 = .ok (.iconst 2, 1) := by decide +kernel
theorem dX7_settleWords_60 : decode cX7_settleWords 60 = .ok (.if_icmp .ne 42, 3) := by decide +kernel
theorem dX7_settleWords_63 : decode cX7_settleWords 63 = .ok (.aload_n 0, 1) := by decide +kernel
theorem dX7_settleWords_64 : decode cX7_settleWords 64 = .ok (.aload_n 0, 1) := by decide +kernel
theorem dX7_settleWords_65 : decode cX7_settleWords 65 = .ok (.getfield 80, 3) := by decide +kernel
theorem dX7_settleWords_68 : decode cX7_settleWords 68 = .ok (.iload_n 3, 1) := by decide +kernel
theorem dX7_settleWords_69 : decode cX7_settleWords 69 = .ok (.iaload, 1) := by decide +kernel
theorem dX7_settleWords_70 : decode cX7_settleWords 70 = .ok (.invokevirtual 261, 3) := by decide +kernel
theorem dX7_settleWords_73 : decode cX7_settleWords 73 = .ok (.istore 4, 2) := by decide +kernel
theorem dX7_settleWords_75 : decode cX7_settleWords 75 = .ok (.iload 4, 2) := by decide +kernel
theorem dX7_settleWords_77 : decode cX7_settleWords 77 = .ok (.bipush (-4), 2) := by decide +kernel
theorem dX7_settleWords_79 : decode cX7_settleWords 79 = .ok (.if_icmp .ne 15, 3) := by decide +kernel
theorem dX7_settleWords_82 : decode cX7_settleWords 82 = .ok (.aload_n 0, 1) := by decide +kernel
theorem dX7_settleWords_83 : decode cX7_settleWords 83 = .ok (.bipush 6, 2) := by decide +kernel
theorem dX7_settleWords_85 : decode cX7_settleWords 85 = .ok (.aload_n 0, 1) := by decide +kernel
theorem dX7_settleWords_86 : decode cX7_settleWords 86 = .ok (.getfield 86, 3) := by decide +kernel
theorem dX7_settleWords_89 : decode cX7_settleWords 89 = .ok (.iload_n 3, 1) := by decide +kernel
theorem dX7_settleWords_90 : decode cX7_settleWords 90 = .ok (.iaload, 1) := by decide +kernel
theorem dX7_settleWords_91 : decode cX7_settleWords 91 = .ok (.invokevirtual 207, 3) := by decide +kernel
theorem dX7_settleWords_94 : decode cX7_settleWords 94 = .ok (.aload_n 0, 1) := by decide +kernel
theorem dX7_settleWords_95 : decode cX7_settleWords 95 = .ok (.getfield 80, 3) := by decide +kernel
theorem dX7_settleWords_98 : decode cX7_settleWords 98 = .ok (.iload_n 3, 1) := by decide +kernel
theorem dX7_settleWords_99 : decode cX7_settleWords 99 = .ok (.iload 4, 2) := by decide +kernel
theorem dX7_settleWords_101 : decode cX7_settleWords 101 = .ok (.iastore, 1) := by decide +kernel
theorem dX7_settleWords_102 : decode cX7_settleWords 102 = .ok (.iinc 2 1, 3) := by decide +kernel
theorem dX7_settleWords_105 : decode cX7_settleWords 105 = .ok (.goto (-86), 3) := by decide +kernel
theorem dX7_settleWords_108 : decode cX7_settleWords 108 = .ok (.iinc 1 1, 3) := by decide +kernel
theorem dX7_settleWords_111 : decode cX7_settleWords 111 = .ok (.goto (-109), 3) := by decide +kernel
theorem dX7_settleWords_114 : decode cX7_settleWords 114 = .ok (.aload_n 0, 1) := by decide +kernel
theorem dX7_settleWords_115 : decode cX7_settleWords 115 = .ok (.getfield 177, 3) := by decide +kernel
theorem dX7_settleWords_118 : decode cX7_settleWords 118 = .ok (.ifCond .le 4, 3) := by decide +kernel
theorem dX7_settleWords_121 : decode cX7_settleWords 121 = .ok (.return_, 1) := by decide +kernel
theorem dX7_settleWords_122 : decode cX7_settleWords 122 = .ok (.aload_n 0, 1) := by decide +kernel
theorem dX7_settleWords_123 : decode cX7_settleWords 123 = .ok (.iconst 1, 1) := by decide +kernel
theorem dX7_settleWords_124 : decode cX7_settleWords 124 = .ok (.invokevirtual 264, 3) := by decide +kernel
theorem dX7_settleWords_127 : decode cX7_settleWords 127 = .ok (.iconst 0, 1) := by decide +kernel
theorem dX7_settleWords_128 : decode cX7_settleWords 128 = .ok (.istore_n 1, 1) := by decide +kernel
theorem dX7_settleWords_129 : decode cX7_settleWords 129 = .ok (.iload_n 1, 1) := by decide +kernel
theorem dX7_settleWords_130 : decode cX7_settleWords 130 = .ok (.aload_n 0, 1) := by decide +kernel
theorem dX7_settleWords_131 : decode cX7_settleWords 131 = .ok (.getfield 234, 3) := by decide +kernel
theorem dX7_settleWords_134 : decode cX7_settleWords 134 = .ok (.if_icmp .ge 99, 3) := by decide +kernel
theorem dX7_settleWords_137 : decode cX7_settleWords 137 = .ok (.aload_n 0, 1) := by decide +kernel
theorem dX7_settleWords_138 : decode cX7_settleWords 138 = .ok (.getfield 177, 3) := by decide +kernel
theorem dX7_settleWords_141 : decode cX7_settleWords 141 = .ok (.ifCond .ne 92, 3) := by decide +kernel
theorem dX7_settleWords_144 : decode cX7_settleWords 144 = .ok (.iconst 0, 1) := by decide +kernel
theorem dX7_settleWords_145 : decode cX7_settleWords 145 = .ok (.istore_n 2, 1) := by decide +kernel
theorem dX7_settleWords_146 : decode cX7_settleWords 146 = .ok (.iload_n 2, 1) := by decide +kernel
theorem dX7_settleWords_147 : decode cX7_settleWords 147 = .ok (.aload_n 0, 1) := by decide +kernel
theorem dX7_settleWords_148 : decode cX7_settleWords 148 = .ok (.getfield 71, 3) := by decide +kernel
theorem dX7_settleWords_151 : decode cX7_settleWords 151 = .ok (.iload_n 1, 1) := by decide +kernel
theorem dX7_settleWords_152 : decode cX7_settleWords 152 = .ok (.iaload, 1) := by decide +kernel
theorem dX7_settleWords_153 : decode cX7_settleWords 153 = .ok (.if_icmp .ge 74, 3) := by decide +kernel
theorem dX7_settleWords_156 : decode cX7_settleWords 156 = .ok (.aload_n 0, 1) := by decide +kernel
theorem dX7_settleWords_157 : decode cX7_settleWords 157 = .ok (.getfield 177, 3) := by decide +kernel
theorem dX7_settleWords_160 : decode cX7_settleWords 160 = .ok (.ifCond .ne 67, 3) := by decide +kernel
theorem dX7_settleWords_163 : decode cX7_settleWords 163 = .ok (.bipush 6, 2) := by decide +kernel
theorem dX7_settleWords_165 : decode cX7_settleWords 165 = .ok (.iload_n 1, 1) := by decide +kernel
theorem dX7_settleWords_166 : decode cX7_settleWords 166 = .ok (.imul, 1) := by decide +kernel
theorem dX7_settleWords_167 : decode cX7_settleWords 167 = .ok (.iload_n 2, 1) := by decide +kernel
theorem dX7_settleWords_168 : decode cX7_settleWords 168 = .ok (.iadd, 1) := by decide +kernel
theorem dX7_settleWords_169 : decode cX7_settleWords 169 = .ok (.istore_n 3, 1) := by decide +kernel
theorem dX7_settleWords_170 : decode cX7_settleWords 170 = .ok (.aload_n 0, 1) := by decide +kernel
theorem dX7_settleWords_171 : decode cX7_settleWords 171 = .ok (.getfield 77, 3) := by decide +kernel
theorem dX7_settleWords_174 : decode cX7_settleWords 174 = .ok (.iload_n 3, 1) := by decide +kernel
theorem dX7_settleWords_175 : decode cX7_settleWords 175 = .ok (.iaload, 1) := by decide +kernel
theorem dX7_settleWords_176 : decode cX7_settleWords 176 = .ok (.iconst 2, 1) := by decide +kernel
theorem dX7_settleWords_177 : decode cX7_settleWords 177 = .ok (.if_icmp .ne 44, 3) := by decide +kernel
theorem dX7_settleWords_180 : decode cX7_settleWords 180 = .ok (.aload_n 0, 1) := by decide +kernel
theorem dX7_settleWords_181 : decode cX7_settleWords 181 = .ok (.getfield 80, 3) := by decide +kernel
theorem dX7_settleWords_184 : decode cX7_settleWords 184 = .ok (.iload_n 3, 1) := by decide +kernel
theorem dX7_settleWords_185 : decode cX7_settleWords 185 = .ok (.iaload, 1) := by decide +kernel
theorem dX7_settleWords_186 : decode cX7_settleWords 186 = .ok (.iload_n 1, 1) := by decide +kernel
theorem dX7_settleWords_187 : decode cX7_settleWords 187 = .ok (.if_icmp .eq 22, 3) := by decide +kernel
theorem dX7_settleWords_190 : decode cX7_settleWords 190 = .ok (.aload_n 0, 1) := by decide +kernel
theorem dX7_settleWords_191 : decode cX7_settleWords 191 = .ok (.getfield 116, 3) := by decide +kernel
theorem dX7_settleWords_194 : decode cX7_settleWords 194 = .ok (.bipush 6, 2) := by decide +kernel
theorem dX7_settleWords_196 : decode cX7_settleWords 196 = .ok (.aload_n 0, 1) := by decide +kernel
theorem dX7_settleWords_197 : decode cX7_settleWords 197 = .ok (.getfield 80, 3) := by decide +kernel
theorem dX7_settleWords_200 : decode cX7_settleWords 200 = .ok (.iload_n 3, 1) := by decide +kernel
theorem dX7_settleWords_201 : decode cX7_settleWords 201 = .ok (.iaload, 1) := by decide +kernel
theorem dX7_settleWords_202 : decode cX7_settleWords 202 = .ok (.imul, 1) := by decide +kernel
theorem dX7_settleWords_203 : decode cX7_settleWords 203 = .ok (.iload_n 1, 1) := by decide +kernel
theorem dX7_settleWords_204 : decode cX7_settleWords 204 = .ok (.iadd, 1) := by decide +kernel
theorem dX7_settleWords_205 : decode cX7_settleWords 205 = .ok (.baload, 1) := by decide +kernel
theorem dX7_settleWords_206 : decode cX7_settleWords 206 = .ok (.ifCond .eq 15, 3) := by decide +kernel
theorem dX7_settleWords_209 : decode cX7_settleWords 209 = .ok (.aload_n 0, 1) := by decide +kernel
theorem dX7_settleWords_210 : decode cX7_settleWords 210 = .ok (.bipush 7, 2) := by decide +kernel
theorem dX7_settleWords_212 : decode cX7_settleWords 212 = .ok (.aload_n 0, 1) := by decide +kernel
theorem dX7_settleWords_213 : decode cX7_settleWords 213 = .ok (.getfield 86, 3) := by decide +kernel
theorem dX7_settleWords_216 : decode cX7_settleWords 216 = .ok (.iload_n 3, 1) := by decide +kernel
theorem dX7_settleWords_217 : decode cX7_settleWords 217 = .ok (.iaload, 1) := by decide +kernel
theorem dX7_settleWords_218 : decode cX7_settleWords 218 = .ok (.invokevirtual 207, 3) := by decide +kernel
theorem dX7_settleWords_221 : decode cX7_settleWords 221 = .ok (.iinc 2 1, 3) := by decide +kernel
theorem dX7_settleWords_224 : decode cX7_settleWords 224 = .ok (.goto (-78), 3) := by decide +kernel
theorem dX7_settleWords_227 : decode cX7_settleWords 227 = .ok (.iinc 1 1, 3) := by decide +kernel
theorem dX7_settleWords_230 : decode cX7_settleWords 230 = .ok (.goto (-101), 3) := by decide +kernel
theorem dX7_settleWords_233 : decode cX7_settleWords 233 = .ok (.return_, 1) := by decide +kernel
set_option maxRecDepth 20000 in
theorem ggX7_shapes_X7_next : GoodIn wsX7_shapes wsX7_next := goodIn_r _ [39, 2, 40, 4, 41, 42, 43, 44, 45, 46, 47, 48, 49, 50, 38, 51, 5, 52, 53, 54, 55, 56, 57, 58, 59, 1, 6, 60, 61, 62, 63, 64, 65, 66, 122, 123, 124, 125, 126, 127, 128, 129, 130, 131, 132, 133, 134, 135, 136, 137, 138, 139, 140, 141, 142, 143, 144, 145, 146, 147, 148, 149, 150, 151, 152, 153, 154, 155, 156, 157, 158, 159, 160, 161, 162, 163, 164, 165, 166, 167, 168, 169, 170, 171, 172, 173, 174, 175, 176, 177, 178] (by decide +kernel) (by decide +kernel)
set_option maxRecDepth 20000 in
theorem gX7_shapes_X7_next : GoodIn wsX7_shapes (wsV RX7 225 RX7 yX7_next wsX7_next) := goodIn_app (goodIn_of _ (by decide +kernel)) ggX7_shapes_X7_next
set_option maxRecDepth 20000 in
theorem ggX7_shapes_X7_readShape : GoodIn wsX7_shapes wsX7_readShape := goodIn_r _ [70, 1, 4, 40, 3, 9, 43, 15, 13, 11, 56, 57, 58, 38, 59, 6, 71, 72, 73, 74, 75, 35, 36, 37, 39, 2, 41, 42, 44, 45, 46, 47, 48, 49, 50, 51, 5, 52, 53, 54, 55, 60, 61, 62, 63, 64, 65, 66, 76, 77, 78, 79, 80, 81, 82, 83, 84, 85, 86, 87, 88, 89, 27, 90, 91, 92, 93, 25, 29, 31, 33, 94, 95, 96, 97, 98, 17, 21, 23, 99, 19, 100, 101, 102, 103, 104, 105, 106, 107, 108, 122, 123, 124, 125, 126, 127, 128, 129, 130, 131, 132, 133, 134, 135, 136, 137, 138, 139, 140, 141, 142, 143, 144, 145, 146, 147, 148, 149, 150, 151, 152, 153, 154, 155, 156, 157, 158, 159, 160, 161, 162, 163, 164, 165, 166, 167, 168, 169, 170, 171, 172, 173, 174, 175, 176, 177, 178] (by decide +kernel) (by decide +kernel)
set_option maxRecDepth 20000 in
theorem gX7_shapes_X7_readShape : GoodIn wsX7_shapes (wsV RX7 268 RX7 yX7_readShape wsX7_readShape) := goodIn_app (goodIn_of _ (by decide +kernel)) ggX7_shapes_X7_readShape
set_option maxRecDepth 20000 in
theorem ggX7_shapes_X7_settleWords : GoodIn wsX7_shapes wsX7_settleWords := goodIn_r _ [112, 3, 1, 13, 19, 21, 99, 113, 114, 115, 116, 38, 117, 9, 56, 57, 58, 59, 6, 118, 119, 120, 121, 7, 12, 18, 20, 122, 123, 124, 125, 126, 127, 128, 129, 130, 131, 132, 133, 134, 135, 136, 137, 138, 139, 140, 141, 142, 143, 144, 145, 146, 147, 148, 149, 150, 151, 152, 153, 154, 155, 156, 157, 158, 159, 160, 161, 162, 163, 164, 165, 166, 167, 168, 169, 170, 171, 172, 173, 174, 175, 176, 177, 178] (by decide +kernel) (by decide +kernel)
set_option maxRecDepth 20000 in
theorem gX7_shapes_X7_settleWords : GoodIn wsX7_shapes (wsV RX7 271 RX7 yX7_settleWords wsX7_settleWords) := goodIn_app (goodIn_of _ (by decide +kernel)) ggX7_shapes_X7_settleWords
theorem dX7_shapes_0 : decode cX7_shapes 0 = .ok (.aload_n 0, 1) := by decide +kernel
theorem dX7_shapes_1 : decode cX7_shapes 1 = .ok (.iconst 0, 1) := by decide +kernel
theorem dX7_shapes_2 : decode cX7_shapes 2 = .ok (.putfield 177, 3) := by decide +kernel
theorem dX7_shapes_5 : decode cX7_shapes 5 = .ok (.aload_n 0, 1) := by decide +kernel
theorem dX7_shapes_6 : decode cX7_shapes 6 = .ok (.iconst 0, 1) := by decide +kernel
theorem dX7_shapes_7 : decode cX7_shapes 7 = .ok (.putfield 183, 3) := by decide +kernel
theorem dX7_shapes_10 : decode cX7_shapes 10 = .ok (.aload_n 0, 1) := by decide +kernel
theorem dX7_shapes_11 : decode cX7_shapes 11 = .ok (.iconst 0, 1) := by decide +kernel
theorem dX7_shapes_12 : decode cX7_shapes 12 = .ok (.putfield 234, 3) := by decide +kernel
theorem dX7_shapes_15 : decode cX7_shapes 15 = .ok (.aload_n 0, 1) := by decide +kernel
theorem dX7_shapes_16 : decode cX7_shapes 16 = .ok (.invokevirtual 225, 3) := by decide +kernel
theorem dX7_shapes_19 : decode cX7_shapes 19 = .ok (.iconst 1, 1) := by decide +kernel
theorem dX7_shapes_20 : decode cX7_shapes 20 = .ok (.istore_n 1, 1) := by decide +kernel
theorem dX7_shapes_21 : decode cX7_shapes 21 = .ok (.iload_n 1, 1) := by decide +kernel
theorem dX7_shapes_22 : decode cX7_shapes 22 = .ok (.ifCond .eq 30, 3) := by decide +kernel
theorem dX7_shapes_25 : decode cX7_shapes 25 = .ok (.aload_n 0, 1) := by decide +kernel
theorem dX7_shapes_26 : decode cX7_shapes 26 = .ok (.getfield 177, 3) := by decide +kernel
theorem dX7_shapes_29 : decode cX7_shapes 29 = .ok (.ifCond .ne 23, 3) := by decide +kernel
theorem dX7_shapes_32 : decode cX7_shapes 32 = .ok (.aload_n 0, 1) := by decide +kernel
theorem dX7_shapes_33 : decode cX7_shapes 33 = .ok (.invokevirtual 268, 3) := by decide +kernel
theorem dX7_shapes_36 : decode cX7_shapes 36 = .ok (.aload_n 0, 1) := by decide +kernel
theorem dX7_shapes_37 : decode cX7_shapes 37 = .ok (.getfield 193, 3) := by decide +kernel
theorem dX7_shapes_40 : decode cX7_shapes 40 = .ok (.ifCond .eq 7, 3) := by decide +kernel
theorem dX7_shapes_43 : decode cX7_shapes 43 = .ok (.iconst 1, 1) := by decide +kernel
theorem dX7_shapes_44 : decode cX7_shapes 44 = .ok (.goto 4, 3) := by decide +kernel
theorem dX7_shapes_47 : decode cX7_shapes 47 = .ok (.iconst 0, 1) := by decide +kernel
theorem dX7_shapes_48 : decode cX7_shapes 48 = .ok (.istore_n 1, 1) := by decide +kernel
theorem dX7_shapes_49 : decode cX7_shapes 49 = .ok (.goto (-28), 3) := by decide +kernel
theorem dX7_shapes_52 : decode cX7_shapes 52 = .ok (.aload_n 0, 1) := by decide +kernel
theorem dX7_shapes_53 : decode cX7_shapes 53 = .ok (.getfield 177, 3) := by decide +kernel
theorem dX7_shapes_56 : decode cX7_shapes 56 = .ok (.ifCond .ne 7, 3) := by decide +kernel
theorem dX7_shapes_59 : decode cX7_shapes 59 = .ok (.aload_n 0, 1) := by decide +kernel
theorem dX7_shapes_60 : decode cX7_shapes 60 = .ok (.invokevirtual 271, 3) := by decide +kernel
theorem dX7_shapes_63 : decode cX7_shapes 63 = .ok (.aload_n 0, 1) := by decide +kernel
theorem dX7_shapes_64 : decode cX7_shapes 64 = .ok (.iconst 0, 1) := by decide +kernel
theorem dX7_shapes_65 : decode cX7_shapes 65 = .ok (.putfield 170, 3) := by decide +kernel
theorem dX7_shapes_68 : decode cX7_shapes 68 = .ok (.aload_n 0, 1) := by decide +kernel
theorem dX7_shapes_69 : decode cX7_shapes 69 = .ok (.getfield 177, 3) := by decide +kernel
theorem dX7_shapes_72 : decode cX7_shapes 72 = .ok (.ifCond .le 11, 3) := by decide +kernel
theorem dX7_shapes_75 : decode cX7_shapes 75 = .ok (.bipush (-10), 2) := by decide +kernel
theorem dX7_shapes_77 : decode cX7_shapes 77 = .ok (.aload_n 0, 1) := by decide +kernel
theorem dX7_shapes_78 : decode cX7_shapes 78 = .ok (.getfield 180, 3) := by decide +kernel
theorem dX7_shapes_81 : decode cX7_shapes 81 = .ok (.isub, 1) := by decide +kernel
theorem dX7_shapes_82 : decode cX7_shapes 82 = .ok (.ireturn, 1) := by decide +kernel
theorem dX7_shapes_83 : decode cX7_shapes 83 = .ok (.aload_n 0, 1) := by decide +kernel
theorem dX7_shapes_84 : decode cX7_shapes 84 = .ok (.aload_n 0, 1) := by decide +kernel
theorem dX7_shapes_85 : decode cX7_shapes 85 = .ok (.getfield 234, 3) := by decide +kernel
theorem dX7_shapes_88 : decode cX7_shapes 88 = .ok (.putfield 258, 3) := by decide +kernel
theorem dX7_shapes_91 : decode cX7_shapes 91 = .ok (.iconst 0, 1) := by decide +kernel
theorem dX7_shapes_92 : decode cX7_shapes 92 = .ok (.istore_n 2, 1) := by decide +kernel
theorem dX7_shapes_93 : decode cX7_shapes 93 = .ok (.iload_n 2, 1) := by decide +kernel
theorem dX7_shapes_94 : decode cX7_shapes 94 = .ok (.aload_n 0, 1) := by decide +kernel
theorem dX7_shapes_95 : decode cX7_shapes 95 = .ok (.getfield 258, 3) := by decide +kernel
theorem dX7_shapes_98 : decode cX7_shapes 98 = .ok (.if_icmp .ge 57, 3) := by decide +kernel
theorem dX7_shapes_101 : decode cX7_shapes 101 = .ok (.aload_n 0, 1) := by decide +kernel
theorem dX7_shapes_102 : decode cX7_shapes 102 = .ok (.getfield 26, 3) := by decide +kernel
theorem dX7_shapes_105 : decode cX7_shapes 105 = .ok (.iload_n 2, 1) := by decide +kernel
theorem dX7_shapes_106 : decode cX7_shapes 106 = .ok (.aload_n 0, 1) := by decide +kernel
theorem dX7_shapes_107 : decode cX7_shapes 107 = .ok (.getfield 65, 3) := by decide +kernel
