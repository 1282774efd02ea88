theorem dX0_init_104 : decode cX0_init 104 = .ok (.newarray .int, 2) := by decide +kernel
theorem dX0_init_106 : decode cX0_init 106 = .ok (.putfield 49, 3) := by decide +kernel
theorem dX0_init_109 : decode cX0_init 109 = .ok (.return_, 1) := by decide +kernel
theorem dX0_hasShape_0 : decode cX0_hasShape 0 = .ok (.iload_n 1, 1) := by decide +kernel
theorem dX0_hasShape_1 : decode cX0_hasShape 1 = .ok (.ifCond .lt 21, 3) := by decide +kernel
theorem dX0_hasShape_4 : decode cX0_hasShape 4 = .ok (.iload_n 1, 1) := by decide +kernel
theorem dX0_hasShape_5 : decode cX0_hasShape 5 = .ok (.aload_n 0, 1) := by decide +kernel
theorem dX0_hasShape_6 : decode cX0_hasShape 6 = .ok (.getfield 52, 3) := by decide +kernel
theorem dX0_hasShape_9 : decode cX0_hasShape 9 = .ok (.if_icmp .ge 13, 3) := by decide +kernel
theorem dX0_hasShape_12 : decode cX0_hasShape 12 = .ok (.iload_n 1, 1) := by decide +kernel
theorem dX0_hasShape_13 : decode cX0_hasShape 13 = .ok (.bipush 6, 2) := by decide +kernel
theorem dX0_hasShape_15 : decode cX0_hasShape 15 = .ok (.if_icmp .ge 7, 3) := by decide +kernel
theorem dX0_hasShape_18 : decode cX0_hasShape 18 = .ok (.iconst 1, 1) := by decide +kernel
theorem dX0_hasShape_19 : decode cX0_hasShape 19 = .ok (.goto 4, 3) := by decide +kernel
theorem dX0_hasShape_22 : decode cX0_hasShape 22 = .ok (.iconst 0, 1) := by decide +kernel
theorem dX0_hasShape_23 : decode cX0_hasShape 23 = .ok (.ireturn, 1) := by decide +kernel
set_option maxRecDepth 20000 in
theorem ggX0_hasPart_X0_hasShape : GoodIn wsX0_hasPart wsX0_hasShape := goodIn_r _ [6, 7, 8, 9, 10, 11, 12, 13, 14, 15, 16, 17, 18, 19, 20, 21, 22, 23] (by decide +kernel) (by decide +kernel)
set_option maxRecDepth 20000 in
theorem gX0_hasPart_X0_hasShape : GoodIn wsX0_hasPart (wsV RX0 56 RX0 yX0_hasShape wsX0_hasShape) := goodIn_app (goodIn_of _ (by decide +kernel)) ggX0_hasPart_X0_hasShape
theorem dX0_hasPart_0 : decode cX0_hasPart 0 = .ok (.aload_n 0, 1) := by decide +kernel
theorem dX0_hasPart_1 : decode cX0_hasPart 1 = .ok (.iload_n 1, 1) := by decide +kernel
theorem dX0_hasPart_2 : decode cX0_hasPart 2 = .ok (.invokevirtual 56, 3) := by decide +kernel
theorem dX0_hasPart_5 : decode cX0_hasPart 5 = .ok (.ifCond .eq 27, 3) := by decide +kernel
theorem dX0_hasPart_8 : decode cX0_hasPart 8 = .ok (.iload_n 2, 1) := by decide +kernel
theorem dX0_hasPart_9 : decode cX0_hasPart 9 = .ok (.ifCond .lt 23, 3) := by decide +kernel
theorem dX0_hasPart_12 : decode cX0_hasPart 12 = .ok (.iload_n 2, 1) := by decide +kernel
theorem dX0_hasPart_13 : decode cX0_hasPart 13 = .ok (.aload_n 0, 1) := by decide +kernel
theorem dX0_hasPart_14 : decode cX0_hasPart 14 = .ok (.getfield 15, 3) := by decide +kernel
theorem dX0_hasPart_17 : decode cX0_hasPart 17 = .ok (.iload_n 1, 1) := by decide +kernel
theorem dX0_hasPart_18 : decode cX0_hasPart 18 = .ok (.iaload, 1) := by decide +kernel
theorem dX0_hasPart_19 : decode cX0_hasPart 19 = .ok (.if_icmp .ge 13, 3) := by decide +kernel
theorem dX0_hasPart_22 : decode cX0_hasPart 22 = .ok (.iload_n 2, 1) := by decide +kernel
theorem dX0_hasPart_23 : decode cX0_hasPart 23 = .ok (.bipush 6, 2) := by decide +kernel
theorem dX0_hasPart_25 : decode cX0_hasPart 25 = .ok (.if_icmp .ge 7, 3) := by decide +kernel
theorem dX0_hasPart_28 : decode cX0_hasPart 28 = .ok (.iconst 1, 1) := by decide +kernel
theorem dX0_hasPart_29 : decode cX0_hasPart 29 = .ok (.goto 4, 3) := by decide +kernel
theorem dX0_hasPart_32 : decode cX0_hasPart 32 = .ok (.iconst 0, 1) := by decide +kernel
theorem dX0_hasPart_33 : decode cX0_hasPart 33 = .ok (.ireturn, 1) := by decide +kernel
theorem dX0_shapeOf_0 : decode cX0_shapeOf 0 = .ok (.iconst 0, 1) := by decide +kernel
theorem dX0_shapeOf_1 : decode cX0_shapeOf 1 = .ok (.istore_n 2, 1) := by decide +kernel
theorem dX0_shapeOf_2 : decode cX0_shapeOf 2 = .ok (.iload_n 2, 1) := by decide +kernel
theorem dX0_shapeOf_3 : decode cX0_shapeOf 3 = .ok (.aload_n 0, 1) := by decide +kernel
theorem dX0_shapeOf_4 : decode cX0_shapeOf 4 = .ok (.getfield 52, 3) := by decide +kernel
theorem dX0_shapeOf_7 : decode cX0_shapeOf 7 = .ok (.if_icmp .ge 21, 3) := by decide +kernel
theorem dX0_shapeOf_10 : decode cX0_shapeOf 10 = .ok (.aload_n 0, 1) := by decide +kernel
theorem dX0_shapeOf_11 : decode cX0_shapeOf 11 = .ok (.getfield 9, 3) := by decide +kernel
theorem dX0_shapeOf_14 : decode cX0_shapeOf 14 = .ok (.iload_n 2, 1) := by decide +kernel
theorem dX0_shapeOf_15 : decode cX0_shapeOf 15 = .ok (.iaload, 1) := by decide +kernel
theorem dX0_shapeOf_16 : decode cX0_shapeOf 16 = .ok (.iload_n 1, 1) := by decide +kernel
theorem dX0_shapeOf_17 : decode cX0_shapeOf 17 = .ok (.if_icmp .ne 5, 3) := by decide +kernel
theorem dX0_shapeOf_20 : decode cX0_shapeOf 20 = .ok (.iload_n 2, 1) := by decide +kernel
theorem dX0_shapeOf_21 : decode cX0_shapeOf 21 = .ok (.ireturn, 1) := by decide +kernel
theorem dX0_shapeOf_22 : decode cX0_shapeOf 22 = .ok (.iinc 2 1, 3) := by decide +kernel
theorem dX0_shapeOf_25 : decode cX0_shapeOf 25 = .ok (.goto (-23), 3) := by decide +kernel
theorem dX0_shapeOf_28 : decode cX0_shapeOf 28 = .ok (.iconst (-1), 1) := by decide +kernel
theorem dX0_shapeOf_29 : decode cX0_shapeOf 29 = .ok (.ireturn, 1) := by decide +kernel
theorem dX0_clear_0 : decode cX0_clear 0 = .ok (.aload_n 0, 1) := by decide +kernel
theorem dX0_clear_1 : decode cX0_clear 1 = .ok (.iconst 0, 1) := by decide +kernel
theorem dX0_clear_2 : decode cX0_clear 2 = .ok (.putfield 52, 3) := by decide +kernel
theorem dX0_clear_5 : decode cX0_clear 5 = .ok (.aload_n 0, 1) := by decide +kernel
theorem dX0_clear_6 : decode cX0_clear 6 = .ok (.iconst 0, 1) := by decide +kernel
theorem dX0_clear_7 : decode cX0_clear 7 = .ok (.putfield 60, 3) := by decide +kernel
theorem dX0_clear_10 : decode cX0_clear 10 = .ok (.aload_n 0, 1) := by decide +kernel
theorem dX0_clear_11 : decode cX0_clear 11 = .ok (.iconst 0, 1) := by decide +kernel
theorem dX0_clear_12 : decode cX0_clear 12 = .ok (.putfield 63, 3) := by decide +kernel
theorem dX0_clear_15 : decode cX0_clear 15 = .ok (.aload_n 0, 1) := by decide +kernel
theorem dX0_clear_16 : decode cX0_clear 16 = .ok (.getfield 31, 3) := by decide +kernel
theorem dX0_clear_19 : decode cX0_clear 19 = .ok (.iconst 0, 1) := by decide +kernel
theorem dX0_clear_20 : decode cX0_clear 20 = .ok (.iconst 0, 1) := by decide +kernel
theorem dX0_clear_21 : decode cX0_clear 21 = .ok (.iastore, 1) := by decide +kernel
theorem dX0_clear_22 : decode cX0_clear 22 = .ok (.return_, 1) := by decide +kernel
theorem dX0_openShape_0 : decode cX0_openShape 0 = .ok (.aload_n 0, 1) := by decide +kernel
theorem dX0_openShape_1 : decode cX0_openShape 1 = .ok (.getfield 52, 3) := by decide +kernel
theorem dX0_openShape_4 : decode cX0_openShape 4 = .ok (.bipush 6, 2) := by decide +kernel
theorem dX0_openShape_6 : decode cX0_openShape 6 = .ok (.if_icmp .lt 4, 3) := by decide +kernel
theorem dX0_openShape_9 : decode cX0_openShape 9 = .ok (.return_, 1) := by decide +kernel
theorem dX0_openShape_10 : decode cX0_openShape 10 = .ok (.aload_n 0, 1) := by decide +kernel
theorem dX0_openShape_11 : decode cX0_openShape 11 = .ok (.getfield 52, 3) := by decide +kernel
theorem dX0_openShape_14 : decode cX0_openShape 14 = .ok (.istore_n 2, 1) := by decide +kernel
theorem dX0_openShape_15 : decode cX0_openShape 15 = .ok (.aload_n 0, 1) := by decide +kernel
theorem dX0_openShape_16 : decode cX0_openShape 16 = .ok (.dup, 1) := by decide +kernel
theorem dX0_openShape_17 : decode cX0_openShape 17 = .ok (.getfield 52, 3) := by decide +kernel
theorem dX0_openShape_20 : decode cX0_openShape 20 = .ok (.iconst 1, 1) := by decide +kernel
theorem dX0_openShape_21 : decode cX0_openShape 21 = .ok (.iadd, 1) := by decide +kernel
theorem dX0_openShape_22 : decode cX0_openShape 22 = .ok (.putfield 52, 3) := by decide +kernel
theorem dX0_openShape_25 : decode cX0_openShape 25 = .ok (.aload_n 0, 1) := by decide +kernel
theorem dX0_openShape_26 : decode cX0_openShape 26 = .ok (.getfield 9, 3) := by decide +kernel
theorem dX0_openShape_29 : decode cX0_openShape 29 = .ok (.iload_n 2, 1) := by decide +kernel
theorem dX0_openShape_30 : decode cX0_openShape 30 = .ok (.iload_n 1, 1) := by decide +kernel
theorem dX0_openShape_31 : decode cX0_openShape 31 = .ok (.iastore, 1) := by decide +kernel
theorem dX0_openShape_32 : decode cX0_openShape 32 = .ok (.aload_n 0, 1) := by decide +kernel
theorem dX0_openShape_33 : decode cX0_openShape 33 = .ok (.getfield 15, 3) := by decide +kernel
theorem dX0_openShape_36 : decode cX0_openShape 36 = .ok (.iload_n 2, 1) := by decide +kernel
theorem dX0_openShape_37 : decode cX0_openShape 37 = .ok (.iconst 0, 1) := by decide +kernel
theorem dX0_openShape_38 : decode cX0_openShape 38 = .ok (.iastore, 1) := by decide +kernel
theorem dX0_openShape_39 : decode cX0_openShape 39 = .ok (.aload_n 0, 1) := by decide +kernel
theorem dX0_openShape_40 : decode cX0_openShape 40 = .ok (.getfield 18, 3) := by decide +kernel
theorem dX0_openShape_43 : decode cX0_openShape 43 = .ok (.iload_n 2, 1) := by decide +kernel
theorem dX0_openShape_44 : decode cX0_openShape 44 = .ok (.iconst 0, 1) := by decide +kernel
theorem dX0_openShape_45 : decode cX0_openShape 45 = .ok (.bastore, 1) := by decide +kernel
theorem dX0_openShape_46 : decode cX0_openShape 46 = .ok (.aload_n 0, 1) := by decide +kernel
theorem dX0_openShape_47 : decode cX0_openShape 47 = .ok (.getfield 22, 3) := by decide +kernel
theorem dX0_openShape_50 : decode cX0_openShape 50 = .ok (.iload_n 2, 1) := by decide +kernel
theorem dX0_openShape_51 : decode cX0_openShape 51 = .ok (.iconst 0, 1) := by decide +kernel
theorem dX0_openShape_52 : decode cX0_openShape 52 = .ok (.iastore, 1) := by decide +kernel
theorem dX0_openShape_53 : decode cX0_openShape 53 = .ok (.aload_n 0, 1) := by decide +kernel
theorem dX0_openShape_54 : decode cX0_openShape 54 = .ok (.getfield 25, 3) := by decide +kernel
theorem dX0_openShape_57 : decode cX0_openShape 57 = .ok (.iload_n 2, 1) := by decide +kernel
theorem dX0_openShape_58 : decode cX0_openShape 58 = .ok (.iconst 0, 1) := by decide +kernel
theorem dX0_openShape_59 : decode cX0_openShape 59 = .ok (.iastore, 1) := by decide +kernel
theorem dX0_openShape_60 : decode cX0_openShape 60 = .ok (.aload_n 0, 1) := by decide +kernel
theorem dX0_openShape_61 : decode cX0_openShape 61 = .ok (.getfield 28, 3) := by decide +kernel
theorem dX0_openShape_64 : decode cX0_openShape 64 = .ok (.iload_n 2, 1) := by decide +kernel
theorem dX0_openShape_65 : decode cX0_openShape 65 = .ok (.iconst 0, 1) := by decide +kernel
theorem dX0_openShape_66 : decode cX0_openShape 66 = .ok (.iastore, 1) := by decide +kernel
theorem dX0_openShape_67 : decode cX0_openShape 67 = .ok (.aload_n 0, 1) := by decide +kernel
theorem dX0_openShape_68 : decode cX0_openShape 68 = .ok (.getfield 31, 3) := by decide +kernel
theorem dX0_openShape_71 : decode cX0_openShape 71 = .ok (.iload_n 2, 1) := by decide +kernel
theorem dX0_openShape_72 : decode cX0_openShape 72 = .ok (.iconst 1, 1) := by decide +kernel
theorem dX0_openShape_73 : decode cX0_openShape 73 = .ok (.iadd, 1) := by decide +kernel
theorem dX0_openShape_74 : decode cX0_openShape 74 = .ok (.aload_n 0, 1) := by decide +kernel
theorem dX0_openShape_75 : decode cX0_openShape 75 = .ok (.getfield 60, 3) := by decide +kernel
theorem dX0_openShape_78 : decode cX0_openShape 78 = .ok (.iastore, 1) := by decide +kernel
theorem dX0_openShape_79 : decode cX0_openShape 79 = .ok (.return_, 1) := by decide +kernel
set_option maxRecDepth 20000 in
theorem ggX0_closeShape_X0_hasShape : GoodIn wsX0_closeShape wsX0_hasShape := goodIn_r _ [7, 1, 8, 9, 10, 11, 12, 13, 14, 15, 16, 17, 18, 19, 20, 21, 22, 23] (by decide +kernel) (by decide +kernel)
set_option maxRecDepth 20000 in
theorem gX0_closeShape_X0_hasShape : GoodIn wsX0_closeShape (wsV RX0 56 RX0 yX0_hasShape wsX0_hasShape) := goodIn_app (goodIn_of _ (by decide +kernel)) ggX0_closeShape_X0_hasShape
theorem dX0_closeShape_0 : decode cX0_closeShape 0 = .ok (.aload_n 0, 1) := by decide +kernel
theorem dX0_closeShape_1 : decode cX0_closeShape 1 = .ok (.aload_n 0, 1) := by decide +kernel
theorem dX0_closeShape_2 : decode cX0_closeShape 2 = .ok (.getfield 52, 3) := by decide +kernel
theorem dX0_closeShape_5 : decode cX0_closeShape 5 = .ok (.iconst 1, 1) := by decide +kernel
theorem dX0_closeShape_6 : decode cX0_closeShape 6 = .ok (.isub, 1) := by decide +kernel
theorem dX0_closeShape_7 : decode cX0_closeShape 7 = .ok (.invokevirtual 56, 3) := by decide +kernel
theorem dX0_closeShape_10 : decode cX0_closeShape 10 = .ok (.ifCond .eq 15, 3) := by decide +kernel
theorem dX0_closeShape_13 : decode cX0_closeShape 13 = .ok (.aload_n 0, 1) := by decide +kernel
theorem dX0_closeShape_14 : decode cX0_closeShape 14 = .ok (.getfield 18, 3) := by decide +kernel
theorem dX0_closeShape_17 : decode cX0_closeShape 17 = .ok (.aload_n 0, 1) := by decide +kernel
theorem dX0_closeShape_18 : decode cX0_closeShape 18 = .ok (.getfield 52, 3) := by decide +kernel
theorem dX0_closeShape_21 : decode cX0_closeShape 21 = .ok (.iconst 1, 1) := by decide +kernel
theorem dX0_closeShape_22 : decode cX0_closeShape 22 = .ok (.isub, 1) := by decide +kernel
theorem dX0_closeShape_23 : decode cX0_closeShape 23 = .ok (.iconst 1, 1) := by decide +kernel
theorem dX0_closeShape_24 : decode cX0_closeShape 24 = .ok (.bastore, 1) := by decide +kernel
theorem dX0_closeShape_25 : decode cX0_closeShape 25 = .ok (.return_, 1) := by decide +kernel
set_option maxRecDepth 20000 in
theorem ggX0_hasRoomForPart_X0_hasShape : GoodIn wsX0_hasRoomForPart wsX0_hasShape := goodIn_r _ [7, 1, 8, 9, 10, 11, 12, 13, 14, 15, 16, 17, 18, 19, 20, 21, 22, 23] (by decide +kernel) (by decide +kernel)
set_option maxRecDepth 20000 in
theorem gX0_hasRoomForPart_X0_hasShape : GoodIn wsX0_hasRoomForPart (wsV RX0 56 RX0 yX0_hasShape wsX0_hasShape) := goodIn_app (goodIn_of _ (by decide +kernel)) ggX0_hasRoomForPart_X0_hasShape
theorem dX0_hasRoomForPart_0 : decode cX0_hasRoomForPart 0 = .ok (.aload_n 0, 1) := by decide +kernel
theorem dX0_hasRoomForPart_1 : decode cX0_hasRoomForPart 1 = .ok (.aload_n 0, 1) := by decide +kernel
theorem dX0_hasRoomForPart_2 : decode cX0_hasRoomForPart 2 = .ok (.getfield 52, 3) := by decide +kernel
theorem dX0_hasRoomForPart_5 : decode cX0_hasRoomForPart 5 = .ok (.iconst 1, 1) := by decide +kernel
theorem dX0_hasRoomForPart_6 : decode cX0_hasRoomForPart 6 = .ok (.isub, 1) := by decide +kernel
theorem dX0_hasRoomForPart_7 : decode cX0_hasRoomForPart 7 = .ok (.invokevirtual 56, 3) := by decide +kernel
theorem dX0_hasRoomForPart_10 : decode cX0_hasRoomForPart 10 = .ok (.ifCond .eq 23, 3) := by decide +kernel
theorem dX0_hasRoomForPart_13 : decode cX0_hasRoomForPart 13 = .ok (.aload_n 0, 1) := by decide +kernel
theorem dX0_hasRoomForPart_14 : decode cX0_hasRoomForPart 14 = .ok (.getfield 15, 3) := by decide +kernel
theorem dX0_hasRoomForPart_17 : decode cX0_hasRoomForPart 17 = .ok (.aload_n 0, 1) := by decide +kernel
theorem dX0_hasRoomForPart_18 : decode cX0_hasRoomForPart 18 = .ok (.getfield 52, 3) := by decide +kernel
theorem dX0_hasRoomForPart_21 : decode cX0_hasRoomForPart 21 = .ok (.iconst 1, 1) := by decide +kernel
theorem dX0_hasRoomForPart_22 : decode cX0_hasRoomForPart 22 = .ok (.isub, 1) := by decide +kernel
theorem dX0_hasRoomForPart_23 : decode cX0_hasRoomForPart 23 = .ok (.iaload, 1) := by decide +kernel
theorem dX0_hasRoomForPart_24 : decode cX0_hasRoomForPart 24 = .ok (.bipush 6, 2) := by decide +kernel
theorem dX0_hasRoomForPart_26 : decode cX0_hasRoomForPart 26 = .ok (.if_icmp .ge 7, 3) := by decide +kernel
theorem dX0_hasRoomForPart_29 : decode cX0_hasRoomForPart 29 = .ok (.iconst 1, 1) := by decide +kernel
theorem dX0_hasRoomForPart_30 : decode cX0_hasRoomForPart 30 = .ok (.goto 4, 3) := by decide +kernel
theorem dX0_hasRoomForPart_33 : decode cX0_hasRoomForPart 33 = .ok (.iconst 0, 1) := by decide +kernel
theorem dX0_hasRoomForPart_34 : decode cX0_hasRoomForPart 34 = .ok (.ireturn, 1) := by decide +kernel
set_option maxRecDepth 20000 in
theorem ggX0_addPart_X0_hasRoomForPart : GoodIn wsX0_addPart wsX0_hasRoomForPart := goodIn_r _ [10, 1, 2, 11, 12, 13, 9, 14, 22, 23, 24, 25, 26, 27, 28, 29, 30, 31, 32, 33, 34, 35, 36, 37] (by decide +kernel) (by decide +kernel)
set_option maxRecDepth 20000 in
theorem gX0_addPart_X0_hasRoomForPart : GoodIn wsX0_addPart (wsV RX0 66 RX0 yX0_hasRoomForPart wsX0_hasRoomForPart) := goodIn_app (goodIn_of _ (by decide +kernel)) ggX0_addPart_X0_hasRoomForPart
set_option maxRecDepth 20000 in
theorem ggX0_addPart_X0_addStep : GoodIn wsX0_addPart wsX0_addStep := goodIn_r _ [18, 19, 20, 1, 21, 11, 12, 13, 9, 14, 22, 23, 24, 25, 26, 27, 28, 29, 30, 31, 32, 33, 34, 35, 36, 37] (by decide +kernel) (by decide +kernel)
set_option maxRecDepth 20000 in
theorem gX0_addPart_X0_addStep : GoodIn wsX0_addPart (wsV RX0 70 RX0 yX0_addStep wsX0_addStep) := goodIn_app (goodIn_of _ (by decide +kernel)) ggX0_addPart_X0_addStep
theorem dX0_addPart_0 : decode cX0_addPart 0 = .ok (.aload_n 0, 1) := by decide +kernel
theorem dX0_addPart_1 : decode cX0_addPart 1 = .ok (.invokevirtual 66, 3) := by decide +kernel
theorem dX0_addPart_4 : decode cX0_addPart 4 = .ok (.ifCond .ne 4, 3) := by decide +kernel
theorem dX0_addPart_7 : decode cX0_addPart 7 = .ok (.return_, 1) := by decide +kernel
theorem dX0_addPart_8 : decode cX0_addPart 8 = .ok (.aload_n 0, 1) := by decide +kernel
theorem dX0_addPart_9 : decode cX0_addPart 9 = .ok (.getfield 52, 3) := by decide +kernel
theorem dX0_addPart_12 : decode cX0_addPart 12 = .ok (.iconst 1, 1) := by decide +kernel
theorem dX0_addPart_13 : decode cX0_addPart 13 = .ok (.isub, 1) := by decide +kernel
theorem dX0_addPart_14 : decode cX0_addPart 14 = .ok (.istore_n 2, 1) := by decide +kernel
theorem dX0_addPart_15 : decode cX0_addPart 15 = .ok (.aload_n 0, 1) := by decide +kernel
theorem dX0_addPart_16 : decode cX0_addPart 16 = .ok (.getfield 15, 3) := by decide +kernel
theorem dX0_addPart_19 : decode cX0_addPart 19 = .ok (.iload_n 2, 1) := by decide +kernel
theorem dX0_addPart_20 : decode cX0_addPart 20 = .ok (.iaload, 1) := by decide +kernel
theorem dX0_addPart_21 : decode cX0_addPart 21 = .ok (.istore_n 3, 1) := by decide +kernel
theorem dX0_addPart_22 : decode cX0_addPart 22 = .ok (.aload_n 0, 1) := by decide +kernel
theorem dX0_addPart_23 : decode cX0_addPart 23 = .ok (.getfield 15, 3) := by decide +kernel
theorem dX0_addPart_26 : decode cX0_addPart 26 = .ok (.iload_n 2, 1) := by decide +kernel
theorem dX0_addPart_27 : decode cX0_addPart 27 = .ok (.dup2, 1) := by decide +kernel
theorem dX0_addPart_28 : decode cX0_addPart 28 = .ok (.iaload, 1) := by decide +kernel
theorem dX0_addPart_29 : decode cX0_addPart 29 = .ok (.iconst 1, 1) := by decide +kernel
theorem dX0_addPart_30 : decode cX0_addPart 30 = .ok (.iadd, 1) := by decide +kernel
theorem dX0_addPart_31 : decode cX0_addPart 31 = .ok (.iastore, 1) := by decide +kernel
theorem dX0_addPart_32 : decode cX0_addPart 32 = .ok (.aload_n 0, 1) := by decide +kernel
theorem dX0_addPart_33 : decode cX0_addPart 33 = .ok (.iload_n 2, 1) := by decide +kernel
theorem dX0_addPart_34 : decode cX0_addPart 34 = .ok (.bipush 6, 2) := by decide +kernel
theorem dX0_addPart_36 : decode cX0_addPart 36 = .ok (.imul, 1) := by decide +kernel
theorem dX0_addPart_37 : decode cX0_addPart 37 = .ok (.iload_n 3, 1) := by decide +kernel
theorem dX0_addPart_38 : decode cX0_addPart 38 = .ok (.iadd, 1) := by decide +kernel
theorem dX0_addPart_39 : decode cX0_addPart 39 = .ok (.putfield 63, 3) := by decide +kernel
theorem dX0_addPart_42 : decode cX0_addPart 42 = .ok (.aload_n 0, 1) := by decide +kernel
theorem dX0_addPart_43 : decode cX0_addPart 43 = .ok (.getfield 37, 3) := by decide +kernel
theorem dX0_addPart_46 : decode cX0_addPart 46 = .ok (.aload_n 0, 1) := by decide +kernel
theorem dX0_addPart_47 : decode cX0_addPart 47 = .ok (.getfield 63, 3) := by decide +kernel
theorem dX0_addPart_50 : decode cX0_addPart 50 = .ok (.iload_n 1, 1) := by decide +kernel
theorem dX0_addPart_51 : decode cX0_addPart 51 = .ok (.iastore, 1) := by decide +kernel
theorem dX0_addPart_52 : decode cX0_addPart 52 = .ok (.aload_n 0, 1) := by decide +kernel
theorem dX0_addPart_53 : decode cX0_addPart 53 = .ok (.getfield 22, 3) := by decide +kernel
theorem dX0_addPart_56 : decode cX0_addPart 56 = .ok (.iload_n 2, 1) := by decide +kernel
theorem dX0_addPart_57 : decode cX0_addPart 57 = .ok (.dup2, 1) := by decide +kernel
theorem dX0_addPart_58 : decode cX0_addPart 58 = .ok (.iaload, 1) := by decide +kernel
theorem dX0_addPart_59 : decode cX0_addPart 59 = .ok (.iconst 1, 1) := by decide +kernel
theorem dX0_addPart_60 : decode cX0_addPart 60 = .ok (.iload_n 1, 1) := by decide +kernel
theorem dX0_addPart_61 : decode cX0_addPart 61 = .ok (.ishl, 1) := by decide +kernel
theorem dX0_addPart_62 : decode cX0_addPart 62 = .ok (.ior, 1) := by decide +kernel
theorem dX0_addPart_63 : decode cX0_addPart 63 = .ok (.iastore, 1) := by decide +kernel
theorem dX0_addPart_64 : decode cX0_addPart 64 = .ok (.aload_n 0, 1) := by decide +kernel
theorem dX0_addPart_65 : decode cX0_addPart 65 = .ok (.iconst 0, 1) := by decide +kernel
theorem dX0_addPart_66 : decode cX0_addPart 66 = .ok (.iload_n 3, 1) := by decide +kernel
theorem dX0_addPart_67 : decode cX0_addPart 67 = .ok (.invokevirtual 70, 3) := by decide +kernel
theorem dX0_addPart_70 : decode cX0_addPart 70 = .ok (.return_, 1) := by decide +kernel
theorem dX0_tellPart_0 : decode cX0_tellPart 0 = .ok (.aload_n 0, 1) := by decide +kernel
theorem dX0_tellPart_1 : decode cX0_tellPart 1 = .ok (.getfield 40, 3) := by decide +kernel
theorem dX0_tellPart_4 : decode cX0_tellPart 4 = .ok (.aload_n 0, 1) := by decide +kernel
theorem dX0_tellPart_5 : decode cX0_tellPart 5 = .ok (.getfield 63, 3) := by decide +kernel
theorem dX0_tellPart_8 : decode cX0_tellPart 8 = .ok (.iload_n 1, 1) := by decide +kernel
theorem dX0_tellPart_9 : decode cX0_tellPart 9 = .ok (.iastore, 1) := by decide +kernel
theorem dX0_tellPart_10 : decode cX0_tellPart 10 = .ok (.aload_n 0, 1) := by decide +kernel
theorem dX0_tellPart_11 : decode cX0_tellPart 11 = .ok (.getfield 43, 3) := by decide +kernel
theorem dX0_tellPart_14 : decode cX0_tellPart 14 = .ok (.aload_n 0, 1) := by decide +kernel
theorem dX0_tellPart_15 : decode cX0_tellPart 15 = .ok (.getfield 63, 3) := by decide +kernel
theorem dX0_tellPart_18 : decode cX0_tellPart 18 = .ok (.iload_n 2, 1) := by decide +kernel
theorem dX0_tellPart_19 : decode cX0_tellPart 19 = .ok (.iastore, 1) := by decide +kernel
theorem dX0_tellPart_20 : decode cX0_tellPart 20 = .ok (.aload_n 0, 1) := by decide +kernel
theorem dX0_tellPart_21 : decode cX0_tellPart 21 = .ok (.getfield 46, 3) := by decide +kernel
theorem dX0_tellPart_24 : decode cX0_tellPart 24 = .ok (.aload_n 0, 1) := by decide +kernel
theorem dX0_tellPart_25 : decode cX0_tellPart 25 = .ok (.getfield 63, 3) := by decide +kernel
theorem dX0_tellPart_28 : decode cX0_tellPart 28 = .ok (.iload_n 3, 1) := by decide +kernel
theorem dX0_tellPart_29 : decode cX0_tellPart 29 = .ok (.iastore, 1) := by decide +kernel
theorem dX0_tellPart_30 : decode cX0_tellPart 30 = .ok (.aload_n 0, 1) := by decide +kernel
theorem dX0_tellPart_31 : decode cX0_tellPart 31 = .ok (.getfield 49, 3) := by decide +kernel
theorem dX0_tellPart_34 : decode cX0_tellPart 34 = .ok (.aload_n 0, 1) := by decide +kernel
theorem dX0_tellPart_35 : decode cX0_tellPart 35 = .ok (.getfield 63, 3) := by decide +kernel
theorem dX0_tellPart_38 : decode cX0_tellPart 38 = .ok (.iload 4, 2) := by decide +kernel
theorem dX0_tellPart_40 : decode cX0_tellPart 40 = .ok (.iastore, 1) := by decide +kernel
theorem dX0_tellPart_41 : decode cX0_tellPart 41 = .ok (.return_, 1) := by decide +kernel
set_option maxRecDepth 20000 in
theorem ggX0_addStep_X0_hasShape : GoodIn wsX0_addStep wsX0_hasShape := goodIn_r _ [9, 3, 10, 11, 12, 13, 14, 15, 16, 17, 18, 19, 20, 21, 22, 23, 24, 25] (by decide +kernel) (by decide +kernel)
set_option maxRecDepth 20000 in
theorem gX0_addStep_X0_hasShape : GoodIn wsX0_addStep (wsV RX0 56 RX0 yX0_hasShape wsX0_hasShape) := goodIn_app (goodIn_of _ (by decide +kernel)) ggX0_addStep_X0_hasShape
theorem dX0_addStep_0 : decode cX0_addStep 0 = .ok (.aload_n 0, 1) := by decide +kernel
theorem dX0_addStep_1 : decode cX0_addStep 1 = .ok (.getfield 60, 3) := by decide +kernel
theorem dX0_addStep_4 : decode cX0_addStep 4 = .ok (.aload_n 0, 1) := by decide +kernel
theorem dX0_addStep_5 : decode cX0_addStep 5 = .ok (.getfield 34, 3) := by decide +kernel
theorem dX0_addStep_8 : decode cX0_addStep 8 = .ok (.arraylength, 1) := by decide +kernel
theorem dX0_addStep_9 : decode cX0_addStep 9 = .ok (.if_icmp .ge 54, 3) := by decide +kernel
theorem dX0_addStep_12 : decode cX0_addStep 12 = .ok (.aload_n 0, 1) := by decide +kernel
theorem dX0_addStep_13 : decode cX0_addStep 13 = .ok (.aload_n 0, 1) := by decide +kernel
theorem dX0_addStep_14 : decode cX0_addStep 14 = .ok (.getfield 52, 3) := by decide +kernel
theorem dX0_addStep_17 : decode cX0_addStep 17 = .ok (.iconst 1, 1) := by decide +kernel
theorem dX0_addStep_18 : decode cX0_addStep 18 = .ok (.isub, 1) := by decide +kernel
theorem dX0_addStep_19 : decode cX0_addStep 19 = .ok (.invokevirtual 56, 3) := by decide +kernel
theorem dX0_addStep_22 : decode cX0_addStep 22 = .ok (.ifCond .eq 41, 3) := by decide +kernel
theorem dX0_addStep_25 : decode cX0_addStep 25 = .ok (.aload_n 0, 1) := by decide +kernel
theorem dX0_addStep_26 : decode cX0_addStep 26 = .ok (.getfield 34, 3) := by decide +kernel
theorem dX0_addStep_29 : decode cX0_addStep 29 = .ok (.aload_n 0, 1) := by decide +kernel
theorem dX0_addStep_30 : decode cX0_addStep 30 = .ok (.getfield 60, 3) := by decide +kernel
theorem dX0_addStep_33 : decode cX0_addStep 33 = .ok (.iload_n 1, 1) := by decide +kernel
theorem dX0_addStep_34 : decode cX0_addStep 34 = .ok (.bipush 64, 2) := by decide +kernel
theorem dX0_addStep_36 : decode cX0_addStep 36 = .ok (.imul, 1) := by decide +kernel
theorem dX0_addStep_37 : decode cX0_addStep 37 = .ok (.iload_n 2, 1) := by decide +kernel
theorem dX0_addStep_38 : decode cX0_addStep 38 = .ok (.iadd, 1) := by decide +kernel
theorem dX0_addStep_39 : decode cX0_addStep 39 = .ok (.iastore, 1) := by decide +kernel
theorem dX0_addStep_40 : decode cX0_addStep 40 = .ok (.aload_n 0, 1) := by decide +kernel
theorem dX0_addStep_41 : decode cX0_addStep 41 = .ok (.dup, 1) := by decide +kernel
theorem dX0_addStep_42 : decode cX0_addStep 42 = .ok (.getfield 60, 3) := by decide +kernel
theorem dX0_addStep_45 : decode cX0_addStep 45 = .ok (.iconst 1, 1) := by decide +kernel
theorem dX0_addStep_46 : decode cX0_addStep 46 = .ok (.iadd, 1) := by decide +kernel
theorem dX0_addStep_47 : decode cX0_addStep 47 = .ok (.putfield 60, 3) := by decide +kernel
theorem dX0_addStep_50 : decode cX0_addStep 50 = .ok (.aload_n 0, 1) := by decide +kernel
theorem dX0_addStep_51 : decode cX0_addStep 51 = .ok (.getfield 31, 3) := by decide +kernel
theorem dX0_addStep_54 : decode cX0_addStep 54 = .ok (.aload_n 0, 1) := by decide +kernel
theorem dX0_addStep_55 : decode cX0_addStep 55 = .ok (.getfield 52, 3) := by decide +kernel
theorem dX0_addStep_58 : decode cX0_addStep 58 = .ok (.aload_n 0, 1) := by decide +kernel
theorem dX0_addStep_59 : decode cX0_addStep 59 = .ok (.getfield 60, 3) := by decide +kernel
theorem dX0_addStep_62 : decode cX0_addStep 62 = .ok (.iastore, 1) := by decide +kernel
theorem dX0_addStep_63 : decode cX0_addStep 63 = .ok (.return_, 1) := by decide +kernel
theorem dX0_refers_0 : decode cX0_refers 0 = .ok (.aload_n 0, 1) := by decide +kernel
theorem dX0_refers_1 : decode cX0_refers 1 = .ok (.getfield 40, 3) := by decide +kernel
theorem dX0_refers_4 : decode cX0_refers 4 = .ok (.iload_n 1, 1) := by decide +kernel
theorem dX0_refers_5 : decode cX0_refers 5 = .ok (.iaload, 1) := by decide +kernel
theorem dX0_refers_6 : decode cX0_refers 6 = .ok (.iconst 1, 1) := by decide +kernel
theorem dX0_refers_7 : decode cX0_refers 7 = .ok (.if_icmp .eq 13, 3) := by decide +kernel
theorem dX0_refers_10 : decode cX0_refers 10 = .ok (.aload_n 0, 1) := by decide +kernel
theorem dX0_refers_11 : decode cX0_refers 11 = .ok (.getfield 40, 3) := by decide +kernel
theorem dX0_refers_14 : decode cX0_refers 14 = .ok (.iload_n 1, 1) := by decide +kernel
theorem dX0_refers_15 : decode cX0_refers 15 = .ok (.iaload, 1) := by decide +kernel
theorem dX0_refers_16 : decode cX0_refers 16 = .ok (.iconst 2, 1) := by decide +kernel
theorem dX0_refers_17 : decode cX0_refers 17 = .ok (.if_icmp .ne 7, 3) := by decide +kernel
theorem dX0_refers_20 : decode cX0_refers 20 = .ok (.iconst 1, 1) := by decide +kernel
theorem dX0_refers_21 : decode cX0_refers 21 = .ok (.goto 4, 3) := by decide +kernel
theorem dX0_refers_24 : decode cX0_refers 24 = .ok (.iconst 0, 1) := by decide +kernel
theorem dX0_refers_25 : decode cX0_refers 25 = .ok (.ireturn, 1) := by decide +kernel
set_option maxRecDepth 20000 in
theorem ggX0_linkReferences_X0_refers : GoodIn wsX0_linkReferences wsX0_refers := goodIn_r _ [10, 11, 17, 18, 19, 20, 21, 22, 23, 24, 25, 26, 27, 28, 29, 30, 31, 32] (by decide +kernel) (by decide +kernel)
set_option maxRecDepth 20000 in
theorem gX0_linkReferences_X0_refers : GoodIn wsX0_linkReferences (wsV RX0 74 RX0 yX0_refers wsX0_refers) := goodIn_app (goodIn_of _ (by decide +kernel)) ggX0_linkReferences_X0_refers
set_option maxRecDepth 20000 in
theorem ggX0_linkReferences_X0_shapeOf : GoodIn wsX0_linkReferences wsX0_shapeOf := goodIn_r _ [15, 1, 16, 17, 18, 19, 20, 21, 22, 23, 24, 25, 26, 27, 28, 29, 30, 31, 32] (by decide +kernel) (by decide +kernel)
set_option maxRecDepth 20000 in
theorem gX0_linkReferences_X0_shapeOf : GoodIn wsX0_linkReferences (wsV RX0 77 RX0 yX0_shapeOf wsX0_shapeOf) := goodIn_app (goodIn_of _ (by decide +kernel)) ggX0_linkReferences_X0_shapeOf
theorem dX0_linkReferences_0 : decode cX0_linkReferences 0 = .ok (.iconst 0, 1) := by decide +kernel
theorem dX0_linkReferences_1 : decode cX0_linkReferences 1 = .ok (.istore_n 1, 1) := by decide +kernel
theorem dX0_linkReferences_2 : decode cX0_linkReferences 2 = .ok (.iload_n 1, 1) := by decide +kernel
theorem dX0_linkReferences_3 : decode cX0_linkReferences 3 = .ok (.aload_n 0, 1) := by decide +kernel
theorem dX0_linkReferences_4 : decode cX0_linkReferences 4 = .ok (.getfield 52, 3) := by decide +kernel
theorem dX0_linkReferences_7 : decode cX0_linkReferences 7 = .ok (.if_icmp .ge 87, 3) := by decide +kernel
theorem dX0_linkReferences_10 : decode cX0_linkReferences 10 = .ok (.iconst 0, 1) := by decide +kernel
theorem dX0_linkReferences_11 : decode cX0_linkReferences 11 = .ok (.istore_n 2, 1) := by decide +kernel
theorem dX0_linkReferences_12 : decode cX0_linkReferences 12 = .ok (.iload_n 2, 1) := by decide +kernel
theorem dX0_linkReferences_13 : decode cX0_linkReferences 13 = .ok (.aload_n 0, 1) := by decide +kernel
theorem dX0_linkReferences_14 : decode cX0_linkReferences 14 = .ok (.getfield 15, 3) := by decide +kernel
theorem dX0_linkReferences_17 : decode cX0_linkReferences 17 = .ok (.iload_n 1, 1) := by decide +kernel
theorem dX0_linkReferences_18 : decode cX0_linkReferences 18 = .ok (.iaload, 1) := by decide +kernel
theorem dX0_linkReferences_19 : decode cX0_linkReferences 19 = .ok (.if_icmp .ge 69, 3) := by decide +kernel
theorem dX0_linkReferences_22 : decode cX0_linkReferences 22 = .ok (.iload_n 1, 1) := by decide +kernel
theorem dX0_linkReferences_23 : decode cX0_linkReferences 23 = .ok (.bipush 6, 2) := by decide +kernel
theorem dX0_linkReferences_25 : decode cX0_linkReferences 25 = .ok (.imul, 1) := by decide +kernel
theorem dX0_linkReferences_26 : decode cX0_linkReferences 26 = .ok (.iload_n 2, 1) := by decide +kernel
theorem dX0_linkReferences_27 : decode cX0_linkReferences 27 = .ok (.iadd, 1) := by decide +kernel
theorem dX0_linkReferences_28 : decode cX0_linkReferences 28 = .ok (.istore_n 3, 1) := by decide +kernel
theorem dX0_linkReferences_29 : decode cX0_linkReferences 29 = .ok (.aload_n 0, 1) := by decide +kernel
theorem dX0_linkReferences_30 : decode cX0_linkReferences 30 = .ok (.iload_n 3, 1) := by decide +kernel
theorem dX0_linkReferences_31 : decode cX0_linkReferences 31 = .ok (.invokevirtual 74, 3) := by decide +kernel
theorem dX0_linkReferences_34 : decode cX0_linkReferences 34 = .ok (.ifCond .eq 48, 3) := by decide +kernel
theorem dX0_linkReferences_37 : decode cX0_linkReferences 37 = .ok (.aload_n 0, 1) := by decide +kernel
theorem dX0_linkReferences_38 : decode cX0_linkReferences 38 = .ok (.aload_n 0, 1) := by decide +kernel
theorem dX0_linkReferences_39 : decode cX0_linkReferences 39 = .ok (.getfield 43, 3) := by decide +kernel
theorem dX0_linkReferences_42 : decode cX0_linkReferences 42 = .ok (.iload_n 3, 1) := by decide +kernel
theorem dX0_linkReferences_43 : decode cX0_linkReferences 43 = .ok (.iaload, 1) := by decide +kernel
theorem dX0_linkReferences_44 : decode cX0_linkReferences 44 = .ok (.invokevirtual 77, 3) := by decide +kernel
theorem dX0_linkReferences_47 : decode cX0_linkReferences 47 = .ok (.istore 4, 2) := by decide +kernel
theorem dX0_linkReferences_49 : decode cX0_linkReferences 49 = .ok (.iload 4, 2) := by decide +kernel
theorem dX0_linkReferences_51 : decode cX0_linkReferences 51 = .ok (.ifCond .ge 10, 3) := by decide +kernel
theorem dX0_linkReferences_54 : decode cX0_linkReferences 54 = .ok (.aload_n 0, 1) := by decide +kernel
theorem dX0_linkReferences_55 : decode cX0_linkReferences 55 = .ok (.getfield 49, 3) := by decide +kernel
theorem dX0_linkReferences_58 : decode cX0_linkReferences 58 = .ok (.iload_n 3, 1) := by decide +kernel
theorem dX0_linkReferences_59 : decode cX0_linkReferences 59 = .ok (.iaload, 1) := by decide +kernel
theorem dX0_linkReferences_60 : decode cX0_linkReferences 60 = .ok (.ireturn, 1) := by decide +kernel
theorem dX0_linkReferences_61 : decode cX0_linkReferences 61 = .ok (.aload_n 0, 1) := by decide +kernel
theorem dX0_linkReferences_62 : decode cX0_linkReferences 62 = .ok (.getfield 43, 3) := by decide +kernel
theorem dX0_linkReferences_65 : decode cX0_linkReferences 65 = .ok (.iload_n 3, 1) := by decide +kernel
theorem dX0_linkReferences_66 : decode cX0_linkReferences 66 = .ok (.iload 4, 2) := by decide +kernel
theorem dX0_linkReferences_68 : decode cX0_linkReferences 68 = .ok (.iastore, 1) := by decide +kernel
theorem dX0_linkReferences_69 : decode cX0_linkReferences 69 = .ok (.aload_n 0, 1) := by decide +kernel
theorem dX0_linkReferences_70 : decode cX0_linkReferences 70 = .ok (.getfield 25, 3) := by decide +kernel
theorem dX0_linkReferences_73 : decode cX0_linkReferences 73 = .ok (.iload_n 1, 1) := by decide +kernel
theorem dX0_linkReferences_74 : decode cX0_linkReferences 74 = .ok (.dup2, 1) := by decide +kernel
theorem dX0_linkReferences_75 : decode cX0_linkReferences 75 = .ok (.iaload, 1) := by decide +kernel
theorem dX0_linkReferences_76 : decode cX0_linkReferences 76 = .ok (.iconst 1, 1) := by decide +kernel
theorem dX0_linkReferences_77 : decode cX0_linkReferences 77 = .ok (.iload 4, 2) := by decide +kernel
theorem dX0_linkReferences_79 : decode cX0_linkReferences 79 = .ok (.ishl, 1) := by decide +kernel
theorem dX0_linkReferences_80 : decode cX0_linkReferences 80 = .ok (.ior, 1) := by decide +kernel
theorem dX0_linkReferences_81 : decode cX0_linkReferences 81 = .ok (.iastore, 1) := by decide +kernel
theorem dX0_linkReferences_82 : decode cX0_linkReferences 82 = .ok (.iinc 2 1, 3) := by decide +kernel
theorem dX0_linkReferences_85 : decode cX0_linkReferences 85 = .ok (.goto (-73), 3) := by decide +kernel
theorem dX0_linkReferences_88 : decode cX0_linkReferences 88 = .ok (.iinc 1 1, 3) := by decide +kernel
theorem dX0_linkReferences_91 : decode cX0_linkReferences 91 = .ok (.goto (-89), 3) := by decide +kernel
theorem dX0_linkReferences_94 : decode cX0_linkReferences 94 = .ok (.iconst (-1), 1) := by decide +kernel
theorem dX0_linkReferences_95 : decode cX0_linkReferences 95 = .ok (.ireturn, 1) := by decide +kernel
theorem dX0_findReach_0 : decode cX0_findReach 0 = .ok (.iconst 0, 1) := by decide +kernel
theorem dX0_findReach_1 : decode cX0_findReach 1 = .ok (.istore_n 1, 1) := by decide +kernel
theorem dX0_findReach_2 : decode cX0_findReach 2 = .ok (.iload_n 1, 1) := by decide +kernel
theorem dX0_findReach_3 : decode cX0_findReach 3 = .ok (.aload_n 0, 1) := by decide +kernel
theorem dX0_findReach_4 : decode cX0_findReach 4 = .ok (.getfield 52, 3) := by decide +kernel
theorem dX0_findReach_7 : decode cX0_findReach 7 = .ok (.if_icmp .ge 53, 3) := by decide +kernel
theorem dX0_findReach_10 : decode cX0_findReach 10 = .ok (.iconst 0, 1) := by decide +kernel
theorem dX0_findReach_11 : decode cX0_findReach 11 = .ok (.istore_n 2, 1) := by decide +kernel
theorem dX0_findReach_12 : decode cX0_findReach 12 = .ok (.iload_n 2, 1) := by decide +kernel
theorem dX0_findReach_13 : decode cX0_findReach 13 = .ok (.aload_n 0, 1) := by decide +kernel
theorem dX0_findReach_14 : decode cX0_findReach 14 = .ok (.getfield 52, 3) := by decide +kernel
theorem dX0_findReach_17 : decode cX0_findReach 17 = .ok (.if_icmp .ge 37, 3) := by decide +kernel
theorem dX0_findReach_20 : decode cX0_findReach 20 = .ok (.aload_n 0, 1) := by decide +kernel
theorem dX0_findReach_21 : decode cX0_findReach 21 = .ok (.getfield 25, 3) := by decide +kernel
theorem dX0_findReach_24 : decode cX0_findReach 24 = .ok (.iload_n 2, 1) := by decide +kernel
theorem dX0_findReach_25 : decode cX0_findReach 25 = .ok (.iaload, 1) := by decide +kernel
theorem dX0_findReach_26 : decode cX0_findReach 26 = .ok (.iload_n 1, 1) := by decide +kernel
theorem dX0_findReach_27 : decode cX0_findReach 27 = .ok (.ishr, 1) := by decide +kernel
theorem dX0_findReach_28 : decode cX0_findReach 28 = .ok (.iconst 1, 1) := by decide +kernel
theorem dX0_findReach_29 : decode cX0_findReach 29 = .ok (.iand, 1) := by decide +kernel
theorem dX0_findReach_30 : decode cX0_findReach 30 = .ok (.ifCond .eq 18, 3) := by decide +kernel
theorem dX0_findReach_33 : decode cX0_findReach 33 = .ok (.aload_n 0, 1) := by decide +kernel
theorem dX0_findReach_34 : decode cX0_findReach 34 = .ok (.getfield 25, 3) := by decide +kernel
theorem dX0_findReach_37 : decode cX0_findReach 37 = .ok (.iload_n 2, 1) := by decide +kernel
theorem dX0_findReach_38 : decode cX0_findReach 38 = .ok (.dup2, 1) := by decide +kernel
theorem dX0_findReach_39 : decode cX0_findReach 39 = .ok (.iaload, 1) := by decide +kernel
theorem dX0_findReach_40 : decode cX0_findReach 40 = .ok (.aload_n 0, 1) := by decide +kernel
theorem dX0_findReach_41 : decode cX0_findReach 41 = .ok (.getfield 25, 3) := by decide +kernel
theorem dX0_findReach_44 : decode cX0_findReach 44 = .ok (.iload_n 1, 1) := by decide +kernel
theorem dX0_findReach_45 : decode cX0_findReach 45 = .ok (.iaload, 1) := by decide +kernel
theorem dX0_findReach_46 : decode cX0_findReach 46 = .ok (.ior, 1) := by decide +kernel
theorem dX0_findReach_47 : decode cX0_findReach 47 = .ok (.iastore, 1) := by decide +kernel
theorem dX0_findReach_48 : decode cX0_findReach 48 = .ok (.iinc 2 1, 3) := by decide +kernel
theorem dX0_findReach_51 : decode cX0_findReach 51 = .ok (.goto (-39), 3) := by decide +kernel
theorem dX0_findReach_54 : decode cX0_findReach 54 = .ok (.iinc 1 1, 3) := by decide +kernel
theorem dX0_findReach_57 : decode cX0_findReach 57 = .ok (.goto (-55), 3) := by decide +kernel
theorem dX0_findReach_60 : decode cX0_findReach 60 = .ok (.return_, 1) := by decide +kernel
set_option maxRecDepth 20000 in
theorem ggX0_placeOfCircle_X0_dependsOn : GoodIn wsX0_placeOfCircle wsX0_dependsOn := goodIn_r _ [10, 11, 12, 13, 14, 9, 15, 1, 16, 17, 18, 19, 20, 21, 22, 23, 24, 25, 26, 27, 28, 29, 30, 31] (by decide +kernel) (by decide +kernel)
set_option maxRecDepth 20000 in
theorem gX0_placeOfCircle_X0_dependsOn : GoodIn wsX0_placeOfCircle (wsV RX0 81 RX0 yX0_dependsOn wsX0_dependsOn) := goodIn_app (goodIn_of _ (by decide +kernel)) ggX0_placeOfCircle_X0_dependsOn
theorem dX0_placeOfCircle_0 : decode cX0_placeOfCircle 0 = .ok (.iconst 0, 1) := by decide +kernel
theorem dX0_placeOfCircle_1 : decode cX0_placeOfCircle 1 = .ok (.istore_n 1, 1) := by decide +kernel
theorem dX0_placeOfCircle_2 : decode cX0_placeOfCircle 2 = .ok (.iload_n 1, 1) := by decide +kernel
theorem dX0_placeOfCircle_3 : decode cX0_placeOfCircle 3 = .ok (.aload_n 0, 1) := by decide +kernel
theorem dX0_placeOfCircle_4 : decode cX0_placeOfCircle 4 = .ok (.getfield 52, 3) := by decide +kernel
theorem dX0_placeOfCircle_7 : decode cX0_placeOfCircle 7 = .ok (.if_icmp .ge 65, 3) := by decide +kernel
theorem dX0_placeOfCircle_10 : decode cX0_placeOfCircle 10 = .ok (.iconst 0, 1) := by decide +kernel
theorem dX0_placeOfCircle_11 : decode cX0_placeOfCircle 11 = .ok (.istore_n 2, 1) := by decide +kernel
theorem dX0_placeOfCircle_12 : decode cX0_placeOfCircle 12 = .ok (.iload_n 2, 1) := by decide +kernel
theorem dX0_placeOfCircle_13 : decode cX0_placeOfCircle 13 = .ok (.aload_n 0, 1) := by decide +kernel
theorem dX0_placeOfCircle_14 : decode cX0_placeOfCircle 14 = .ok (.getfield 15, 3) := by decide +kernel
theorem dX0_placeOfCircle_17 : decode cX0_placeOfCircle 17 = .ok (.iload_n 1, 1) := by decide +kernel
theorem dX0_placeOfCircle_18 : decode cX0_placeOfCircle 18 = .ok (.iaload, 1) := by decide +kernel
theorem dX0_placeOfCircle_19 : decode cX0_placeOfCircle 19 = .ok (.if_icmp .ge 47, 3) := by decide +kernel
theorem dX0_placeOfCircle_22 : decode cX0_placeOfCircle 22 = .ok (.iload_n 1, 1) := by decide +kernel
theorem dX0_placeOfCircle_23 : decode cX0_placeOfCircle 23 = .ok (.bipush 6, 2) := by decide +kernel
theorem dX0_placeOfCircle_25 : decode cX0_placeOfCircle 25 = .ok (.imul, 1) := by decide +kernel
theorem dX0_placeOfCircle_26 : decode cX0_placeOfCircle 26 = .ok (.iload_n 2, 1) := by decide +kernel
theorem dX0_placeOfCircle_27 : decode cX0_placeOfCircle 27 = .ok (.iadd, 1) := by decide +kernel
theorem dX0_placeOfCircle_28 : decode cX0_placeOfCircle 28 = .ok (.istore_n 3, 1) := by decide +kernel
theorem dX0_placeOfCircle_29 : decode cX0_placeOfCircle 29 = .ok (.aload_n 0, 1) := by decide +kernel
theorem dX0_placeOfCircle_30 : decode cX0_placeOfCircle 30 = .ok (.getfield 40, 3) := by decide +kernel
theorem dX0_placeOfCircle_33 : decode cX0_placeOfCircle 33 = .ok (.iload_n 3, 1) := by decide +kernel
theorem dX0_placeOfCircle_34 : decode cX0_placeOfCircle 34 = .ok (.iaload, 1) := by decide +kernel
theorem dX0_placeOfCircle_35 : decode cX0_placeOfCircle 35 = .ok (.iconst 2, 1) := by decide +kernel
theorem dX0_placeOfCircle_36 : decode cX0_placeOfCircle 36 = .ok (.if_icmp .ne 24, 3) := by decide +kernel
theorem dX0_placeOfCircle_39 : decode cX0_placeOfCircle 39 = .ok (.aload_n 0, 1) := by decide +kernel
theorem dX0_placeOfCircle_40 : decode cX0_placeOfCircle 40 = .ok (.aload_n 0, 1) := by decide +kernel
theorem dX0_placeOfCircle_41 : decode cX0_placeOfCircle 41 = .ok (.getfield 43, 3) := by decide +kernel
theorem dX0_placeOfCircle_44 : decode cX0_placeOfCircle 44 = .ok (.iload_n 3, 1) := by decide +kernel
theorem dX0_placeOfCircle_45 : decode cX0_placeOfCircle 45 = .ok (.iaload, 1) := by decide +kernel
theorem dX0_placeOfCircle_46 : decode cX0_placeOfCircle 46 = .ok (.iload_n 1, 1) := by decide +kernel
theorem dX0_placeOfCircle_47 : decode cX0_placeOfCircle 47 = .ok (.invokevirtual 81, 3) := by decide +kernel
theorem dX0_placeOfCircle_50 : decode cX0_placeOfCircle 50 = .ok (.ifCond .eq 10, 3) := by decide +kernel
theorem dX0_placeOfCircle_53 : decode cX0_placeOfCircle 53 = .ok (.aload_n 0, 1) := by decide +kernel
theorem dX0_placeOfCircle_54 : decode cX0_placeOfCircle 54 = .ok (.getfield 49, 3) := by decide +kernel
theorem dX0_placeOfCircle_57 : decode cX0_placeOfCircle 57 = .ok (.iload_n 3, 1) := by decide +kernel
theorem dX0_placeOfCircle_58 : decode cX0_placeOfCircle 58 = .ok (.iaload, 1) := by decide +kernel
theorem dX0_placeOfCircle_59 : decode cX0_placeOfCircle 59 = .ok (.ireturn, 1) := by decide +kernel
theorem dX0_placeOfCircle_60 : decode cX0_placeOfCircle 60 = .ok (.iinc 2 1, 3) := by decide +kernel
theorem dX0_placeOfCircle_63 : decode cX0_placeOfCircle 63 = .ok (.goto (-51), 3) := by decide +kernel
theorem dX0_placeOfCircle_66 : decode cX0_placeOfCircle 66 = .ok (.iinc 1 1, 3) := by decide +kernel
theorem dX0_placeOfCircle_69 : decode cX0_placeOfCircle 69 = .ok (.goto (-67), 3) := by decide +kernel
theorem dX0_placeOfCircle_72 : decode cX0_placeOfCircle 72 = .ok (.iconst (-1), 1) := by decide +kernel
theorem dX0_placeOfCircle_73 : decode cX0_placeOfCircle 73 = .ok (.ireturn, 1) := by decide +kernel
set_option maxRecDepth 20000 in
theorem ggX0_dependsOn_X0_hasShape : GoodIn wsX0_dependsOn wsX0_hasShape := goodIn_r _ [6, 7, 8, 9, 10, 11, 12, 13, 14, 15, 16, 17, 18, 19, 20, 21, 22, 23] (by decide +kernel) (by decide +kernel)
set_option maxRecDepth 20000 in
theorem gX0_dependsOn_X0_hasShape : GoodIn wsX0_dependsOn (wsV RX0 56 RX0 yX0_hasShape wsX0_hasShape) := goodIn_app (goodIn_of _ (by decide +kernel)) ggX0_dependsOn_X0_hasShape
theorem dX0_dependsOn_0 : decode cX0_dependsOn 0 = .ok (.aload_n 0, 1) := by decide +kernel
theorem dX0_dependsOn_1 : decode cX0_dependsOn 1 = .ok (.iload_n 1, 1) := by decide +kernel
theorem dX0_dependsOn_2 : decode cX0_dependsOn 2 = .ok (.invokevirtual 56, 3) := by decide +kernel
theorem dX0_dependsOn_5 : decode cX0_dependsOn 5 = .ok (.ifCond .eq 20, 3) := by decide +kernel
theorem dX0_dependsOn_8 : decode cX0_dependsOn 8 = .ok (.aload_n 0, 1) := by decide +kernel
theorem dX0_dependsOn_9 : decode cX0_dependsOn 9 = .ok (.getfield 25, 3) := by decide +kernel
theorem dX0_dependsOn_12 : decode cX0_dependsOn 12 = .ok (.iload_n 1, 1) := by decide +kernel
theorem dX0_dependsOn_13 : decode cX0_dependsOn 13 = .ok (.iaload, 1) := by decide +kernel
theorem dX0_dependsOn_14 : decode cX0_dependsOn 14 = .ok (.iload_n 2, 1) := by decide +kernel
theorem dX0_dependsOn_15 : decode cX0_dependsOn 15 = .ok (.ishr, 1) := by decide +kernel
theorem dX0_dependsOn_16 : decode cX0_dependsOn 16 = .ok (.iconst 1, 1) := by decide +kernel
theorem dX0_dependsOn_17 : decode cX0_dependsOn 17 = .ok (.iand, 1) := by decide +kernel
theorem dX0_dependsOn_18 : decode cX0_dependsOn 18 = .ok (.ifCond .eq 7, 3) := by decide +kernel
theorem dX0_dependsOn_21 : decode cX0_dependsOn 21 = .ok (.iconst 1, 1) := by decide +kernel
theorem dX0_dependsOn_22 : decode cX0_dependsOn 22 = .ok (.goto 4, 3) := by decide +kernel
theorem dX0_dependsOn_25 : decode cX0_dependsOn 25 = .ok (.iconst 0, 1) := by decide +kernel
theorem dX0_dependsOn_26 : decode cX0_dependsOn 26 = .ok (.ireturn, 1) := by decide +kernel
set_option maxRecDepth 20000 in
theorem ggX0_findLevels_X0_raiseLevel : GoodIn wsX0_findLevels wsX0_raiseLevel := goodIn_r _ [6, 7, 8, 9, 10, 11, 12, 13, 14, 15, 16, 17, 5, 18, 19, 20, 21, 22, 1, 23, 24, 25, 26, 27, 28, 29, 30, 31, 32, 33, 34, 35, 36, 37, 38] (by decide +kernel) (by decide +kernel)
set_option maxRecDepth 20000 in
theorem gX0_findLevels_X0_raiseLevel : GoodIn wsX0_findLevels (wsV RX0 85 RX0 yX0_raiseLevel wsX0_raiseLevel) := goodIn_app (goodIn_of _ (by decide +kernel)) ggX0_findLevels_X0_raiseLevel
theorem dX0_findLevels_0 : decode cX0_findLevels 0 = .ok (.iconst 0, 1) := by decide +kernel
theorem dX0_findLevels_1 : decode cX0_findLevels 1 = .ok (.istore_n 1, 1) := by decide +kernel
theorem dX0_findLevels_2 : decode cX0_findLevels 2 = .ok (.iload_n 1, 1) := by decide +kernel
theorem dX0_findLevels_3 : decode cX0_findLevels 3 = .ok (.bipush 6, 2) := by decide +kernel
theorem dX0_findLevels_5 : decode cX0_findLevels 5 = .ok (.if_icmp .ge 30, 3) := by decide +kernel
theorem dX0_findLevels_8 : decode cX0_findLevels 8 = .ok (.iconst 0, 1) := by decide +kernel
theorem dX0_findLevels_9 : decode cX0_findLevels 9 = .ok (.istore_n 2, 1) := by decide +kernel
theorem dX0_findLevels_10 : decode cX0_findLevels 10 = .ok (.iload_n 2, 1) := by decide +kernel
theorem dX0_findLevels_11 : decode cX0_findLevels 11 = .ok (.aload_n 0, 1) := by decide +kernel
theorem dX0_findLevels_12 : decode cX0_findLevels 12 = .ok (.getfield 52, 3) := by decide +kernel
theorem dX0_findLevels_15 : decode cX0_findLevels 15 = .ok (.if_icmp .ge 14, 3) := by decide +kernel
theorem dX0_findLevels_18 : decode cX0_findLevels 18 = .ok (.aload_n 0, 1) := by decide +kernel
theorem dX0_findLevels_19 : decode cX0_findLevels 19 = .ok (.iload_n 2, 1) := by decide +kernel
theorem dX0_findLevels_20 : decode cX0_findLevels 20 = .ok (.invokevirtual 85, 3) := by decide +kernel
theorem dX0_findLevels_23 : decode cX0_findLevels 23 = .ok (.iinc 2 1, 3) := by decide +kernel
theorem dX0_findLevels_26 : decode cX0_findLevels 26 = .ok (.goto (-16), 3) := by decide +kernel
theorem dX0_findLevels_29 : decode cX0_findLevels 29 = .ok (.iinc 1 1, 3) := by decide +kernel
theorem dX0_findLevels_32 : decode cX0_findLevels 32 = .ok (.goto (-30), 3) := by decide +kernel
theorem dX0_findLevels_35 : decode cX0_findLevels 35 = .ok (.return_, 1) := by decide +kernel
set_option maxRecDepth 20000 in
theorem ggX0_raiseLevel_X0_refers : GoodIn wsX0_raiseLevel wsX0_refers := goodIn_r _ [13, 4, 19, 20, 21, 22, 23, 24, 25, 26, 27, 28, 29, 30, 31, 32, 33, 34] (by decide +kernel) (by decide +kernel)
set_option maxRecDepth 20000 in
theorem gX0_raiseLevel_X0_refers : GoodIn wsX0_raiseLevel (wsV RX0 74 RX0 yX0_refers wsX0_refers) := goodIn_app (goodIn_of _ (by decide +kernel)) ggX0_raiseLevel_X0_refers
set_option maxRecDepth 20000 in
theorem ggX0_raiseLevel_X0_hasShape : GoodIn wsX0_raiseLevel wsX0_hasShape := goodIn_r _ [17, 18, 19, 20, 21, 22, 23, 24, 25, 26, 27, 28, 29, 30, 31, 32, 33, 34] (by decide +kernel) (by decide +kernel)
set_option maxRecDepth 20000 in
theorem gX0_raiseLevel_X0_hasShape : GoodIn wsX0_raiseLevel (wsV RX0 56 RX0 yX0_hasShape wsX0_hasShape) := goodIn_app (goodIn_of _ (by decide +kernel)) ggX0_raiseLevel_X0_hasShape
theorem dX0_raiseLevel_0 : decode cX0_raiseLevel 0 = .ok (.iconst 0, 1) := by decide +kernel
theorem dX0_raiseLevel_1 : decode cX0_raiseLevel 1 = .ok (.istore_n 2, 1) := by decide +kernel
theorem dX0_raiseLevel_2 : decode cX0_raiseLevel 2 = .ok (.iload_n 2, 1) := by decide +kernel
theorem dX0_raiseLevel_3 : decode cX0_raiseLevel 3 = .ok (.aload_n 0, 1) := by decide +kernel
theorem dX0_raiseLevel_4 : decode cX0_raiseLevel 4 = .ok (.getfield 15, 3) := by decide +kernel
theorem dX0_raiseLevel_7 : decode cX0_raiseLevel 7 = .ok (.iload_n 1, 1) := by decide +kernel
theorem dX0_raiseLevel_8 : decode cX0_raiseLevel 8 = .ok (.iaload, 1) := by decide +kernel
theorem dX0_raiseLevel_9 : decode cX0_raiseLevel 9 = .ok (.if_icmp .ge 84, 3) := by decide +kernel
theorem dX0_raiseLevel_12 : decode cX0_raiseLevel 12 = .ok (.iload_n 1, 1) := by decide +kernel
theorem dX0_raiseLevel_13 : decode cX0_raiseLevel 13 = .ok (.bipush 6, 2) := by decide +kernel
theorem dX0_raiseLevel_15 : decode cX0_raiseLevel 15 = .ok (.imul, 1) := by decide +kernel
theorem dX0_raiseLevel_16 : decode cX0_raiseLevel 16 = .ok (.iload_n 2, 1) := by decide +kernel
theorem dX0_raiseLevel_17 : decode cX0_raiseLevel 17 = .ok (.iadd, 1) := by decide +kernel
theorem dX0_raiseLevel_18 : decode cX0_raiseLevel 18 = .ok (.istore_n 3, 1) := by decide +kernel
theorem dX0_raiseLevel_19 : decode cX0_raiseLevel 19 = .ok (.aload_n 0, 1) := by decide +kernel
theorem dX0_raiseLevel_20 : decode cX0_raiseLevel 20 = .ok (.iload_n 3, 1) := by decide +kernel
theorem dX0_raiseLevel_21 : decode cX0_raiseLevel 21 = .ok (.invokevirtual 74, 3) := by decide +kernel
theorem dX0_raiseLevel_24 : decode cX0_raiseLevel 24 = .ok (.ifCond .eq 63, 3) := by decide +kernel
theorem dX0_raiseLevel_27 : decode cX0_raiseLevel 27 = .ok (.aload_n 0, 1) := by decide +kernel
theorem dX0_raiseLevel_28 : decode cX0_raiseLevel 28 = .ok (.aload_n 0, 1) := by decide +kernel
theorem dX0_raiseLevel_29 : decode cX0_raiseLevel 29 = .ok (.getfield 43, 3) := by decide +kernel
theorem dX0_raiseLevel_32 : decode cX0_raiseLevel 32 = .ok (.iload_n 3, 1) := by decide +kernel
theorem dX0_raiseLevel_33 : decode cX0_raiseLevel 33 = .ok (.iaload, 1) := by decide +kernel
theorem dX0_raiseLevel_34 : decode cX0_raiseLevel 34 = .ok (.invokevirtual 56, 3) := by decide +kernel
theorem dX0_raiseLevel_37 : decode cX0_raiseLevel 37 = .ok (.ifCond .eq 50, 3) := by decide +kernel
theorem dX0_raiseLevel_40 : decode cX0_raiseLevel 40 = .ok (.aload_n 0, 1) := by decide +kernel
theorem dX0_raiseLevel_41 : decode cX0_raiseLevel 41 = .ok (.getfield 28, 3) := by decide +kernel
theorem dX0_raiseLevel_44 : decode cX0_raiseLevel 44 = .ok (.aload_n 0, 1) := by decide +kernel
theorem dX0_raiseLevel_45 : decode cX0_raiseLevel 45 = .ok (.getfield 43, 3) := by decide +kernel
theorem dX0_raiseLevel_48 : decode cX0_raiseLevel 48 = .ok (.iload_n 3, 1) := by decide +kernel
theorem dX0_raiseLevel_49 : decode cX0_raiseLevel 49 = .ok (.iaload, 1) := by decide +kernel
theorem dX0_raiseLevel_50 : decode cX0_raiseLevel 50 = .ok (.iaload, 1) := by decide +kernel
theorem dX0_raiseLevel_51 : decode cX0_raiseLevel 51 = .ok (.istore 4, 2) := by decide +kernel
theorem dX0_raiseLevel_53 : decode cX0_raiseLevel 53 = .ok (.aload_n 0, 1) := by decide +kernel
theorem dX0_raiseLevel_54 : decode cX0_raiseLevel 54 = .ok (.getfield 28, 3) := by decide +kernel
theorem dX0_raiseLevel_57 : decode cX0_raiseLevel 57 = .ok (.iload_n 1, 1) := by decide +kernel
theorem dX0_raiseLevel_58 : decode cX0_raiseLevel 58 = .ok (.aload_n 0, 1) := by decide +kernel
theorem dX0_raiseLevel_59 : decode cX0_raiseLevel 59 = .ok (.getfield 28, 3) := by decide +kernel
theorem dX0_raiseLevel_62 : decode cX0_raiseLevel 62 = .ok (.iload_n 1, 1) := by decide +kernel
theorem dX0_raiseLevel_63 : decode cX0_raiseLevel 63 = .ok (.iaload, 1) := by decide +kernel
theorem dX0_raiseLevel_64 : decode cX0_raiseLevel 64 = .ok (.aload_n 0, 1) := by decide +kernel
theorem dX0_raiseLevel_65 : decode cX0_raiseLevel 65 = .ok (.getfield 40, 3) := by decide +kernel
theorem dX0_raiseLevel_68 : decode cX0_raiseLevel 68 = .ok (.iload_n 3, 1) := by decide +kernel
theorem dX0_raiseLevel_69 : decode cX0_raiseLevel 69 = .ok (.iaload, 1) := by decide +kernel
theorem dX0_raiseLevel_70 : decode cX0_raiseLevel 70 = .ok (.iconst 2, 1) := by decide +kernel
theorem dX0_raiseLevel_71 : decode cX0_raiseLevel 71 = .ok (.if_icmp .ne 10, 3) := by decide +kernel
theorem dX0_raiseLevel_74 : decode cX0_raiseLevel 74 = .ok (.iload 4, 2) := by decide +kernel
theorem dX0_raiseLevel_76 : decode cX0_raiseLevel 76 = .ok (.iconst 1, 1) := by decide +kernel
theorem dX0_raiseLevel_77 : decode cX0_raiseLevel 77 = .ok (.iadd, 1) := by decide +kernel
theorem dX0_raiseLevel_78 : decode cX0_raiseLevel 78 = .ok (.goto 5, 3) := by decide +kernel
theorem dX0_raiseLevel_81 : decode cX0_raiseLevel 81 = .ok (.iload 4, 2) := by decide +kernel
theorem dX0_raiseLevel_83 : decode cX0_raiseLevel 83 = .ok (.invokestatic 89, 3) := by decide +kernel
theorem dX0_raiseLevel_86 : decode cX0_raiseLevel 86 = .ok (.iastore, 1) := by decide +kernel
theorem dX0_raiseLevel_87 : decode cX0_raiseLevel 87 = .ok (.iinc 2 1, 3) := by decide +kernel
theorem dX0_raiseLevel_90 : decode cX0_raiseLevel 90 = .ok (.goto (-88), 3) := by decide +kernel
theorem dX0_raiseLevel_93 : decode cX0_raiseLevel 93 = .ok (.return_, 1) := by decide +kernel
theorem dX1_init_0 : decode cX1_init 0 = .ok (.aload_n 0, 1) := by decide +kernel
theorem dX1_init_1 : decode cX1_init 1 = .ok (.invokespecial 3, 3) := by decide +kernel
theorem dX1_init_4 : decode cX1_init 4 = .ok (.aload_n 0, 1) := by decide +kernel
theorem dX1_init_5 : decode cX1_init 5 = .ok (.bipush 10, 2) := by decide +kernel
theorem dX1_init_7 : decode cX1_init 7 = .ok (.newarray .boolean, 2) := by decide +kernel
theorem dX1_init_9 : decode cX1_init 9 = .ok (.putfield 9, 3) := by decide +kernel
theorem dX1_init_12 : decode cX1_init 12 = .ok (.aload_n 0, 1) := by decide +kernel
theorem dX1_init_13 : decode cX1_init 13 = .ok (.bipush 10, 2) := by decide +kernel
theorem dX1_init_15 : decode cX1_init 15 = .ok (.newarray .int, 2) := by decide +kernel
theorem dX1_init_17 : decode cX1_init 17 = .ok (.putfield 15, 3) := by decide +kernel
theorem dX1_init_20 : decode cX1_init 20 = .ok (.aload_n 0, 1) := by decide +kernel
theorem dX1_init_21 : decode cX1_init 21 = .ok (.bipush 10, 2) := by decide +kernel
theorem dX1_init_23 : decode cX1_init 23 = .ok (.newarray .int, 2) := by decide +kernel
theorem dX1_init_25 : decode cX1_init 25 = .ok (.putfield 19, 3) := by decide +kernel
theorem dX1_init_28 : decode cX1_init 28 = .ok (.aload_n 0, 1) := by decide +kernel
theorem dX1_init_29 : decode cX1_init 29 = .ok (.bipush 50, 2) := by decide +kernel
theorem dX1_init_31 : decode cX1_init 31 = .ok (.newarray .int, 2) := by decide +kernel
theorem dX1_init_33 : decode cX1_init 33 = .ok (.putfield 22, 3) := by decide +kernel
theorem dX1_init_36 : decode cX1_init 36 = .ok (.aload_n 0, 1) := by decide +kernel
theorem dX1_init_37 : decode cX1_init 37 = .ok (.bipush 50, 2) := by decide +kernel
theorem dX1_init_39 : decode cX1_init 39 = .ok (.newarray .int, 2) := by decide +kernel
theorem dX1_init_41 : decode cX1_init 41 = .ok (.putfield 25, 3) := by decide +kernel
theorem dX1_init_44 : decode cX1_init 44 = .ok (.return_, 1) := by decide +kernel
theorem dX1_hasNode_0 : decode cX1_hasNode 0 = .ok (.iload_n 1, 1) := by decide +kernel
theorem dX1_hasNode_1 : decode cX1_hasNode 1 = .ok (.ifCond .lt 21, 3) := by decide +kernel
theorem dX1_hasNode_4 : decode cX1_hasNode 4 = .ok (.iload_n 1, 1) := by decide +kernel
theorem dX1_hasNode_5 : decode cX1_hasNode 5 = .ok (.aload_n 0, 1) := by decide +kernel
theorem dX1_hasNode_6 : decode cX1_hasNode 6 = .ok (.getfield 28, 3) := by decide +kernel
theorem dX1_hasNode_9 : decode cX1_hasNode 9 = .ok (.if_icmp .ge 13, 3) := by decide +kernel
theorem dX1_hasNode_12 : decode cX1_hasNode 12 = .ok (.iload_n 1, 1) := by decide +kernel
theorem dX1_hasNode_13 : decode cX1_hasNode 13 = .ok (.bipush 10, 2) := by decide +kernel
theorem dX1_hasNode_15 : decode cX1_hasNode 15 = .ok (.if_icmp .ge 7, 3) := by decide +kernel
theorem dX1_hasNode_18 : decode cX1_hasNode 18 = .ok (.iconst 1, 1) := by decide +kernel
theorem dX1_hasNode_19 : decode cX1_hasNode 19 = .ok (.goto 4, 3) := by decide +kernel
theorem dX1_hasNode_22 : decode cX1_hasNode 22 = .ok (.iconst 0, 1) := by decide +kernel
theorem dX1_hasNode_23 : decode cX1_hasNode 23 = .ok (.ireturn, 1) := by decide +kernel
theorem dX1_hasEdge_0 : decode cX1_hasEdge 0 = .ok (.iload_n 2, 1) := by decide +kernel
theorem dX1_hasEdge_1 : decode cX1_hasEdge 1 = .ok (.ifCond .lt 22, 3) := by decide +kernel
theorem dX1_hasEdge_4 : decode cX1_hasEdge 4 = .ok (.iload_n 2, 1) := by decide +kernel
theorem dX1_hasEdge_5 : decode cX1_hasEdge 5 = .ok (.aload_n 0, 1) := by decide +kernel
theorem dX1_hasEdge_6 : decode cX1_hasEdge 6 = .ok (.getfield 19, 3) := by decide +kernel
theorem dX1_hasEdge_9 : decode cX1_hasEdge 9 = .ok (.iload_n 1, 1) := by decide +kernel
theorem dX1_hasEdge_10 : decode cX1_hasEdge 10 = .ok (.iaload, 1) := by decide +kernel
theorem dX1_hasEdge_11 : decode cX1_hasEdge 11 = .ok (.if_icmp .ge 12, 3) := by decide +kernel
theorem dX1_hasEdge_14 : decode cX1_hasEdge 14 = .ok (.iload_n 2, 1) := by decide +kernel
theorem dX1_hasEdge_15 : decode cX1_hasEdge 15 = .ok (.iconst 5, 1) := by decide +kernel
theorem dX1_hasEdge_16 : decode cX1_hasEdge 16 = .ok (.if_icmp .ge 7, 3) := by decide +kernel
theorem dX1_hasEdge_19 : decode cX1_hasEdge 19 = .ok (.iconst 1, 1) := by decide +kernel
theorem dX1_hasEdge_20 : decode cX1_hasEdge 20 = .ok (.goto 4, 3) := by decide +kernel
theorem dX1_hasEdge_23 : decode cX1_hasEdge 23 = .ok (.iconst 0, 1) := by decide +kernel
theorem dX1_hasEdge_24 : decode cX1_hasEdge 24 = .ok (.ireturn, 1) := by decide +kernel
set_option maxRecDepth 20000 in
theorem ggX1_canBeEdge_X1_hasNode : GoodIn wsX1_canBeEdge wsX1_hasNode := goodIn_r _ [5, 6, 7, 8, 9, 10, 11, 12, 13] (by decide +kernel) (by decide +kernel)
set_option maxRecDepth 20000 in
theorem gX1_canBeEdge_X1_hasNode : GoodIn wsX1_canBeEdge (wsV RX1 32 RX1 yX1_hasNode wsX1_hasNode) := goodIn_app (goodIn_of _ (by decide +kernel)) ggX1_canBeEdge_X1_hasNode
theorem dX1_canBeEdge_0 : decode cX1_canBeEdge 0 = .ok (.aload_n 0, 1) := by decide +kernel
theorem dX1_canBeEdge_1 : decode cX1_canBeEdge 1 = .ok (.iload_n 1, 1) := by decide +kernel
theorem dX1_canBeEdge_2 : decode cX1_canBeEdge 2 = .ok (.invokevirtual 32, 3) := by decide +kernel
theorem dX1_canBeEdge_5 : decode cX1_canBeEdge 5 = .ok (.ifCond .eq 25, 3) := by decide +kernel
theorem dX1_canBeEdge_8 : decode cX1_canBeEdge 8 = .ok (.iload_n 2, 1) := by decide +kernel
theorem dX1_canBeEdge_9 : decode cX1_canBeEdge 9 = .ok (.ifCond .lt 21, 3) := by decide +kernel
theorem dX1_canBeEdge_12 : decode cX1_canBeEdge 12 = .ok (.iload_n 2, 1) := by decide +kernel
theorem dX1_canBeEdge_13 : decode cX1_canBeEdge 13 = .ok (.bipush 10, 2) := by decide +kernel
theorem dX1_canBeEdge_15 : decode cX1_canBeEdge 15 = .ok (.if_icmp .ge 15, 3) := by decide +kernel
theorem dX1_canBeEdge_18 : decode cX1_canBeEdge 18 = .ok (.aload_n 0, 1) := by decide +kernel
theorem dX1_canBeEdge_19 : decode cX1_canBeEdge 19 = .ok (.iload_n 3, 1) := by decide +kernel
theorem dX1_canBeEdge_20 : decode cX1_canBeEdge 20 = .ok (.invokevirtual 32, 3) := by decide +kernel
theorem dX1_canBeEdge_23 : decode cX1_canBeEdge 23 = .ok (.ifCond .eq 7, 3) := by decide +kernel
theorem dX1_canBeEdge_26 : decode cX1_canBeEdge 26 = .ok (.iconst 1, 1) := by decide +kernel
theorem dX1_canBeEdge_27 : decode cX1_canBeEdge 27 = .ok (.goto 4, 3) := by decide +kernel
theorem dX1_canBeEdge_30 : decode cX1_canBeEdge 30 = .ok (.iconst 0, 1) := by decide +kernel
theorem dX1_canBeEdge_31 : decode cX1_canBeEdge 31 = .ok (.ireturn, 1) := by decide +kernel
theorem dX1_clear_0 : decode cX1_clear 0 = .ok (.aload_n 0, 1) := by decide +kernel
theorem dX1_clear_1 : decode cX1_clear 1 = .ok (.iconst 0, 1) := by decide +kernel
theorem dX1_clear_2 : decode cX1_clear 2 = .ok (.putfield 28, 3) := by decide +kernel
theorem dX1_clear_5 : decode cX1_clear 5 = .ok (.aload_n 0, 1) := by decide +kernel
theorem dX1_clear_6 : decode cX1_clear 6 = .ok (.iconst 0, 1) := by decide +kernel
theorem dX1_clear_7 : decode cX1_clear 7 = .ok (.putfield 36, 3) := by decide +kernel
theorem dX1_clear_10 : decode cX1_clear 10 = .ok (.return_, 1) := by decide +kernel
set_option maxRecDepth 20000 in
theorem ggX1_addNode_X1_setValue : GoodIn wsX1_addNode wsX1_setValue := goodIn_r _ [7, 8, 9, 10, 11, 12, 13, 14, 15, 16] (by decide +kernel) (by decide +kernel)
set_option maxRecDepth 20000 in
theorem gX1_addNode_X1_setValue : GoodIn wsX1_addNode (wsV RX1 39 RX1 yX1_setValue wsX1_setValue) := goodIn_app (goodIn_of _ (by decide +kernel)) ggX1_addNode_X1_setValue
theorem dX1_addNode_0 : decode cX1_addNode 0 = .ok (.aload_n 0, 1) := by decide +kernel
theorem dX1_addNode_1 : decode cX1_addNode 1 = .ok (.getfield 28, 3) := by decide +kernel
theorem dX1_addNode_4 : decode cX1_addNode 4 = .ok (.istore_n 3, 1) := by decide +kernel
theorem dX1_addNode_5 : decode cX1_addNode 5 = .ok (.aload_n 0, 1) := by decide +kernel
theorem dX1_addNode_6 : decode cX1_addNode 6 = .ok (.dup, 1) := by decide +kernel
theorem dX1_addNode_7 : decode cX1_addNode 7 = .ok (.getfield 28, 3) := by decide +kernel
theorem dX1_addNode_10 : decode cX1_addNode 10 = .ok (.iconst 1, 1) := by decide +kernel
theorem dX1_addNode_11 : decode cX1_addNode 11 = .ok (.iadd, 1) := by decide +kernel
theorem dX1_addNode_12 : decode cX1_addNode 12 = .ok (.putfield 28, 3) := by decide +kernel
theorem dX1_addNode_15 : decode cX1_addNode 15 = .ok (.aload_n 0, 1) := by decide +kernel
theorem dX1_addNode_16 : decode cX1_addNode 16 = .ok (.getfield 19, 3) := by decide +kernel
theorem dX1_addNode_19 : decode cX1_addNode 19 = .ok (.iload_n 3, 1) := by decide +kernel
theorem dX1_addNode_20 : decode cX1_addNode 20 = .ok (.iconst 0, 1) := by decide +kernel
theorem dX1_addNode_21 : decode cX1_addNode 21 = .ok (.iastore, 1) := by decide +kernel
theorem dX1_addNode_22 : decode cX1_addNode 22 = .ok (.aload_n 0, 1) := by decide +kernel
theorem dX1_addNode_23 : decode cX1_addNode 23 = .ok (.iload_n 3, 1) := by decide +kernel
theorem dX1_addNode_24 : decode cX1_addNode 24 = .ok (.iload_n 1, 1) := by decide +kernel
theorem dX1_addNode_25 : decode cX1_addNode 25 = .ok (.iload_n 2, 1) := by decide +kernel
theorem dX1_addNode_26 : decode cX1_addNode 26 = .ok (.invokevirtual 39, 3) := by decide +kernel
theorem dX1_addNode_29 : decode cX1_addNode 29 = .ok (.iload_n 3, 1) := by decide +kernel
theorem dX1_addNode_30 : decode cX1_addNode 30 = .ok (.ireturn, 1) := by decide +kernel
theorem dX1_setValue_0 : decode cX1_setValue 0 = .ok (.aload_n 0, 1) := by decide +kernel
theorem dX1_setValue_1 : decode cX1_setValue 1 = .ok (.getfield 9, 3) := by decide +kernel
theorem dX1_setValue_4 : decode cX1_setValue 4 = .ok (.iload_n 1, 1) := by decide +kernel
theorem dX1_setValue_5 : decode cX1_setValue 5 = .ok (.iload_n 2, 1) := by decide +kernel
theorem dX1_setValue_6 : decode cX1_setValue 6 = .ok (.bastore, 1) := by decide +kernel
theorem dX1_setValue_7 : decode cX1_setValue 7 = .ok (.aload_n 0, 1) := by decide +kernel
theorem dX1_setValue_8 : decode cX1_setValue 8 = .ok (.getfield 15, 3) := by decide +kernel
theorem dX1_setValue_11 : decode cX1_setValue 11 = .ok (.iload_n 1, 1) := by decide +kernel
theorem dX1_setValue_12 : decode cX1_setValue 12 = .ok (.iload_n 3, 1) := by decide +kernel
theorem dX1_setValue_13 : decode cX1_setValue 13 = .ok (.iastore, 1) := by decide +kernel
theorem dX1_setValue_14 : decode cX1_setValue 14 = .ok (.return_, 1) := by decide +kernel
theorem dX1_placeOf_0 : decode cX1_placeOf 0 = .ok (.iload_n 1, 1) := by decide +kernel
theorem dX1_placeOf_1 : decode cX1_placeOf 1 = .ok (.iconst 5, 1) := by decide +kernel
theorem dX1_placeOf_2 : decode cX1_placeOf 2 = .ok (.imul, 1) := by decide +kernel
theorem dX1_placeOf_3 : decode cX1_placeOf 3 = .ok (.istore 4, 2) := by decide +kernel
theorem dX1_placeOf_5 : decode cX1_placeOf 5 = .ok (.iconst 0, 1) := by decide +kernel
theorem dX1_placeOf_6 : decode cX1_placeOf 6 = .ok (.istore 5, 2) := by decide +kernel
theorem dX1_placeOf_8 : decode cX1_placeOf 8 = .ok (.iload 5, 2) := by decide +kernel
theorem dX1_placeOf_10 : decode cX1_placeOf 10 = .ok (.aload_n 0, 1) := by decide +kernel
theorem dX1_placeOf_11 : decode cX1_placeOf 11 = .ok (.getfield 19, 3) := by decide +kernel
theorem dX1_placeOf_14 : decode cX1_placeOf 14 = .ok (.iload_n 1, 1) := by decide +kernel
theorem dX1_placeOf_15 : decode cX1_placeOf 15 = .ok (.iaload, 1) := by decide +kernel
theorem dX1_placeOf_16 : decode cX1_placeOf 16 = .ok (.if_icmp .ge 40, 3) := by decide +kernel
theorem dX1_placeOf_19 : decode cX1_placeOf 19 = .ok (.aload_n 0, 1) := by decide +kernel
theorem dX1_placeOf_20 : decode cX1_placeOf 20 = .ok (.getfield 22, 3) := by decide +kernel
theorem dX1_placeOf_23 : decode cX1_placeOf 23 = .ok (.iload 4, 2) := by decide +kernel
theorem dX1_placeOf_25 : decode cX1_placeOf 25 = .ok (.iload 5, 2) := by decide +kernel
theorem dX1_placeOf_27 : decode cX1_placeOf 27 = .ok (.iadd, 1) := by decide +kernel
theorem dX1_placeOf_28 : decode cX1_placeOf 28 = .ok (.iaload, 1) := by decide +kernel
theorem dX1_placeOf_29 : decode cX1_placeOf 29 = .ok (.iload_n 2, 1) := by decide +kernel
theorem dX1_placeOf_30 : decode cX1_placeOf 30 = .ok (.if_icmp .ne 20, 3) := by decide +kernel
theorem dX1_placeOf_33 : decode cX1_placeOf 33 = .ok (.aload_n 0, 1) := by decide +kernel
theorem dX1_placeOf_34 : decode cX1_placeOf 34 = .ok (.getfield 25, 3) := by decide +kernel
theorem dX1_placeOf_37 : decode cX1_placeOf 37 = .ok (.iload 4, 2) := by decide +kernel
theorem dX1_placeOf_39 : decode cX1_placeOf 39 = .ok (.iload 5, 2) := by decide +kernel
theorem dX1_placeOf_41 : decode cX1_placeOf 41 = .ok (.iadd, 1) := by decide +kernel
theorem dX1_placeOf_42 : decode cX1_placeOf 42 = .ok (.iaload, 1) := by decide +kernel
theorem dX1_placeOf_43 : decode cX1_placeOf 43 = .ok (.iload_n 3, 1) := by decide +kernel
theorem dX1_placeOf_44 : decode cX1_placeOf 44 = .ok (.if_icmp .ne 6, 3) := by decide +kernel
theorem dX1_placeOf_47 : decode cX1_placeOf 47 = .ok (.iload 5, 2) := by decide +kernel
theorem dX1_placeOf_49 : decode cX1_placeOf 49 = .ok (.ireturn, 1) := by decide +kernel
theorem dX1_placeOf_50 : decode cX1_placeOf 50 = .ok (.iinc 5 1, 3) := by decide +kernel
theorem dX1_placeOf_53 : decode cX1_placeOf 53 = .ok (.goto (-45), 3) := by decide +kernel
theorem dX1_placeOf_56 : decode cX1_placeOf 56 = .ok (.iconst (-1), 1) := by decide +kernel
theorem dX1_placeOf_57 : decode cX1_placeOf 57 = .ok (.ireturn, 1) := by decide +kernel
set_option maxRecDepth 20000 in
theorem ggX1_addEdge_X1_isAhead : GoodIn wsX1_addEdge wsX1_isAhead := goodIn_r _ [9, 2, 3, 10, 11, 12, 13, 14, 15, 16] (by decide +kernel) (by decide +kernel)
set_option maxRecDepth 20000 in
theorem gX1_addEdge_X1_isAhead : GoodIn wsX1_addEdge (wsV RX1 43 RX1 yX1_isAhead wsX1_isAhead) := goodIn_app (goodIn_of _ (by decide +kernel)) ggX1_addEdge_X1_isAhead
theorem dX1_addEdge_0 : decode cX1_addEdge 0 = .ok (.iload_n 1, 1) := by decide +kernel
theorem dX1_addEdge_1 : decode cX1_addEdge 1 = .ok (.iconst 5, 1) := by decide +kernel
theorem dX1_addEdge_2 : decode cX1_addEdge 2 = .ok (.imul, 1) := by decide +kernel
theorem dX1_addEdge_3 : decode cX1_addEdge 3 = .ok (.aload_n 0, 1) := by decide +kernel
theorem dX1_addEdge_4 : decode cX1_addEdge 4 = .ok (.getfield 19, 3) := by decide +kernel
theorem dX1_addEdge_7 : decode cX1_addEdge 7 = .ok (.iload_n 1, 1) := by decide +kernel
theorem dX1_addEdge_8 : decode cX1_addEdge 8 = .ok (.iaload, 1) := by decide +kernel
theorem dX1_addEdge_9 : decode cX1_addEdge 9 = .ok (.iadd, 1) := by decide +kernel
theorem dX1_addEdge_10 : decode cX1_addEdge 10 = .ok (.istore 4, 2) := by decide +kernel
theorem dX1_addEdge_12 : decode cX1_addEdge 12 = .ok (.iload_n 1, 1) := by decide +kernel
theorem dX1_addEdge_13 : decode cX1_addEdge 13 = .ok (.iconst 5, 1) := by decide +kernel
theorem dX1_addEdge_14 : decode cX1_addEdge 14 = .ok (.imul, 1) := by decide +kernel
theorem dX1_addEdge_15 : decode cX1_addEdge 15 = .ok (.istore 5, 2) := by decide +kernel
theorem dX1_addEdge_17 : decode cX1_addEdge 17 = .ok (.iload 4, 2) := by decide +kernel
theorem dX1_addEdge_19 : decode cX1_addEdge 19 = .ok (.iload 5, 2) := by decide +kernel
theorem dX1_addEdge_21 : decode cX1_addEdge 21 = .ok (.if_icmp .le 54, 3) := by decide +kernel
theorem dX1_addEdge_24 : decode cX1_addEdge 24 = .ok (.aload_n 0, 1) := by decide +kernel
theorem dX1_addEdge_25 : decode cX1_addEdge 25 = .ok (.iload_n 2, 1) := by decide +kernel
theorem dX1_addEdge_26 : decode cX1_addEdge 26 = .ok (.iload_n 3, 1) := by decide +kernel
theorem dX1_addEdge_27 : decode cX1_addEdge 27 = .ok (.iload 4, 2) := by decide +kernel
theorem dX1_addEdge_29 : decode cX1_addEdge 29 = .ok (.iconst 1, 1) := by decide +kernel
theorem dX1_addEdge_30 : decode cX1_addEdge 30 = .ok (.isub, 1) := by decide +kernel
theorem dX1_addEdge_31 : decode cX1_addEdge 31 = .ok (.invokevirtual 43, 3) := by decide +kernel
theorem dX1_addEdge_34 : decode cX1_addEdge 34 = .ok (.ifCond .eq 41, 3) := by decide +kernel
theorem dX1_addEdge_37 : decode cX1_addEdge 37 = .ok (.aload_n 0, 1) := by decide +kernel
theorem dX1_addEdge_38 : decode cX1_addEdge 38 = .ok (.getfield 22, 3) := by decide +kernel
theorem dX1_addEdge_41 : decode cX1_addEdge 41 = .ok (.iload 4, 2) := by decide +kernel
theorem dX1_addEdge_43 : decode cX1_addEdge 43 = .ok (.aload_n 0, 1) := by decide +kernel
theorem dX1_addEdge_44 : decode cX1_addEdge 44 = .ok (.getfield 22, 3) := by decide +kernel
theorem dX1_addEdge_47 : decode cX1_addEdge 47 = .ok (.iload 4, 2) := by decide +kernel
theorem dX1_addEdge_49 : decode cX1_addEdge 49 = .ok (.iconst 1, 1) := by decide +kernel
theorem dX1_addEdge_50 : decode cX1_addEdge 50 = .ok (.isub, 1) := by decide +kernel
theorem dX1_addEdge_51 : decode cX1_addEdge 51 = .ok (.iaload, 1) := by decide +kernel
theorem dX1_addEdge_52 : decode cX1_addEdge 52 = .ok (.iastore, 1) := by decide +kernel
theorem dX1_addEdge_53 : decode cX1_addEdge 53 = .ok (.aload_n 0, 1) := by decide +kernel
theorem dX1_addEdge_54 : decode cX1_addEdge 54 = .ok (.getfield 25, 3) := by decide +kernel
theorem dX1_addEdge_57 : decode cX1_addEdge 57 = .ok (.iload 4, 2) := by decide +kernel
theorem dX1_addEdge_59 : decode cX1_addEdge 59 = .ok (.aload_n 0, 1) := by decide +kernel
theorem dX1_addEdge_60 : decode cX1_addEdge 60 = .ok (.getfield 25, 3) := by decide +kernel
theorem dX1_addEdge_63 : decode cX1_addEdge 63 = .ok (.iload 4, 2) := by decide +kernel
theorem dX1_addEdge_65 : decode cX1_addEdge 65 = .ok (.iconst 1, 1) := by decide +kernel
theorem dX1_addEdge_66 : decode cX1_addEdge 66 = .ok (.isub, 1) := by decide +kernel
theorem dX1_addEdge_67 : decode cX1_addEdge 67 = .ok (.iaload, 1) := by decide +kernel
theorem dX1_addEdge_68 : decode cX1_addEdge 68 = .ok (.iastore, 1) := by decide +kernel
theorem dX1_addEdge_69 : decode cX1_addEdge 69 = .ok (.iinc 4 (-1), 3) := by decide +kernel
theorem dX1_addEdge_72 : decode cX1_addEdge 72 = .ok (.goto (-55), 3) := by decide +kernel
theorem dX1_addEdge_75 : decode cX1_addEdge 75 = .ok (.aload_n 0, 1) := by decide +kernel
theorem dX1_addEdge_76 : decode cX1_addEdge 76 = .ok (.getfield 22, 3) := by decide +kernel
theorem dX1_addEdge_79 : decode cX1_addEdge 79 = .ok (.iload 4, 2) := by decide +kernel
theorem dX1_addEdge_81 : decode cX1_addEdge 81 = .ok (.iload_n 2, 1) := by decide +kernel
theorem dX1_addEdge_82 : decode cX1_addEdge 82 = .ok (.iastore, 1) := by decide +kernel
theorem dX1_addEdge_83 : decode cX1_addEdge 83 = .ok (.aload_n 0, 1) := by decide +kernel
theorem dX1_addEdge_84 : decode cX1_addEdge 84 = .ok (.getfield 25, 3) := by decide +kernel
theorem dX1_addEdge_87 : decode cX1_addEdge 87 = .ok (.iload 4, 2) := by decide +kernel
theorem dX1_addEdge_89 : decode cX1_addEdge 89 = .ok (.iload_n 3, 1) := by decide +kernel
theorem dX1_addEdge_90 : decode cX1_addEdge 90 = .ok (.iastore, 1) := by decide +kernel
theorem dX1_addEdge_91 : decode cX1_addEdge 91 = .ok (.aload_n 0, 1) := by decide +kernel
theorem dX1_addEdge_92 : decode cX1_addEdge 92 = .ok (.getfield 19, 3) := by decide +kernel
theorem dX1_addEdge_95 : decode cX1_addEdge 95 = .ok (.iload_n 1, 1) := by decide +kernel
theorem dX1_addEdge_96 : decode cX1_addEdge 96 = .ok (.dup2, 1) := by decide +kernel
theorem dX1_addEdge_97 : decode cX1_addEdge 97 = .ok (.iaload, 1) := by decide +kernel
theorem dX1_addEdge_98 : decode cX1_addEdge 98 = .ok (.iconst 1, 1) := by decide +kernel
theorem dX1_addEdge_99 : decode cX1_addEdge 99 = .ok (.iadd, 1) := by decide +kernel
theorem dX1_addEdge_100 : decode cX1_addEdge 100 = .ok (.iastore, 1) := by decide +kernel
theorem dX1_addEdge_101 : decode cX1_addEdge 101 = .ok (.aload_n 0, 1) := by decide +kernel
theorem dX1_addEdge_102 : decode cX1_addEdge 102 = .ok (.dup, 1) := by decide +kernel
theorem dX1_addEdge_103 : decode cX1_addEdge 103 = .ok (.getfield 36, 3) := by decide +kernel
theorem dX1_addEdge_106 : decode cX1_addEdge 106 = .ok (.iconst 1, 1) := by decide +kernel
theorem dX1_addEdge_107 : decode cX1_addEdge 107 = .ok (.iadd, 1) := by decide +kernel
theorem dX1_addEdge_108 : decode cX1_addEdge 108 = .ok (.putfield 36, 3) := by decide +kernel
theorem dX1_addEdge_111 : decode cX1_addEdge 111 = .ok (.return_, 1) := by decide +kernel
theorem dX1_removeEdge_0 : decode cX1_removeEdge 0 = .ok (.iload_n 1, 1) := by decide +kernel
theorem dX1_removeEdge_1 : decode cX1_removeEdge 1 = .ok (.iconst 5, 1) := by decide +kernel
theorem dX1_removeEdge_2 : decode cX1_removeEdge 2 = .ok (.imul, 1) := by decide +kernel
theorem dX1_removeEdge_3 : decode cX1_removeEdge 3 = .ok (.istore_n 3, 1) := by decide +kernel
theorem dX1_removeEdge_4 : decode cX1_removeEdge 4 = .ok (.iload_n 2, 1) := by decide +kernel
theorem dX1_removeEdge_5 : decode cX1_removeEdge 5 = .ok (.iconst 1, 1) := by decide +kernel
theorem dX1_removeEdge_6 : decode cX1_removeEdge 6 = .ok (.iadd, 1) := by decide +kernel
theorem dX1_removeEdge_7 : decode cX1_removeEdge 7 = .ok (.istore 4, 2) := by decide +kernel
theorem dX1_removeEdge_9 : decode cX1_removeEdge 9 = .ok (.iload 4, 2) := by decide +kernel
theorem dX1_removeEdge_11 : decode cX1_removeEdge 11 = .ok (.aload_n 0, 1) := by decide +kernel
theorem dX1_removeEdge_12 : decode cX1_removeEdge 12 = .ok (.getfield 19, 3) := by decide +kernel
theorem dX1_removeEdge_15 : decode cX1_removeEdge 15 = .ok (.iload_n 1, 1) := by decide +kernel
theorem dX1_removeEdge_16 : decode cX1_removeEdge 16 = .ok (.iaload, 1) := by decide +kernel
theorem dX1_removeEdge_17 : decode cX1_removeEdge 17 = .ok (.if_icmp .ge 49, 3) := by decide +kernel
theorem dX1_removeEdge_20 : decode cX1_removeEdge 20 = .ok (.aload_n 0, 1) := by decide +kernel
theorem dX1_removeEdge_21 : decode cX1_removeEdge 21 = .ok (.getfield 22, 3) := by decide +kernel
theorem dX1_removeEdge_24 : decode cX1_removeEdge 24 = .ok (.iload_n 3, 1) := by decide +kernel
theorem dX1_removeEdge_25 : decode cX1_removeEdge 25 = .ok (.iload 4, 2) := by decide +kernel
theorem dX1_removeEdge_27 : decode cX1_removeEdge 27 = .ok (.iadd, 1) := by decide +kernel
theorem dX1_removeEdge_28 : decode cX1_removeEdge 28 = .ok (.iconst 1, 1) := by decide +kernel
theorem dX1_removeEdge_29 : decode cX1_removeEdge 29 = .ok (.isub, 1) := by decide +kernel
theorem dX1_removeEdge_30 : decode cX1_removeEdge 30 = .ok (.aload_n 0, 1) := by decide +kernel
theorem dX1_removeEdge_31 : decode cX1_removeEdge 31 = .ok (.getfield 22, 3) := by decide +kernel
theorem dX1_removeEdge_34 : decode cX1_removeEdge 34 = .ok (.iload_n 3, 1) := by decide +kernel
theorem dX1_removeEdge_35 : decode cX1_removeEdge 35 = .ok (.iload 4, 2) := by decide +kernel
theorem dX1_removeEdge_37 : decode cX1_removeEdge 37 = .ok (.iadd, 1) := by decide +kernel
theorem dX1_removeEdge_38 : decode cX1_removeEdge 38 = .ok (.iaload, 1) := by decide +kernel
theorem dX1_removeEdge_39 : decode cX1_removeEdge 39 = .ok (.iastore, 1) := by decide +kernel
theorem dX1_removeEdge_40 : decode cX1_removeEdge 40 = .ok (.aload_n 0, 1) := by decide +kernel
theorem dX1_removeEdge_41 : decode cX1_removeEdge 41 = .ok (.getfield 25, 3) := by decide +kernel
theorem dX1_removeEdge_44 : decode cX1_removeEdge 44 = .ok (.iload_n 3, 1) := by decide +kernel
theorem dX1_removeEdge_45 : decode cX1_removeEdge 45 = .ok (.iload 4, 2) := by decide +kernel
theorem dX1_removeEdge_47 : decode cX1_removeEdge 47 = .ok (.iadd, 1) := by decide +kernel
theorem dX1_removeEdge_48 : decode cX1_removeEdge 48 = .ok (.iconst 1, 1) := by decide +kernel
theorem dX1_removeEdge_49 : decode cX1_removeEdge 49 = .ok (.isub, 1) := by decide +kernel
theorem dX1_removeEdge_50 : decode cX1_removeEdge 50 = .ok (.aload_n 0, 1) := by decide +kernel
theorem dX1_removeEdge_51 : decode cX1_removeEdge 51 = .ok (.getfield 25, 3) := by decide +kernel
theorem dX1_removeEdge_54 : decode cX1_removeEdge 54 = .ok (.iload_n 3, 1) := by decide +kernel
theorem dX1_removeEdge_55 : decode cX1_removeEdge 55 = .ok (.iload 4, 2) := by decide +kernel
theorem dX1_removeEdge_57 : decode cX1_removeEdge 57 = .ok (.iadd, 1) := by decide +kernel
theorem dX1_removeEdge_58 : decode cX1_removeEdge 58 = .ok (.iaload, 1) := by decide +kernel
theorem dX1_removeEdge_59 : decode cX1_removeEdge 59 = .ok (.iastore, 1) := by decide +kernel
theorem dX1_removeEdge_60 : decode cX1_removeEdge 60 = .ok (.iinc 4 1, 3) := by decide +kernel
theorem dX1_removeEdge_63 : decode cX1_removeEdge 63 = .ok (.goto (-54), 3) := by decide +kernel
theorem dX1_removeEdge_66 : decode cX1_removeEdge 66 = .ok (.aload_n 0, 1) := by decide +kernel
theorem dX1_removeEdge_67 : decode cX1_removeEdge 67 = .ok (.getfield 19, 3) := by decide +kernel
theorem dX1_removeEdge_70 : decode cX1_removeEdge 70 = .ok (.iload_n 1, 1) := by decide +kernel
theorem dX1_removeEdge_71 : decode cX1_removeEdge 71 = .ok (.dup2, 1) := by decide +kernel
theorem dX1_removeEdge_72 : decode cX1_removeEdge 72 = .ok (.iaload, 1) := by decide +kernel
theorem dX1_removeEdge_73 : decode cX1_removeEdge 73 = .ok (.iconst 1, 1) := by decide +kernel
theorem dX1_removeEdge_74 : decode cX1_removeEdge 74 = .ok (.isub, 1) := by decide +kernel
theorem dX1_removeEdge_75 : decode cX1_removeEdge 75 = .ok (.iastore, 1) := by decide +kernel
theorem dX1_removeEdge_76 : decode cX1_removeEdge 76 = .ok (.aload_n 0, 1) := by decide +kernel
theorem dX1_removeEdge_77 : decode cX1_removeEdge 77 = .ok (.dup, 1) := by decide +kernel
theorem dX1_removeEdge_78 : decode cX1_removeEdge 78 = .ok (.getfield 36, 3) := by decide +kernel
theorem dX1_removeEdge_81 : decode cX1_removeEdge 81 = .ok (.iconst 1, 1) := by decide +kernel
theorem dX1_removeEdge_82 : decode cX1_removeEdge 82 = .ok (.isub, 1) := by decide +kernel
theorem dX1_removeEdge_83 : decode cX1_removeEdge 83 = .ok (.putfield 36, 3) := by decide +kernel
theorem dX1_removeEdge_86 : decode cX1_removeEdge 86 = .ok (.return_, 1) := by decide +kernel
theorem dX1_isAhead_0 : decode cX1_isAhead 0 = .ok (.iload_n 1, 1) := by decide +kernel
theorem dX1_isAhead_1 : decode cX1_isAhead 1 = .ok (.aload_n 0, 1) := by decide +kernel
theorem dX1_isAhead_2 : decode cX1_isAhead 2 = .ok (.getfield 22, 3) := by decide +kernel
theorem dX1_isAhead_5 : decode cX1_isAhead 5 = .ok (.iload_n 3, 1) := by decide +kernel
theorem dX1_isAhead_6 : decode cX1_isAhead 6 = .ok (.iaload, 1) := by decide +kernel
theorem dX1_isAhead_7 : decode cX1_isAhead 7 = .ok (.if_icmp .lt 23, 3) := by decide +kernel
theorem dX1_isAhead_10 : decode cX1_isAhead 10 = .ok (.iload_n 1, 1) := by decide +kernel
theorem dX1_isAhead_11 : decode cX1_isAhead 11 = .ok (.aload_n 0, 1) := by decide +kernel
theorem dX1_isAhead_12 : decode cX1_isAhead 12 = .ok (.getfield 22, 3) := by decide +kernel
theorem dX1_isAhead_15 : decode cX1_isAhead 15 = .ok (.iload_n 3, 1) := by decide +kernel
theorem dX1_isAhead_16 : decode cX1_isAhead 16 = .ok (.iaload, 1) := by decide +kernel
theorem dX1_isAhead_17 : decode cX1_isAhead 17 = .ok (.if_icmp .ne 17, 3) := by decide +kernel
theorem dX1_isAhead_20 : decode cX1_isAhead 20 = .ok (.iload_n 2, 1) := by decide +kernel
theorem dX1_isAhead_21 : decode cX1_isAhead 21 = .ok (.aload_n 0, 1) := by decide +kernel
theorem dX1_isAhead_22 : decode cX1_isAhead 22 = .ok (.getfield 25, 3) := by decide +kernel
theorem dX1_isAhead_25 : decode cX1_isAhead 25 = .ok (.iload_n 3, 1) := by decide +kernel
theorem dX1_isAhead_26 : decode cX1_isAhead 26 = .ok (.iaload, 1) := by decide +kernel
theorem dX1_isAhead_27 : decode cX1_isAhead 27 = .ok (.if_icmp .ge 7, 3) := by decide +kernel
theorem dX1_isAhead_30 : decode cX1_isAhead 30 = .ok (.iconst 1, 1) := by decide +kernel
theorem dX1_isAhead_31 : decode cX1_isAhead 31 = .ok (.goto 4, 3) := by decide +kernel
theorem dX1_isAhead_34 : decode cX1_isAhead 34 = .ok (.iconst 0, 1) := by decide +kernel
theorem dX1_isAhead_35 : decode cX1_isAhead 35 = .ok (.ireturn, 1) := by decide +kernel
theorem dX2_init_0 : decode cX2_init 0 = .ok (.aload_n 0, 1) := by decide +kernel
theorem dX2_init_1 : decode cX2_init 1 = .ok (.invokespecial 3, 3) := by decide +kernel
theorem dX2_init_4 : decode cX2_init 4 = .ok (.aload_n 0, 1) := by decide +kernel
theorem dX2_init_5 : decode cX2_init 5 = .ok (.bipush 6, 2) := by decide +kernel
theorem dX2_init_7 : decode cX2_init 7 = .ok (.newarray .int, 2) := by decide +kernel
theorem dX2_init_9 : decode cX2_init 9 = .ok (.putfield 9, 3) := by decide +kernel
theorem dX2_init_12 : decode cX2_init 12 = .ok (.aload_n 0, 1) := by decide +kernel
theorem dX2_init_13 : decode cX2_init 13 = .ok (.bipush 6, 2) := by decide +kernel
theorem dX2_init_15 : decode cX2_init 15 = .ok (.newarray .int, 2) := by decide +kernel
theorem dX2_init_17 : decode cX2_init 17 = .ok (.putfield 15, 3) := by decide +kernel
theorem dX2_init_20 : decode cX2_init 20 = .ok (.aload_n 0, 1) := by decide +kernel
theorem dX2_init_21 : decode cX2_init 21 = .ok (.iconst 5, 1) := by decide +kernel
theorem dX2_init_22 : decode cX2_init 22 = .ok (.newarray .int, 2) := by decide +kernel
theorem dX2_init_24 : decode cX2_init 24 = .ok (.putfield 18, 3) := by decide +kernel
theorem dX2_init_27 : decode cX2_init 27 = .ok (.aload_n 0, 1) := by decide +kernel
theorem dX2_init_28 : decode cX2_init 28 = .ok (.bipush 6, 2) := by decide +kernel
theorem dX2_init_30 : decode cX2_init 30 = .ok (.newarray .int, 2) := by decide +kernel
theorem dX2_init_32 : decode cX2_init 32 = .ok (.putfield 21, 3) := by decide +kernel
theorem dX2_init_35 : decode cX2_init 35 = .ok (.aload_n 0, 1) := by decide +kernel
theorem dX2_init_36 : decode cX2_init 36 = .ok (.aload_n 1, 1) := by decide +kernel
theorem dX2_init_37 : decode cX2_init 37 = .ok (.putfield 24, 3) := by decide +kernel
theorem dX2_init_40 : decode cX2_init 40 = .ok (.aload_n 0, 1) := by decide +kernel
theorem dX2_init_41 : decode cX2_init 41 = .ok (.aload_n 2, 1) := by decide +kernel
theorem dX2_init_42 : decode cX2_init 42 = .ok (.putfield 28, 3) := by decide +kernel
theorem dX2_init_45 : decode cX2_init 45 = .ok (.iconst 0, 1) := by decide +kernel
theorem dX2_init_46 : decode cX2_init 46 = .ok (.istore_n 3, 1) := by decide +kernel
theorem dX2_init_47 : decode cX2_init 47 = .ok (.iload_n 3, 1) := by decide +kernel
theorem dX2_init_48 : decode cX2_init 48 = .ok (.iconst 5, 1) := by decide +kernel
theorem dX2_init_49 : decode cX2_init 49 = .ok (.if_icmp .ge 17, 3) := by decide +kernel
theorem dX2_init_52 : decode cX2_init 52 = .ok (.aload_n 0, 1) := by decide +kernel
theorem dX2_init_53 : decode cX2_init 53 = .ok (.getfield 18, 3) := by decide +kernel
theorem dX2_init_56 : decode cX2_init 56 = .ok (.iload_n 3, 1) := by decide +kernel
theorem dX2_init_57 : decode cX2_init 57 = .ok (.bipush 63, 2) := by decide +kernel
theorem dX2_init_59 : decode cX2_init 59 = .ok (.iastore, 1) := by decide +kernel
theorem dX2_init_60 : decode cX2_init 60 = .ok (.iinc 3 1, 3) := by decide +kernel
theorem dX2_init_63 : decode cX2_init 63 = .ok (.goto (-16), 3) := by decide +kernel
theorem dX2_init_66 : decode cX2_init 66 = .ok (.return_, 1) := by decide +kernel
set_option maxRecDepth 20000 in
theorem ggX2_follow_X2_forget : GoodIn wsX2_follow wsX2_forget := goodIn_r _ [6, 7, 8, 9, 10, 11, 12, 13, 14, 15, 16, 17, 18] (by decide +kernel) (by decide +kernel)
set_option maxRecDepth 20000 in
theorem gX2_follow_X2_forget : GoodIn wsX2_follow (wsV RX2 32 RX2 yX2_forget wsX2_forget) := goodIn_app (goodIn_of _ (by decide +kernel)) ggX2_follow_X2_forget
theorem dX2_follow_0 : decode cX2_follow 0 = .ok (.aload_n 0, 1) := by decide +kernel
theorem dX2_follow_1 : decode cX2_follow 1 = .ok (.aload_n 1, 1) := by decide +kernel
theorem dX2_follow_2 : decode cX2_follow 2 = .ok (.putfield 28, 3) := by decide +kernel
theorem dX2_follow_5 : decode cX2_follow 5 = .ok (.aload_n 0, 1) := by decide +kernel
theorem dX2_follow_6 : decode cX2_follow 6 = .ok (.invokevirtual 32, 3) := by decide +kernel
theorem dX2_follow_9 : decode cX2_follow 9 = .ok (.return_, 1) := by decide +kernel
theorem dX2_forget_0 : decode cX2_forget 0 = .ok (.aload_n 0, 1) := by decide +kernel
theorem dX2_forget_1 : decode cX2_forget 1 = .ok (.iconst 0, 1) := by decide +kernel
theorem dX2_forget_2 : decode cX2_forget 2 = .ok (.putfield 35, 3) := by decide +kernel
theorem dX2_forget_5 : decode cX2_forget 5 = .ok (.aload_n 0, 1) := by decide +kernel
theorem dX2_forget_6 : decode cX2_forget 6 = .ok (.iconst 0, 1) := by decide +kernel
theorem dX2_forget_7 : decode cX2_forget 7 = .ok (.putfield 39, 3) := by decide +kernel
theorem dX2_forget_10 : decode cX2_forget 10 = .ok (.return_, 1) := by decide +kernel
set_option maxRecDepth 20000 in
theorem ggX2_readFits_X0_hasShape : GoodIn wsX2_readFits wsX0_hasShape := goodIn_r _ [10, 11, 85, 86, 87, 88, 89, 90, 91, 92, 93, 94, 95, 96, 97, 98, 99, 100] (by decide +kernel) (by decide +kernel)
set_option maxRecDepth 20000 in
theorem gX2_readFits_X0_hasShape : GoodIn wsX2_readFits (wsV RX2 42 RX0 yX0_hasShape wsX0_hasShape) := goodIn_app (goodIn_of _ (by decide +kernel)) ggX2_readFits_X0_hasShape
set_option maxRecDepth 20000 in
theorem ggX2_readFits_X2_dropUnfit : GoodIn wsX2_readFits wsX2_dropUnfit := goodIn_r _ [16, 3, 17, 4, 5, 18, 2, 19, 20, 21, 15, 22, 23, 24, 25, 26, 27, 28, 29, 30, 31, 32, 33, 34, 35, 36, 37, 38, 39, 40, 41, 42, 43, 44, 45, 46, 47, 48, 49, 50, 51, 52, 53, 54, 55, 56, 57, 58, 59, 60, 61, 62, 63, 64, 65, 66, 67, 68, 69, 70, 71, 72, 73, 74, 75, 76, 77, 85, 86, 87, 88, 89, 90, 91, 92, 93, 94, 95, 96, 97, 98, 99, 100, 78, 79, 80, 81, 82, 83, 84] (by decide +kernel) (by decide +kernel)
set_option maxRecDepth 20000 in
theorem gX2_readFits_X2_dropUnfit : GoodIn wsX2_readFits (wsV RX2 54 RX2 yX2_dropUnfit wsX2_dropUnfit) := goodIn_app (goodIn_of _ (by decide +kernel)) ggX2_readFits_X2_dropUnfit
theorem dX2_readFits_0 : decode cX2_readFits 0 = .ok (.aload_n 0, 1) := by decide +kernel
theorem dX2_readFits_1 : decode cX2_readFits 1 = .ok (.getfield 35, 3) := by decide +kernel
theorem dX2_readFits_4 : decode cX2_readFits 4 = .ok (.ifCond .eq 4, 3) := by decide +kernel
theorem dX2_readFits_7 : decode cX2_readFits 7 = .ok (.return_, 1) := by decide +kernel
theorem dX2_readFits_8 : decode cX2_readFits 8 = .ok (.iconst 0, 1) := by decide +kernel
theorem dX2_readFits_9 : decode cX2_readFits 9 = .ok (.istore_n 1, 1) := by decide +kernel
theorem dX2_readFits_10 : decode cX2_readFits 10 = .ok (.iload_n 1, 1) := by decide +kernel
theorem dX2_readFits_11 : decode cX2_readFits 11 = .ok (.bipush 6, 2) := by decide +kernel
theorem dX2_readFits_13 : decode cX2_readFits 13 = .ok (.if_icmp .ge 41, 3) := by decide +kernel
theorem dX2_readFits_16 : decode cX2_readFits 16 = .ok (.aload_n 0, 1) := by decide +kernel
theorem dX2_readFits_17 : decode cX2_readFits 17 = .ok (.getfield 9, 3) := by decide +kernel
theorem dX2_readFits_20 : decode cX2_readFits 20 = .ok (.iload_n 1, 1) := by decide +kernel
theorem dX2_readFits_21 : decode cX2_readFits 21 = .ok (.aload_n 0, 1) := by decide +kernel
theorem dX2_readFits_22 : decode cX2_readFits 22 = .ok (.getfield 28, 3) := by decide +kernel
theorem dX2_readFits_25 : decode cX2_readFits 25 = .ok (.iload_n 1, 1) := by decide +kernel
theorem dX2_readFits_26 : decode cX2_readFits 26 = .ok (.invokevirtual 42, 3) := by decide +kernel
theorem dX2_readFits_29 : decode cX2_readFits 29 = .ok (.ifCond .eq 17, 3) := by decide +kernel
theorem dX2_readFits_32 : decode cX2_readFits 32 = .ok (.iconst 1, 1) := by decide +kernel
theorem dX2_readFits_33 : decode cX2_readFits 33 = .ok (.aload_n 0, 1) := by decide +kernel
theorem dX2_readFits_34 : decode cX2_readFits 34 = .ok (.getfield 24, 3) := by decide +kernel
theorem dX2_readFits_37 : decode cX2_readFits 37 = .ok (.getfield 48, 3) := by decide +kernel
theorem dX2_readFits_40 : decode cX2_readFits 40 = .ok (.ishl, 1) := by decide +kernel
theorem dX2_readFits_41 : decode cX2_readFits 41 = .ok (.iconst 1, 1) := by decide +kernel
theorem dX2_readFits_42 : decode cX2_readFits 42 = .ok (.isub, 1) := by decide +kernel
theorem dX2_readFits_43 : decode cX2_readFits 43 = .ok (.goto 4, 3) := by decide +kernel
theorem dX2_readFits_46 : decode cX2_readFits 46 = .ok (.iconst 0, 1) := by decide +kernel
theorem dX2_readFits_47 : decode cX2_readFits 47 = .ok (.iastore, 1) := by decide +kernel
theorem dX2_readFits_48 : decode cX2_readFits 48 = .ok (.iinc 1 1, 3) := by decide +kernel
theorem dX2_readFits_51 : decode cX2_readFits 51 = .ok (.goto (-41), 3) := by decide +kernel
theorem dX2_readFits_54 : decode cX2_readFits 54 = .ok (.iconst 0, 1) := by decide +kernel
theorem dX2_readFits_55 : decode cX2_readFits 55 = .ok (.istore_n 1, 1) := by decide +kernel
theorem dX2_readFits_56 : decode cX2_readFits 56 = .ok (.iload_n 1, 1) := by decide +kernel
theorem dX2_readFits_57 : decode cX2_readFits 57 = .ok (.bipush 6, 2) := by decide +kernel
theorem dX2_readFits_59 : decode cX2_readFits 59 = .ok (.if_icmp .ge 35, 3) := by decide +kernel
theorem dX2_readFits_62 : decode cX2_readFits 62 = .ok (.iconst 1, 1) := by decide +kernel
theorem dX2_readFits_63 : decode cX2_readFits 63 = .ok (.istore_n 2, 1) := by decide +kernel
theorem dX2_readFits_64 : decode cX2_readFits 64 = .ok (.iconst 0, 1) := by decide +kernel
theorem dX2_readFits_65 : decode cX2_readFits 65 = .ok (.istore_n 3, 1) := by decide +kernel
theorem dX2_readFits_66 : decode cX2_readFits 66 = .ok (.iload_n 2, 1) := by decide +kernel
theorem dX2_readFits_67 : decode cX2_readFits 67 = .ok (.ifCond .eq 21, 3) := by decide +kernel
theorem dX2_readFits_70 : decode cX2_readFits 70 = .ok (.iload_n 3, 1) := by decide +kernel
theorem dX2_readFits_71 : decode cX2_readFits 71 = .ok (.bipush 60, 2) := by decide +kernel
theorem dX2_readFits_73 : decode cX2_readFits 73 = .ok (.if_icmp .gt 15, 3) := by decide +kernel
theorem dX2_readFits_76 : decode cX2_readFits 76 = .ok (.aload_n 0, 1) := by decide +kernel
theorem dX2_readFits_77 : decode cX2_readFits 77 = .ok (.iload_n 1, 1) := by decide +kernel
theorem dX2_readFits_78 : decode cX2_readFits 78 = .ok (.invokevirtual 54, 3) := by decide +kernel
theorem dX2_readFits_81 : decode cX2_readFits 81 = .ok (.istore_n 2, 1) := by decide +kernel
theorem dX2_readFits_82 : decode cX2_readFits 82 = .ok (.iinc 3 1, 3) := by decide +kernel
theorem dX2_readFits_85 : decode cX2_readFits 85 = .ok (.goto (-19), 3) := by decide +kernel
theorem dX2_readFits_88 : decode cX2_readFits 88 = .ok (.iinc 1 1, 3) := by decide +kernel
theorem dX2_readFits_91 : decode cX2_readFits 91 = .ok (.goto (-35), 3) := by decide +kernel
theorem dX2_readFits_94 : decode cX2_readFits 94 = .ok (.aload_n 0, 1) := by decide +kernel
theorem dX2_readFits_95 : decode cX2_readFits 95 = .ok (.iconst 1, 1) := by decide +kernel
theorem dX2_readFits_96 : decode cX2_readFits 96 = .ok (.putfield 35, 3) := by decide +kernel
theorem dX2_readFits_99 : decode cX2_readFits 99 = .ok (.return_, 1) := by decide +kernel
set_option maxRecDepth 20000 in
theorem ggX2_dropUnfit_X2_suits : GoodIn wsX2_dropUnfit wsX2_suits := goodIn_r _ [11, 1, 12, 13, 14, 15, 10, 16, 3, 17, 18, 19, 20, 21, 22, 23, 24, 25, 26, 27, 28, 29, 30, 31, 32, 33, 34, 35, 36, 37, 38, 39, 40, 41, 42, 43, 44, 45, 6, 46, 47, 48, 49, 50, 51, 52, 53, 54, 55, 56, 57, 58, 59, 60, 61, 62, 63, 64, 65, 66, 67, 68, 69, 70, 71, 72, 73, 74, 75, 76, 77, 78, 79, 80, 81, 82, 83, 84, 85, 86, 87, 88, 89] (by decide +kernel) (by decide +kernel)
set_option maxRecDepth 20000 in
theorem gX2_dropUnfit_X2_suits : GoodIn wsX2_dropUnfit (wsV RX2 63 RX2 yX2_suits wsX2_suits) := goodIn_app (goodIn_of _ (by decide +kernel)) ggX2_dropUnfit_X2_suits
theorem dX2_dropUnfit_0 : decode cX2_dropUnfit 0 = .ok (.iconst 0, 1) := by decide +kernel
theorem dX2_dropUnfit_1 : decode cX2_dropUnfit 1 = .ok (.istore_n 2, 1) := by decide +kernel
theorem dX2_dropUnfit_2 : decode cX2_dropUnfit 2 = .ok (.iconst 0, 1) := by decide +kernel
theorem dX2_dropUnfit_3 : decode cX2_dropUnfit 3 = .ok (.istore_n 3, 1) := by decide +kernel
theorem dX2_dropUnfit_4 : decode cX2_dropUnfit 4 = .ok (.iload_n 3, 1) := by decide +kernel
theorem dX2_dropUnfit_5 : decode cX2_dropUnfit 5 = .ok (.aload_n 0, 1) := by decide +kernel
theorem dX2_dropUnfit_6 : decode cX2_dropUnfit 6 = .ok (.getfield 28, 3) := by decide +kernel
theorem dX2_dropUnfit_9 : decode cX2_dropUnfit 9 = .ok (.getfield 57, 3) := by decide +kernel
theorem dX2_dropUnfit_12 : decode cX2_dropUnfit 12 = .ok (.if_icmp .ge 88, 3) := by decide +kernel
theorem dX2_dropUnfit_15 : decode cX2_dropUnfit 15 = .ok (.iconst 0, 1) := by decide +kernel
theorem dX2_dropUnfit_16 : decode cX2_dropUnfit 16 = .ok (.istore 4, 2) := by decide +kernel
theorem dX2_dropUnfit_18 : decode cX2_dropUnfit 18 = .ok (.iload 4, 2) := by decide +kernel
theorem dX2_dropUnfit_20 : decode cX2_dropUnfit 20 = .ok (.aload_n 0, 1) := by decide +kernel
theorem dX2_dropUnfit_21 : decode cX2_dropUnfit 21 = .ok (.getfield 24, 3) := by decide +kernel
theorem dX2_dropUnfit_24 : decode cX2_dropUnfit 24 = .ok (.getfield 48, 3) := by decide +kernel
theorem dX2_dropUnfit_27 : decode cX2_dropUnfit 27 = .ok (.if_icmp .ge 67, 3) := by decide +kernel
theorem dX2_dropUnfit_30 : decode cX2_dropUnfit 30 = .ok (.aload_n 0, 1) := by decide +kernel
theorem dX2_dropUnfit_31 : decode cX2_dropUnfit 31 = .ok (.getfield 28, 3) := by decide +kernel
theorem dX2_dropUnfit_34 : decode cX2_dropUnfit 34 = .ok (.getfield 60, 3) := by decide +kernel
theorem dX2_dropUnfit_37 : decode cX2_dropUnfit 37 = .ok (.iload_n 3, 1) := by decide +kernel
theorem dX2_dropUnfit_38 : decode cX2_dropUnfit 38 = .ok (.iaload, 1) := by decide +kernel
theorem dX2_dropUnfit_39 : decode cX2_dropUnfit 39 = .ok (.iload_n 1, 1) := by decide +kernel
theorem dX2_dropUnfit_40 : decode cX2_dropUnfit 40 = .ok (.if_icmp .ne 54, 3) := by decide +kernel
theorem dX2_dropUnfit_43 : decode cX2_dropUnfit 43 = .ok (.aload_n 0, 1) := by decide +kernel
theorem dX2_dropUnfit_44 : decode cX2_dropUnfit 44 = .ok (.getfield 9, 3) := by decide +kernel
theorem dX2_dropUnfit_47 : decode cX2_dropUnfit 47 = .ok (.iload_n 3, 1) := by decide +kernel
theorem dX2_dropUnfit_48 : decode cX2_dropUnfit 48 = .ok (.iaload, 1) := by decide +kernel
theorem dX2_dropUnfit_49 : decode cX2_dropUnfit 49 = .ok (.iload 4, 2) := by decide +kernel
theorem dX2_dropUnfit_51 : decode cX2_dropUnfit 51 = .ok (.ishr, 1) := by decide +kernel
theorem dX2_dropUnfit_52 : decode cX2_dropUnfit 52 = .ok (.iconst 1, 1) := by decide +kernel
theorem dX2_dropUnfit_53 : decode cX2_dropUnfit 53 = .ok (.iand, 1) := by decide +kernel
theorem dX2_dropUnfit_54 : decode cX2_dropUnfit 54 = .ok (.ifCond .eq 34, 3) := by decide +kernel
theorem dX2_dropUnfit_57 : decode cX2_dropUnfit 57 = .ok (.aload_n 0, 1) := by decide +kernel
theorem dX2_dropUnfit_58 : decode cX2_dropUnfit 58 = .ok (.iload 4, 2) := by decide +kernel
theorem dX2_dropUnfit_60 : decode cX2_dropUnfit 60 = .ok (.iload_n 3, 1) := by decide +kernel
theorem dX2_dropUnfit_61 : decode cX2_dropUnfit 61 = .ok (.aload_n 0, 1) := by decide +kernel
theorem dX2_dropUnfit_62 : decode cX2_dropUnfit 62 = .ok (.getfield 9, 3) := by decide +kernel
theorem dX2_dropUnfit_65 : decode cX2_dropUnfit 65 = .ok (.invokevirtual 63, 3) := by decide +kernel
theorem dX2_dropUnfit_68 : decode cX2_dropUnfit 68 = .ok (.ifCond .ne 20, 3) := by decide +kernel
theorem dX2_dropUnfit_71 : decode cX2_dropUnfit 71 = .ok (.aload_n 0, 1) := by decide +kernel
theorem dX2_dropUnfit_72 : decode cX2_dropUnfit 72 = .ok (.getfield 9, 3) := by decide +kernel
theorem dX2_dropUnfit_75 : decode cX2_dropUnfit 75 = .ok (.iload_n 3, 1) := by decide +kernel
theorem dX2_dropUnfit_76 : decode cX2_dropUnfit 76 = .ok (.dup2, 1) := by decide +kernel
theorem dX2_dropUnfit_77 : decode cX2_dropUnfit 77 = .ok (.iaload, 1) := by decide +kernel
theorem dX2_dropUnfit_78 : decode cX2_dropUnfit 78 = .ok (.iconst 1, 1) := by decide +kernel
theorem dX2_dropUnfit_79 : decode cX2_dropUnfit 79 = .ok (.iload 4, 2) := by decide +kernel
theorem dX2_dropUnfit_81 : decode cX2_dropUnfit 81 = .ok (.ishl, 1) := by decide +kernel
theorem dX2_dropUnfit_82 : decode cX2_dropUnfit 82 = .ok (.iconst (-1), 1) := by decide +kernel
theorem dX2_dropUnfit_83 : decode cX2_dropUnfit 83 = .ok (.ixor, 1) := by decide +kernel
theorem dX2_dropUnfit_84 : decode cX2_dropUnfit 84 = .ok (.iand, 1) := by decide +kernel
theorem dX2_dropUnfit_85 : decode cX2_dropUnfit 85 = .ok (.iastore, 1) := by decide +kernel
theorem dX2_dropUnfit_86 : decode cX2_dropUnfit 86 = .ok (.iconst 1, 1) := by decide +kernel
theorem dX2_dropUnfit_87 : decode cX2_dropUnfit 87 = .ok (.istore_n 2, 1) := by decide +kernel
theorem dX2_dropUnfit_88 : decode cX2_dropUnfit 88 = .ok (.iinc 4 1, 3) := by decide +kernel
theorem dX2_dropUnfit_91 : decode cX2_dropUnfit 91 = .ok (.goto (-73), 3) := by decide +kernel
theorem dX2_dropUnfit_94 : decode cX2_dropUnfit 94 = .ok (.iinc 3 1, 3) := by decide +kernel
theorem dX2_dropUnfit_97 : decode cX2_dropUnfit 97 = .ok (.goto (-93), 3) := by decide +kernel
theorem dX2_dropUnfit_100 : decode cX2_dropUnfit 100 = .ok (.iload_n 2, 1) := by decide +kernel
theorem dX2_dropUnfit_101 : decode cX2_dropUnfit 101 = .ok (.ireturn, 1) := by decide +kernel
set_option maxRecDepth 20000 in
theorem ggX2_readSure_X2_addSuiting : GoodIn wsX2_readSure wsX2_addSuiting := goodIn_r _ [7, 8, 9, 10, 11, 2, 12, 13, 14, 6, 15, 16, 17, 18, 19, 20, 21, 22, 23, 24, 25, 26, 27, 28, 29, 30, 31, 32, 33, 34, 35, 36, 37, 38, 39, 40, 41, 42, 43, 44, 45, 46, 47, 48, 49, 50, 51, 52, 53, 54, 55, 56, 57, 58, 59, 60, 61, 62, 63, 64, 65, 66, 67, 68, 69, 70, 71, 72, 73, 74, 75, 76, 77, 78, 79, 80, 81, 82, 83, 84, 85, 86, 87, 88, 89, 90, 91, 92, 93, 94] (by decide +kernel) (by decide +kernel)
set_option maxRecDepth 20000 in
theorem gX2_readSure_X2_addSuiting : GoodIn wsX2_readSure (wsV RX2 67 RX2 yX2_addSuiting wsX2_addSuiting) := goodIn_app (goodIn_of _ (by decide +kernel)) ggX2_readSure_X2_addSuiting
theorem dX2_readSure_0 : decode cX2_readSure 0 = .ok (.aload_n 0, 1) := by decide +kernel
theorem dX2_readSure_1 : decode cX2_readSure 1 = .ok (.getfield 39, 3) := by decide +kernel
theorem dX2_readSure_4 : decode cX2_readSure 4 = .ok (.ifCond .eq 4, 3) := by decide +kernel
theorem dX2_readSure_7 : decode cX2_readSure 7 = .ok (.return_, 1) := by decide +kernel
theorem dX2_readSure_8 : decode cX2_readSure 8 = .ok (.iconst 0, 1) := by decide +kernel
theorem dX2_readSure_9 : decode cX2_readSure 9 = .ok (.istore_n 1, 1) := by decide +kernel
theorem dX2_readSure_10 : decode cX2_readSure 10 = .ok (.iload_n 1, 1) := by decide +kernel
theorem dX2_readSure_11 : decode cX2_readSure 11 = .ok (.bipush 6, 2) := by decide +kernel
theorem dX2_readSure_13 : decode cX2_readSure 13 = .ok (.if_icmp .ge 16, 3) := by decide +kernel
theorem dX2_readSure_16 : decode cX2_readSure 16 = .ok (.aload_n 0, 1) := by decide +kernel
theorem dX2_readSure_17 : decode cX2_readSure 17 = .ok (.getfield 15, 3) := by decide +kernel
theorem dX2_readSure_20 : decode cX2_readSure 20 = .ok (.iload_n 1, 1) := by decide +kernel
theorem dX2_readSure_21 : decode cX2_readSure 21 = .ok (.iconst 0, 1) := by decide +kernel
theorem dX2_readSure_22 : decode cX2_readSure 22 = .ok (.iastore, 1) := by decide +kernel
theorem dX2_readSure_23 : decode cX2_readSure 23 = .ok (.iinc 1 1, 3) := by decide +kernel
theorem dX2_readSure_26 : decode cX2_readSure 26 = .ok (.goto (-16), 3) := by decide +kernel
theorem dX2_readSure_29 : decode cX2_readSure 29 = .ok (.iconst 1, 1) := by decide +kernel
theorem dX2_readSure_30 : decode cX2_readSure 30 = .ok (.istore_n 1, 1) := by decide +kernel
theorem dX2_readSure_31 : decode cX2_readSure 31 = .ok (.iconst 0, 1) := by decide +kernel
theorem dX2_readSure_32 : decode cX2_readSure 32 = .ok (.istore_n 2, 1) := by decide +kernel
theorem dX2_readSure_33 : decode cX2_readSure 33 = .ok (.iload_n 1, 1) := by decide +kernel
theorem dX2_readSure_34 : decode cX2_readSure 34 = .ok (.ifCond .eq 20, 3) := by decide +kernel
theorem dX2_readSure_37 : decode cX2_readSure 37 = .ok (.iload_n 2, 1) := by decide +kernel
theorem dX2_readSure_38 : decode cX2_readSure 38 = .ok (.bipush 60, 2) := by decide +kernel
theorem dX2_readSure_40 : decode cX2_readSure 40 = .ok (.if_icmp .gt 14, 3) := by decide +kernel
theorem dX2_readSure_43 : decode cX2_readSure 43 = .ok (.aload_n 0, 1) := by decide +kernel
theorem dX2_readSure_44 : decode cX2_readSure 44 = .ok (.invokevirtual 67, 3) := by decide +kernel
theorem dX2_readSure_47 : decode cX2_readSure 47 = .ok (.istore_n 1, 1) := by decide +kernel
theorem dX2_readSure_48 : decode cX2_readSure 48 = .ok (.iinc 2 1, 3) := by decide +kernel
theorem dX2_readSure_51 : decode cX2_readSure 51 = .ok (.goto (-18), 3) := by decide +kernel
theorem dX2_readSure_54 : decode cX2_readSure 54 = .ok (.aload_n 0, 1) := by decide +kernel
theorem dX2_readSure_55 : decode cX2_readSure 55 = .ok (.iconst 1, 1) := by decide +kernel
theorem dX2_readSure_56 : decode cX2_readSure 56 = .ok (.putfield 39, 3) := by decide +kernel
theorem dX2_readSure_59 : decode cX2_readSure 59 = .ok (.return_, 1) := by decide +kernel
set_option maxRecDepth 20000 in
theorem ggX2_addSuiting_X2_suits : GoodIn wsX2_addSuiting wsX2_suits := goodIn_r _ [10, 1, 11, 12, 13, 14, 9, 15, 3, 16, 17, 18, 19, 20, 21, 22, 23, 24, 25, 26, 27, 28, 29, 30, 31, 32, 33, 34, 35, 36, 37, 38, 39, 40, 41, 42, 43, 44, 45, 46, 47, 48, 49, 50, 51, 52, 53, 54, 55, 56, 57, 58, 59, 60, 61, 62, 63, 64, 65, 66, 67, 68, 69, 70, 71, 72, 73, 74, 75, 76, 77, 78, 79, 80, 81, 82, 83, 84, 85, 86, 87, 88, 89] (by decide +kernel) (by decide +kernel)
set_option maxRecDepth 20000 in
theorem gX2_addSuiting_X2_suits : GoodIn wsX2_addSuiting (wsV RX2 63 RX2 yX2_suits wsX2_suits) := goodIn_app (goodIn_of _ (by decide +kernel)) ggX2_addSuiting_X2_suits
theorem dX2_addSuiting_0 : decode cX2_addSuiting 0 = .ok (.iconst 0, 1) := by decide +kernel
theorem dX2_addSuiting_1 : decode cX2_addSuiting 1 = .ok (.istore_n 1, 1) := by decide +kernel
theorem dX2_addSuiting_2 : decode cX2_addSuiting 2 = .ok (.iconst 0, 1) := by decide +kernel
theorem dX2_addSuiting_3 : decode cX2_addSuiting 3 = .ok (.istore_n 2, 1) := by decide +kernel
theorem dX2_addSuiting_4 : decode cX2_addSuiting 4 = .ok (.iload_n 2, 1) := by decide +kernel
theorem dX2_addSuiting_5 : decode cX2_addSuiting 5 = .ok (.aload_n 0, 1) := by decide +kernel
theorem dX2_addSuiting_6 : decode cX2_addSuiting 6 = .ok (.getfield 28, 3) := by decide +kernel
theorem dX2_addSuiting_9 : decode cX2_addSuiting 9 = .ok (.getfield 57, 3) := by decide +kernel
theorem dX2_addSuiting_12 : decode cX2_addSuiting 12 = .ok (.if_icmp .ge 68, 3) := by decide +kernel
theorem dX2_addSuiting_15 : decode cX2_addSuiting 15 = .ok (.iconst 0, 1) := by decide +kernel
theorem dX2_addSuiting_16 : decode cX2_addSuiting 16 = .ok (.istore_n 3, 1) := by decide +kernel
theorem dX2_addSuiting_17 : decode cX2_addSuiting 17 = .ok (.iload_n 3, 1) := by decide +kernel
theorem dX2_addSuiting_18 : decode cX2_addSuiting 18 = .ok (.aload_n 0, 1) := by decide +kernel
theorem dX2_addSuiting_19 : decode cX2_addSuiting 19 = .ok (.getfield 24, 3) := by decide +kernel
theorem dX2_addSuiting_22 : decode cX2_addSuiting 22 = .ok (.getfield 48, 3) := by decide +kernel
theorem dX2_addSuiting_25 : decode cX2_addSuiting 25 = .ok (.if_icmp .ge 49, 3) := by decide +kernel
theorem dX2_addSuiting_28 : decode cX2_addSuiting 28 = .ok (.aload_n 0, 1) := by decide +kernel
theorem dX2_addSuiting_29 : decode cX2_addSuiting 29 = .ok (.getfield 15, 3) := by decide +kernel
theorem dX2_addSuiting_32 : decode cX2_addSuiting 32 = .ok (.iload_n 2, 1) := by decide +kernel
theorem dX2_addSuiting_33 : decode cX2_addSuiting 33 = .ok (.iaload, 1) := by decide +kernel
theorem dX2_addSuiting_34 : decode cX2_addSuiting 34 = .ok (.iload_n 3, 1) := by decide +kernel
theorem dX2_addSuiting_35 : decode cX2_addSuiting 35 = .ok (.ishr, 1) := by decide +kernel
theorem dX2_addSuiting_36 : decode cX2_addSuiting 36 = .ok (.iconst 1, 1) := by decide +kernel
theorem dX2_addSuiting_37 : decode cX2_addSuiting 37 = .ok (.iand, 1) := by decide +kernel
theorem dX2_addSuiting_38 : decode cX2_addSuiting 38 = .ok (.ifCond .ne 30, 3) := by decide +kernel
theorem dX2_addSuiting_41 : decode cX2_addSuiting 41 = .ok (.aload_n 0, 1) := by decide +kernel
theorem dX2_addSuiting_42 : decode cX2_addSuiting 42 = .ok (.iload_n 3, 1) := by decide +kernel
theorem dX2_addSuiting_43 : decode cX2_addSuiting 43 = .ok (.iload_n 2, 1) := by decide +kernel
theorem dX2_addSuiting_44 : decode cX2_addSuiting 44 = .ok (.aload_n 0, 1) := by decide +kernel
theorem dX2_addSuiting_45 : decode cX2_addSuiting 45 = .ok (.getfield 15, 3) := by decide +kernel
theorem dX2_addSuiting_48 : decode cX2_addSuiting 48 = .ok (.invokevirtual 63, 3) := by decide +kernel
theorem dX2_addSuiting_51 : decode cX2_addSuiting 51 = .ok (.ifCond .eq 17, 3) := by decide +kernel
theorem dX2_addSuiting_54 : decode cX2_addSuiting 54 = .ok (.aload_n 0, 1) := by decide +kernel
theorem dX2_addSuiting_55 : decode cX2_addSuiting 55 = .ok (.getfield 15, 3) := by decide +kernel
theorem dX2_addSuiting_58 : decode cX2_addSuiting 58 = .ok (.iload_n 2, 1) := by decide +kernel
theorem dX2_addSuiting_59 : decode cX2_addSuiting 59 = .ok (.dup2, 1) := by decide +kernel
theorem dX2_addSuiting_60 : decode cX2_addSuiting 60 = .ok (.iaload, 1) := by decide +kernel
theorem dX2_addSuiting_61 : decode cX2_addSuiting 61 = .ok (.iconst 1, 1) := by decide +kernel
theorem dX2_addSuiting_62 : decode cX2_addSuiting 62 = .ok (.iload_n 3, 1) := by decide +kernel
theorem dX2_addSuiting_63 : decode cX2_addSuiting 63 = .ok (.ishl, 1) := by decide +kernel
theorem dX2_addSuiting_64 : decode cX2_addSuiting 64 = .ok (.ior, 1) := by decide +kernel
theorem dX2_addSuiting_65 : decode cX2_addSuiting 65 = .ok (.iastore, 1) := by decide +kernel
theorem dX2_addSuiting_66 : decode cX2_addSuiting 66 = .ok (.iconst 1, 1) := by decide +kernel
theorem dX2_addSuiting_67 : decode cX2_addSuiting 67 = .ok (.istore_n 1, 1) := by decide +kernel
theorem dX2_addSuiting_68 : decode cX2_addSuiting 68 = .ok (.iinc 3 1, 3) := by decide +kernel
theorem dX2_addSuiting_71 : decode cX2_addSuiting 71 = .ok (.goto (-54), 3) := by decide +kernel
theorem dX2_addSuiting_74 : decode cX2_addSuiting 74 = .ok (.iinc 2 1, 3) := by decide +kernel
theorem dX2_addSuiting_77 : decode cX2_addSuiting 77 = .ok (.goto (-73), 3) := by decide +kernel
theorem dX2_addSuiting_80 : decode cX2_addSuiting 80 = .ok (.iload_n 1, 1) := by decide +kernel
theorem dX2_addSuiting_81 : decode cX2_addSuiting 81 = .ok (.ireturn, 1) := by decide +kernel
theorem dX2_presentEdges_0 : decode cX2_presentEdges 0 = .ok (.iconst 1, 1) := by decide +kernel
theorem dX2_presentEdges_1 : decode cX2_presentEdges 1 = .ok (.aload_n 0, 1) := by decide +kernel
theorem dX2_presentEdges_2 : decode cX2_presentEdges 2 = .ok (.getfield 24, 3) := by decide +kernel
theorem dX2_presentEdges_5 : decode cX2_presentEdges 5 = .ok (.getfield 71, 3) := by decide +kernel
theorem dX2_presentEdges_8 : decode cX2_presentEdges 8 = .ok (.iload_n 1, 1) := by decide +kernel
theorem dX2_presentEdges_9 : decode cX2_presentEdges 9 = .ok (.iaload, 1) := by decide +kernel
theorem dX2_presentEdges_10 : decode cX2_presentEdges 10 = .ok (.ishl, 1) := by decide +kernel
theorem dX2_presentEdges_11 : decode cX2_presentEdges 11 = .ok (.iconst 1, 1) := by decide +kernel
theorem dX2_presentEdges_12 : decode cX2_presentEdges 12 = .ok (.isub, 1) := by decide +kernel
theorem dX2_presentEdges_13 : decode cX2_presentEdges 13 = .ok (.istore_n 2, 1) := by decide +kernel
theorem dX2_presentEdges_14 : decode cX2_presentEdges 14 = .ok (.iload_n 1, 1) := by decide +kernel
theorem dX2_presentEdges_15 : decode cX2_presentEdges 15 = .ok (.aload_n 0, 1) := by decide +kernel
theorem dX2_presentEdges_16 : decode cX2_presentEdges 16 = .ok (.getfield 74, 3) := by decide +kernel
theorem dX2_presentEdges_19 : decode cX2_presentEdges 19 = .ok (.if_icmp .ne 14, 3) := by decide +kernel
theorem dX2_presentEdges_22 : decode cX2_presentEdges 22 = .ok (.iload_n 2, 1) := by decide +kernel
theorem dX2_presentEdges_23 : decode cX2_presentEdges 23 = .ok (.aload_n 0, 1) := by decide +kernel
theorem dX2_presentEdges_24 : decode cX2_presentEdges 24 = .ok (.getfield 77, 3) := by decide +kernel
theorem dX2_presentEdges_27 : decode cX2_presentEdges 27 = .ok (.iconst (-1), 1) := by decide +kernel
theorem dX2_presentEdges_28 : decode cX2_presentEdges 28 = .ok (.ixor, 1) := by decide +kernel
theorem dX2_presentEdges_29 : decode cX2_presentEdges 29 = .ok (.iand, 1) := by decide +kernel
theorem dX2_presentEdges_30 : decode cX2_presentEdges 30 = .ok (.goto 4, 3) := by decide +kernel
theorem dX2_presentEdges_33 : decode cX2_presentEdges 33 = .ok (.iload_n 2, 1) := by decide +kernel
theorem dX2_presentEdges_34 : decode cX2_presentEdges 34 = .ok (.ireturn, 1) := by decide +kernel
set_option maxRecDepth 20000 in
theorem ggX2_wantedEdges_X2_presentEdges : GoodIn wsX2_wantedEdges wsX2_presentEdges := goodIn_r _ [10, 1, 2, 11, 12, 13, 14, 15, 16, 17, 18, 19, 20, 21, 22, 23, 24, 25, 26, 27, 28, 29] (by decide +kernel) (by decide +kernel)
set_option maxRecDepth 20000 in
theorem gX2_wantedEdges_X2_presentEdges : GoodIn wsX2_wantedEdges (wsV RX2 86 RX2 yX2_presentEdges wsX2_presentEdges) := goodIn_app (goodIn_of _ (by decide +kernel)) ggX2_wantedEdges_X2_presentEdges
theorem dX2_wantedEdges_0 : decode cX2_wantedEdges 0 = .ok (.iconst 0, 1) := by decide +kernel
theorem dX2_wantedEdges_1 : decode cX2_wantedEdges 1 = .ok (.istore_n 3, 1) := by decide +kernel
theorem dX2_wantedEdges_2 : decode cX2_wantedEdges 2 = .ok (.iconst 0, 1) := by decide +kernel
theorem dX2_wantedEdges_3 : decode cX2_wantedEdges 3 = .ok (.istore 4, 2) := by decide +kernel
theorem dX2_wantedEdges_5 : decode cX2_wantedEdges 5 = .ok (.iload 4, 2) := by decide +kernel
theorem dX2_wantedEdges_7 : decode cX2_wantedEdges 7 = .ok (.aload_n 0, 1) := by decide +kernel
theorem dX2_wantedEdges_8 : decode cX2_wantedEdges 8 = .ok (.getfield 24, 3) := by decide +kernel
theorem dX2_wantedEdges_11 : decode cX2_wantedEdges 11 = .ok (.getfield 71, 3) := by decide +kernel
theorem dX2_wantedEdges_14 : decode cX2_wantedEdges 14 = .ok (.iload_n 1, 1) := by decide +kernel
theorem dX2_wantedEdges_15 : decode cX2_wantedEdges 15 = .ok (.iaload, 1) := by decide +kernel
theorem dX2_wantedEdges_16 : decode cX2_wantedEdges 16 = .ok (.if_icmp .ge 45, 3) := by decide +kernel
theorem dX2_wantedEdges_19 : decode cX2_wantedEdges 19 = .ok (.aload_n 0, 1) := by decide +kernel
theorem dX2_wantedEdges_20 : decode cX2_wantedEdges 20 = .ok (.getfield 28, 3) := by decide +kernel
theorem dX2_wantedEdges_23 : decode cX2_wantedEdges 23 = .ok (.getfield 80, 3) := by decide +kernel
theorem dX2_wantedEdges_26 : decode cX2_wantedEdges 26 = .ok (.iload_n 2, 1) := by decide +kernel
theorem dX2_wantedEdges_27 : decode cX2_wantedEdges 27 = .ok (.iaload, 1) := by decide +kernel
theorem dX2_wantedEdges_28 : decode cX2_wantedEdges 28 = .ok (.aload_n 0, 1) := by decide +kernel
theorem dX2_wantedEdges_29 : decode cX2_wantedEdges 29 = .ok (.getfield 24, 3) := by decide +kernel
theorem dX2_wantedEdges_32 : decode cX2_wantedEdges 32 = .ok (.getfield 83, 3) := by decide +kernel
theorem dX2_wantedEdges_35 : decode cX2_wantedEdges 35 = .ok (.iload_n 1, 1) := by decide +kernel
theorem dX2_wantedEdges_36 : decode cX2_wantedEdges 36 = .ok (.iconst 5, 1) := by decide +kernel
theorem dX2_wantedEdges_37 : decode cX2_wantedEdges 37 = .ok (.imul, 1) := by decide +kernel
theorem dX2_wantedEdges_38 : decode cX2_wantedEdges 38 = .ok (.iload 4, 2) := by decide +kernel
theorem dX2_wantedEdges_40 : decode cX2_wantedEdges 40 = .ok (.iadd, 1) := by decide +kernel
theorem dX2_wantedEdges_41 : decode cX2_wantedEdges 41 = .ok (.iaload, 1) := by decide +kernel
theorem dX2_wantedEdges_42 : decode cX2_wantedEdges 42 = .ok (.ishr, 1) := by decide +kernel
theorem dX2_wantedEdges_43 : decode cX2_wantedEdges 43 = .ok (.iconst 1, 1) := by decide +kernel
theorem dX2_wantedEdges_44 : decode cX2_wantedEdges 44 = .ok (.iand, 1) := by decide +kernel
theorem dX2_wantedEdges_45 : decode cX2_wantedEdges 45 = .ok (.ifCond .eq 10, 3) := by decide +kernel
theorem dX2_wantedEdges_48 : decode cX2_wantedEdges 48 = .ok (.iload_n 3, 1) := by decide +kernel
theorem dX2_wantedEdges_49 : decode cX2_wantedEdges 49 = .ok (.iconst 1, 1) := by decide +kernel
theorem dX2_wantedEdges_50 : decode cX2_wantedEdges 50 = .ok (.iload 4, 2) := by decide +kernel
theorem dX2_wantedEdges_52 : decode cX2_wantedEdges 52 = .ok (.ishl, 1) := by decide +kernel
theorem dX2_wantedEdges_53 : decode cX2_wantedEdges 53 = .ok (.ior, 1) := by decide +kernel
theorem dX2_wantedEdges_54 : decode cX2_wantedEdges 54 = .ok (.istore_n 3, 1) := by decide +kernel
theorem dX2_wantedEdges_55 : decode cX2_wantedEdges 55 = .ok (.iinc 4 1, 3) := by decide +kernel
theorem dX2_wantedEdges_58 : decode cX2_wantedEdges 58 = .ok (.goto (-53), 3) := by decide +kernel
theorem dX2_wantedEdges_61 : decode cX2_wantedEdges 61 = .ok (.iload_n 3, 1) := by decide +kernel
theorem dX2_wantedEdges_62 : decode cX2_wantedEdges 62 = .ok (.aload_n 0, 1) := by decide +kernel
theorem dX2_wantedEdges_63 : decode cX2_wantedEdges 63 = .ok (.iload_n 1, 1) := by decide +kernel
theorem dX2_wantedEdges_64 : decode cX2_wantedEdges 64 = .ok (.invokevirtual 86, 3) := by decide +kernel
theorem dX2_wantedEdges_67 : decode cX2_wantedEdges 67 = .ok (.iand, 1) := by decide +kernel
theorem dX2_wantedEdges_68 : decode cX2_wantedEdges 68 = .ok (.ireturn, 1) := by decide +kernel
set_option maxRecDepth 20000 in
theorem ggX2_suits_X2_wantedEdges : GoodIn wsX2_suits wsX2_wantedEdges := goodIn_r _ [7, 8, 9, 1, 10, 11, 12, 13, 14, 6, 15, 16, 17, 50, 51, 52, 53, 54, 55, 56, 57, 58, 59, 76, 77, 78, 79, 80, 81, 82, 60, 61, 62, 63, 64, 65, 66, 67, 68, 69, 70, 71, 72, 73, 74, 75] (by decide +kernel) (by decide +kernel)
set_option maxRecDepth 20000 in
theorem gX2_suits_X2_wantedEdges : GoodIn wsX2_suits (wsV RX2 90 RX2 yX2_wantedEdges wsX2_wantedEdges) := goodIn_app (goodIn_of _ (by decide +kernel)) ggX2_suits_X2_wantedEdges
set_option maxRecDepth 20000 in
theorem ggX2_suits_X2_presentEdges : GoodIn wsX2_suits wsX2_presentEdges := goodIn_r _ [15, 8, 9, 16, 17, 50, 51, 52, 53, 54, 55, 56, 57, 58, 59, 76, 77, 78, 79, 80, 81, 82] (by decide +kernel) (by decide +kernel)
set_option maxRecDepth 20000 in
theorem gX2_suits_X2_presentEdges : GoodIn wsX2_suits (wsV RX2 86 RX2 yX2_presentEdges wsX2_presentEdges) := goodIn_app (goodIn_of _ (by decide +kernel)) ggX2_suits_X2_presentEdges
set_option maxRecDepth 20000 in
theorem ggX2_suits_X2_setsDealt : GoodIn wsX2_suits wsX2_setsDealt := goodIn_r _ [21, 1, 22, 23, 24, 25, 26, 27, 6, 28, 8, 9, 29, 11, 30, 31, 12, 13, 14, 15, 16, 17, 32, 33, 34, 35, 36, 37, 38, 39, 40, 41, 42, 43, 44, 45, 46, 47, 48, 49, 50, 51, 52, 53, 54, 55, 56, 57, 58, 59, 60, 61, 62, 63, 64, 65, 66, 67, 68, 69, 70, 71, 72, 73, 74, 75, 76, 77, 78, 79, 80, 81, 82] (by decide +kernel) (by decide +kernel)
set_option maxRecDepth 20000 in
theorem gX2_suits_X2_setsDealt : GoodIn wsX2_suits (wsV RX2 98 RX2 yX2_setsDealt wsX2_setsDealt) := goodIn_app (goodIn_of _ (by decide +kernel)) ggX2_suits_X2_setsDealt
theorem dX2_suits_0 : decode cX2_suits 0 = .ok (.aload_n 0, 1) := by decide +kernel
theorem dX2_suits_1 : decode cX2_suits 1 = .ok (.iload_n 1, 1) := by decide +kernel
theorem dX2_suits_2 : decode cX2_suits 2 = .ok (.iload_n 2, 1) := by decide +kernel
theorem dX2_suits_3 : decode cX2_suits 3 = .ok (.invokevirtual 90, 3) := by decide +kernel
theorem dX2_suits_6 : decode cX2_suits 6 = .ok (.istore 4, 2) := by decide +kernel
theorem dX2_suits_8 : decode cX2_suits 8 = .ok (.aload_n 0, 1) := by decide +kernel
theorem dX2_suits_9 : decode cX2_suits 9 = .ok (.getfield 28, 3) := by decide +kernel
theorem dX2_suits_12 : decode cX2_suits 12 = .ok (.getfield 94, 3) := by decide +kernel
theorem dX2_suits_15 : decode cX2_suits 15 = .ok (.iload_n 2, 1) := by decide +kernel
theorem dX2_suits_16 : decode cX2_suits 16 = .ok (.baload, 1) := by decide +kernel
theorem dX2_suits_17 : decode cX2_suits 17 = .ok (.ifCond .eq 15, 3) := by decide +kernel
theorem dX2_suits_20 : decode cX2_suits 20 = .ok (.iload 4, 2) := by decide +kernel
theorem dX2_suits_22 : decode cX2_suits 22 = .ok (.aload_n 0, 1) := by decide +kernel
theorem dX2_suits_23 : decode cX2_suits 23 = .ok (.iload_n 1, 1) := by decide +kernel
theorem dX2_suits_24 : decode cX2_suits 24 = .ok (.invokevirtual 86, 3) := by decide +kernel
theorem dX2_suits_27 : decode cX2_suits 27 = .ok (.if_icmp .eq 5, 3) := by decide +kernel
theorem dX2_suits_30 : decode cX2_suits 30 = .ok (.iconst 0, 1) := by decide +kernel
theorem dX2_suits_31 : decode cX2_suits 31 = .ok (.ireturn, 1) := by decide +kernel
theorem dX2_suits_32 : decode cX2_suits 32 = .ok (.aload_n 0, 1) := by decide +kernel
theorem dX2_suits_33 : decode cX2_suits 33 = .ok (.iload_n 1, 1) := by decide +kernel
theorem dX2_suits_34 : decode cX2_suits 34 = .ok (.iload_n 2, 1) := by decide +kernel
theorem dX2_suits_35 : decode cX2_suits 35 = .ok (.aload_n 3, 1) := by decide +kernel
theorem dX2_suits_36 : decode cX2_suits 36 = .ok (.invokevirtual 98, 3) := by decide +kernel
theorem dX2_suits_39 : decode cX2_suits 39 = .ok (.iload 4, 2) := by decide +kernel
theorem dX2_suits_41 : decode cX2_suits 41 = .ok (.iushr, 1) := by decide +kernel
theorem dX2_suits_42 : decode cX2_suits 42 = .ok (.iconst 1, 1) := by decide +kernel
theorem dX2_suits_43 : decode cX2_suits 43 = .ok (.iand, 1) := by decide +kernel
theorem dX2_suits_44 : decode cX2_suits 44 = .ok (.ifCond .eq 7, 3) := by decide +kernel
theorem dX2_suits_47 : decode cX2_suits 47 = .ok (.iconst 1, 1) := by decide +kernel
theorem dX2_suits_48 : decode cX2_suits 48 = .ok (.goto 4, 3) := by decide +kernel
theorem dX2_suits_51 : decode cX2_suits 51 = .ok (.iconst 0, 1) := by decide +kernel
theorem dX2_suits_52 : decode cX2_suits 52 = .ok (.ireturn, 1) := by decide +kernel
set_option maxRecDepth 20000 in
theorem ggX2_setsDealt_X2_setsTaken : GoodIn wsX2_setsDealt wsX2_setsTaken := goodIn_r _ [9, 10, 11, 12, 13, 1, 14, 15, 16, 17, 18, 8, 19, 20, 21, 22, 23, 24, 25, 26, 27, 28, 29, 30, 31, 40, 41, 42, 43, 44, 45, 46, 47, 48, 49, 66, 67, 68, 69, 70, 71, 72, 50, 51, 52, 53, 54, 55, 56, 57, 58, 59, 60, 61, 62, 63, 64, 65] (by decide +kernel) (by decide +kernel)
set_option maxRecDepth 20000 in
theorem gX2_setsDealt_X2_setsTaken : GoodIn wsX2_setsDealt (wsV RX2 108 RX2 yX2_setsTaken wsX2_setsTaken) := goodIn_app (goodIn_of _ (by decide +kernel)) ggX2_setsDealt_X2_setsTaken
set_option maxRecDepth 20000 in
theorem ggX2_setsDealt_X2_times : GoodIn wsX2_setsDealt wsX2_times := goodIn_r _ [35, 36, 37, 8, 38, 39] (by decide +kernel) (by decide +kernel)
set_option maxRecDepth 20000 in
theorem gX2_setsDealt_X2_times : GoodIn wsX2_setsDealt (wsV RX2 111 RX2 yX2_times wsX2_times) := goodIn_app (goodIn_of _ (by decide +kernel)) ggX2_setsDealt_X2_times
set_option maxRecDepth 20000 in
theorem ggX2_setsDealt_X2_both : GoodIn wsX2_setsDealt wsX2_both := goodIn_r _ [38, 39] (by decide +kernel) (by decide +kernel)
set_option maxRecDepth 20000 in
theorem gX2_setsDealt_X2_both : GoodIn wsX2_setsDealt (va_wsS RX2 114 yX2_both wsX2_both) := goodIn_app (goodIn_of _ (by decide +kernel)) ggX2_setsDealt_X2_both
theorem dX2_setsDealt_0 : decode cX2_setsDealt 0 = .ok (.iconst 0, 1) := by decide +kernel
theorem dX2_setsDealt_1 : decode cX2_setsDealt 1 = .ok (.istore 4, 2) := by decide +kernel
theorem dX2_setsDealt_3 : decode cX2_setsDealt 3 = .ok (.aload_n 0, 1) := by decide +kernel
theorem dX2_setsDealt_4 : decode cX2_setsDealt 4 = .ok (.getfield 28, 3) := by decide +kernel
theorem dX2_setsDealt_7 : decode cX2_setsDealt 7 = .ok (.getfield 102, 3) := by decide +kernel
theorem dX2_setsDealt_10 : decode cX2_setsDealt 10 = .ok (.iload_n 2, 1) := by decide +kernel
theorem dX2_setsDealt_11 : decode cX2_setsDealt 11 = .ok (.iaload, 1) := by decide +kernel
theorem dX2_setsDealt_12 : decode cX2_setsDealt 12 = .ok (.istore 5, 2) := by decide +kernel
theorem dX2_setsDealt_14 : decode cX2_setsDealt 14 = .ok (.iload 5, 2) := by decide +kernel
theorem dX2_setsDealt_16 : decode cX2_setsDealt 16 = .ok (.aload_n 0, 1) := by decide +kernel
theorem dX2_setsDealt_17 : decode cX2_setsDealt 17 = .ok (.getfield 28, 3) := by decide +kernel
theorem dX2_setsDealt_20 : decode cX2_setsDealt 20 = .ok (.getfield 102, 3) := by decide +kernel
theorem dX2_setsDealt_23 : decode cX2_setsDealt 23 = .ok (.iload_n 2, 1) := by decide +kernel
theorem dX2_setsDealt_24 : decode cX2_setsDealt 24 = .ok (.iconst 1, 1) := by decide +kernel
theorem dX2_setsDealt_25 : decode cX2_setsDealt 25 = .ok (.iadd, 1) := by decide +kernel
theorem dX2_setsDealt_26 : decode cX2_setsDealt 26 = .ok (.iaload, 1) := by decide +kernel
theorem dX2_setsDealt_27 : decode cX2_setsDealt 27 = .ok (.if_icmp .ge 208, 3) := by decide +kernel
theorem dX2_setsDealt_30 : decode cX2_setsDealt 30 = .ok (.iload 5, 2) := by decide +kernel
theorem dX2_setsDealt_32 : decode cX2_setsDealt 32 = .ok (.aload_n 0, 1) := by decide +kernel
theorem dX2_setsDealt_33 : decode cX2_setsDealt 33 = .ok (.getfield 28, 3) := by decide +kernel
theorem dX2_setsDealt_36 : decode cX2_setsDealt 36 = .ok (.getfield 105, 3) := by decide +kernel
theorem dX2_setsDealt_39 : decode cX2_setsDealt 39 = .ok (.arraylength, 1) := by decide +kernel
theorem dX2_setsDealt_40 : decode cX2_setsDealt 40 = .ok (.if_icmp .ge 195, 3) := by decide +kernel
theorem dX2_setsDealt_43 : decode cX2_setsDealt 43 = .ok (.aload_n 0, 1) := by decide +kernel
theorem dX2_setsDealt_44 : decode cX2_setsDealt 44 = .ok (.getfield 28, 3) := by decide +kernel
theorem dX2_setsDealt_47 : decode cX2_setsDealt 47 = .ok (.getfield 105, 3) := by decide +kernel
theorem dX2_setsDealt_50 : decode cX2_setsDealt 50 = .ok (.iload 5, 2) := by decide +kernel
theorem dX2_setsDealt_52 : decode cX2_setsDealt 52 = .ok (.iaload, 1) := by decide +kernel
theorem dX2_setsDealt_53 : decode cX2_setsDealt 53 = .ok (.istore 6, 2) := by decide +kernel
theorem dX2_setsDealt_55 : decode cX2_setsDealt 55 = .ok (.iload 6, 2) := by decide +kernel
theorem dX2_setsDealt_57 : decode cX2_setsDealt 57 = .ok (.bipush 64, 2) := by decide +kernel
theorem dX2_setsDealt_59 : decode cX2_setsDealt 59 = .ok (.irem, 1) := by decide +kernel
theorem dX2_setsDealt_60 : decode cX2_setsDealt 60 = .ok (.istore 7, 2) := by decide +kernel
theorem dX2_setsDealt_62 : decode cX2_setsDealt 62 = .ok (.iload 6, 2) := by decide +kernel
theorem dX2_setsDealt_64 : decode cX2_setsDealt 64 = .ok (.bipush 64, 2) := by decide +kernel
theorem dX2_setsDealt_66 : decode cX2_setsDealt 66 = .ok (.idiv, 1) := by decide +kernel
theorem dX2_setsDealt_67 : decode cX2_setsDealt 67 = .ok (.tableswitch 134 0 2 #[25, 61, 94], 25) := by decide +kernel
theorem dX2_setsDealt_92 : decode cX2_setsDealt 92 = .ok (.iload 4, 2) := by decide +kernel
theorem dX2_setsDealt_94 : decode cX2_setsDealt 94 = .ok (.aload_n 0, 1) := by decide +kernel
theorem dX2_setsDealt_95 : decode cX2_setsDealt 95 = .ok (.getfield 21, 3) := by decide +kernel
theorem dX2_setsDealt_98 : decode cX2_setsDealt 98 = .ok (.arraylength, 1) := by decide +kernel
theorem dX2_setsDealt_99 : decode cX2_setsDealt 99 = .ok (.if_icmp .ge 130, 3) := by decide +kernel
theorem dX2_setsDealt_102 : decode cX2_setsDealt 102 = .ok (.aload_n 0, 1) := by decide +kernel
theorem dX2_setsDealt_103 : decode cX2_setsDealt 103 = .ok (.getfield 21, 3) := by decide +kernel
theorem dX2_setsDealt_106 : decode cX2_setsDealt 106 = .ok (.iload 4, 2) := by decide +kernel
theorem dX2_setsDealt_108 : decode cX2_setsDealt 108 = .ok (.aload_n 0, 1) := by decide +kernel
theorem dX2_setsDealt_109 : decode cX2_setsDealt 109 = .ok (.iload_n 1, 1) := by decide +kernel
theorem dX2_setsDealt_110 : decode cX2_setsDealt 110 = .ok (.iload_n 2, 1) := by decide +kernel
theorem dX2_setsDealt_111 : decode cX2_setsDealt 111 = .ok (.bipush 6, 2) := by decide +kernel
theorem dX2_setsDealt_113 : decode cX2_setsDealt 113 = .ok (.imul, 1) := by decide +kernel
theorem dX2_setsDealt_114 : decode cX2_setsDealt 114 = .ok (.iload 7, 2) := by decide +kernel
theorem dX2_setsDealt_116 : decode cX2_setsDealt 116 = .ok (.iadd, 1) := by decide +kernel
theorem dX2_setsDealt_117 : decode cX2_setsDealt 117 = .ok (.aload_n 3, 1) := by decide +kernel
theorem dX2_setsDealt_118 : decode cX2_setsDealt 118 = .ok (.invokevirtual 108, 3) := by decide +kernel
theorem dX2_setsDealt_121 : decode cX2_setsDealt 121 = .ok (.iastore, 1) := by decide +kernel
theorem dX2_setsDealt_122 : decode cX2_setsDealt 122 = .ok (.iinc 4 1, 3) := by decide +kernel
theorem dX2_setsDealt_125 : decode cX2_setsDealt 125 = .ok (.goto 104, 3) := by decide +kernel
theorem dX2_setsDealt_128 : decode cX2_setsDealt 128 = .ok (.iload 4, 2) := by decide +kernel
theorem dX2_setsDealt_130 : decode cX2_setsDealt 130 = .ok (.iconst 1, 1) := by decide +kernel
theorem dX2_setsDealt_131 : decode cX2_setsDealt 131 = .ok (.if_icmp .lt 98, 3) := by decide +kernel
theorem dX2_setsDealt_134 : decode cX2_setsDealt 134 = .ok (.aload_n 0, 1) := by decide +kernel
theorem dX2_setsDealt_135 : decode cX2_setsDealt 135 = .ok (.getfield 21, 3) := by decide +kernel
theorem dX2_setsDealt_138 : decode cX2_setsDealt 138 = .ok (.iload 4, 2) := by decide +kernel
theorem dX2_setsDealt_140 : decode cX2_setsDealt 140 = .ok (.iconst 1, 1) := by decide +kernel
theorem dX2_setsDealt_141 : decode cX2_setsDealt 141 = .ok (.isub, 1) := by decide +kernel
theorem dX2_setsDealt_142 : decode cX2_setsDealt 142 = .ok (.aload_n 0, 1) := by decide +kernel
theorem dX2_setsDealt_143 : decode cX2_setsDealt 143 = .ok (.aload_n 0, 1) := by decide +kernel
theorem dX2_setsDealt_144 : decode cX2_setsDealt 144 = .ok (.getfield 21, 3) := by decide +kernel
theorem dX2_setsDealt_147 : decode cX2_setsDealt 147 = .ok (.iload 4, 2) := by decide +kernel
theorem dX2_setsDealt_149 : decode cX2_setsDealt 149 = .ok (.iconst 1, 1) := by decide +kernel
theorem dX2_setsDealt_150 : decode cX2_setsDealt 150 = .ok (.isub, 1) := by decide +kernel
theorem dX2_setsDealt_151 : decode cX2_setsDealt 151 = .ok (.iaload, 1) := by decide +kernel
theorem dX2_setsDealt_152 : decode cX2_setsDealt 152 = .ok (.iload 7, 2) := by decide +kernel
theorem dX2_setsDealt_154 : decode cX2_setsDealt 154 = .ok (.invokevirtual 111, 3) := by decide +kernel
theorem dX2_setsDealt_157 : decode cX2_setsDealt 157 = .ok (.iastore, 1) := by decide +kernel
theorem dX2_setsDealt_158 : decode cX2_setsDealt 158 = .ok (.goto 71, 3) := by decide +kernel
theorem dX2_setsDealt_161 : decode cX2_setsDealt 161 = .ok (.iload 4, 2) := by decide +kernel
theorem dX2_setsDealt_163 : decode cX2_setsDealt 163 = .ok (.iconst 2, 1) := by decide +kernel
theorem dX2_setsDealt_164 : decode cX2_setsDealt 164 = .ok (.if_icmp .lt 65, 3) := by decide +kernel
theorem dX2_setsDealt_167 : decode cX2_setsDealt 167 = .ok (.iinc 4 (-1), 3) := by decide +kernel
theorem dX2_setsDealt_170 : decode cX2_setsDealt 170 = .ok (.aload_n 0, 1) := by decide +kernel
theorem dX2_setsDealt_171 : decode cX2_setsDealt 171 = .ok (.getfield 21, 3) := by decide +kernel
theorem dX2_setsDealt_174 : decode cX2_setsDealt 174 = .ok (.iload 4, 2) := by decide +kernel
theorem dX2_setsDealt_176 : decode cX2_setsDealt 176 = .ok (.iconst 1, 1) := by decide +kernel
theorem dX2_setsDealt_177 : decode cX2_setsDealt 177 = .ok (.isub, 1) := by decide +kernel
theorem dX2_setsDealt_178 : decode cX2_setsDealt 178 = .ok (.aload_n 0, 1) := by decide +kernel
theorem dX2_setsDealt_179 : decode cX2_setsDealt 179 = .ok (.getfield 21, 3) := by decide +kernel
theorem dX2_setsDealt_182 : decode cX2_setsDealt 182 = .ok (.iload 4, 2) := by decide +kernel
theorem dX2_setsDealt_184 : decode cX2_setsDealt 184 = .ok (.iconst 1, 1) := by decide +kernel
theorem dX2_setsDealt_185 : decode cX2_setsDealt 185 = .ok (.isub, 1) := by decide +kernel
theorem dX2_setsDealt_186 : decode cX2_setsDealt 186 = .ok (.iaload, 1) := by decide +kernel
theorem dX2_setsDealt_187 : decode cX2_setsDealt 187 = .ok (.aload_n 0, 1) := by decide +kernel
theorem dX2_setsDealt_188 : decode cX2_setsDealt 188 = .ok (.getfield 21, 3) := by decide +kernel
theorem dX2_setsDealt_191 : decode cX2_setsDealt 191 = .ok (.iload 4, 2) := by decide +kernel
theorem dX2_setsDealt_193 : decode cX2_setsDealt 193 = .ok (.iaload, 1) := by decide +kernel
theorem dX2_setsDealt_194 : decode cX2_setsDealt 194 = .ok (.invokestatic 114, 3) := by decide +kernel
theorem dX2_setsDealt_197 : decode cX2_setsDealt 197 = .ok (.iastore, 1) := by decide +kernel
theorem dX2_setsDealt_198 : decode cX2_setsDealt 198 = .ok (.goto 31, 3) := by decide +kernel
theorem dX2_setsDealt_201 : decode cX2_setsDealt 201 = .ok (.iload 4, 2) := by decide +kernel
theorem dX2_setsDealt_203 : decode cX2_setsDealt 203 = .ok (.iconst 2, 1) := by decide +kernel
theorem dX2_setsDealt_204 : decode cX2_setsDealt 204 = .ok (.if_icmp .lt 25, 3) := by decide +kernel
theorem dX2_setsDealt_207 : decode cX2_setsDealt 207 = .ok (.iinc 4 (-1), 3) := by decide +kernel
theorem dX2_setsDealt_210 : decode cX2_setsDealt 210 = .ok (.aload_n 0, 1) := by decide +kernel
theorem dX2_setsDealt_211 : decode cX2_setsDealt 211 = .ok (.getfield 21, 3) := by decide +kernel
theorem dX2_setsDealt_214 : decode cX2_setsDealt 214 = .ok (.iload 4, 2) := by decide +kernel
theorem dX2_setsDealt_216 : decode cX2_setsDealt 216 = .ok (.iconst 1, 1) := by decide +kernel
theorem dX2_setsDealt_217 : decode cX2_setsDealt 217 = .ok (.isub, 1) := by decide +kernel
theorem dX2_setsDealt_218 : decode cX2_setsDealt 218 = .ok (.dup2, 1) := by decide +kernel
theorem dX2_setsDealt_219 : decode cX2_setsDealt 219 = .ok (.iaload, 1) := by decide +kernel
theorem dX2_setsDealt_220 : decode cX2_setsDealt 220 = .ok (.aload_n 0, 1) := by decide +kernel
theorem dX2_setsDealt_221 : decode cX2_setsDealt 221 = .ok (.getfield 21, 3) := by decide +kernel
theorem dX2_setsDealt_224 : decode cX2_setsDealt 224 = .ok (.iload 4, 2) := by decide +kernel
theorem dX2_setsDealt_226 : decode cX2_setsDealt 226 = .ok (.iaload, 1) := by decide +kernel
theorem dX2_setsDealt_227 : decode cX2_setsDealt 227 = .ok (.ior, 1) := by decide +kernel
theorem dX2_setsDealt_228 : decode cX2_setsDealt 228 = .ok (.iastore, 1) := by decide +kernel
theorem dX2_setsDealt_229 : decode cX2_setsDealt 229 = .ok (.iinc 5 1, 3) := by decide +kernel
theorem dX2_setsDealt_232 : decode cX2_setsDealt 232 = .ok (.goto (-218), 3) := by decide +kernel
theorem dX2_setsDealt_235 : decode cX2_setsDealt 235 = .ok (.iload 4, 2) := by decide +kernel
theorem dX2_setsDealt_237 : decode cX2_setsDealt 237 = .ok (.ifCond .ne 7, 3) := by decide +kernel
theorem dX2_setsDealt_240 : decode cX2_setsDealt 240 = .ok (.iconst 1, 1) := by decide +kernel
theorem dX2_setsDealt_241 : decode cX2_setsDealt 241 = .ok (.goto 9, 3) := by decide +kernel
theorem dX2_setsDealt_244 : decode cX2_setsDealt 244 = .ok (.aload_n 0, 1) := by decide +kernel
theorem dX2_setsDealt_245 : decode cX2_setsDealt 245 = .ok (.getfield 21, 3) := by decide +kernel
theorem dX2_setsDealt_248 : decode cX2_setsDealt 248 = .ok (.iconst 0, 1) := by decide +kernel
theorem dX2_setsDealt_249 : decode cX2_setsDealt 249 = .ok (.iaload, 1) := by decide +kernel
theorem dX2_setsDealt_250 : decode cX2_setsDealt 250 = .ok (.ireturn, 1) := by decide +kernel
set_option maxRecDepth 20000 in
theorem ggX2_times_X2_both : GoodIn wsX2_times wsX2_both := goodIn_r _ [4, 5] (by decide +kernel) (by decide +kernel)
set_option maxRecDepth 20000 in
theorem gX2_times_X2_both : GoodIn wsX2_times (va_wsS RX2 114 yX2_both wsX2_both) := goodIn_app (goodIn_of _ (by decide +kernel)) ggX2_times_X2_both
theorem dX2_times_0 : decode cX2_times 0 = .ok (.iload_n 2, 1) := by decide +kernel
theorem dX2_times_1 : decode cX2_times 1 = .ok (.bipush 8, 2) := by decide +kernel
theorem dX2_times_3 : decode cX2_times 3 = .ok (.idiv, 1) := by decide +kernel
theorem dX2_times_4 : decode cX2_times 4 = .ok (.istore_n 3, 1) := by decide +kernel
theorem dX2_times_5 : decode cX2_times 5 = .ok (.iload_n 2, 1) := by decide +kernel
theorem dX2_times_6 : decode cX2_times 6 = .ok (.bipush 8, 2) := by decide +kernel
theorem dX2_times_8 : decode cX2_times 8 = .ok (.irem, 1) := by decide +kernel
theorem dX2_times_9 : decode cX2_times 9 = .ok (.istore 4, 2) := by decide +kernel
theorem dX2_times_11 : decode cX2_times 11 = .ok (.iconst 1, 1) := by decide +kernel
theorem dX2_times_12 : decode cX2_times 12 = .ok (.istore 5, 2) := by decide +kernel
theorem dX2_times_14 : decode cX2_times 14 = .ok (.iload_n 3, 1) := by decide +kernel
theorem dX2_times_15 : decode cX2_times 15 = .ok (.ifCond .ne 7, 3) := by decide +kernel
theorem dX2_times_18 : decode cX2_times 18 = .ok (.iconst 1, 1) := by decide +kernel
theorem dX2_times_19 : decode cX2_times 19 = .ok (.goto 4, 3) := by decide +kernel
theorem dX2_times_22 : decode cX2_times 22 = .ok (.iconst 0, 1) := by decide +kernel
theorem dX2_times_23 : decode cX2_times 23 = .ok (.istore 6, 2) := by decide +kernel
theorem dX2_times_25 : decode cX2_times 25 = .ok (.iconst 1, 1) := by decide +kernel
theorem dX2_times_26 : decode cX2_times 26 = .ok (.istore 7, 2) := by decide +kernel
theorem dX2_times_28 : decode cX2_times 28 = .ok (.iload 7, 2) := by decide +kernel
theorem dX2_times_30 : decode cX2_times 30 = .ok (.iload 4, 2) := by decide +kernel
theorem dX2_times_32 : decode cX2_times 32 = .ok (.if_icmp .gt 30, 3) := by decide +kernel
theorem dX2_times_35 : decode cX2_times 35 = .ok (.iload 5, 2) := by decide +kernel
theorem dX2_times_37 : decode cX2_times 37 = .ok (.iload_n 1, 1) := by decide +kernel
theorem dX2_times_38 : decode cX2_times 38 = .ok (.invokestatic 114, 3) := by decide +kernel
theorem dX2_times_41 : decode cX2_times 41 = .ok (.istore 5, 2) := by decide +kernel
theorem dX2_times_43 : decode cX2_times 43 = .ok (.iload 7, 2) := by decide +kernel
theorem dX2_times_45 : decode cX2_times 45 = .ok (.iload_n 3, 1) := by decide +kernel
theorem dX2_times_46 : decode cX2_times 46 = .ok (.if_icmp .lt 10, 3) := by decide +kernel
theorem dX2_times_49 : decode cX2_times 49 = .ok (.iload 6, 2) := by decide +kernel
theorem dX2_times_51 : decode cX2_times 51 = .ok (.iload 5, 2) := by decide +kernel
theorem dX2_times_53 : decode cX2_times 53 = .ok (.ior, 1) := by decide +kernel
theorem dX2_times_54 : decode cX2_times 54 = .ok (.istore 6, 2) := by decide +kernel
theorem dX2_times_56 : decode cX2_times 56 = .ok (.iinc 7 1, 3) := by decide +kernel
theorem dX2_times_59 : decode cX2_times 59 = .ok (.goto (-31), 3) := by decide +kernel
theorem dX2_times_62 : decode cX2_times 62 = .ok (.iload 6, 2) := by decide +kernel
theorem dX2_times_64 : decode cX2_times 64 = .ok (.ireturn, 1) := by decide +kernel
theorem dX2_both_0 : decode cX2_both 0 = .ok (.iconst 0, 1) := by decide +kernel
theorem dX2_both_1 : decode cX2_both 1 = .ok (.istore_n 2, 1) := by decide +kernel
theorem dX2_both_2 : decode cX2_both 2 = .ok (.iconst 0, 1) := by decide +kernel
theorem dX2_both_3 : decode cX2_both 3 = .ok (.istore_n 3, 1) := by decide +kernel
theorem dX2_both_4 : decode cX2_both 4 = .ok (.iload_n 3, 1) := by decide +kernel
theorem dX2_both_5 : decode cX2_both 5 = .ok (.getstatic 117, 3) := by decide +kernel
theorem dX2_both_8 : decode cX2_both 8 = .ok (.arraylength, 1) := by decide +kernel
theorem dX2_both_9 : decode cX2_both 9 = .ok (.if_icmp .ge 35, 3) := by decide +kernel
theorem dX2_both_12 : decode cX2_both 12 = .ok (.iload_n 0, 1) := by decide +kernel
theorem dX2_both_13 : decode cX2_both 13 = .ok (.iload_n 3, 1) := by decide +kernel
theorem dX2_both_14 : decode cX2_both 14 = .ok (.iushr, 1) := by decide +kernel
theorem dX2_both_15 : decode cX2_both 15 = .ok (.ifCond .eq 29, 3) := by decide +kernel
theorem dX2_both_18 : decode cX2_both 18 = .ok (.iload_n 0, 1) := by decide +kernel
theorem dX2_both_19 : decode cX2_both 19 = .ok (.iload_n 3, 1) := by decide +kernel
theorem dX2_both_20 : decode cX2_both 20 = .ok (.iushr, 1) := by decide +kernel
theorem dX2_both_21 : decode cX2_both 21 = .ok (.iconst 1, 1) := by decide +kernel
theorem dX2_both_22 : decode cX2_both 22 = .ok (.iand, 1) := by decide +kernel
theorem dX2_both_23 : decode cX2_both 23 = .ok (.ifCond .eq 15, 3) := by decide +kernel
theorem dX2_both_26 : decode cX2_both 26 = .ok (.iload_n 2, 1) := by decide +kernel
theorem dX2_both_27 : decode cX2_both 27 = .ok (.iload_n 1, 1) := by decide +kernel
theorem dX2_both_28 : decode cX2_both 28 = .ok (.getstatic 117, 3) := by decide +kernel
theorem dX2_both_31 : decode cX2_both 31 = .ok (.iload_n 3, 1) := by decide +kernel
theorem dX2_both_32 : decode cX2_both 32 = .ok (.iaload, 1) := by decide +kernel
theorem dX2_both_33 : decode cX2_both 33 = .ok (.iand, 1) := by decide +kernel
theorem dX2_both_34 : decode cX2_both 34 = .ok (.iload_n 3, 1) := by decide +kernel
theorem dX2_both_35 : decode cX2_both 35 = .ok (.ishl, 1) := by decide +kernel
theorem dX2_both_36 : decode cX2_both 36 = .ok (.ior, 1) := by decide +kernel
theorem dX2_both_37 : decode cX2_both 37 = .ok (.istore_n 2, 1) := by decide +kernel
theorem dX2_both_38 : decode cX2_both 38 = .ok (.iinc 3 1, 3) := by decide +kernel
theorem dX2_both_41 : decode cX2_both 41 = .ok (.goto (-37), 3) := by decide +kernel
theorem dX2_both_44 : decode cX2_both 44 = .ok (.iload_n 2, 1) := by decide +kernel
theorem dX2_both_45 : decode cX2_both 45 = .ok (.ireturn, 1) := by decide +kernel
set_option maxRecDepth 20000 in
theorem ggX2_setsTaken_X2_presentEdges : GoodIn wsX2_setsTaken wsX2_presentEdges := goodIn_r _ [12, 1, 2, 13, 14, 25, 26, 27, 28, 29, 30, 31, 32, 33, 34, 35, 36, 37, 38, 39, 40, 41] (by decide +kernel) (by decide +kernel)
set_option maxRecDepth 20000 in
theorem gX2_setsTaken_X2_presentEdges : GoodIn wsX2_setsTaken (wsV RX2 86 RX2 yX2_presentEdges wsX2_presentEdges) := goodIn_app (goodIn_of _ (by decide +kernel)) ggX2_setsTaken_X2_presentEdges
set_option maxRecDepth 20000 in
theorem ggX2_setsTaken_X2_passes : GoodIn wsX2_setsTaken wsX2_passes := goodIn_r _ [18, 5, 19, 20, 21, 1, 22, 23, 24, 25, 26, 27, 28, 29, 30, 31, 32, 33, 34, 42, 43, 44, 45, 46, 47, 48, 49, 50, 51, 52, 53, 54, 55, 56, 57, 35, 36, 37, 38, 39, 40, 41] (by decide +kernel) (by decide +kernel)
set_option maxRecDepth 20000 in
theorem gX2_setsTaken_X2_passes : GoodIn wsX2_setsTaken (wsV RX2 126 RX2 yX2_passes wsX2_passes) := goodIn_app (goodIn_of _ (by decide +kernel)) ggX2_setsTaken_X2_passes
theorem dX2_setsTaken_0 : decode cX2_setsTaken 0 = .ok (.aload_n 0, 1) := by decide +kernel
theorem dX2_setsTaken_1 : decode cX2_setsTaken 1 = .ok (.iload_n 1, 1) := by decide +kernel
theorem dX2_setsTaken_2 : decode cX2_setsTaken 2 = .ok (.invokevirtual 86, 3) := by decide +kernel
theorem dX2_setsTaken_5 : decode cX2_setsTaken 5 = .ok (.istore 4, 2) := by decide +kernel
theorem dX2_setsTaken_7 : decode cX2_setsTaken 7 = .ok (.iconst 1, 1) := by decide +kernel
theorem dX2_setsTaken_8 : decode cX2_setsTaken 8 = .ok (.iload_n 2, 1) := by decide +kernel
theorem dX2_setsTaken_9 : decode cX2_setsTaken 9 = .ok (.bipush 6, 2) := by decide +kernel
theorem dX2_setsTaken_11 : decode cX2_setsTaken 11 = .ok (.irem, 1) := by decide +kernel
theorem dX2_setsTaken_12 : decode cX2_setsTaken 12 = .ok (.ishl, 1) := by decide +kernel
theorem dX2_setsTaken_13 : decode cX2_setsTaken 13 = .ok (.istore 5, 2) := by decide +kernel
theorem dX2_setsTaken_15 : decode cX2_setsTaken 15 = .ok (.iconst 0, 1) := by decide +kernel
theorem dX2_setsTaken_16 : decode cX2_setsTaken 16 = .ok (.istore 6, 2) := by decide +kernel
theorem dX2_setsTaken_18 : decode cX2_setsTaken 18 = .ok (.iconst 0, 1) := by decide +kernel
theorem dX2_setsTaken_19 : decode cX2_setsTaken 19 = .ok (.istore 7, 2) := by decide +kernel
theorem dX2_setsTaken_21 : decode cX2_setsTaken 21 = .ok (.iload 7, 2) := by decide +kernel
theorem dX2_setsTaken_23 : decode cX2_setsTaken 23 = .ok (.aload_n 0, 1) := by decide +kernel
theorem dX2_setsTaken_24 : decode cX2_setsTaken 24 = .ok (.getfield 24, 3) := by decide +kernel
theorem dX2_setsTaken_27 : decode cX2_setsTaken 27 = .ok (.getfield 71, 3) := by decide +kernel
theorem dX2_setsTaken_30 : decode cX2_setsTaken 30 = .ok (.iload_n 1, 1) := by decide +kernel
theorem dX2_setsTaken_31 : decode cX2_setsTaken 31 = .ok (.iaload, 1) := by decide +kernel
theorem dX2_setsTaken_32 : decode cX2_setsTaken 32 = .ok (.if_icmp .ge 92, 3) := by decide +kernel
