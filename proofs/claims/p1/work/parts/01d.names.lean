theorem dX6_init_0 : decode cX6_init 0 = .ok (.aload_n 0, 1) := by decide +kernel
theorem dX6_init_1 : decode cX6_init 1 = .ok (.invokespecial 1, 3) := by decide +kernel
theorem dX6_init_4 : decode cX6_init 4 = .ok (.aload_n 0, 1) := by decide +kernel
theorem dX6_init_5 : decode cX6_init 5 = .ok (.new 7, 3) := by decide +kernel
theorem dX6_init_8 : decode cX6_init 8 = .ok (.dup, 1) := by decide +kernel
theorem dX6_init_9 : decode cX6_init 9 = .ok (.invokespecial 9, 3) := by decide +kernel
theorem dX6_init_12 : decode cX6_init 12 = .ok (.putfield 10, 3) := by decide +kernel
theorem dX6_init_15 : decode cX6_init 15 = .ok (.aload_n 0, 1) := by decide +kernel
theorem dX6_init_16 : decode cX6_init 16 = .ok (.new 16, 3) := by decide +kernel
theorem dX6_init_19 : decode cX6_init 19 = .ok (.dup, 1) := by decide +kernel
theorem dX6_init_20 : decode cX6_init 20 = .ok (.invokespecial 18, 3) := by decide +kernel
theorem dX6_init_23 : decode cX6_init 23 = .ok (.putfield 19, 3) := by decide +kernel
theorem dX6_init_26 : decode cX6_init 26 = .ok (.aload_n 0, 1) := by decide +kernel
theorem dX6_init_27 : decode cX6_init 27 = .ok (.new 23, 3) := by decide +kernel
theorem dX6_init_30 : decode cX6_init 30 = .ok (.dup, 1) := by decide +kernel
theorem dX6_init_31 : decode cX6_init 31 = .ok (.aload_n 0, 1) := by decide +kernel
theorem dX6_init_32 : decode cX6_init 32 = .ok (.getfield 19, 3) := by decide +kernel
theorem dX6_init_35 : decode cX6_init 35 = .ok (.invokespecial 25, 3) := by decide +kernel
theorem dX6_init_38 : decode cX6_init 38 = .ok (.putfield 28, 3) := by decide +kernel
theorem dX6_init_41 : decode cX6_init 41 = .ok (.aload_n 0, 1) := by decide +kernel
theorem dX6_init_42 : decode cX6_init 42 = .ok (.new 32, 3) := by decide +kernel
theorem dX6_init_45 : decode cX6_init 45 = .ok (.dup, 1) := by decide +kernel
theorem dX6_init_46 : decode cX6_init 46 = .ok (.invokespecial 34, 3) := by decide +kernel
theorem dX6_init_49 : decode cX6_init 49 = .ok (.putfield 35, 3) := by decide +kernel
theorem dX6_init_52 : decode cX6_init 52 = .ok (.aload_n 0, 1) := by decide +kernel
theorem dX6_init_53 : decode cX6_init 53 = .ok (.new 32, 3) := by decide +kernel
theorem dX6_init_56 : decode cX6_init 56 = .ok (.dup, 1) := by decide +kernel
theorem dX6_init_57 : decode cX6_init 57 = .ok (.invokespecial 34, 3) := by decide +kernel
theorem dX6_init_60 : decode cX6_init 60 = .ok (.putfield 39, 3) := by decide +kernel
theorem dX6_init_63 : decode cX6_init 63 = .ok (.aload_n 0, 1) := by decide +kernel
theorem dX6_init_64 : decode cX6_init 64 = .ok (.new 42, 3) := by decide +kernel
theorem dX6_init_67 : decode cX6_init 67 = .ok (.dup, 1) := by decide +kernel
theorem dX6_init_68 : decode cX6_init 68 = .ok (.aload_n 0, 1) := by decide +kernel
theorem dX6_init_69 : decode cX6_init 69 = .ok (.getfield 10, 3) := by decide +kernel
theorem dX6_init_72 : decode cX6_init 72 = .ok (.aload_n 0, 1) := by decide +kernel
theorem dX6_init_73 : decode cX6_init 73 = .ok (.getfield 35, 3) := by decide +kernel
theorem dX6_init_76 : decode cX6_init 76 = .ok (.invokespecial 44, 3) := by decide +kernel
theorem dX6_init_79 : decode cX6_init 79 = .ok (.putfield 47, 3) := by decide +kernel
theorem dX6_init_82 : decode cX6_init 82 = .ok (.aload_n 0, 1) := by decide +kernel
theorem dX6_init_83 : decode cX6_init 83 = .ok (.iconst 0, 1) := by decide +kernel
theorem dX6_init_84 : decode cX6_init 84 = .ok (.putfield 51, 3) := by decide +kernel
theorem dX6_init_87 : decode cX6_init 87 = .ok (.return_, 1) := by decide +kernel
set_option maxRecDepth 20000 in
theorem ggX6_node_X2_forget : GoodIn wsX6_node wsX2_forget := goodIn_r _ [8, 9, 10, 38, 39, 40, 41, 42, 43, 44, 45, 46, 47] (by decide +kernel) (by decide +kernel)
set_option maxRecDepth 20000 in
theorem gX6_node_X2_forget : GoodIn wsX6_node (wsV RX6 58 RX2 yX2_forget wsX2_forget) := goodIn_app (goodIn_of _ (by decide +kernel)) ggX6_node_X2_forget
set_option maxRecDepth 20000 in
theorem ggX6_node_X1_addNode : GoodIn wsX6_node wsX1_addNode := goodIn_r _ [15, 16, 17, 18, 19, 20, 14, 21, 22, 23, 31, 32, 33, 34, 35, 36, 37] (by decide +kernel) (by decide +kernel)
set_option maxRecDepth 20000 in
theorem gX6_node_X1_addNode : GoodIn wsX6_node (wsV RX6 61 RX1 yX1_addNode wsX1_addNode) := goodIn_app (goodIn_of _ (by decide +kernel)) ggX6_node_X1_addNode
theorem dX6_node_0 : decode cX6_node 0 = .ok (.aload_n 0, 1) := by decide +kernel
theorem dX6_node_1 : decode cX6_node 1 = .ok (.getfield 10, 3) := by decide +kernel
theorem dX6_node_4 : decode cX6_node 4 = .ok (.getfield 55, 3) := by decide +kernel
theorem dX6_node_7 : decode cX6_node 7 = .ok (.bipush 10, 2) := by decide +kernel
theorem dX6_node_9 : decode cX6_node 9 = .ok (.if_icmp .lt 6, 3) := by decide +kernel
theorem dX6_node_12 : decode cX6_node 12 = .ok (.bipush (-3), 2) := by decide +kernel
theorem dX6_node_14 : decode cX6_node 14 = .ok (.ireturn, 1) := by decide +kernel
theorem dX6_node_15 : decode cX6_node 15 = .ok (.aload_n 0, 1) := by decide +kernel
theorem dX6_node_16 : decode cX6_node 16 = .ok (.getfield 47, 3) := by decide +kernel
theorem dX6_node_19 : decode cX6_node 19 = .ok (.invokevirtual 58, 3) := by decide +kernel
theorem dX6_node_22 : decode cX6_node 22 = .ok (.aload_n 0, 1) := by decide +kernel
theorem dX6_node_23 : decode cX6_node 23 = .ok (.getfield 10, 3) := by decide +kernel
theorem dX6_node_26 : decode cX6_node 26 = .ok (.iload_n 1, 1) := by decide +kernel
theorem dX6_node_27 : decode cX6_node 27 = .ok (.iload_n 2, 1) := by decide +kernel
theorem dX6_node_28 : decode cX6_node 28 = .ok (.invokevirtual 61, 3) := by decide +kernel
theorem dX6_node_31 : decode cX6_node 31 = .ok (.ireturn, 1) := by decide +kernel
set_option maxRecDepth 20000 in
theorem ggX6_value_X1_hasNode : GoodIn wsX6_value wsX1_hasNode := goodIn_r _ [7, 8, 29, 30, 31, 32, 33, 34, 35] (by decide +kernel) (by decide +kernel)
set_option maxRecDepth 20000 in
theorem gX6_value_X1_hasNode : GoodIn wsX6_value (wsV RX6 65 RX1 yX1_hasNode wsX1_hasNode) := goodIn_app (goodIn_of _ (by decide +kernel)) ggX6_value_X1_hasNode
set_option maxRecDepth 20000 in
theorem ggX6_value_X2_forget : GoodIn wsX6_value wsX2_forget := goodIn_r _ [13, 14, 15, 36, 37, 38, 39, 40, 41, 42, 43, 44, 45] (by decide +kernel) (by decide +kernel)
set_option maxRecDepth 20000 in
theorem gX6_value_X2_forget : GoodIn wsX6_value (wsV RX6 58 RX2 yX2_forget wsX2_forget) := goodIn_app (goodIn_of _ (by decide +kernel)) ggX6_value_X2_forget
set_option maxRecDepth 20000 in
theorem ggX6_value_X1_setValue : GoodIn wsX6_value wsX1_setValue := goodIn_r _ [19, 20, 21, 29, 30, 31, 32, 33, 34, 35] (by decide +kernel) (by decide +kernel)
set_option maxRecDepth 20000 in
theorem gX6_value_X1_setValue : GoodIn wsX6_value (wsV RX6 69 RX1 yX1_setValue wsX1_setValue) := goodIn_app (goodIn_of _ (by decide +kernel)) ggX6_value_X1_setValue
theorem dX6_value_0 : decode cX6_value 0 = .ok (.aload_n 0, 1) := by decide +kernel
theorem dX6_value_1 : decode cX6_value 1 = .ok (.getfield 10, 3) := by decide +kernel
theorem dX6_value_4 : decode cX6_value 4 = .ok (.iload_n 1, 1) := by decide +kernel
theorem dX6_value_5 : decode cX6_value 5 = .ok (.invokevirtual 65, 3) := by decide +kernel
theorem dX6_value_8 : decode cX6_value 8 = .ok (.ifCond .ne 5, 3) := by decide +kernel
theorem dX6_value_11 : decode cX6_value 11 = .ok (.iconst (-1), 1) := by decide +kernel
theorem dX6_value_12 : decode cX6_value 12 = .ok (.ireturn, 1) := by decide +kernel
theorem dX6_value_13 : decode cX6_value 13 = .ok (.aload_n 0, 1) := by decide +kernel
theorem dX6_value_14 : decode cX6_value 14 = .ok (.getfield 47, 3) := by decide +kernel
theorem dX6_value_17 : decode cX6_value 17 = .ok (.invokevirtual 58, 3) := by decide +kernel
theorem dX6_value_20 : decode cX6_value 20 = .ok (.aload_n 0, 1) := by decide +kernel
theorem dX6_value_21 : decode cX6_value 21 = .ok (.getfield 10, 3) := by decide +kernel
theorem dX6_value_24 : decode cX6_value 24 = .ok (.iload_n 1, 1) := by decide +kernel
theorem dX6_value_25 : decode cX6_value 25 = .ok (.iload_n 2, 1) := by decide +kernel
theorem dX6_value_26 : decode cX6_value 26 = .ok (.iload_n 3, 1) := by decide +kernel
theorem dX6_value_27 : decode cX6_value 27 = .ok (.invokevirtual 69, 3) := by decide +kernel
theorem dX6_value_30 : decode cX6_value 30 = .ok (.iconst 1, 1) := by decide +kernel
theorem dX6_value_31 : decode cX6_value 31 = .ok (.ireturn, 1) := by decide +kernel
set_option maxRecDepth 20000 in
theorem ggX6_edge_X1_canBeEdge : GoodIn wsX6_edge wsX1_canBeEdge := goodIn_r _ [9, 10, 11, 12, 8, 13, 14, 45, 46, 47, 48, 49, 50, 51] (by decide +kernel) (by decide +kernel)
set_option maxRecDepth 20000 in
theorem gX6_edge_X1_canBeEdge : GoodIn wsX6_edge (wsV RX6 73 RX1 yX1_canBeEdge wsX1_canBeEdge) := goodIn_app (goodIn_of _ (by decide +kernel)) ggX6_edge_X1_canBeEdge
set_option maxRecDepth 20000 in
theorem ggX6_edge_X1_placeOf : GoodIn wsX6_edge wsX1_placeOf := goodIn_r _ [18, 19, 20, 21, 45, 46, 47, 48, 49, 50, 51] (by decide +kernel) (by decide +kernel)
set_option maxRecDepth 20000 in
theorem gX6_edge_X1_placeOf : GoodIn wsX6_edge (wsV RX6 77 RX1 yX1_placeOf wsX1_placeOf) := goodIn_app (goodIn_of _ (by decide +kernel)) ggX6_edge_X1_placeOf
set_option maxRecDepth 20000 in
theorem ggX6_edge_X2_forget : GoodIn wsX6_edge wsX2_forget := goodIn_r _ [26, 27, 28, 52, 53, 54, 55, 56, 57, 58, 59, 60, 61] (by decide +kernel) (by decide +kernel)
set_option maxRecDepth 20000 in
theorem gX6_edge_X2_forget : GoodIn wsX6_edge (wsV RX6 58 RX2 yX2_forget wsX2_forget) := goodIn_app (goodIn_of _ (by decide +kernel)) ggX6_edge_X2_forget
set_option maxRecDepth 20000 in
theorem ggX6_edge_X1_addEdge : GoodIn wsX6_edge wsX1_addEdge := goodIn_r _ [32, 19, 20, 21, 33, 34, 35, 36, 8, 37, 45, 46, 47, 48, 49, 50, 51] (by decide +kernel) (by decide +kernel)
set_option maxRecDepth 20000 in
theorem gX6_edge_X1_addEdge : GoodIn wsX6_edge (wsV RX6 88 RX1 yX1_addEdge wsX1_addEdge) := goodIn_app (goodIn_of _ (by decide +kernel)) ggX6_edge_X1_addEdge
theorem dX6_edge_0 : decode cX6_edge 0 = .ok (.aload_n 0, 1) := by decide +kernel
theorem dX6_edge_1 : decode cX6_edge 1 = .ok (.getfield 10, 3) := by decide +kernel
theorem dX6_edge_4 : decode cX6_edge 4 = .ok (.iload_n 1, 1) := by decide +kernel
theorem dX6_edge_5 : decode cX6_edge 5 = .ok (.iload_n 2, 1) := by decide +kernel
theorem dX6_edge_6 : decode cX6_edge 6 = .ok (.iload_n 3, 1) := by decide +kernel
theorem dX6_edge_7 : decode cX6_edge 7 = .ok (.invokevirtual 73, 3) := by decide +kernel
theorem dX6_edge_10 : decode cX6_edge 10 = .ok (.ifCond .ne 5, 3) := by decide +kernel
theorem dX6_edge_13 : decode cX6_edge 13 = .ok (.iconst (-1), 1) := by decide +kernel
theorem dX6_edge_14 : decode cX6_edge 14 = .ok (.ireturn, 1) := by decide +kernel
theorem dX6_edge_15 : decode cX6_edge 15 = .ok (.aload_n 0, 1) := by decide +kernel
theorem dX6_edge_16 : decode cX6_edge 16 = .ok (.getfield 10, 3) := by decide +kernel
theorem dX6_edge_19 : decode cX6_edge 19 = .ok (.iload_n 1, 1) := by decide +kernel
theorem dX6_edge_20 : decode cX6_edge 20 = .ok (.iload_n 2, 1) := by decide +kernel
theorem dX6_edge_21 : decode cX6_edge 21 = .ok (.iload_n 3, 1) := by decide +kernel
theorem dX6_edge_22 : decode cX6_edge 22 = .ok (.invokevirtual 77, 3) := by decide +kernel
theorem dX6_edge_25 : decode cX6_edge 25 = .ok (.ifCond .lt 6, 3) := by decide +kernel
theorem dX6_edge_28 : decode cX6_edge 28 = .ok (.bipush (-2), 2) := by decide +kernel
theorem dX6_edge_30 : decode cX6_edge 30 = .ok (.ireturn, 1) := by decide +kernel
theorem dX6_edge_31 : decode cX6_edge 31 = .ok (.aload_n 0, 1) := by decide +kernel
theorem dX6_edge_32 : decode cX6_edge 32 = .ok (.getfield 10, 3) := by decide +kernel
theorem dX6_edge_35 : decode cX6_edge 35 = .ok (.getfield 81, 3) := by decide +kernel
theorem dX6_edge_38 : decode cX6_edge 38 = .ok (.bipush 40, 2) := by decide +kernel
theorem dX6_edge_40 : decode cX6_edge 40 = .ok (.if_icmp .ge 16, 3) := by decide +kernel
theorem dX6_edge_43 : decode cX6_edge 43 = .ok (.aload_n 0, 1) := by decide +kernel
theorem dX6_edge_44 : decode cX6_edge 44 = .ok (.getfield 10, 3) := by decide +kernel
theorem dX6_edge_47 : decode cX6_edge 47 = .ok (.getfield 84, 3) := by decide +kernel
theorem dX6_edge_50 : decode cX6_edge 50 = .ok (.iload_n 1, 1) := by decide +kernel
theorem dX6_edge_51 : decode cX6_edge 51 = .ok (.iaload, 1) := by decide +kernel
theorem dX6_edge_52 : decode cX6_edge 52 = .ok (.iconst 5, 1) := by decide +kernel
theorem dX6_edge_53 : decode cX6_edge 53 = .ok (.if_icmp .lt 6, 3) := by decide +kernel
theorem dX6_edge_56 : decode cX6_edge 56 = .ok (.bipush (-3), 2) := by decide +kernel
theorem dX6_edge_58 : decode cX6_edge 58 = .ok (.ireturn, 1) := by decide +kernel
theorem dX6_edge_59 : decode cX6_edge 59 = .ok (.aload_n 0, 1) := by decide +kernel
theorem dX6_edge_60 : decode cX6_edge 60 = .ok (.getfield 47, 3) := by decide +kernel
theorem dX6_edge_63 : decode cX6_edge 63 = .ok (.invokevirtual 58, 3) := by decide +kernel
theorem dX6_edge_66 : decode cX6_edge 66 = .ok (.aload_n 0, 1) := by decide +kernel
theorem dX6_edge_67 : decode cX6_edge 67 = .ok (.getfield 10, 3) := by decide +kernel
theorem dX6_edge_70 : decode cX6_edge 70 = .ok (.iload_n 1, 1) := by decide +kernel
theorem dX6_edge_71 : decode cX6_edge 71 = .ok (.iload_n 2, 1) := by decide +kernel
theorem dX6_edge_72 : decode cX6_edge 72 = .ok (.iload_n 3, 1) := by decide +kernel
theorem dX6_edge_73 : decode cX6_edge 73 = .ok (.invokevirtual 88, 3) := by decide +kernel
theorem dX6_edge_76 : decode cX6_edge 76 = .ok (.aload_n 0, 1) := by decide +kernel
theorem dX6_edge_77 : decode cX6_edge 77 = .ok (.getfield 10, 3) := by decide +kernel
theorem dX6_edge_80 : decode cX6_edge 80 = .ok (.getfield 81, 3) := by decide +kernel
theorem dX6_edge_83 : decode cX6_edge 83 = .ok (.ireturn, 1) := by decide +kernel
set_option maxRecDepth 20000 in
theorem ggX6_cut_X1_canBeEdge : GoodIn wsX6_cut wsX1_canBeEdge := goodIn_r _ [8, 9, 10, 11, 7, 12, 13, 40, 41, 42, 43, 44, 45, 46] (by decide +kernel) (by decide +kernel)
set_option maxRecDepth 20000 in
theorem gX6_cut_X1_canBeEdge : GoodIn wsX6_cut (wsV RX6 73 RX1 yX1_canBeEdge wsX1_canBeEdge) := goodIn_app (goodIn_of _ (by decide +kernel)) ggX6_cut_X1_canBeEdge
set_option maxRecDepth 20000 in
theorem ggX6_cut_X1_placeOf : GoodIn wsX6_cut wsX1_placeOf := goodIn_r _ [17, 18, 19, 20, 40, 41, 42, 43, 44, 45, 46] (by decide +kernel) (by decide +kernel)
set_option maxRecDepth 20000 in
theorem gX6_cut_X1_placeOf : GoodIn wsX6_cut (wsV RX6 77 RX1 yX1_placeOf wsX1_placeOf) := goodIn_app (goodIn_of _ (by decide +kernel)) ggX6_cut_X1_placeOf
set_option maxRecDepth 20000 in
theorem ggX6_cut_X2_forget : GoodIn wsX6_cut wsX2_forget := goodIn_r _ [25, 26, 27, 47, 48, 49, 50, 51, 52, 53, 54, 55, 56] (by decide +kernel) (by decide +kernel)
set_option maxRecDepth 20000 in
theorem gX6_cut_X2_forget : GoodIn wsX6_cut (wsV RX6 58 RX2 yX2_forget wsX2_forget) := goodIn_app (goodIn_of _ (by decide +kernel)) ggX6_cut_X2_forget
set_option maxRecDepth 20000 in
theorem ggX6_cut_X1_removeEdge : GoodIn wsX6_cut wsX1_removeEdge := goodIn_r _ [31, 18, 19, 20, 32, 40, 41, 42, 43, 44, 45, 46] (by decide +kernel) (by decide +kernel)
set_option maxRecDepth 20000 in
theorem gX6_cut_X1_removeEdge : GoodIn wsX6_cut (wsV RX6 92 RX1 yX1_removeEdge wsX1_removeEdge) := goodIn_app (goodIn_of _ (by decide +kernel)) ggX6_cut_X1_removeEdge
theorem dX6_cut_0 : decode cX6_cut 0 = .ok (.aload_n 0, 1) := by decide +kernel
theorem dX6_cut_1 : decode cX6_cut 1 = .ok (.getfield 10, 3) := by decide +kernel
theorem dX6_cut_4 : decode cX6_cut 4 = .ok (.iload_n 1, 1) := by decide +kernel
theorem dX6_cut_5 : decode cX6_cut 5 = .ok (.iload_n 2, 1) := by decide +kernel
theorem dX6_cut_6 : decode cX6_cut 6 = .ok (.iload_n 3, 1) := by decide +kernel
theorem dX6_cut_7 : decode cX6_cut 7 = .ok (.invokevirtual 73, 3) := by decide +kernel
theorem dX6_cut_10 : decode cX6_cut 10 = .ok (.ifCond .ne 5, 3) := by decide +kernel
theorem dX6_cut_13 : decode cX6_cut 13 = .ok (.iconst (-1), 1) := by decide +kernel
theorem dX6_cut_14 : decode cX6_cut 14 = .ok (.ireturn, 1) := by decide +kernel
theorem dX6_cut_15 : decode cX6_cut 15 = .ok (.aload_n 0, 1) := by decide +kernel
theorem dX6_cut_16 : decode cX6_cut 16 = .ok (.getfield 10, 3) := by decide +kernel
theorem dX6_cut_19 : decode cX6_cut 19 = .ok (.iload_n 1, 1) := by decide +kernel
theorem dX6_cut_20 : decode cX6_cut 20 = .ok (.iload_n 2, 1) := by decide +kernel
theorem dX6_cut_21 : decode cX6_cut 21 = .ok (.iload_n 3, 1) := by decide +kernel
theorem dX6_cut_22 : decode cX6_cut 22 = .ok (.invokevirtual 77, 3) := by decide +kernel
theorem dX6_cut_25 : decode cX6_cut 25 = .ok (.istore 4, 2) := by decide +kernel
theorem dX6_cut_27 : decode cX6_cut 27 = .ok (.iload 4, 2) := by decide +kernel
theorem dX6_cut_29 : decode cX6_cut 29 = .ok (.ifCond .ge 6, 3) := by decide +kernel
theorem dX6_cut_32 : decode cX6_cut 32 = .ok (.bipush (-2), 2) := by decide +kernel
theorem dX6_cut_34 : decode cX6_cut 34 = .ok (.ireturn, 1) := by decide +kernel
theorem dX6_cut_35 : decode cX6_cut 35 = .ok (.aload_n 0, 1) := by decide +kernel
theorem dX6_cut_36 : decode cX6_cut 36 = .ok (.getfield 47, 3) := by decide +kernel
theorem dX6_cut_39 : decode cX6_cut 39 = .ok (.invokevirtual 58, 3) := by decide +kernel
theorem dX6_cut_42 : decode cX6_cut 42 = .ok (.aload_n 0, 1) := by decide +kernel
theorem dX6_cut_43 : decode cX6_cut 43 = .ok (.getfield 10, 3) := by decide +kernel
theorem dX6_cut_46 : decode cX6_cut 46 = .ok (.iload_n 1, 1) := by decide +kernel
theorem dX6_cut_47 : decode cX6_cut 47 = .ok (.iload 4, 2) := by decide +kernel
theorem dX6_cut_49 : decode cX6_cut 49 = .ok (.invokevirtual 92, 3) := by decide +kernel
theorem dX6_cut_52 : decode cX6_cut 52 = .ok (.aload_n 0, 1) := by decide +kernel
theorem dX6_cut_53 : decode cX6_cut 53 = .ok (.getfield 10, 3) := by decide +kernel
theorem dX6_cut_56 : decode cX6_cut 56 = .ok (.getfield 81, 3) := by decide +kernel
theorem dX6_cut_59 : decode cX6_cut 59 = .ok (.ireturn, 1) := by decide +kernel
set_option maxRecDepth 20000 in
theorem ggX6_feed_X3_append : GoodIn wsX6_feed wsX3_append := goodIn_r _ [7, 8, 9, 17, 18] (by decide +kernel) (by decide +kernel)
set_option maxRecDepth 20000 in
theorem gX6_feed_X3_append : GoodIn wsX6_feed (wsV RX6 99 RX3 yX3_append wsX3_append) := goodIn_app (goodIn_of _ (by decide +kernel)) ggX6_feed_X3_append
theorem dX6_feed_0 : decode cX6_feed 0 = .ok (.aload_n 0, 1) := by decide +kernel
theorem dX6_feed_1 : decode cX6_feed 1 = .ok (.getfield 19, 3) := by decide +kernel
theorem dX6_feed_4 : decode cX6_feed 4 = .ok (.getfield 96, 3) := by decide +kernel
theorem dX6_feed_7 : decode cX6_feed 7 = .ok (.bipush 20, 2) := by decide +kernel
theorem dX6_feed_9 : decode cX6_feed 9 = .ok (.iadd, 1) := by decide +kernel
theorem dX6_feed_10 : decode cX6_feed 10 = .ok (.sipush 400, 3) := by decide +kernel
theorem dX6_feed_13 : decode cX6_feed 13 = .ok (.if_icmp .le 6, 3) := by decide +kernel
theorem dX6_feed_16 : decode cX6_feed 16 = .ok (.bipush (-3), 2) := by decide +kernel
theorem dX6_feed_18 : decode cX6_feed 18 = .ok (.ireturn, 1) := by decide +kernel
theorem dX6_feed_19 : decode cX6_feed 19 = .ok (.aload_n 0, 1) := by decide +kernel
theorem dX6_feed_20 : decode cX6_feed 20 = .ok (.getfield 19, 3) := by decide +kernel
theorem dX6_feed_23 : decode cX6_feed 23 = .ok (.iload_n 1, 1) := by decide +kernel
theorem dX6_feed_24 : decode cX6_feed 24 = .ok (.invokevirtual 99, 3) := by decide +kernel
theorem dX6_feed_27 : decode cX6_feed 27 = .ok (.aload_n 0, 1) := by decide +kernel
theorem dX6_feed_28 : decode cX6_feed 28 = .ok (.getfield 19, 3) := by decide +kernel
theorem dX6_feed_31 : decode cX6_feed 31 = .ok (.iload_n 2, 1) := by decide +kernel
theorem dX6_feed_32 : decode cX6_feed 32 = .ok (.invokevirtual 99, 3) := by decide +kernel
theorem dX6_feed_35 : decode cX6_feed 35 = .ok (.aload_n 0, 1) := by decide +kernel
theorem dX6_feed_36 : decode cX6_feed 36 = .ok (.getfield 19, 3) := by decide +kernel
theorem dX6_feed_39 : decode cX6_feed 39 = .ok (.iload_n 3, 1) := by decide +kernel
theorem dX6_feed_40 : decode cX6_feed 40 = .ok (.invokevirtual 99, 3) := by decide +kernel
theorem dX6_feed_43 : decode cX6_feed 43 = .ok (.aload_n 0, 1) := by decide +kernel
theorem dX6_feed_44 : decode cX6_feed 44 = .ok (.getfield 19, 3) := by decide +kernel
theorem dX6_feed_47 : decode cX6_feed 47 = .ok (.iload 4, 2) := by decide +kernel
theorem dX6_feed_49 : decode cX6_feed 49 = .ok (.invokevirtual 99, 3) := by decide +kernel
theorem dX6_feed_52 : decode cX6_feed 52 = .ok (.aload_n 0, 1) := by decide +kernel
theorem dX6_feed_53 : decode cX6_feed 53 = .ok (.getfield 19, 3) := by decide +kernel
theorem dX6_feed_56 : decode cX6_feed 56 = .ok (.iload 5, 2) := by decide +kernel
theorem dX6_feed_58 : decode cX6_feed 58 = .ok (.invokevirtual 99, 3) := by decide +kernel
theorem dX6_feed_61 : decode cX6_feed 61 = .ok (.aload_n 0, 1) := by decide +kernel
theorem dX6_feed_62 : decode cX6_feed 62 = .ok (.getfield 19, 3) := by decide +kernel
theorem dX6_feed_65 : decode cX6_feed 65 = .ok (.getfield 96, 3) := by decide +kernel
theorem dX6_feed_68 : decode cX6_feed 68 = .ok (.ireturn, 1) := by decide +kernel
theorem dX6_end_0 : decode cX6_end 0 = .ok (.iload_n 1, 1) := by decide +kernel
theorem dX6_end_1 : decode cX6_end 1 = .ok (.ifCond .lt 14, 3) := by decide +kernel
theorem dX6_end_4 : decode cX6_end 4 = .ok (.iload_n 1, 1) := by decide +kernel
theorem dX6_end_5 : decode cX6_end 5 = .ok (.aload_n 0, 1) := by decide +kernel
theorem dX6_end_6 : decode cX6_end 6 = .ok (.getfield 19, 3) := by decide +kernel
theorem dX6_end_9 : decode cX6_end 9 = .ok (.getfield 96, 3) := by decide +kernel
theorem dX6_end_12 : decode cX6_end 12 = .ok (.if_icmp .le 5, 3) := by decide +kernel
theorem dX6_end_15 : decode cX6_end 15 = .ok (.iconst (-1), 1) := by decide +kernel
theorem dX6_end_16 : decode cX6_end 16 = .ok (.ireturn, 1) := by decide +kernel
theorem dX6_end_17 : decode cX6_end 17 = .ok (.aload_n 0, 1) := by decide +kernel
theorem dX6_end_18 : decode cX6_end 18 = .ok (.getfield 19, 3) := by decide +kernel
theorem dX6_end_21 : decode cX6_end 21 = .ok (.getfield 96, 3) := by decide +kernel
theorem dX6_end_24 : decode cX6_end 24 = .ok (.istore_n 2, 1) := by decide +kernel
theorem dX6_end_25 : decode cX6_end 25 = .ok (.aload_n 0, 1) := by decide +kernel
theorem dX6_end_26 : decode cX6_end 26 = .ok (.getfield 19, 3) := by decide +kernel
theorem dX6_end_29 : decode cX6_end 29 = .ok (.iload_n 1, 1) := by decide +kernel
theorem dX6_end_30 : decode cX6_end 30 = .ok (.putfield 96, 3) := by decide +kernel
theorem dX6_end_33 : decode cX6_end 33 = .ok (.iload_n 2, 1) := by decide +kernel
theorem dX6_end_34 : decode cX6_end 34 = .ok (.ireturn, 1) := by decide +kernel
set_option maxRecDepth 20000 in
theorem ggX6_shapes_X4_readText : GoodIn wsX6_shapes wsX4_readText := goodIn_r _ [15, 16, 17, 18, 19, 20, 21, 22, 23, 24, 25, 26, 27, 28, 29, 30, 31, 32, 33, 34, 35, 36, 37, 38, 39, 40, 41, 42, 43, 44, 45, 46, 47, 48, 49, 50, 51, 52, 53, 54, 55, 56, 57, 58, 59, 60, 61, 62, 63, 64, 65, 66, 67, 68, 69, 70, 71, 72, 73, 74, 75, 76, 77, 78, 79, 80, 81, 82, 83, 84, 85, 86, 87, 88, 89, 90, 91, 92, 93, 94, 95, 96, 97, 98, 99, 100, 101, 102, 103, 104, 105, 106, 107, 108, 109, 110, 111, 112, 113, 114, 115, 116, 117, 118, 119, 120, 121, 122, 123, 124, 125, 14, 126, 127, 128, 129, 130, 131, 132, 133, 134, 135, 136, 137, 138, 139, 140, 141, 142, 143, 144, 145, 146, 147, 148, 149, 150, 151, 152, 153, 154, 155, 156, 157, 158, 159, 160, 161, 162, 163, 164, 165, 166, 167, 168, 169, 170, 171, 172, 173, 174, 175, 176, 177, 178, 179, 180, 181, 182, 183, 184, 185, 186, 187, 188, 189, 190, 191, 192, 193, 194, 195, 196, 197, 198, 199, 200, 201, 202, 203, 204, 205, 206, 207, 208, 209, 210, 211, 212, 213, 214, 215, 216, 217, 218, 219, 220, 221, 222, 223, 224, 225, 226, 227, 228, 229, 230, 231, 232, 233, 234, 235, 236, 237, 238, 239, 240, 241, 242, 243, 244, 245, 246, 247, 248, 249, 250, 251, 252, 253, 254, 255, 256, 257, 258, 259, 260, 261, 262, 263, 264, 265, 266, 267, 268, 269, 270, 271, 272, 273, 274, 275, 276, 277, 278, 279, 280, 281, 282, 283, 305, 306, 307, 308, 309, 310, 311, 312, 313, 314, 331, 332, 333, 334, 335, 315, 316, 317, 318, 319, 320, 321, 322, 323, 324, 325, 326, 327, 328, 329, 330, 303, 304] (by decide +kernel) (by decide +kernel)
set_option maxRecDepth 20000 in
theorem gX6_shapes_X4_readText : GoodIn wsX6_shapes (wsV RX6 103 RX4 yX4_readText wsX4_readText) := goodIn_app (goodIn_of _ (by decide +kernel)) ggX6_shapes_X4_readText
set_option maxRecDepth 20000 in
theorem ggX6_shapes_X2_follow : GoodIn wsX6_shapes wsX2_follow := goodIn_r _ [288, 289, 290, 291, 292, 287, 293, 294, 295, 336, 337, 338, 339, 340, 341, 342, 343, 344, 345] (by decide +kernel) (by decide +kernel)
set_option maxRecDepth 20000 in
theorem gX6_shapes_X2_follow : GoodIn wsX6_shapes (wsV RX6 113 RX2 yX2_follow wsX2_follow) := goodIn_app (goodIn_of _ (by decide +kernel)) ggX6_shapes_X2_follow
theorem dX6_shapes_0 : decode cX6_shapes 0 = .ok (.aload_n 0, 1) := by decide +kernel
theorem dX6_shapes_1 : decode cX6_shapes 1 = .ok (.getfield 28, 3) := by decide +kernel
theorem dX6_shapes_4 : decode cX6_shapes 4 = .ok (.aload_n 0, 1) := by decide +kernel
theorem dX6_shapes_5 : decode cX6_shapes 5 = .ok (.getfield 39, 3) := by decide +kernel
theorem dX6_shapes_8 : decode cX6_shapes 8 = .ok (.invokevirtual 103, 3) := by decide +kernel
theorem dX6_shapes_11 : decode cX6_shapes 11 = .ok (.aload_n 0, 1) := by decide +kernel
theorem dX6_shapes_12 : decode cX6_shapes 12 = .ok (.getfield 19, 3) := by decide +kernel
theorem dX6_shapes_15 : decode cX6_shapes 15 = .ok (.iconst 0, 1) := by decide +kernel
theorem dX6_shapes_16 : decode cX6_shapes 16 = .ok (.putfield 96, 3) := by decide +kernel
theorem dX6_shapes_19 : decode cX6_shapes 19 = .ok (.aload_n 0, 1) := by decide +kernel
theorem dX6_shapes_20 : decode cX6_shapes 20 = .ok (.aload_n 0, 1) := by decide +kernel
theorem dX6_shapes_21 : decode cX6_shapes 21 = .ok (.getfield 28, 3) := by decide +kernel
theorem dX6_shapes_24 : decode cX6_shapes 24 = .ok (.getfield 107, 3) := by decide +kernel
theorem dX6_shapes_27 : decode cX6_shapes 27 = .ok (.putfield 51, 3) := by decide +kernel
theorem dX6_shapes_30 : decode cX6_shapes 30 = .ok (.aload_n 0, 1) := by decide +kernel
theorem dX6_shapes_31 : decode cX6_shapes 31 = .ok (.getfield 51, 3) := by decide +kernel
theorem dX6_shapes_34 : decode cX6_shapes 34 = .ok (.ifCond .eq 14, 3) := by decide +kernel
theorem dX6_shapes_37 : decode cX6_shapes 37 = .ok (.bipush (-10), 2) := by decide +kernel
theorem dX6_shapes_39 : decode cX6_shapes 39 = .ok (.aload_n 0, 1) := by decide +kernel
theorem dX6_shapes_40 : decode cX6_shapes 40 = .ok (.getfield 28, 3) := by decide +kernel
theorem dX6_shapes_43 : decode cX6_shapes 43 = .ok (.getfield 110, 3) := by decide +kernel
theorem dX6_shapes_46 : decode cX6_shapes 46 = .ok (.isub, 1) := by decide +kernel
theorem dX6_shapes_47 : decode cX6_shapes 47 = .ok (.ireturn, 1) := by decide +kernel
theorem dX6_shapes_48 : decode cX6_shapes 48 = .ok (.aload_n 0, 1) := by decide +kernel
theorem dX6_shapes_49 : decode cX6_shapes 49 = .ok (.getfield 35, 3) := by decide +kernel
theorem dX6_shapes_52 : decode cX6_shapes 52 = .ok (.astore_n 1, 1) := by decide +kernel
theorem dX6_shapes_53 : decode cX6_shapes 53 = .ok (.aload_n 0, 1) := by decide +kernel
theorem dX6_shapes_54 : decode cX6_shapes 54 = .ok (.aload_n 0, 1) := by decide +kernel
theorem dX6_shapes_55 : decode cX6_shapes 55 = .ok (.getfield 39, 3) := by decide +kernel
theorem dX6_shapes_58 : decode cX6_shapes 58 = .ok (.putfield 35, 3) := by decide +kernel
theorem dX6_shapes_61 : decode cX6_shapes 61 = .ok (.aload_n 0, 1) := by decide +kernel
theorem dX6_shapes_62 : decode cX6_shapes 62 = .ok (.aload_n 1, 1) := by decide +kernel
theorem dX6_shapes_63 : decode cX6_shapes 63 = .ok (.putfield 39, 3) := by decide +kernel
theorem dX6_shapes_66 : decode cX6_shapes 66 = .ok (.aload_n 0, 1) := by decide +kernel
theorem dX6_shapes_67 : decode cX6_shapes 67 = .ok (.getfield 47, 3) := by decide +kernel
theorem dX6_shapes_70 : decode cX6_shapes 70 = .ok (.aload_n 0, 1) := by decide +kernel
theorem dX6_shapes_71 : decode cX6_shapes 71 = .ok (.getfield 35, 3) := by decide +kernel
theorem dX6_shapes_74 : decode cX6_shapes 74 = .ok (.invokevirtual 113, 3) := by decide +kernel
theorem dX6_shapes_77 : decode cX6_shapes 77 = .ok (.aload_n 0, 1) := by decide +kernel
theorem dX6_shapes_78 : decode cX6_shapes 78 = .ok (.getfield 35, 3) := by decide +kernel
theorem dX6_shapes_81 : decode cX6_shapes 81 = .ok (.getfield 116, 3) := by decide +kernel
theorem dX6_shapes_84 : decode cX6_shapes 84 = .ok (.ireturn, 1) := by decide +kernel
theorem dX6_fault_0 : decode cX6_fault 0 = .ok (.aload_n 0, 1) := by decide +kernel
theorem dX6_fault_1 : decode cX6_fault 1 = .ok (.getfield 51, 3) := by decide +kernel
theorem dX6_fault_4 : decode cX6_fault 4 = .ok (.ireturn, 1) := by decide +kernel
set_option maxRecDepth 20000 in
theorem ggX6_fits_X6_isPair : GoodIn wsX6_fits wsX6_isPair := goodIn_r _ [7, 8, 9, 10, 11, 12, 13, 14, 15, 16, 17, 18, 19, 20, 21, 88, 89, 90, 91, 92, 93, 94, 105, 106, 107, 108, 109, 110, 111, 112, 113, 114, 115, 116, 117, 118, 119, 120, 121, 122, 123, 124, 125, 126, 127] (by decide +kernel) (by decide +kernel)
set_option maxRecDepth 20000 in
theorem gX6_fits_X6_isPair : GoodIn wsX6_fits (wsV RX6 119 RX6 yX6_isPair wsX6_isPair) := goodIn_app (goodIn_of _ (by decide +kernel)) ggX6_fits_X6_isPair
set_option maxRecDepth 20000 in
theorem ggX6_fits_X2_readFits : GoodIn wsX6_fits wsX2_readFits := goodIn_r _ [26, 27, 28, 29, 30, 31, 32, 17, 18, 19, 20, 21, 33, 34, 35, 25, 36, 37, 38, 39, 40, 41, 42, 43, 44, 45, 46, 47, 48, 49, 50, 51, 52, 53, 54, 55, 56, 57, 58, 59, 60, 61, 62, 63, 64, 65, 66, 67, 68, 69, 70, 71, 72, 73, 74, 75, 76, 77, 78, 79, 80, 81, 82, 83, 84, 85, 86, 87, 95, 96, 97, 98, 99, 100, 101, 102, 103, 104, 105, 106, 107, 108, 109, 110, 111, 112, 113, 114, 115, 116, 117, 118, 119, 120, 121, 122, 123, 124, 125, 126, 127] (by decide +kernel) (by decide +kernel)
set_option maxRecDepth 20000 in
theorem gX6_fits_X2_readFits : GoodIn wsX6_fits (wsV RX6 123 RX2 yX2_readFits wsX2_readFits) := goodIn_app (goodIn_of _ (by decide +kernel)) ggX6_fits_X2_readFits
theorem dX6_fits_0 : decode cX6_fits 0 = .ok (.aload_n 0, 1) := by decide +kernel
theorem dX6_fits_1 : decode cX6_fits 1 = .ok (.iload_n 1, 1) := by decide +kernel
theorem dX6_fits_2 : decode cX6_fits 2 = .ok (.iload_n 2, 1) := by decide +kernel
theorem dX6_fits_3 : decode cX6_fits 3 = .ok (.invokevirtual 119, 3) := by decide +kernel
theorem dX6_fits_6 : decode cX6_fits 6 = .ok (.ifCond .ne 5, 3) := by decide +kernel
theorem dX6_fits_9 : decode cX6_fits 9 = .ok (.iconst (-1), 1) := by decide +kernel
theorem dX6_fits_10 : decode cX6_fits 10 = .ok (.ireturn, 1) := by decide +kernel
theorem dX6_fits_11 : decode cX6_fits 11 = .ok (.aload_n 0, 1) := by decide +kernel
theorem dX6_fits_12 : decode cX6_fits 12 = .ok (.getfield 47, 3) := by decide +kernel
theorem dX6_fits_15 : decode cX6_fits 15 = .ok (.invokevirtual 123, 3) := by decide +kernel
theorem dX6_fits_18 : decode cX6_fits 18 = .ok (.aload_n 0, 1) := by decide +kernel
theorem dX6_fits_19 : decode cX6_fits 19 = .ok (.getfield 47, 3) := by decide +kernel
theorem dX6_fits_22 : decode cX6_fits 22 = .ok (.getfield 126, 3) := by decide +kernel
theorem dX6_fits_25 : decode cX6_fits 25 = .ok (.iload_n 2, 1) := by decide +kernel
theorem dX6_fits_26 : decode cX6_fits 26 = .ok (.iaload, 1) := by decide +kernel
theorem dX6_fits_27 : decode cX6_fits 27 = .ok (.iload_n 1, 1) := by decide +kernel
theorem dX6_fits_28 : decode cX6_fits 28 = .ok (.ishr, 1) := by decide +kernel
theorem dX6_fits_29 : decode cX6_fits 29 = .ok (.iconst 1, 1) := by decide +kernel
theorem dX6_fits_30 : decode cX6_fits 30 = .ok (.iand, 1) := by decide +kernel
theorem dX6_fits_31 : decode cX6_fits 31 = .ok (.ireturn, 1) := by decide +kernel
set_option maxRecDepth 20000 in
theorem ggX6_surely_X6_isPair : GoodIn wsX6_surely wsX6_isPair := goodIn_r _ [7, 8, 9, 10, 11, 12, 13, 14, 15, 16, 17, 18, 19, 20, 21, 98, 99, 100, 101, 102, 103, 104, 115, 116, 117, 118, 119, 120, 121, 122, 123, 124, 125, 126, 127, 128, 129, 130, 131, 132, 133, 134, 135, 136, 137] (by decide +kernel) (by decide +kernel)
set_option maxRecDepth 20000 in
theorem gX6_surely_X6_isPair : GoodIn wsX6_surely (wsV RX6 119 RX6 yX6_isPair wsX6_isPair) := goodIn_app (goodIn_of _ (by decide +kernel)) ggX6_surely_X6_isPair
set_option maxRecDepth 20000 in
theorem ggX6_surely_X2_readFits : GoodIn wsX6_surely wsX2_readFits := goodIn_r _ [26, 27, 28, 29, 30, 31, 32, 17, 18, 19, 20, 21, 33, 34, 35, 25, 36, 37, 38, 39, 40, 41, 42, 43, 44, 45, 46, 47, 48, 49, 50, 51, 52, 53, 54, 55, 56, 57, 58, 59, 60, 61, 62, 63, 64, 65, 66, 67, 68, 69, 70, 71, 72, 73, 74, 75, 76, 77, 78, 79, 80, 81, 82, 83, 84, 85, 86, 87, 105, 106, 107, 108, 109, 110, 111, 112, 113, 114, 115, 116, 117, 118, 119, 120, 121, 122, 123, 124, 125, 126, 127, 128, 129, 130, 131, 132, 133, 134, 135, 136, 137] (by decide +kernel) (by decide +kernel)
set_option maxRecDepth 20000 in
theorem gX6_surely_X2_readFits : GoodIn wsX6_surely (wsV RX6 123 RX2 yX2_readFits wsX2_readFits) := goodIn_app (goodIn_of _ (by decide +kernel)) ggX6_surely_X2_readFits
set_option maxRecDepth 20000 in
theorem ggX6_surely_X2_readSure : GoodIn wsX6_surely wsX2_readSure := goodIn_r _ [91, 92, 93, 94, 95, 96, 25, 97, 29, 37, 30, 31, 39, 40, 41, 42, 43, 44, 45, 46, 47, 48, 49, 50, 51, 52, 53, 54, 55, 56, 57, 58, 59, 60, 61, 62, 63, 64, 65, 66, 67, 68, 69, 70, 71, 72, 73, 74, 75, 76, 28, 77, 78, 79, 80, 81, 82, 83, 84, 85, 86, 87, 105, 106, 107, 108, 109, 110, 111, 112, 113, 114, 122, 123, 124, 125, 126, 127, 128, 129, 130, 131, 132, 133, 134, 135, 136, 137, 115, 116, 117, 118, 119, 120, 121] (by decide +kernel) (by decide +kernel)
set_option maxRecDepth 20000 in
theorem gX6_surely_X2_readSure : GoodIn wsX6_surely (wsV RX6 129 RX2 yX2_readSure wsX2_readSure) := goodIn_app (goodIn_of _ (by decide +kernel)) ggX6_surely_X2_readSure
theorem dX6_surely_0 : decode cX6_surely 0 = .ok (.aload_n 0, 1) := by decide +kernel
theorem dX6_surely_1 : decode cX6_surely 1 = .ok (.iload_n 1, 1) := by decide +kernel
theorem dX6_surely_2 : decode cX6_surely 2 = .ok (.iload_n 2, 1) := by decide +kernel
theorem dX6_surely_3 : decode cX6_surely 3 = .ok (.invokevirtual 119, 3) := by decide +kernel
theorem dX6_surely_6 : decode cX6_surely 6 = .ok (.ifCond .ne 5, 3) := by decide +kernel
theorem dX6_surely_9 : decode cX6_surely 9 = .ok (.iconst (-1), 1) := by decide +kernel
theorem dX6_surely_10 : decode cX6_surely 10 = .ok (.ireturn, 1) := by decide +kernel
theorem dX6_surely_11 : decode cX6_surely 11 = .ok (.aload_n 0, 1) := by decide +kernel
theorem dX6_surely_12 : decode cX6_surely 12 = .ok (.getfield 47, 3) := by decide +kernel
theorem dX6_surely_15 : decode cX6_surely 15 = .ok (.invokevirtual 123, 3) := by decide +kernel
theorem dX6_surely_18 : decode cX6_surely 18 = .ok (.aload_n 0, 1) := by decide +kernel
theorem dX6_surely_19 : decode cX6_surely 19 = .ok (.getfield 47, 3) := by decide +kernel
theorem dX6_surely_22 : decode cX6_surely 22 = .ok (.invokevirtual 129, 3) := by decide +kernel
theorem dX6_surely_25 : decode cX6_surely 25 = .ok (.aload_n 0, 1) := by decide +kernel
theorem dX6_surely_26 : decode cX6_surely 26 = .ok (.getfield 47, 3) := by decide +kernel
theorem dX6_surely_29 : decode cX6_surely 29 = .ok (.getfield 132, 3) := by decide +kernel
theorem dX6_surely_32 : decode cX6_surely 32 = .ok (.iload_n 2, 1) := by decide +kernel
theorem dX6_surely_33 : decode cX6_surely 33 = .ok (.iaload, 1) := by decide +kernel
theorem dX6_surely_34 : decode cX6_surely 34 = .ok (.iload_n 1, 1) := by decide +kernel
theorem dX6_surely_35 : decode cX6_surely 35 = .ok (.ishr, 1) := by decide +kernel
theorem dX6_surely_36 : decode cX6_surely 36 = .ok (.iconst 1, 1) := by decide +kernel
theorem dX6_surely_37 : decode cX6_surely 37 = .ok (.iand, 1) := by decide +kernel
theorem dX6_surely_38 : decode cX6_surely 38 = .ok (.ireturn, 1) := by decide +kernel
set_option maxRecDepth 20000 in
theorem ggX6_all_X0_hasShape : GoodIn wsX6_all wsX0_hasShape := goodIn_r _ [8, 9, 93, 94, 95, 96, 97, 98, 99, 100, 101, 102, 103, 104, 105, 106, 107, 108] (by decide +kernel) (by decide +kernel)
set_option maxRecDepth 20000 in
theorem gX6_all_X0_hasShape : GoodIn wsX6_all (wsV RX6 135 RX0 yX0_hasShape wsX0_hasShape) := goodIn_app (goodIn_of _ (by decide +kernel)) ggX6_all_X0_hasShape
set_option maxRecDepth 20000 in
theorem ggX6_all_X2_readFits : GoodIn wsX6_all wsX2_readFits := goodIn_r _ [14, 15, 16, 17, 18, 19, 20, 5, 6, 7, 8, 9, 21, 22, 23, 13, 24, 25, 26, 27, 28, 29, 30, 31, 32, 33, 34, 35, 36, 37, 38, 39, 40, 41, 42, 43, 44, 45, 46, 47, 48, 49, 50, 51, 52, 53, 54, 55, 56, 57, 58, 59, 60, 61, 62, 63, 64, 65, 66, 67, 68, 69, 70, 71, 72, 73, 74, 75, 83, 84, 85, 86, 87, 88, 89, 90, 91, 92, 109, 110, 111, 112, 113, 114, 115, 93, 94, 95, 96, 97, 98, 99, 100, 101, 102, 103, 104, 105, 106, 107, 108] (by decide +kernel) (by decide +kernel)
set_option maxRecDepth 20000 in
theorem gX6_all_X2_readFits : GoodIn wsX6_all (wsV RX6 123 RX2 yX2_readFits wsX2_readFits) := goodIn_app (goodIn_of _ (by decide +kernel)) ggX6_all_X2_readFits
theorem dX6_all_0 : decode cX6_all 0 = .ok (.aload_n 0, 1) := by decide +kernel
theorem dX6_all_1 : decode cX6_all 1 = .ok (.getfield 35, 3) := by decide +kernel
theorem dX6_all_4 : decode cX6_all 4 = .ok (.iload_n 1, 1) := by decide +kernel
theorem dX6_all_5 : decode cX6_all 5 = .ok (.invokevirtual 135, 3) := by decide +kernel
theorem dX6_all_8 : decode cX6_all 8 = .ok (.ifCond .ne 5, 3) := by decide +kernel
theorem dX6_all_11 : decode cX6_all 11 = .ok (.iconst (-1), 1) := by decide +kernel
theorem dX6_all_12 : decode cX6_all 12 = .ok (.ireturn, 1) := by decide +kernel
theorem dX6_all_13 : decode cX6_all 13 = .ok (.aload_n 0, 1) := by decide +kernel
theorem dX6_all_14 : decode cX6_all 14 = .ok (.getfield 47, 3) := by decide +kernel
theorem dX6_all_17 : decode cX6_all 17 = .ok (.invokevirtual 123, 3) := by decide +kernel
theorem dX6_all_20 : decode cX6_all 20 = .ok (.aload_n 0, 1) := by decide +kernel
theorem dX6_all_21 : decode cX6_all 21 = .ok (.getfield 47, 3) := by decide +kernel
theorem dX6_all_24 : decode cX6_all 24 = .ok (.getfield 126, 3) := by decide +kernel
theorem dX6_all_27 : decode cX6_all 27 = .ok (.iload_n 1, 1) := by decide +kernel
theorem dX6_all_28 : decode cX6_all 28 = .ok (.iaload, 1) := by decide +kernel
theorem dX6_all_29 : decode cX6_all 29 = .ok (.ireturn, 1) := by decide +kernel
set_option maxRecDepth 20000 in
theorem ggX6_wanted_X6_isPair : GoodIn wsX6_wanted wsX6_isPair := goodIn_r _ [6, 7, 8, 9, 10, 11, 12, 13, 14, 15, 16, 17, 18, 19, 20, 44, 45, 46, 47, 48, 49, 50, 51, 52, 53, 54, 55, 56, 57, 58, 59, 60, 61, 62, 63, 64, 65, 66, 67, 68, 69, 70, 71, 72, 73] (by decide +kernel) (by decide +kernel)
set_option maxRecDepth 20000 in
theorem gX6_wanted_X6_isPair : GoodIn wsX6_wanted (wsV RX6 119 RX6 yX6_isPair wsX6_isPair) := goodIn_app (goodIn_of _ (by decide +kernel)) ggX6_wanted_X6_isPair
set_option maxRecDepth 20000 in
theorem ggX6_wanted_X2_wantedEdges : GoodIn wsX6_wanted wsX2_wantedEdges := goodIn_r _ [25, 26, 27, 28, 29, 30, 31, 32, 33, 24, 34, 35, 36, 74, 75, 76, 77, 78, 79, 80, 81, 82, 83, 51, 52, 53, 54, 55, 56, 57, 58, 59, 60, 61, 62, 63, 64, 65, 66, 67, 68, 69, 70, 71, 72, 73] (by decide +kernel) (by decide +kernel)
set_option maxRecDepth 20000 in
theorem gX6_wanted_X2_wantedEdges : GoodIn wsX6_wanted (wsV RX6 138 RX2 yX2_wantedEdges wsX2_wantedEdges) := goodIn_app (goodIn_of _ (by decide +kernel)) ggX6_wanted_X2_wantedEdges
set_option maxRecDepth 20000 in
theorem ggX6_wanted_J6_bitCount_0f7a4 : GoodIn wsX6_wanted wsJ6_bitCount_0f7a4 := goodIn_r _ [40, 41, 42, 43] (by decide +kernel) (by decide +kernel)
set_option maxRecDepth 20000 in
theorem gX6_wanted_J6_bitCount_0f7a4 : GoodIn wsX6_wanted (va_wsS RX6 142 yJ6_bitCount_0f7a4 wsJ6_bitCount_0f7a4) := goodIn_app (goodIn_of _ (by decide +kernel)) ggX6_wanted_J6_bitCount_0f7a4
theorem dX6_wanted_0 : decode cX6_wanted 0 = .ok (.aload_n 0, 1) := by decide +kernel
theorem dX6_wanted_1 : decode cX6_wanted 1 = .ok (.iload_n 1, 1) := by decide +kernel
theorem dX6_wanted_2 : decode cX6_wanted 2 = .ok (.iload_n 2, 1) := by decide +kernel
theorem dX6_wanted_3 : decode cX6_wanted 3 = .ok (.invokevirtual 119, 3) := by decide +kernel
theorem dX6_wanted_6 : decode cX6_wanted 6 = .ok (.ifCond .eq 18, 3) := by decide +kernel
theorem dX6_wanted_9 : decode cX6_wanted 9 = .ok (.aload_n 0, 1) := by decide +kernel
theorem dX6_wanted_10 : decode cX6_wanted 10 = .ok (.getfield 47, 3) := by decide +kernel
theorem dX6_wanted_13 : decode cX6_wanted 13 = .ok (.iload_n 1, 1) := by decide +kernel
theorem dX6_wanted_14 : decode cX6_wanted 14 = .ok (.iload_n 2, 1) := by decide +kernel
theorem dX6_wanted_15 : decode cX6_wanted 15 = .ok (.invokevirtual 138, 3) := by decide +kernel
theorem dX6_wanted_18 : decode cX6_wanted 18 = .ok (.invokestatic 142, 3) := by decide +kernel
theorem dX6_wanted_21 : decode cX6_wanted 21 = .ok (.goto 4, 3) := by decide +kernel
theorem dX6_wanted_24 : decode cX6_wanted 24 = .ok (.iconst (-1), 1) := by decide +kernel
theorem dX6_wanted_25 : decode cX6_wanted 25 = .ok (.ireturn, 1) := by decide +kernel
set_option maxRecDepth 20000 in
theorem ggX6_dealt_X6_isPair : GoodIn wsX6_dealt wsX6_isPair := goodIn_r _ [8, 1, 9, 10, 11, 12, 13, 14, 15, 16, 17, 18, 19, 20, 21, 103, 104, 105, 106, 107, 108, 109, 120, 121, 122, 123, 124, 125, 126, 127, 128, 129, 130, 131, 132, 133, 134, 135, 136, 137, 138, 139, 140, 141, 142] (by decide +kernel) (by decide +kernel)
set_option maxRecDepth 20000 in
theorem gX6_dealt_X6_isPair : GoodIn wsX6_dealt (wsV RX6 119 RX6 yX6_isPair wsX6_isPair) := goodIn_app (goodIn_of _ (by decide +kernel)) ggX6_dealt_X6_isPair
set_option maxRecDepth 20000 in
theorem ggX6_dealt_X1_hasEdge : GoodIn wsX6_dealt wsX1_hasEdge := goodIn_r _ [25, 26, 120, 121, 122, 123, 124, 125, 126] (by decide +kernel) (by decide +kernel)
set_option maxRecDepth 20000 in
theorem gX6_dealt_X1_hasEdge : GoodIn wsX6_dealt (wsV RX6 148 RX1 yX1_hasEdge wsX1_hasEdge) := goodIn_app (goodIn_of _ (by decide +kernel)) ggX6_dealt_X1_hasEdge
set_option maxRecDepth 20000 in
theorem ggX6_dealt_X2_readFits : GoodIn wsX6_dealt wsX2_readFits := goodIn_r _ [31, 32, 33, 34, 35, 36, 37, 17, 18, 19, 20, 21, 38, 39, 40, 30, 41, 42, 43, 44, 45, 46, 47, 48, 49, 50, 51, 52, 53, 54, 55, 56, 57, 58, 59, 60, 61, 62, 63, 64, 65, 66, 67, 68, 69, 70, 71, 72, 73, 74, 75, 76, 77, 78, 79, 80, 81, 82, 83, 84, 85, 86, 87, 88, 89, 90, 91, 92, 110, 111, 112, 113, 114, 115, 116, 117, 118, 119, 120, 121, 122, 123, 124, 125, 126, 127, 128, 129, 130, 131, 132, 133, 134, 135, 136, 137, 138, 139, 140, 141, 142] (by decide +kernel) (by decide +kernel)
set_option maxRecDepth 20000 in
theorem gX6_dealt_X2_readFits : GoodIn wsX6_dealt (wsV RX6 123 RX2 yX2_readFits wsX2_readFits) := goodIn_app (goodIn_of _ (by decide +kernel)) ggX6_dealt_X2_readFits
set_option maxRecDepth 20000 in
theorem ggX6_dealt_X2_wantedEdges : GoodIn wsX6_dealt wsX2_wantedEdges := goodIn_r _ [52, 35, 53, 34, 54, 55, 56, 57, 58, 30, 59, 60, 61, 110, 111, 112, 113, 114, 115, 116, 117, 118, 119, 120, 121, 122, 123, 124, 125, 126, 127, 128, 129, 130, 131, 132, 133, 134, 135, 136, 137, 138, 139, 140, 141, 142] (by decide +kernel) (by decide +kernel)
set_option maxRecDepth 20000 in
theorem gX6_dealt_X2_wantedEdges : GoodIn wsX6_dealt (wsV RX6 138 RX2 yX2_wantedEdges wsX2_wantedEdges) := goodIn_app (goodIn_of _ (by decide +kernel)) ggX6_dealt_X2_wantedEdges
set_option maxRecDepth 20000 in
theorem ggX6_dealt_X2_leastPartOf : GoodIn wsX6_dealt wsX2_leastPartOf := goodIn_r _ [97, 73, 49, 50, 51, 30, 52, 35, 53, 34, 54, 55, 56, 57, 58, 59, 60, 61, 98, 99, 100, 101, 102, 33, 44, 45, 46, 47, 48, 62, 63, 64, 65, 66, 67, 68, 69, 70, 71, 72, 74, 75, 76, 77, 78, 79, 80, 81, 82, 83, 84, 85, 86, 87, 88, 89, 90, 91, 92, 110, 111, 112, 113, 114, 115, 116, 117, 118, 119, 120, 121, 122, 123, 124, 125, 126, 127, 128, 129, 130, 131, 132, 133, 134, 135, 136, 137, 138, 139, 140, 141, 142] (by decide +kernel) (by decide +kernel)
set_option maxRecDepth 20000 in
theorem gX6_dealt_X2_leastPartOf : GoodIn wsX6_dealt (wsV RX6 151 RX2 yX2_leastPartOf wsX2_leastPartOf) := goodIn_app (goodIn_of _ (by decide +kernel)) ggX6_dealt_X2_leastPartOf
theorem dX6_dealt_0 : decode cX6_dealt 0 = .ok (.aload_n 0, 1) := by decide +kernel
theorem dX6_dealt_1 : decode cX6_dealt 1 = .ok (.iload_n 1, 1) := by decide +kernel
theorem dX6_dealt_2 : decode cX6_dealt 2 = .ok (.iload_n 2, 1) := by decide +kernel
theorem dX6_dealt_3 : decode cX6_dealt 3 = .ok (.invokevirtual 119, 3) := by decide +kernel
theorem dX6_dealt_6 : decode cX6_dealt 6 = .ok (.ifCond .eq 15, 3) := by decide +kernel
theorem dX6_dealt_9 : decode cX6_dealt 9 = .ok (.aload_n 0, 1) := by decide +kernel
theorem dX6_dealt_10 : decode cX6_dealt 10 = .ok (.getfield 10, 3) := by decide +kernel
theorem dX6_dealt_13 : decode cX6_dealt 13 = .ok (.iload_n 1, 1) := by decide +kernel
theorem dX6_dealt_14 : decode cX6_dealt 14 = .ok (.iload_n 3, 1) := by decide +kernel
theorem dX6_dealt_15 : decode cX6_dealt 15 = .ok (.invokevirtual 148, 3) := by decide +kernel
theorem dX6_dealt_18 : decode cX6_dealt 18 = .ok (.ifCond .ne 5, 3) := by decide +kernel
theorem dX6_dealt_21 : decode cX6_dealt 21 = .ok (.iconst (-1), 1) := by decide +kernel
theorem dX6_dealt_22 : decode cX6_dealt 22 = .ok (.ireturn, 1) := by decide +kernel
theorem dX6_dealt_23 : decode cX6_dealt 23 = .ok (.aload_n 0, 1) := by decide +kernel
theorem dX6_dealt_24 : decode cX6_dealt 24 = .ok (.getfield 47, 3) := by decide +kernel
theorem dX6_dealt_27 : decode cX6_dealt 27 = .ok (.invokevirtual 123, 3) := by decide +kernel
theorem dX6_dealt_30 : decode cX6_dealt 30 = .ok (.aload_n 0, 1) := by decide +kernel
theorem dX6_dealt_31 : decode cX6_dealt 31 = .ok (.getfield 47, 3) := by decide +kernel
theorem dX6_dealt_34 : decode cX6_dealt 34 = .ok (.getfield 126, 3) := by decide +kernel
theorem dX6_dealt_37 : decode cX6_dealt 37 = .ok (.iload_n 2, 1) := by decide +kernel
theorem dX6_dealt_38 : decode cX6_dealt 38 = .ok (.iaload, 1) := by decide +kernel
theorem dX6_dealt_39 : decode cX6_dealt 39 = .ok (.iload_n 1, 1) := by decide +kernel
theorem dX6_dealt_40 : decode cX6_dealt 40 = .ok (.ishr, 1) := by decide +kernel
theorem dX6_dealt_41 : decode cX6_dealt 41 = .ok (.iconst 1, 1) := by decide +kernel
theorem dX6_dealt_42 : decode cX6_dealt 42 = .ok (.iand, 1) := by decide +kernel
theorem dX6_dealt_43 : decode cX6_dealt 43 = .ok (.ifCond .ne 6, 3) := by decide +kernel
theorem dX6_dealt_46 : decode cX6_dealt 46 = .ok (.bipush (-2), 2) := by decide +kernel
theorem dX6_dealt_48 : decode cX6_dealt 48 = .ok (.ireturn, 1) := by decide +kernel
theorem dX6_dealt_49 : decode cX6_dealt 49 = .ok (.aload_n 0, 1) := by decide +kernel
theorem dX6_dealt_50 : decode cX6_dealt 50 = .ok (.getfield 47, 3) := by decide +kernel
theorem dX6_dealt_53 : decode cX6_dealt 53 = .ok (.iload_n 1, 1) := by decide +kernel
theorem dX6_dealt_54 : decode cX6_dealt 54 = .ok (.iload_n 2, 1) := by decide +kernel
theorem dX6_dealt_55 : decode cX6_dealt 55 = .ok (.invokevirtual 138, 3) := by decide +kernel
theorem dX6_dealt_58 : decode cX6_dealt 58 = .ok (.iload_n 3, 1) := by decide +kernel
theorem dX6_dealt_59 : decode cX6_dealt 59 = .ok (.ishr, 1) := by decide +kernel
theorem dX6_dealt_60 : decode cX6_dealt 60 = .ok (.iconst 1, 1) := by decide +kernel
theorem dX6_dealt_61 : decode cX6_dealt 61 = .ok (.iand, 1) := by decide +kernel
theorem dX6_dealt_62 : decode cX6_dealt 62 = .ok (.ifCond .ne 6, 3) := by decide +kernel
theorem dX6_dealt_65 : decode cX6_dealt 65 = .ok (.bipush (-4), 2) := by decide +kernel
theorem dX6_dealt_67 : decode cX6_dealt 67 = .ok (.ireturn, 1) := by decide +kernel
theorem dX6_dealt_68 : decode cX6_dealt 68 = .ok (.aload_n 0, 1) := by decide +kernel
theorem dX6_dealt_69 : decode cX6_dealt 69 = .ok (.getfield 47, 3) := by decide +kernel
theorem dX6_dealt_72 : decode cX6_dealt 72 = .ok (.iload_n 1, 1) := by decide +kernel
theorem dX6_dealt_73 : decode cX6_dealt 73 = .ok (.iload_n 2, 1) := by decide +kernel
theorem dX6_dealt_74 : decode cX6_dealt 74 = .ok (.iload_n 3, 1) := by decide +kernel
theorem dX6_dealt_75 : decode cX6_dealt 75 = .ok (.invokevirtual 151, 3) := by decide +kernel
theorem dX6_dealt_78 : decode cX6_dealt 78 = .ok (.ireturn, 1) := by decide +kernel
set_option maxRecDepth 20000 in
theorem ggX6_tooMany_X6_isPair : GoodIn wsX6_tooMany wsX6_isPair := goodIn_r _ [6, 7, 8, 9, 10, 11, 12, 13, 14, 15, 16, 17, 18, 19, 20, 104, 105, 106, 107, 108, 109, 110, 111, 112, 113, 114, 115, 116, 117, 118, 119, 120, 121, 122, 123, 124, 125, 126, 127, 128, 129, 130, 131, 132, 133] (by decide +kernel) (by decide +kernel)
set_option maxRecDepth 20000 in
theorem gX6_tooMany_X6_isPair : GoodIn wsX6_tooMany (wsV RX6 119 RX6 yX6_isPair wsX6_isPair) := goodIn_app (goodIn_of _ (by decide +kernel)) ggX6_tooMany_X6_isPair
set_option maxRecDepth 20000 in
theorem ggX6_tooMany_X2_surplusEdges : GoodIn wsX6_tooMany wsX2_surplusEdges := goodIn_r _ [25, 26, 27, 28, 29, 30, 31, 32, 33, 24, 34, 35, 36, 37, 38, 16, 17, 18, 19, 20, 39, 40, 41, 42, 43, 44, 45, 46, 47, 48, 49, 50, 51, 52, 53, 54, 55, 56, 57, 58, 59, 60, 61, 62, 63, 64, 65, 66, 67, 68, 69, 70, 71, 72, 73, 74, 75, 76, 77, 78, 79, 80, 81, 82, 83, 84, 85, 86, 87, 88, 89, 90, 91, 92, 93, 94, 95, 96, 97, 98, 99, 100, 101, 102, 134, 135, 136, 137, 138, 139, 140, 141, 142, 143, 111, 112, 113, 114, 115, 116, 117, 118, 119, 120, 121, 122, 123, 124, 125, 126, 127, 128, 129, 130, 131, 132, 133] (by decide +kernel) (by decide +kernel)
set_option maxRecDepth 20000 in
theorem gX6_tooMany_X2_surplusEdges : GoodIn wsX6_tooMany (wsV RX6 154 RX2 yX2_surplusEdges wsX2_surplusEdges) := goodIn_app (goodIn_of _ (by decide +kernel)) ggX6_tooMany_X2_surplusEdges
set_option maxRecDepth 20000 in
theorem ggX6_tooMany_J6_bitCount_0f7a4 : GoodIn wsX6_tooMany wsJ6_bitCount_0f7a4 := goodIn_r _ [94, 95, 96, 97] (by decide +kernel) (by decide +kernel)
set_option maxRecDepth 20000 in
theorem gX6_tooMany_J6_bitCount_0f7a4 : GoodIn wsX6_tooMany (va_wsS RX6 142 yJ6_bitCount_0f7a4 wsJ6_bitCount_0f7a4) := goodIn_app (goodIn_of _ (by decide +kernel)) ggX6_tooMany_J6_bitCount_0f7a4
theorem dX6_tooMany_0 : decode cX6_tooMany 0 = .ok (.aload_n 0, 1) := by decide +kernel
theorem dX6_tooMany_1 : decode cX6_tooMany 1 = .ok (.iload_n 1, 1) := by decide +kernel
theorem dX6_tooMany_2 : decode cX6_tooMany 2 = .ok (.iload_n 2, 1) := by decide +kernel
theorem dX6_tooMany_3 : decode cX6_tooMany 3 = .ok (.invokevirtual 119, 3) := by decide +kernel
theorem dX6_tooMany_6 : decode cX6_tooMany 6 = .ok (.ifCond .ne 5, 3) := by decide +kernel
theorem dX6_tooMany_9 : decode cX6_tooMany 9 = .ok (.iconst (-1), 1) := by decide +kernel
theorem dX6_tooMany_10 : decode cX6_tooMany 10 = .ok (.ireturn, 1) := by decide +kernel
theorem dX6_tooMany_11 : decode cX6_tooMany 11 = .ok (.aload_n 0, 1) := by decide +kernel
theorem dX6_tooMany_12 : decode cX6_tooMany 12 = .ok (.getfield 47, 3) := by decide +kernel
theorem dX6_tooMany_15 : decode cX6_tooMany 15 = .ok (.iload_n 1, 1) := by decide +kernel
theorem dX6_tooMany_16 : decode cX6_tooMany 16 = .ok (.iload_n 2, 1) := by decide +kernel
theorem dX6_tooMany_17 : decode cX6_tooMany 17 = .ok (.invokevirtual 154, 3) := by decide +kernel
theorem dX6_tooMany_20 : decode cX6_tooMany 20 = .ok (.istore_n 3, 1) := by decide +kernel
theorem dX6_tooMany_21 : decode cX6_tooMany 21 = .ok (.iload_n 3, 1) := by decide +kernel
theorem dX6_tooMany_22 : decode cX6_tooMany 22 = .ok (.ifCond .ge 8, 3) := by decide +kernel
theorem dX6_tooMany_25 : decode cX6_tooMany 25 = .ok (.bipush (-4), 2) := by decide +kernel
theorem dX6_tooMany_27 : decode cX6_tooMany 27 = .ok (.goto 7, 3) := by decide +kernel
theorem dX6_tooMany_30 : decode cX6_tooMany 30 = .ok (.iload_n 3, 1) := by decide +kernel
theorem dX6_tooMany_31 : decode cX6_tooMany 31 = .ok (.invokestatic 142, 3) := by decide +kernel
theorem dX6_tooMany_34 : decode cX6_tooMany 34 = .ok (.ireturn, 1) := by decide +kernel
set_option maxRecDepth 20000 in
theorem ggX6_which_X6_isPair : GoodIn wsX6_which wsX6_isPair := goodIn_r _ [6, 7, 8, 9, 10, 11, 12, 13, 14, 15, 16, 17, 18, 19, 20, 103, 104, 105, 106, 107, 108, 109, 110, 111, 112, 113, 114, 115, 116, 117, 118, 119, 120, 121, 122, 123, 124, 125, 126, 127, 128, 129, 130, 131, 132] (by decide +kernel) (by decide +kernel)
set_option maxRecDepth 20000 in
theorem gX6_which_X6_isPair : GoodIn wsX6_which (wsV RX6 119 RX6 yX6_isPair wsX6_isPair) := goodIn_app (goodIn_of _ (by decide +kernel)) ggX6_which_X6_isPair
set_option maxRecDepth 20000 in
theorem ggX6_which_X2_surplusEdges : GoodIn wsX6_which wsX2_surplusEdges := goodIn_r _ [25, 26, 27, 28, 29, 30, 31, 32, 33, 24, 34, 35, 36, 37, 38, 16, 17, 18, 19, 20, 39, 40, 41, 42, 43, 44, 45, 46, 47, 48, 49, 50, 51, 52, 53, 54, 55, 56, 57, 58, 59, 60, 61, 62, 63, 64, 65, 66, 67, 68, 69, 70, 71, 72, 73, 74, 75, 76, 77, 78, 79, 80, 81, 82, 83, 84, 85, 86, 87, 88, 89, 90, 91, 92, 93, 94, 95, 96, 97, 98, 99, 100, 101, 102, 133, 134, 135, 136, 137, 138, 139, 140, 141, 142, 110, 111, 112, 113, 114, 115, 116, 117, 118, 119, 120, 121, 122, 123, 124, 125, 126, 127, 128, 129, 130, 131, 132] (by decide +kernel) (by decide +kernel)
set_option maxRecDepth 20000 in
theorem gX6_which_X2_surplusEdges : GoodIn wsX6_which (wsV RX6 154 RX2 yX2_surplusEdges wsX2_surplusEdges) := goodIn_app (goodIn_of _ (by decide +kernel)) ggX6_which_X2_surplusEdges
theorem dX6_which_0 : decode cX6_which 0 = .ok (.aload_n 0, 1) := by decide +kernel
theorem dX6_which_1 : decode cX6_which 1 = .ok (.iload_n 1, 1) := by decide +kernel
theorem dX6_which_2 : decode cX6_which 2 = .ok (.iload_n 2, 1) := by decide +kernel
theorem dX6_which_3 : decode cX6_which 3 = .ok (.invokevirtual 119, 3) := by decide +kernel
theorem dX6_which_6 : decode cX6_which 6 = .ok (.ifCond .ne 5, 3) := by decide +kernel
theorem dX6_which_9 : decode cX6_which 9 = .ok (.iconst (-1), 1) := by decide +kernel
theorem dX6_which_10 : decode cX6_which 10 = .ok (.ireturn, 1) := by decide +kernel
theorem dX6_which_11 : decode cX6_which 11 = .ok (.aload_n 0, 1) := by decide +kernel
theorem dX6_which_12 : decode cX6_which 12 = .ok (.getfield 47, 3) := by decide +kernel
theorem dX6_which_15 : decode cX6_which 15 = .ok (.iload_n 1, 1) := by decide +kernel
theorem dX6_which_16 : decode cX6_which 16 = .ok (.iload_n 2, 1) := by decide +kernel
theorem dX6_which_17 : decode cX6_which 17 = .ok (.invokevirtual 154, 3) := by decide +kernel
theorem dX6_which_20 : decode cX6_which 20 = .ok (.istore_n 3, 1) := by decide +kernel
theorem dX6_which_21 : decode cX6_which 21 = .ok (.iload_n 3, 1) := by decide +kernel
theorem dX6_which_22 : decode cX6_which 22 = .ok (.ifCond .ge 8, 3) := by decide +kernel
theorem dX6_which_25 : decode cX6_which 25 = .ok (.bipush (-4), 2) := by decide +kernel
theorem dX6_which_27 : decode cX6_which 27 = .ok (.goto 4, 3) := by decide +kernel
theorem dX6_which_30 : decode cX6_which 30 = .ok (.iload_n 3, 1) := by decide +kernel
theorem dX6_which_31 : decode cX6_which 31 = .ok (.ireturn, 1) := by decide +kernel
set_option maxRecDepth 20000 in
theorem ggX6_depends_X0_hasShape : GoodIn wsX6_depends wsX0_hasShape := goodIn_r _ [7, 8, 16, 17, 18, 19, 20, 21, 22, 23, 24, 25, 26, 27, 28, 29, 30, 31] (by decide +kernel) (by decide +kernel)
set_option maxRecDepth 20000 in
theorem gX6_depends_X0_hasShape : GoodIn wsX6_depends (wsV RX6 135 RX0 yX0_hasShape wsX0_hasShape) := goodIn_app (goodIn_of _ (by decide +kernel)) ggX6_depends_X0_hasShape
theorem dX6_depends_0 : decode cX6_depends 0 = .ok (.aload_n 0, 1) := by decide +kernel
theorem dX6_depends_1 : decode cX6_depends 1 = .ok (.getfield 35, 3) := by decide +kernel
theorem dX6_depends_4 : decode cX6_depends 4 = .ok (.iload_n 1, 1) := by decide +kernel
theorem dX6_depends_5 : decode cX6_depends 5 = .ok (.invokevirtual 135, 3) := by decide +kernel
theorem dX6_depends_8 : decode cX6_depends 8 = .ok (.ifCond .eq 14, 3) := by decide +kernel
theorem dX6_depends_11 : decode cX6_depends 11 = .ok (.aload_n 0, 1) := by decide +kernel
theorem dX6_depends_12 : decode cX6_depends 12 = .ok (.getfield 35, 3) := by decide +kernel
theorem dX6_depends_15 : decode cX6_depends 15 = .ok (.iload_n 2, 1) := by decide +kernel
theorem dX6_depends_16 : decode cX6_depends 16 = .ok (.invokevirtual 135, 3) := by decide +kernel
theorem dX6_depends_19 : decode cX6_depends 19 = .ok (.ifCond .ne 5, 3) := by decide +kernel
theorem dX6_depends_22 : decode cX6_depends 22 = .ok (.iconst (-1), 1) := by decide +kernel
theorem dX6_depends_23 : decode cX6_depends 23 = .ok (.ireturn, 1) := by decide +kernel
theorem dX6_depends_24 : decode cX6_depends 24 = .ok (.aload_n 0, 1) := by decide +kernel
theorem dX6_depends_25 : decode cX6_depends 25 = .ok (.getfield 35, 3) := by decide +kernel
theorem dX6_depends_28 : decode cX6_depends 28 = .ok (.getfield 157, 3) := by decide +kernel
theorem dX6_depends_31 : decode cX6_depends 31 = .ok (.iload_n 1, 1) := by decide +kernel
theorem dX6_depends_32 : decode cX6_depends 32 = .ok (.iaload, 1) := by decide +kernel
theorem dX6_depends_33 : decode cX6_depends 33 = .ok (.iload_n 2, 1) := by decide +kernel
theorem dX6_depends_34 : decode cX6_depends 34 = .ok (.ishr, 1) := by decide +kernel
theorem dX6_depends_35 : decode cX6_depends 35 = .ok (.iconst 1, 1) := by decide +kernel
theorem dX6_depends_36 : decode cX6_depends 36 = .ok (.iand, 1) := by decide +kernel
theorem dX6_depends_37 : decode cX6_depends 37 = .ok (.ireturn, 1) := by decide +kernel
set_option maxRecDepth 20000 in
theorem ggX6_part_X0_hasPart : GoodIn wsX6_part wsX0_hasPart := goodIn_r _ [10, 11, 12, 13, 14, 9, 15, 16, 24, 25, 26, 27, 28, 29, 30, 31, 32, 33, 34, 35, 36, 37, 38, 39] (by decide +kernel) (by decide +kernel)
set_option maxRecDepth 20000 in
theorem gX6_part_X0_hasPart : GoodIn wsX6_part (wsV RX6 160 RX0 yX0_hasPart wsX0_hasPart) := goodIn_app (goodIn_of _ (by decide +kernel)) ggX6_part_X0_hasPart
theorem dX6_part_0 : decode cX6_part 0 = .ok (.aload_n 0, 1) := by decide +kernel
theorem dX6_part_1 : decode cX6_part 1 = .ok (.getfield 35, 3) := by decide +kernel
theorem dX6_part_4 : decode cX6_part 4 = .ok (.iload_n 1, 1) := by decide +kernel
theorem dX6_part_5 : decode cX6_part 5 = .ok (.iload_n 2, 1) := by decide +kernel
theorem dX6_part_6 : decode cX6_part 6 = .ok (.invokevirtual 160, 3) := by decide +kernel
theorem dX6_part_9 : decode cX6_part 9 = .ok (.ifCond .ne 5, 3) := by decide +kernel
theorem dX6_part_12 : decode cX6_part 12 = .ok (.iconst (-1), 1) := by decide +kernel
theorem dX6_part_13 : decode cX6_part 13 = .ok (.ireturn, 1) := by decide +kernel
theorem dX6_part_14 : decode cX6_part 14 = .ok (.iload_n 1, 1) := by decide +kernel
theorem dX6_part_15 : decode cX6_part 15 = .ok (.bipush 6, 2) := by decide +kernel
theorem dX6_part_17 : decode cX6_part 17 = .ok (.imul, 1) := by decide +kernel
theorem dX6_part_18 : decode cX6_part 18 = .ok (.iload_n 2, 1) := by decide +kernel
theorem dX6_part_19 : decode cX6_part 19 = .ok (.iadd, 1) := by decide +kernel
theorem dX6_part_20 : decode cX6_part 20 = .ok (.istore 4, 2) := by decide +kernel
theorem dX6_part_22 : decode cX6_part 22 = .ok (.iload_n 3, 1) := by decide +kernel
theorem dX6_part_23 : decode cX6_part 23 = .ok (.tableswitch 73 0 3 #[29, 40, 51, 62], 29) := by decide +kernel
theorem dX6_part_52 : decode cX6_part 52 = .ok (.aload_n 0, 1) := by decide +kernel
theorem dX6_part_53 : decode cX6_part 53 = .ok (.getfield 35, 3) := by decide +kernel
theorem dX6_part_56 : decode cX6_part 56 = .ok (.getfield 163, 3) := by decide +kernel
theorem dX6_part_59 : decode cX6_part 59 = .ok (.iload 4, 2) := by decide +kernel
theorem dX6_part_61 : decode cX6_part 61 = .ok (.iaload, 1) := by decide +kernel
theorem dX6_part_62 : decode cX6_part 62 = .ok (.ireturn, 1) := by decide +kernel
theorem dX6_part_63 : decode cX6_part 63 = .ok (.aload_n 0, 1) := by decide +kernel
theorem dX6_part_64 : decode cX6_part 64 = .ok (.getfield 35, 3) := by decide +kernel
theorem dX6_part_67 : decode cX6_part 67 = .ok (.getfield 166, 3) := by decide +kernel
theorem dX6_part_70 : decode cX6_part 70 = .ok (.iload 4, 2) := by decide +kernel
theorem dX6_part_72 : decode cX6_part 72 = .ok (.iaload, 1) := by decide +kernel
theorem dX6_part_73 : decode cX6_part 73 = .ok (.ireturn, 1) := by decide +kernel
theorem dX6_part_74 : decode cX6_part 74 = .ok (.aload_n 0, 1) := by decide +kernel
theorem dX6_part_75 : decode cX6_part 75 = .ok (.getfield 35, 3) := by decide +kernel
theorem dX6_part_78 : decode cX6_part 78 = .ok (.getfield 169, 3) := by decide +kernel
theorem dX6_part_81 : decode cX6_part 81 = .ok (.iload 4, 2) := by decide +kernel
theorem dX6_part_83 : decode cX6_part 83 = .ok (.iaload, 1) := by decide +kernel
theorem dX6_part_84 : decode cX6_part 84 = .ok (.ireturn, 1) := by decide +kernel
theorem dX6_part_85 : decode cX6_part 85 = .ok (.aload_n 0, 1) := by decide +kernel
theorem dX6_part_86 : decode cX6_part 86 = .ok (.getfield 35, 3) := by decide +kernel
theorem dX6_part_89 : decode cX6_part 89 = .ok (.getfield 172, 3) := by decide +kernel
theorem dX6_part_92 : decode cX6_part 92 = .ok (.iload 4, 2) := by decide +kernel
theorem dX6_part_94 : decode cX6_part 94 = .ok (.iaload, 1) := by decide +kernel
theorem dX6_part_95 : decode cX6_part 95 = .ok (.ireturn, 1) := by decide +kernel
theorem dX6_part_96 : decode cX6_part 96 = .ok (.iconst (-1), 1) := by decide +kernel
theorem dX6_part_97 : decode cX6_part 97 = .ok (.ireturn, 1) := by decide +kernel
set_option maxRecDepth 20000 in
theorem ggX6_told_X0_hasShape : GoodIn wsX6_told wsX0_hasShape := goodIn_r _ [9, 10, 18, 19, 20, 21, 22, 23, 24, 25, 26, 27, 28, 29, 30, 31, 32, 33] (by decide +kernel) (by decide +kernel)
set_option maxRecDepth 20000 in
theorem gX6_told_X0_hasShape : GoodIn wsX6_told (wsV RX6 135 RX0 yX0_hasShape wsX0_hasShape) := goodIn_app (goodIn_of _ (by decide +kernel)) ggX6_told_X0_hasShape
theorem dX6_told_0 : decode cX6_told 0 = .ok (.aload_n 0, 1) := by decide +kernel
theorem dX6_told_1 : decode cX6_told 1 = .ok (.getfield 35, 3) := by decide +kernel
theorem dX6_told_4 : decode cX6_told 4 = .ok (.iload_n 1, 1) := by decide +kernel
theorem dX6_told_5 : decode cX6_told 5 = .ok (.invokevirtual 135, 3) := by decide +kernel
theorem dX6_told_8 : decode cX6_told 8 = .ok (.ifCond .ne 5, 3) := by decide +kernel
theorem dX6_told_11 : decode cX6_told 11 = .ok (.iconst (-1), 1) := by decide +kernel
theorem dX6_told_12 : decode cX6_told 12 = .ok (.ireturn, 1) := by decide +kernel
theorem dX6_told_13 : decode cX6_told 13 = .ok (.iload_n 2, 1) := by decide +kernel
theorem dX6_told_14 : decode cX6_told 14 = .ok (.tableswitch 64 0 2 #[26, 36, 46], 26) := by decide +kernel
theorem dX6_told_40 : decode cX6_told 40 = .ok (.aload_n 0, 1) := by decide +kernel
theorem dX6_told_41 : decode cX6_told 41 = .ok (.getfield 35, 3) := by decide +kernel
theorem dX6_told_44 : decode cX6_told 44 = .ok (.getfield 175, 3) := by decide +kernel
theorem dX6_told_47 : decode cX6_told 47 = .ok (.iload_n 1, 1) := by decide +kernel
theorem dX6_told_48 : decode cX6_told 48 = .ok (.iaload, 1) := by decide +kernel
theorem dX6_told_49 : decode cX6_told 49 = .ok (.ireturn, 1) := by decide +kernel
theorem dX6_told_50 : decode cX6_told 50 = .ok (.aload_n 0, 1) := by decide +kernel
theorem dX6_told_51 : decode cX6_told 51 = .ok (.getfield 35, 3) := by decide +kernel
theorem dX6_told_54 : decode cX6_told 54 = .ok (.getfield 178, 3) := by decide +kernel
theorem dX6_told_57 : decode cX6_told 57 = .ok (.iload_n 1, 1) := by decide +kernel
theorem dX6_told_58 : decode cX6_told 58 = .ok (.iaload, 1) := by decide +kernel
theorem dX6_told_59 : decode cX6_told 59 = .ok (.ireturn, 1) := by decide +kernel
theorem dX6_told_60 : decode cX6_told 60 = .ok (.aload_n 0, 1) := by decide +kernel
theorem dX6_told_61 : decode cX6_told 61 = .ok (.getfield 35, 3) := by decide +kernel
theorem dX6_told_64 : decode cX6_told 64 = .ok (.getfield 181, 3) := by decide +kernel
theorem dX6_told_67 : decode cX6_told 67 = .ok (.iload_n 1, 1) := by decide +kernel
theorem dX6_told_68 : decode cX6_told 68 = .ok (.baload, 1) := by decide +kernel
theorem dX6_told_69 : decode cX6_told 69 = .ok (.ifCond .eq 7, 3) := by decide +kernel
theorem dX6_told_72 : decode cX6_told 72 = .ok (.iconst 1, 1) := by decide +kernel
theorem dX6_told_73 : decode cX6_told 73 = .ok (.goto 4, 3) := by decide +kernel
theorem dX6_told_76 : decode cX6_told 76 = .ok (.iconst 0, 1) := by decide +kernel
theorem dX6_told_77 : decode cX6_told 77 = .ok (.ireturn, 1) := by decide +kernel
theorem dX6_told_78 : decode cX6_told 78 = .ok (.iconst (-1), 1) := by decide +kernel
theorem dX6_told_79 : decode cX6_told 79 = .ok (.ireturn, 1) := by decide +kernel
set_option maxRecDepth 20000 in
theorem ggX6_from_X1_hasNode : GoodIn wsX6_from wsX1_hasNode := goodIn_r _ [8, 9, 22, 23, 24, 25, 26, 27, 28] (by decide +kernel) (by decide +kernel)
set_option maxRecDepth 20000 in
theorem gX6_from_X1_hasNode : GoodIn wsX6_from (wsV RX6 65 RX1 yX1_hasNode wsX1_hasNode) := goodIn_app (goodIn_of _ (by decide +kernel)) ggX6_from_X1_hasNode
set_option maxRecDepth 20000 in
theorem ggX6_from_X1_hasEdge : GoodIn wsX6_from wsX1_hasEdge := goodIn_r _ [13, 14, 22, 23, 24, 25, 26, 27, 28] (by decide +kernel) (by decide +kernel)
set_option maxRecDepth 20000 in
theorem gX6_from_X1_hasEdge : GoodIn wsX6_from (wsV RX6 148 RX1 yX1_hasEdge wsX1_hasEdge) := goodIn_app (goodIn_of _ (by decide +kernel)) ggX6_from_X1_hasEdge
theorem dX6_from_0 : decode cX6_from 0 = .ok (.aload_n 0, 1) := by decide +kernel
theorem dX6_from_1 : decode cX6_from 1 = .ok (.getfield 10, 3) := by decide +kernel
theorem dX6_from_4 : decode cX6_from 4 = .ok (.iload_n 1, 1) := by decide +kernel
theorem dX6_from_5 : decode cX6_from 5 = .ok (.invokevirtual 65, 3) := by decide +kernel
theorem dX6_from_8 : decode cX6_from 8 = .ok (.ifCond .eq 15, 3) := by decide +kernel
theorem dX6_from_11 : decode cX6_from 11 = .ok (.aload_n 0, 1) := by decide +kernel
theorem dX6_from_12 : decode cX6_from 12 = .ok (.getfield 10, 3) := by decide +kernel
theorem dX6_from_15 : decode cX6_from 15 = .ok (.iload_n 1, 1) := by decide +kernel
theorem dX6_from_16 : decode cX6_from 16 = .ok (.iload_n 2, 1) := by decide +kernel
theorem dX6_from_17 : decode cX6_from 17 = .ok (.invokevirtual 148, 3) := by decide +kernel
theorem dX6_from_20 : decode cX6_from 20 = .ok (.ifCond .ne 5, 3) := by decide +kernel
theorem dX6_from_23 : decode cX6_from 23 = .ok (.iconst (-1), 1) := by decide +kernel
theorem dX6_from_24 : decode cX6_from 24 = .ok (.ireturn, 1) := by decide +kernel
theorem dX6_from_25 : decode cX6_from 25 = .ok (.iload_n 1, 1) := by decide +kernel
theorem dX6_from_26 : decode cX6_from 26 = .ok (.iconst 5, 1) := by decide +kernel
theorem dX6_from_27 : decode cX6_from 27 = .ok (.imul, 1) := by decide +kernel
theorem dX6_from_28 : decode cX6_from 28 = .ok (.iload_n 2, 1) := by decide +kernel
theorem dX6_from_29 : decode cX6_from 29 = .ok (.iadd, 1) := by decide +kernel
theorem dX6_from_30 : decode cX6_from 30 = .ok (.istore 4, 2) := by decide +kernel
theorem dX6_from_32 : decode cX6_from 32 = .ok (.iload_n 3, 1) := by decide +kernel
theorem dX6_from_33 : decode cX6_from 33 = .ok (.lookupswitch 49 #[(0, 27), (1, 38)], 27) := by decide +kernel
theorem dX6_from_60 : decode cX6_from 60 = .ok (.aload_n 0, 1) := by decide +kernel
theorem dX6_from_61 : decode cX6_from 61 = .ok (.getfield 10, 3) := by decide +kernel
theorem dX6_from_64 : decode cX6_from 64 = .ok (.getfield 185, 3) := by decide +kernel
theorem dX6_from_67 : decode cX6_from 67 = .ok (.iload 4, 2) := by decide +kernel
theorem dX6_from_69 : decode cX6_from 69 = .ok (.iaload, 1) := by decide +kernel
theorem dX6_from_70 : decode cX6_from 70 = .ok (.ireturn, 1) := by decide +kernel
theorem dX6_from_71 : decode cX6_from 71 = .ok (.aload_n 0, 1) := by decide +kernel
theorem dX6_from_72 : decode cX6_from 72 = .ok (.getfield 10, 3) := by decide +kernel
theorem dX6_from_75 : decode cX6_from 75 = .ok (.getfield 188, 3) := by decide +kernel
theorem dX6_from_78 : decode cX6_from 78 = .ok (.iload 4, 2) := by decide +kernel
theorem dX6_from_80 : decode cX6_from 80 = .ok (.iaload, 1) := by decide +kernel
theorem dX6_from_81 : decode cX6_from 81 = .ok (.ireturn, 1) := by decide +kernel
theorem dX6_from_82 : decode cX6_from 82 = .ok (.iconst (-1), 1) := by decide +kernel
theorem dX6_from_83 : decode cX6_from 83 = .ok (.ireturn, 1) := by decide +kernel
set_option maxRecDepth 20000 in
theorem ggX6_reset_X1_clear : GoodIn wsX6_reset wsX1_clear := goodIn_r _ [9, 10, 11, 26, 27, 28, 29, 30, 31, 32] (by decide +kernel) (by decide +kernel)
set_option maxRecDepth 20000 in
theorem gX6_reset_X1_clear : GoodIn wsX6_reset (wsV RX6 191 RX1 yX1_clear wsX1_clear) := goodIn_app (goodIn_of _ (by decide +kernel)) ggX6_reset_X1_clear
set_option maxRecDepth 20000 in
theorem ggX6_reset_X2_forget : GoodIn wsX6_reset wsX2_forget := goodIn_r _ [16, 17, 18, 33, 34, 35, 36, 37, 38, 39, 40, 41, 42] (by decide +kernel) (by decide +kernel)
set_option maxRecDepth 20000 in
theorem gX6_reset_X2_forget : GoodIn wsX6_reset (wsV RX6 58 RX2 yX2_forget wsX2_forget) := goodIn_app (goodIn_of _ (by decide +kernel)) ggX6_reset_X2_forget
theorem dX6_reset_0 : decode cX6_reset 0 = .ok (.aload_n 0, 1) := by decide +kernel
theorem dX6_reset_1 : decode cX6_reset 1 = .ok (.getfield 10, 3) := by decide +kernel
theorem dX6_reset_4 : decode cX6_reset 4 = .ok (.getfield 55, 3) := by decide +kernel
theorem dX6_reset_7 : decode cX6_reset 7 = .ok (.istore_n 1, 1) := by decide +kernel
theorem dX6_reset_8 : decode cX6_reset 8 = .ok (.aload_n 0, 1) := by decide +kernel
theorem dX6_reset_9 : decode cX6_reset 9 = .ok (.getfield 10, 3) := by decide +kernel
theorem dX6_reset_12 : decode cX6_reset 12 = .ok (.invokevirtual 191, 3) := by decide +kernel
theorem dX6_reset_15 : decode cX6_reset 15 = .ok (.aload_n 0, 1) := by decide +kernel
theorem dX6_reset_16 : decode cX6_reset 16 = .ok (.getfield 47, 3) := by decide +kernel
theorem dX6_reset_19 : decode cX6_reset 19 = .ok (.invokevirtual 58, 3) := by decide +kernel
theorem dX6_reset_22 : decode cX6_reset 22 = .ok (.aload_n 0, 1) := by decide +kernel
theorem dX6_reset_23 : decode cX6_reset 23 = .ok (.iconst 0, 1) := by decide +kernel
theorem dX6_reset_24 : decode cX6_reset 24 = .ok (.putfield 51, 3) := by decide +kernel
theorem dX6_reset_27 : decode cX6_reset 27 = .ok (.iload_n 1, 1) := by decide +kernel
theorem dX6_reset_28 : decode cX6_reset 28 = .ok (.ireturn, 1) := by decide +kernel
set_option maxRecDepth 20000 in
theorem ggX6_count_X2_readFits : GoodIn wsX6_count wsX2_readFits := goodIn_r _ [15, 16, 17, 18, 19, 20, 21, 22, 23, 24, 25, 26, 27, 28, 29, 14, 30, 31, 32, 33, 34, 35, 36, 37, 38, 39, 40, 41, 42, 43, 44, 45, 46, 47, 48, 49, 50, 51, 52, 53, 54, 55, 56, 57, 58, 59, 60, 61, 62, 63, 64, 65, 66, 67, 68, 69, 70, 71, 72, 73, 74, 75, 76, 77, 78, 79, 80, 81, 136, 137, 138, 139, 140, 141, 142, 143, 144, 145, 111, 112, 113, 114, 115, 116, 117, 118, 119, 120, 121, 122, 123, 124, 125, 126, 127, 128, 129, 130, 131, 132, 133] (by decide +kernel) (by decide +kernel)
set_option maxRecDepth 20000 in
theorem gX6_count_X2_readFits : GoodIn wsX6_count (wsV RX6 123 RX2 yX2_readFits wsX2_readFits) := goodIn_app (goodIn_of _ (by decide +kernel)) ggX6_count_X2_readFits
set_option maxRecDepth 20000 in
theorem ggX6_count_X6_pairsIn : GoodIn wsX6_count wsX6_pairsIn := goodIn_r _ [86, 4, 5, 87, 88, 89, 90, 91, 92, 93, 104, 105, 106, 107, 108, 109, 110, 118, 119, 120, 121, 122, 123, 124, 125, 126, 127, 128, 129, 130, 131, 132, 133] (by decide +kernel) (by decide +kernel)
set_option maxRecDepth 20000 in
theorem gX6_count_X6_pairsIn : GoodIn wsX6_count (wsV RX6 194 RX6 yX6_pairsIn wsX6_pairsIn) := goodIn_app (goodIn_of _ (by decide +kernel)) ggX6_count_X6_pairsIn
set_option maxRecDepth 20000 in
theorem ggX6_count_X2_readSure : GoodIn wsX6_count wsX2_readSure := goodIn_r _ [97, 98, 99, 100, 101, 102, 14, 103, 18, 31, 19, 20, 33, 34, 35, 36, 37, 38, 39, 40, 41, 42, 43, 44, 45, 46, 47, 48, 49, 50, 51, 52, 53, 54, 55, 56, 57, 58, 59, 60, 61, 62, 63, 64, 65, 66, 67, 68, 69, 70, 17, 71, 72, 73, 74, 75, 76, 77, 78, 79, 80, 81, 136, 137, 138, 139, 140, 141, 142, 143, 144, 145, 118, 119, 120, 121, 122, 123, 124, 125, 126, 127, 128, 129, 130, 131, 132, 133, 111, 112, 113, 114, 115, 116, 117] (by decide +kernel) (by decide +kernel)
set_option maxRecDepth 20000 in
theorem gX6_count_X2_readSure : GoodIn wsX6_count (wsV RX6 129 RX2 yX2_readSure wsX2_readSure) := goodIn_app (goodIn_of _ (by decide +kernel)) ggX6_count_X2_readSure
theorem dX6_count_0 : decode cX6_count 0 = .ok (.iload_n 1, 1) := by decide +kernel
theorem dX6_count_1 : decode cX6_count 1 = .ok (.tableswitch 116 0 5 #[39, 47, 55, 63, 71, 90], 39) := by decide +kernel
theorem dX6_count_40 : decode cX6_count 40 = .ok (.aload_n 0, 1) := by decide +kernel
theorem dX6_count_41 : decode cX6_count 41 = .ok (.getfield 10, 3) := by decide +kernel
theorem dX6_count_44 : decode cX6_count 44 = .ok (.getfield 55, 3) := by decide +kernel
theorem dX6_count_47 : decode cX6_count 47 = .ok (.ireturn, 1) := by decide +kernel
theorem dX6_count_48 : decode cX6_count 48 = .ok (.aload_n 0, 1) := by decide +kernel
theorem dX6_count_49 : decode cX6_count 49 = .ok (.getfield 10, 3) := by decide +kernel
theorem dX6_count_52 : decode cX6_count 52 = .ok (.getfield 81, 3) := by decide +kernel
theorem dX6_count_55 : decode cX6_count 55 = .ok (.ireturn, 1) := by decide +kernel
theorem dX6_count_56 : decode cX6_count 56 = .ok (.aload_n 0, 1) := by decide +kernel
theorem dX6_count_57 : decode cX6_count 57 = .ok (.getfield 35, 3) := by decide +kernel
theorem dX6_count_60 : decode cX6_count 60 = .ok (.getfield 116, 3) := by decide +kernel
theorem dX6_count_63 : decode cX6_count 63 = .ok (.ireturn, 1) := by decide +kernel
theorem dX6_count_64 : decode cX6_count 64 = .ok (.aload_n 0, 1) := by decide +kernel
theorem dX6_count_65 : decode cX6_count 65 = .ok (.getfield 19, 3) := by decide +kernel
theorem dX6_count_68 : decode cX6_count 68 = .ok (.getfield 96, 3) := by decide +kernel
theorem dX6_count_71 : decode cX6_count 71 = .ok (.ireturn, 1) := by decide +kernel
theorem dX6_count_72 : decode cX6_count 72 = .ok (.aload_n 0, 1) := by decide +kernel
theorem dX6_count_73 : decode cX6_count 73 = .ok (.getfield 47, 3) := by decide +kernel
theorem dX6_count_76 : decode cX6_count 76 = .ok (.invokevirtual 123, 3) := by decide +kernel
theorem dX6_count_79 : decode cX6_count 79 = .ok (.aload_n 0, 1) := by decide +kernel
theorem dX6_count_80 : decode cX6_count 80 = .ok (.aload_n 0, 1) := by decide +kernel
theorem dX6_count_81 : decode cX6_count 81 = .ok (.getfield 47, 3) := by decide +kernel
theorem dX6_count_84 : decode cX6_count 84 = .ok (.getfield 126, 3) := by decide +kernel
theorem dX6_count_87 : decode cX6_count 87 = .ok (.invokevirtual 194, 3) := by decide +kernel
theorem dX6_count_90 : decode cX6_count 90 = .ok (.ireturn, 1) := by decide +kernel
theorem dX6_count_91 : decode cX6_count 91 = .ok (.aload_n 0, 1) := by decide +kernel
theorem dX6_count_92 : decode cX6_count 92 = .ok (.getfield 47, 3) := by decide +kernel
theorem dX6_count_95 : decode cX6_count 95 = .ok (.invokevirtual 123, 3) := by decide +kernel
theorem dX6_count_98 : decode cX6_count 98 = .ok (.aload_n 0, 1) := by decide +kernel
theorem dX6_count_99 : decode cX6_count 99 = .ok (.getfield 47, 3) := by decide +kernel
theorem dX6_count_102 : decode cX6_count 102 = .ok (.invokevirtual 129, 3) := by decide +kernel
theorem dX6_count_105 : decode cX6_count 105 = .ok (.aload_n 0, 1) := by decide +kernel
theorem dX6_count_106 : decode cX6_count 106 = .ok (.aload_n 0, 1) := by decide +kernel
theorem dX6_count_107 : decode cX6_count 107 = .ok (.getfield 47, 3) := by decide +kernel
theorem dX6_count_110 : decode cX6_count 110 = .ok (.getfield 132, 3) := by decide +kernel
theorem dX6_count_113 : decode cX6_count 113 = .ok (.invokevirtual 194, 3) := by decide +kernel
theorem dX6_count_116 : decode cX6_count 116 = .ok (.ireturn, 1) := by decide +kernel
theorem dX6_count_117 : decode cX6_count 117 = .ok (.iconst (-1), 1) := by decide +kernel
theorem dX6_count_118 : decode cX6_count 118 = .ok (.ireturn, 1) := by decide +kernel
set_option maxRecDepth 20000 in
theorem ggX6_isPair_X1_hasNode : GoodIn wsX6_isPair wsX1_hasNode := goodIn_r _ [7, 8, 22, 23, 24, 25, 26, 27, 28] (by decide +kernel) (by decide +kernel)
set_option maxRecDepth 20000 in
theorem gX6_isPair_X1_hasNode : GoodIn wsX6_isPair (wsV RX6 65 RX1 yX1_hasNode wsX1_hasNode) := goodIn_app (goodIn_of _ (by decide +kernel)) ggX6_isPair_X1_hasNode
set_option maxRecDepth 20000 in
theorem ggX6_isPair_X0_hasShape : GoodIn wsX6_isPair wsX0_hasShape := goodIn_r _ [13, 14, 29, 30, 31, 32, 33, 34, 35, 36, 37, 38, 39, 40, 41, 42, 43, 44] (by decide +kernel) (by decide +kernel)
set_option maxRecDepth 20000 in
theorem gX6_isPair_X0_hasShape : GoodIn wsX6_isPair (wsV RX6 135 RX0 yX0_hasShape wsX0_hasShape) := goodIn_app (goodIn_of _ (by decide +kernel)) ggX6_isPair_X0_hasShape
theorem dX6_isPair_0 : decode cX6_isPair 0 = .ok (.aload_n 0, 1) := by decide +kernel
theorem dX6_isPair_1 : decode cX6_isPair 1 = .ok (.getfield 10, 3) := by decide +kernel
theorem dX6_isPair_4 : decode cX6_isPair 4 = .ok (.iload_n 1, 1) := by decide +kernel
theorem dX6_isPair_5 : decode cX6_isPair 5 = .ok (.invokevirtual 65, 3) := by decide +kernel
theorem dX6_isPair_8 : decode cX6_isPair 8 = .ok (.ifCond .eq 18, 3) := by decide +kernel
theorem dX6_isPair_11 : decode cX6_isPair 11 = .ok (.aload_n 0, 1) := by decide +kernel
theorem dX6_isPair_12 : decode cX6_isPair 12 = .ok (.getfield 35, 3) := by decide +kernel
theorem dX6_isPair_15 : decode cX6_isPair 15 = .ok (.iload_n 2, 1) := by decide +kernel
theorem dX6_isPair_16 : decode cX6_isPair 16 = .ok (.invokevirtual 135, 3) := by decide +kernel
theorem dX6_isPair_19 : decode cX6_isPair 19 = .ok (.ifCond .eq 7, 3) := by decide +kernel
theorem dX6_isPair_22 : decode cX6_isPair 22 = .ok (.iconst 1, 1) := by decide +kernel
theorem dX6_isPair_23 : decode cX6_isPair 23 = .ok (.goto 4, 3) := by decide +kernel
theorem dX6_isPair_26 : decode cX6_isPair 26 = .ok (.iconst 0, 1) := by decide +kernel
theorem dX6_isPair_27 : decode cX6_isPair 27 = .ok (.ireturn, 1) := by decide +kernel
set_option maxRecDepth 20000 in
theorem ggX6_pairsIn_J6_bitCount_0f7a4 : GoodIn wsX6_pairsIn wsJ6_bitCount_0f7a4 := goodIn_r _ [6, 7, 8, 9] (by decide +kernel) (by decide +kernel)
set_option maxRecDepth 20000 in
theorem gX6_pairsIn_J6_bitCount_0f7a4 : GoodIn wsX6_pairsIn (va_wsS RX6 142 yJ6_bitCount_0f7a4 wsJ6_bitCount_0f7a4) := goodIn_app (goodIn_of _ (by decide +kernel)) ggX6_pairsIn_J6_bitCount_0f7a4
theorem dX6_pairsIn_0 : decode cX6_pairsIn 0 = .ok (.iconst 0, 1) := by decide +kernel
theorem dX6_pairsIn_1 : decode cX6_pairsIn 1 = .ok (.istore_n 2, 1) := by decide +kernel
theorem dX6_pairsIn_2 : decode cX6_pairsIn 2 = .ok (.iconst 0, 1) := by decide +kernel
theorem dX6_pairsIn_3 : decode cX6_pairsIn 3 = .ok (.istore_n 3, 1) := by decide +kernel
theorem dX6_pairsIn_4 : decode cX6_pairsIn 4 = .ok (.iload_n 3, 1) := by decide +kernel
theorem dX6_pairsIn_5 : decode cX6_pairsIn 5 = .ok (.aload_n 0, 1) := by decide +kernel
theorem dX6_pairsIn_6 : decode cX6_pairsIn 6 = .ok (.getfield 35, 3) := by decide +kernel
theorem dX6_pairsIn_9 : decode cX6_pairsIn 9 = .ok (.getfield 116, 3) := by decide +kernel
theorem dX6_pairsIn_12 : decode cX6_pairsIn 12 = .ok (.if_icmp .ge 24, 3) := by decide +kernel
theorem dX6_pairsIn_15 : decode cX6_pairsIn 15 = .ok (.iload_n 3, 1) := by decide +kernel
theorem dX6_pairsIn_16 : decode cX6_pairsIn 16 = .ok (.aload_n 1, 1) := by decide +kernel
theorem dX6_pairsIn_17 : decode cX6_pairsIn 17 = .ok (.arraylength, 1) := by decide +kernel
theorem dX6_pairsIn_18 : decode cX6_pairsIn 18 = .ok (.if_icmp .ge 18, 3) := by decide +kernel
theorem dX6_pairsIn_21 : decode cX6_pairsIn 21 = .ok (.iload_n 2, 1) := by decide +kernel
theorem dX6_pairsIn_22 : decode cX6_pairsIn 22 = .ok (.aload_n 1, 1) := by decide +kernel
theorem dX6_pairsIn_23 : decode cX6_pairsIn 23 = .ok (.iload_n 3, 1) := by decide +kernel
theorem dX6_pairsIn_24 : decode cX6_pairsIn 24 = .ok (.iaload, 1) := by decide +kernel
theorem dX6_pairsIn_25 : decode cX6_pairsIn 25 = .ok (.invokestatic 142, 3) := by decide +kernel
theorem dX6_pairsIn_28 : decode cX6_pairsIn 28 = .ok (.iadd, 1) := by decide +kernel
theorem dX6_pairsIn_29 : decode cX6_pairsIn 29 = .ok (.istore_n 2, 1) := by decide +kernel
theorem dX6_pairsIn_30 : decode cX6_pairsIn 30 = .ok (.iinc 3 1, 3) := by decide +kernel
theorem dX6_pairsIn_33 : decode cX6_pairsIn 33 = .ok (.goto (-29), 3) := by decide +kernel
theorem dX6_pairsIn_36 : decode cX6_pairsIn 36 = .ok (.iload_n 2, 1) := by decide +kernel
theorem dX6_pairsIn_37 : decode cX6_pairsIn 37 = .ok (.ireturn, 1) := by decide +kernel
theorem dX7_init_0 : decode cX7_init 0 = .ok (.aload_n 0, 1) := by decide +kernel
theorem dX7_init_1 : decode cX7_init 1 = .ok (.invokespecial 1, 3) := by decide +kernel
theorem dX7_init_4 : decode cX7_init 4 = .ok (.aload_n 0, 1) := by decide +kernel
theorem dX7_init_5 : decode cX7_init 5 = .ok (.bipush 10, 2) := by decide +kernel
theorem dX7_init_7 : decode cX7_init 7 = .ok (.newarray .boolean, 2) := by decide +kernel
theorem dX7_init_9 : decode cX7_init 9 = .ok (.putfield 7, 3) := by decide +kernel
theorem dX7_init_12 : decode cX7_init 12 = .ok (.aload_n 0, 1) := by decide +kernel
theorem dX7_init_13 : decode cX7_init 13 = .ok (.bipush 10, 2) := by decide +kernel
theorem dX7_init_15 : decode cX7_init 15 = .ok (.newarray .int, 2) := by decide +kernel
theorem dX7_init_17 : decode cX7_init 17 = .ok (.putfield 13, 3) := by decide +kernel
theorem dX7_init_20 : decode cX7_init 20 = .ok (.aload_n 0, 1) := by decide +kernel
theorem dX7_init_21 : decode cX7_init 21 = .ok (.bipush 10, 2) := by decide +kernel
theorem dX7_init_23 : decode cX7_init 23 = .ok (.newarray .int, 2) := by decide +kernel
theorem dX7_init_25 : decode cX7_init 25 = .ok (.putfield 17, 3) := by decide +kernel
theorem dX7_init_28 : decode cX7_init 28 = .ok (.aload_n 0, 1) := by decide +kernel
theorem dX7_init_29 : decode cX7_init 29 = .ok (.bipush 50, 2) := by decide +kernel
theorem dX7_init_31 : decode cX7_init 31 = .ok (.newarray .int, 2) := by decide +kernel
theorem dX7_init_33 : decode cX7_init 33 = .ok (.putfield 20, 3) := by decide +kernel
theorem dX7_init_36 : decode cX7_init 36 = .ok (.aload_n 0, 1) := by decide +kernel
theorem dX7_init_37 : decode cX7_init 37 = .ok (.bipush 50, 2) := by decide +kernel
theorem dX7_init_39 : decode cX7_init 39 = .ok (.newarray .int, 2) := by decide +kernel
theorem dX7_init_41 : decode cX7_init 41 = .ok (.putfield 23, 3) := by decide +kernel
theorem dX7_init_44 : decode cX7_init 44 = .ok (.aload_n 0, 1) := by decide +kernel
theorem dX7_init_45 : decode cX7_init 45 = .ok (.bipush 6, 2) := by decide +kernel
theorem dX7_init_47 : decode cX7_init 47 = .ok (.newarray .int, 2) := by decide +kernel
theorem dX7_init_49 : decode cX7_init 49 = .ok (.putfield 26, 3) := by decide +kernel
theorem dX7_init_52 : decode cX7_init 52 = .ok (.aload_n 0, 1) := by decide +kernel
theorem dX7_init_53 : decode cX7_init 53 = .ok (.bipush 6, 2) := by decide +kernel
theorem dX7_init_55 : decode cX7_init 55 = .ok (.newarray .boolean, 2) := by decide +kernel
theorem dX7_init_57 : decode cX7_init 57 = .ok (.putfield 29, 3) := by decide +kernel
theorem dX7_init_60 : decode cX7_init 60 = .ok (.aload_n 0, 1) := by decide +kernel
theorem dX7_init_61 : decode cX7_init 61 = .ok (.bipush 6, 2) := by decide +kernel
theorem dX7_init_63 : decode cX7_init 63 = .ok (.newarray .int, 2) := by decide +kernel
theorem dX7_init_65 : decode cX7_init 65 = .ok (.putfield 32, 3) := by decide +kernel
theorem dX7_init_68 : decode cX7_init 68 = .ok (.aload_n 0, 1) := by decide +kernel
theorem dX7_init_69 : decode cX7_init 69 = .ok (.bipush 36, 2) := by decide +kernel
theorem dX7_init_71 : decode cX7_init 71 = .ok (.newarray .int, 2) := by decide +kernel
theorem dX7_init_73 : decode cX7_init 73 = .ok (.putfield 35, 3) := by decide +kernel
theorem dX7_init_76 : decode cX7_init 76 = .ok (.aload_n 0, 1) := by decide +kernel
theorem dX7_init_77 : decode cX7_init 77 = .ok (.bipush 36, 2) := by decide +kernel
theorem dX7_init_79 : decode cX7_init 79 = .ok (.newarray .int, 2) := by decide +kernel
theorem dX7_init_81 : decode cX7_init 81 = .ok (.putfield 38, 3) := by decide +kernel
theorem dX7_init_84 : decode cX7_init 84 = .ok (.aload_n 0, 1) := by decide +kernel
theorem dX7_init_85 : decode cX7_init 85 = .ok (.bipush 36, 2) := by decide +kernel
theorem dX7_init_87 : decode cX7_init 87 = .ok (.newarray .int, 2) := by decide +kernel
theorem dX7_init_89 : decode cX7_init 89 = .ok (.putfield 41, 3) := by decide +kernel
theorem dX7_init_92 : decode cX7_init 92 = .ok (.aload_n 0, 1) := by decide +kernel
theorem dX7_init_93 : decode cX7_init 93 = .ok (.bipush 36, 2) := by decide +kernel
theorem dX7_init_95 : decode cX7_init 95 = .ok (.newarray .int, 2) := by decide +kernel
theorem dX7_init_97 : decode cX7_init 97 = .ok (.putfield 44, 3) := by decide +kernel
theorem dX7_init_100 : decode cX7_init 100 = .ok (.aload_n 0, 1) := by decide +kernel
theorem dX7_init_101 : decode cX7_init 101 = .ok (.bipush 6, 2) := by decide +kernel
theorem dX7_init_103 : decode cX7_init 103 = .ok (.newarray .int, 2) := by decide +kernel
theorem dX7_init_105 : decode cX7_init 105 = .ok (.putfield 47, 3) := by decide +kernel
theorem dX7_init_108 : decode cX7_init 108 = .ok (.aload_n 0, 1) := by decide +kernel
theorem dX7_init_109 : decode cX7_init 109 = .ok (.sipush 960, 3) := by decide +kernel
theorem dX7_init_112 : decode cX7_init 112 = .ok (.newarray .int, 2) := by decide +kernel
theorem dX7_init_114 : decode cX7_init 114 = .ok (.putfield 50, 3) := by decide +kernel
theorem dX7_init_117 : decode cX7_init 117 = .ok (.aload_n 0, 1) := by decide +kernel
theorem dX7_init_118 : decode cX7_init 118 = .ok (.sipush 960, 3) := by decide +kernel
theorem dX7_init_121 : decode cX7_init 121 = .ok (.newarray .int, 2) := by decide +kernel
theorem dX7_init_123 : decode cX7_init 123 = .ok (.putfield 53, 3) := by decide +kernel
theorem dX7_init_126 : decode cX7_init 126 = .ok (.aload_n 0, 1) := by decide +kernel
theorem dX7_init_127 : decode cX7_init 127 = .ok (.sipush 960, 3) := by decide +kernel
theorem dX7_init_130 : decode cX7_init 130 = .ok (.newarray .int, 2) := by decide +kernel
theorem dX7_init_132 : decode cX7_init 132 = .ok (.putfield 56, 3) := by decide +kernel
theorem dX7_init_135 : decode cX7_init 135 = .ok (.aload_n 0, 1) := by decide +kernel
theorem dX7_init_136 : decode cX7_init 136 = .ok (.sipush 960, 3) := by decide +kernel
theorem dX7_init_139 : decode cX7_init 139 = .ok (.newarray .int, 2) := by decide +kernel
theorem dX7_init_141 : decode cX7_init 141 = .ok (.putfield 59, 3) := by decide +kernel
theorem dX7_init_144 : decode cX7_init 144 = .ok (.aload_n 0, 1) := by decide +kernel
theorem dX7_init_145 : decode cX7_init 145 = .ok (.sipush 960, 3) := by decide +kernel
theorem dX7_init_148 : decode cX7_init 148 = .ok (.newarray .int, 2) := by decide +kernel
theorem dX7_init_150 : decode cX7_init 150 = .ok (.putfield 62, 3) := by decide +kernel
theorem dX7_init_153 : decode cX7_init 153 = .ok (.aload_n 0, 1) := by decide +kernel
theorem dX7_init_154 : decode cX7_init 154 = .ok (.bipush 6, 2) := by decide +kernel
theorem dX7_init_156 : decode cX7_init 156 = .ok (.newarray .int, 2) := by decide +kernel
theorem dX7_init_158 : decode cX7_init 158 = .ok (.putfield 65, 3) := by decide +kernel
theorem dX7_init_161 : decode cX7_init 161 = .ok (.aload_n 0, 1) := by decide +kernel
theorem dX7_init_162 : decode cX7_init 162 = .ok (.bipush 6, 2) := by decide +kernel
theorem dX7_init_164 : decode cX7_init 164 = .ok (.newarray .boolean, 2) := by decide +kernel
theorem dX7_init_166 : decode cX7_init 166 = .ok (.putfield 68, 3) := by decide +kernel
theorem dX7_init_169 : decode cX7_init 169 = .ok (.aload_n 0, 1) := by decide +kernel
theorem dX7_init_170 : decode cX7_init 170 = .ok (.bipush 6, 2) := by decide +kernel
theorem dX7_init_172 : decode cX7_init 172 = .ok (.newarray .int, 2) := by decide +kernel
theorem dX7_init_174 : decode cX7_init 174 = .ok (.putfield 71, 3) := by decide +kernel
theorem dX7_init_177 : decode cX7_init 177 = .ok (.aload_n 0, 1) := by decide +kernel
theorem dX7_init_178 : decode cX7_init 178 = .ok (.bipush 36, 2) := by decide +kernel
theorem dX7_init_180 : decode cX7_init 180 = .ok (.newarray .int, 2) := by decide +kernel
theorem dX7_init_182 : decode cX7_init 182 = .ok (.putfield 74, 3) := by decide +kernel
theorem dX7_init_185 : decode cX7_init 185 = .ok (.aload_n 0, 1) := by decide +kernel
theorem dX7_init_186 : decode cX7_init 186 = .ok (.bipush 36, 2) := by decide +kernel
theorem dX7_init_188 : decode cX7_init 188 = .ok (.newarray .int, 2) := by decide +kernel
theorem dX7_init_190 : decode cX7_init 190 = .ok (.putfield 77, 3) := by decide +kernel
theorem dX7_init_193 : decode cX7_init 193 = .ok (.aload_n 0, 1) := by decide +kernel
theorem dX7_init_194 : decode cX7_init 194 = .ok (.bipush 36, 2) := by decide +kernel
theorem dX7_init_196 : decode cX7_init 196 = .ok (.newarray .int, 2) := by decide +kernel
theorem dX7_init_198 : decode cX7_init 198 = .ok (.putfield 80, 3) := by decide +kernel
theorem dX7_init_201 : decode cX7_init 201 = .ok (.aload_n 0, 1) := by decide +kernel
theorem dX7_init_202 : decode cX7_init 202 = .ok (.bipush 36, 2) := by decide +kernel
theorem dX7_init_204 : decode cX7_init 204 = .ok (.newarray .int, 2) := by decide +kernel
theorem dX7_init_206 : decode cX7_init 206 = .ok (.putfield 83, 3) := by decide +kernel
theorem dX7_init_209 : decode cX7_init 209 = .ok (.aload_n 0, 1) := by decide +kernel
theorem dX7_init_210 : decode cX7_init 210 = .ok (.bipush 36, 2) := by decide +kernel
theorem dX7_init_212 : decode cX7_init 212 = .ok (.newarray .int, 2) := by decide +kernel
theorem dX7_init_214 : decode cX7_init 214 = .ok (.putfield 86, 3) := by decide +kernel
theorem dX7_init_217 : decode cX7_init 217 = .ok (.aload_n 0, 1) := by decide +kernel
theorem dX7_init_218 : decode cX7_init 218 = .ok (.bipush 6, 2) := by decide +kernel
theorem dX7_init_220 : decode cX7_init 220 = .ok (.newarray .int, 2) := by decide +kernel
theorem dX7_init_222 : decode cX7_init 222 = .ok (.putfield 89, 3) := by decide +kernel
theorem dX7_init_225 : decode cX7_init 225 = .ok (.aload_n 0, 1) := by decide +kernel
theorem dX7_init_226 : decode cX7_init 226 = .ok (.sipush 960, 3) := by decide +kernel
theorem dX7_init_229 : decode cX7_init 229 = .ok (.newarray .int, 2) := by decide +kernel
theorem dX7_init_231 : decode cX7_init 231 = .ok (.putfield 92, 3) := by decide +kernel
theorem dX7_init_234 : decode cX7_init 234 = .ok (.aload_n 0, 1) := by decide +kernel
theorem dX7_init_235 : decode cX7_init 235 = .ok (.sipush 960, 3) := by decide +kernel
theorem dX7_init_238 : decode cX7_init 238 = .ok (.newarray .int, 2) := by decide +kernel
theorem dX7_init_240 : decode cX7_init 240 = .ok (.putfield 95, 3) := by decide +kernel
theorem dX7_init_243 : decode cX7_init 243 = .ok (.aload_n 0, 1) := by decide +kernel
theorem dX7_init_244 : decode cX7_init 244 = .ok (.sipush 960, 3) := by decide +kernel
theorem dX7_init_247 : decode cX7_init 247 = .ok (.newarray .int, 2) := by decide +kernel
theorem dX7_init_249 : decode cX7_init 249 = .ok (.putfield 98, 3) := by decide +kernel
theorem dX7_init_252 : decode cX7_init 252 = .ok (.aload_n 0, 1) := by decide +kernel
theorem dX7_init_253 : decode cX7_init 253 = .ok (.sipush 960, 3) := by decide +kernel
theorem dX7_init_256 : decode cX7_init 256 = .ok (.newarray .int, 2) := by decide +kernel
theorem dX7_init_258 : decode cX7_init 258 = .ok (.putfield 101, 3) := by decide +kernel
theorem dX7_init_261 : decode cX7_init 261 = .ok (.aload_n 0, 1) := by decide +kernel
theorem dX7_init_262 : decode cX7_init 262 = .ok (.sipush 960, 3) := by decide +kernel
theorem dX7_init_265 : decode cX7_init 265 = .ok (.newarray .int, 2) := by decide +kernel
theorem dX7_init_267 : decode cX7_init 267 = .ok (.putfield 104, 3) := by decide +kernel
theorem dX7_init_270 : decode cX7_init 270 = .ok (.aload_n 0, 1) := by decide +kernel
theorem dX7_init_271 : decode cX7_init 271 = .ok (.sipush 400, 3) := by decide +kernel
theorem dX7_init_274 : decode cX7_init 274 = .ok (.newarray .int, 2) := by decide +kernel
theorem dX7_init_276 : decode cX7_init 276 = .ok (.putfield 107, 3) := by decide +kernel
theorem dX7_init_279 : decode cX7_init 279 = .ok (.aload_n 0, 1) := by decide +kernel
theorem dX7_init_280 : decode cX7_init 280 = .ok (.bipush 8, 2) := by decide +kernel
theorem dX7_init_282 : decode cX7_init 282 = .ok (.newarray .int, 2) := by decide +kernel
theorem dX7_init_284 : decode cX7_init 284 = .ok (.putfield 110, 3) := by decide +kernel
theorem dX7_init_287 : decode cX7_init 287 = .ok (.aload_n 0, 1) := by decide +kernel
theorem dX7_init_288 : decode cX7_init 288 = .ok (.bipush 8, 2) := by decide +kernel
theorem dX7_init_290 : decode cX7_init 290 = .ok (.newarray .int, 2) := by decide +kernel
theorem dX7_init_292 : decode cX7_init 292 = .ok (.putfield 113, 3) := by decide +kernel
theorem dX7_init_295 : decode cX7_init 295 = .ok (.aload_n 0, 1) := by decide +kernel
theorem dX7_init_296 : decode cX7_init 296 = .ok (.bipush 36, 2) := by decide +kernel
theorem dX7_init_298 : decode cX7_init 298 = .ok (.newarray .boolean, 2) := by decide +kernel
theorem dX7_init_300 : decode cX7_init 300 = .ok (.putfield 116, 3) := by decide +kernel
theorem dX7_init_303 : decode cX7_init 303 = .ok (.aload_n 0, 1) := by decide +kernel
theorem dX7_init_304 : decode cX7_init 304 = .ok (.bipush 60, 2) := by decide +kernel
theorem dX7_init_306 : decode cX7_init 306 = .ok (.newarray .boolean, 2) := by decide +kernel
theorem dX7_init_308 : decode cX7_init 308 = .ok (.putfield 119, 3) := by decide +kernel
theorem dX7_init_311 : decode cX7_init 311 = .ok (.aload_n 0, 1) := by decide +kernel
theorem dX7_init_312 : decode cX7_init 312 = .ok (.bipush 60, 2) := by decide +kernel
theorem dX7_init_314 : decode cX7_init 314 = .ok (.newarray .boolean, 2) := by decide +kernel
theorem dX7_init_316 : decode cX7_init 316 = .ok (.putfield 122, 3) := by decide +kernel
theorem dX7_init_319 : decode cX7_init 319 = .ok (.aload_n 0, 1) := by decide +kernel
theorem dX7_init_320 : decode cX7_init 320 = .ok (.iconst 5, 1) := by decide +kernel
theorem dX7_init_321 : decode cX7_init 321 = .ok (.newarray .int, 2) := by decide +kernel
theorem dX7_init_323 : decode cX7_init 323 = .ok (.putfield 125, 3) := by decide +kernel
theorem dX7_init_326 : decode cX7_init 326 = .ok (.aload_n 0, 1) := by decide +kernel
theorem dX7_init_327 : decode cX7_init 327 = .ok (.sipush 160, 3) := by decide +kernel
theorem dX7_init_330 : decode cX7_init 330 = .ok (.newarray .int, 2) := by decide +kernel
theorem dX7_init_332 : decode cX7_init 332 = .ok (.putfield 128, 3) := by decide +kernel
theorem dX7_init_335 : decode cX7_init 335 = .ok (.aload_n 0, 1) := by decide +kernel
theorem dX7_init_336 : decode cX7_init 336 = .ok (.bipush 6, 2) := by decide +kernel
theorem dX7_init_338 : decode cX7_init 338 = .ok (.newarray .int, 2) := by decide +kernel
theorem dX7_init_340 : decode cX7_init 340 = .ok (.putfield 131, 3) := by decide +kernel
theorem dX7_init_343 : decode cX7_init 343 = .ok (.aload_n 0, 1) := by decide +kernel
theorem dX7_init_344 : decode cX7_init 344 = .ok (.iconst 5, 1) := by decide +kernel
theorem dX7_init_345 : decode cX7_init 345 = .ok (.newarray .int, 2) := by decide +kernel
theorem dX7_init_347 : decode cX7_init 347 = .ok (.putfield 134, 3) := by decide +kernel
theorem dX7_init_350 : decode cX7_init 350 = .ok (.aload_n 0, 1) := by decide +kernel
theorem dX7_init_351 : decode cX7_init 351 = .ok (.iconst 5, 1) := by decide +kernel
theorem dX7_init_352 : decode cX7_init 352 = .ok (.newarray .int, 2) := by decide +kernel
theorem dX7_init_354 : decode cX7_init 354 = .ok (.putfield 137, 3) := by decide +kernel
theorem dX7_init_357 : decode cX7_init 357 = .ok (.return_, 1) := by decide +kernel
theorem dX7_in_0 : decode cX7_in 0 = .ok (.lload_n 0, 1) := by decide +kernel
theorem dX7_in_1 : decode cX7_in 1 = .ok (.lload_n 2, 1) := by decide +kernel
theorem dX7_in_2 : decode cX7_in 2 = .ok (.lcmp, 1) := by decide +kernel
theorem dX7_in_3 : decode cX7_in 3 = .ok (.ifCond .lt 14, 3) := by decide +kernel
theorem dX7_in_6 : decode cX7_in 6 = .ok (.lload_n 0, 1) := by decide +kernel
theorem dX7_in_7 : decode cX7_in 7 = .ok (.lload 4, 2) := by decide +kernel
theorem dX7_in_9 : decode cX7_in 9 = .ok (.lcmp, 1) := by decide +kernel
theorem dX7_in_10 : decode cX7_in 10 = .ok (.ifCond .gt 7, 3) := by decide +kernel
theorem dX7_in_13 : decode cX7_in 13 = .ok (.iconst 1, 1) := by decide +kernel
theorem dX7_in_14 : decode cX7_in 14 = .ok (.goto 4, 3) := by decide +kernel
theorem dX7_in_17 : decode cX7_in 17 = .ok (.iconst 0, 1) := by decide +kernel
theorem dX7_in_18 : decode cX7_in 18 = .ok (.ireturn, 1) := by decide +kernel
set_option maxRecDepth 20000 in
theorem ggX7_isNode_X7_in : GoodIn wsX7_isNode wsX7_in := goodIn_r _ [5] (by decide +kernel) (by decide +kernel)
set_option maxRecDepth 20000 in
theorem gX7_isNode_X7_in : GoodIn wsX7_isNode (va_wsS RX7 144 yX7_in wsX7_in) := goodIn_app (goodIn_of _ (by decide +kernel)) ggX7_isNode_X7_in
theorem dX7_isNode_0 : decode cX7_isNode 0 = .ok (.iload_n 1, 1) := by decide +kernel
theorem dX7_isNode_1 : decode cX7_isNode 1 = .ok (.i2l, 1) := by decide +kernel
theorem dX7_isNode_2 : decode cX7_isNode 2 = .ok (.lconst 0, 1) := by decide +kernel
theorem dX7_isNode_3 : decode cX7_isNode 3 = .ok (.aload_n 0, 1) := by decide +kernel
theorem dX7_isNode_4 : decode cX7_isNode 4 = .ok (.getfield 140, 3) := by decide +kernel
theorem dX7_isNode_7 : decode cX7_isNode 7 = .ok (.iconst 1, 1) := by decide +kernel
theorem dX7_isNode_8 : decode cX7_isNode 8 = .ok (.isub, 1) := by decide +kernel
theorem dX7_isNode_9 : decode cX7_isNode 9 = .ok (.i2l, 1) := by decide +kernel
theorem dX7_isNode_10 : decode cX7_isNode 10 = .ok (.invokestatic 144, 3) := by decide +kernel
theorem dX7_isNode_13 : decode cX7_isNode 13 = .ok (.ireturn, 1) := by decide +kernel
theorem dX7_node_0 : decode cX7_node 0 = .ok (.aload_n 0, 1) := by decide +kernel
theorem dX7_node_1 : decode cX7_node 1 = .ok (.getfield 140, 3) := by decide +kernel
theorem dX7_node_4 : decode cX7_node 4 = .ok (.bipush 10, 2) := by decide +kernel
theorem dX7_node_6 : decode cX7_node 6 = .ok (.if_icmp .ne 6, 3) := by decide +kernel
theorem dX7_node_9 : decode cX7_node 9 = .ok (.bipush (-3), 2) := by decide +kernel
theorem dX7_node_11 : decode cX7_node 11 = .ok (.ireturn, 1) := by decide +kernel
theorem dX7_node_12 : decode cX7_node 12 = .ok (.aload_n 0, 1) := by decide +kernel
theorem dX7_node_13 : decode cX7_node 13 = .ok (.getfield 7, 3) := by decide +kernel
theorem dX7_node_16 : decode cX7_node 16 = .ok (.aload_n 0, 1) := by decide +kernel
theorem dX7_node_17 : decode cX7_node 17 = .ok (.getfield 140, 3) := by decide +kernel
theorem dX7_node_20 : decode cX7_node 20 = .ok (.iload_n 1, 1) := by decide +kernel
theorem dX7_node_21 : decode cX7_node 21 = .ok (.bastore, 1) := by decide +kernel
theorem dX7_node_22 : decode cX7_node 22 = .ok (.aload_n 0, 1) := by decide +kernel
theorem dX7_node_23 : decode cX7_node 23 = .ok (.getfield 13, 3) := by decide +kernel
theorem dX7_node_26 : decode cX7_node 26 = .ok (.aload_n 0, 1) := by decide +kernel
theorem dX7_node_27 : decode cX7_node 27 = .ok (.getfield 140, 3) := by decide +kernel
theorem dX7_node_30 : decode cX7_node 30 = .ok (.iload_n 2, 1) := by decide +kernel
theorem dX7_node_31 : decode cX7_node 31 = .ok (.iastore, 1) := by decide +kernel
theorem dX7_node_32 : decode cX7_node 32 = .ok (.aload_n 0, 1) := by decide +kernel
theorem dX7_node_33 : decode cX7_node 33 = .ok (.getfield 17, 3) := by decide +kernel
theorem dX7_node_36 : decode cX7_node 36 = .ok (.aload_n 0, 1) := by decide +kernel
theorem dX7_node_37 : decode cX7_node 37 = .ok (.getfield 140, 3) := by decide +kernel
theorem dX7_node_40 : decode cX7_node 40 = .ok (.iconst 0, 1) := by decide +kernel
theorem dX7_node_41 : decode cX7_node 41 = .ok (.iastore, 1) := by decide +kernel
theorem dX7_node_42 : decode cX7_node 42 = .ok (.aload_n 0, 1) := by decide +kernel
theorem dX7_node_43 : decode cX7_node 43 = .ok (.dup, 1) := by decide +kernel
theorem dX7_node_44 : decode cX7_node 44 = .ok (.getfield 140, 3) := by decide +kernel
theorem dX7_node_47 : decode cX7_node 47 = .ok (.iconst 1, 1) := by decide +kernel
theorem dX7_node_48 : decode cX7_node 48 = .ok (.iadd, 1) := by decide +kernel
theorem dX7_node_49 : decode cX7_node 49 = .ok (.putfield 140, 3) := by decide +kernel
theorem dX7_node_52 : decode cX7_node 52 = .ok (.aload_n 0, 1) := by decide +kernel
theorem dX7_node_53 : decode cX7_node 53 = .ok (.iconst 0, 1) := by decide +kernel
theorem dX7_node_54 : decode cX7_node 54 = .ok (.putfield 148, 3) := by decide +kernel
theorem dX7_node_57 : decode cX7_node 57 = .ok (.aload_n 0, 1) := by decide +kernel
theorem dX7_node_58 : decode cX7_node 58 = .ok (.getfield 140, 3) := by decide +kernel
theorem dX7_node_61 : decode cX7_node 61 = .ok (.iconst 1, 1) := by decide +kernel
theorem dX7_node_62 : decode cX7_node 62 = .ok (.isub, 1) := by decide +kernel
theorem dX7_node_63 : decode cX7_node 63 = .ok (.ireturn, 1) := by decide +kernel
set_option maxRecDepth 20000 in
theorem ggX7_value_X7_isNode : GoodIn wsX7_value wsX7_isNode := goodIn_r _ [8, 9, 10, 11, 7, 12, 13, 14, 15, 16, 17, 18, 19, 20, 21, 22, 23, 24, 25, 26, 27, 28, 29, 30, 31, 32, 33, 34, 35, 36, 37, 38, 39, 40, 41, 42, 43, 44, 45, 46, 47, 48, 49, 50, 51, 52, 53, 54, 55, 56, 57, 58, 59, 60, 61, 62, 63, 64, 65, 66, 67, 68, 69] (by decide +kernel) (by decide +kernel)
set_option maxRecDepth 20000 in
theorem gX7_value_X7_isNode : GoodIn wsX7_value (wsV RX7 152 RX7 yX7_isNode wsX7_isNode) := goodIn_app (goodIn_of _ (by decide +kernel)) ggX7_value_X7_isNode
theorem dX7_value_0 : decode cX7_value 0 = .ok (.aload_n 0, 1) := by decide +kernel
theorem dX7_value_1 : decode cX7_value 1 = .ok (.iload_n 1, 1) := by decide +kernel
theorem dX7_value_2 : decode cX7_value 2 = .ok (.invokevirtual 152, 3) := by decide +kernel
theorem dX7_value_5 : decode cX7_value 5 = .ok (.ifCond .ne 5, 3) := by decide +kernel
theorem dX7_value_8 : decode cX7_value 8 = .ok (.iconst (-1), 1) := by decide +kernel
theorem dX7_value_9 : decode cX7_value 9 = .ok (.ireturn, 1) := by decide +kernel
theorem dX7_value_10 : decode cX7_value 10 = .ok (.aload_n 0, 1) := by decide +kernel
theorem dX7_value_11 : decode cX7_value 11 = .ok (.getfield 7, 3) := by decide +kernel
theorem dX7_value_14 : decode cX7_value 14 = .ok (.iload_n 1, 1) := by decide +kernel
theorem dX7_value_15 : decode cX7_value 15 = .ok (.iload_n 2, 1) := by decide +kernel
theorem dX7_value_16 : decode cX7_value 16 = .ok (.bastore, 1) := by decide +kernel
theorem dX7_value_17 : decode cX7_value 17 = .ok (.aload_n 0, 1) := by decide +kernel
theorem dX7_value_18 : decode cX7_value 18 = .ok (.getfield 13, 3) := by decide +kernel
theorem dX7_value_21 : decode cX7_value 21 = .ok (.iload_n 1, 1) := by decide +kernel
theorem dX7_value_22 : decode cX7_value 22 = .ok (.iload_n 3, 1) := by decide +kernel
theorem dX7_value_23 : decode cX7_value 23 = .ok (.iastore, 1) := by decide +kernel
theorem dX7_value_24 : decode cX7_value 24 = .ok (.aload_n 0, 1) := by decide +kernel
theorem dX7_value_25 : decode cX7_value 25 = .ok (.iconst 0, 1) := by decide +kernel
theorem dX7_value_26 : decode cX7_value 26 = .ok (.putfield 148, 3) := by decide +kernel
theorem dX7_value_29 : decode cX7_value 29 = .ok (.iconst 1, 1) := by decide +kernel
theorem dX7_value_30 : decode cX7_value 30 = .ok (.ireturn, 1) := by decide +kernel
theorem dX7_edges_0 : decode cX7_edges 0 = .ok (.iconst 0, 1) := by decide +kernel
theorem dX7_edges_1 : decode cX7_edges 1 = .ok (.istore_n 1, 1) := by decide +kernel
theorem dX7_edges_2 : decode cX7_edges 2 = .ok (.iconst 0, 1) := by decide +kernel
theorem dX7_edges_3 : decode cX7_edges 3 = .ok (.istore_n 2, 1) := by decide +kernel
theorem dX7_edges_4 : decode cX7_edges 4 = .ok (.iload_n 2, 1) := by decide +kernel
theorem dX7_edges_5 : decode cX7_edges 5 = .ok (.aload_n 0, 1) := by decide +kernel
theorem dX7_edges_6 : decode cX7_edges 6 = .ok (.getfield 140, 3) := by decide +kernel
theorem dX7_edges_9 : decode cX7_edges 9 = .ok (.if_icmp .ge 18, 3) := by decide +kernel
theorem dX7_edges_12 : decode cX7_edges 12 = .ok (.iload_n 1, 1) := by decide +kernel
theorem dX7_edges_13 : decode cX7_edges 13 = .ok (.aload_n 0, 1) := by decide +kernel
theorem dX7_edges_14 : decode cX7_edges 14 = .ok (.getfield 17, 3) := by decide +kernel
theorem dX7_edges_17 : decode cX7_edges 17 = .ok (.iload_n 2, 1) := by decide +kernel
theorem dX7_edges_18 : decode cX7_edges 18 = .ok (.iaload, 1) := by decide +kernel
theorem dX7_edges_19 : decode cX7_edges 19 = .ok (.iadd, 1) := by decide +kernel
theorem dX7_edges_20 : decode cX7_edges 20 = .ok (.istore_n 1, 1) := by decide +kernel
theorem dX7_edges_21 : decode cX7_edges 21 = .ok (.iinc 2 1, 3) := by decide +kernel
theorem dX7_edges_24 : decode cX7_edges 24 = .ok (.goto (-20), 3) := by decide +kernel
theorem dX7_edges_27 : decode cX7_edges 27 = .ok (.iload_n 1, 1) := by decide +kernel
theorem dX7_edges_28 : decode cX7_edges 28 = .ok (.ireturn, 1) := by decide +kernel
theorem dX7_placeOf_0 : decode cX7_placeOf 0 = .ok (.iconst 0, 1) := by decide +kernel
theorem dX7_placeOf_1 : decode cX7_placeOf 1 = .ok (.istore 4, 2) := by decide +kernel
theorem dX7_placeOf_3 : decode cX7_placeOf 3 = .ok (.iload 4, 2) := by decide +kernel
theorem dX7_placeOf_5 : decode cX7_placeOf 5 = .ok (.aload_n 0, 1) := by decide +kernel
theorem dX7_placeOf_6 : decode cX7_placeOf 6 = .ok (.getfield 17, 3) := by decide +kernel
theorem dX7_placeOf_9 : decode cX7_placeOf 9 = .ok (.iload_n 1, 1) := by decide +kernel
theorem dX7_placeOf_10 : decode cX7_placeOf 10 = .ok (.iaload, 1) := by decide +kernel
theorem dX7_placeOf_11 : decode cX7_placeOf 11 = .ok (.if_icmp .ge 54, 3) := by decide +kernel
theorem dX7_placeOf_14 : decode cX7_placeOf 14 = .ok (.aload_n 0, 1) := by decide +kernel
theorem dX7_placeOf_15 : decode cX7_placeOf 15 = .ok (.getfield 20, 3) := by decide +kernel
theorem dX7_placeOf_18 : decode cX7_placeOf 18 = .ok (.iconst 5, 1) := by decide +kernel
theorem dX7_placeOf_19 : decode cX7_placeOf 19 = .ok (.iload_n 1, 1) := by decide +kernel
theorem dX7_placeOf_20 : decode cX7_placeOf 20 = .ok (.imul, 1) := by decide +kernel
theorem dX7_placeOf_21 : decode cX7_placeOf 21 = .ok (.iload 4, 2) := by decide +kernel
theorem dX7_placeOf_23 : decode cX7_placeOf 23 = .ok (.iadd, 1) := by decide +kernel
theorem dX7_placeOf_24 : decode cX7_placeOf 24 = .ok (.iaload, 1) := by decide +kernel
theorem dX7_placeOf_25 : decode cX7_placeOf 25 = .ok (.iload_n 2, 1) := by decide +kernel
theorem dX7_placeOf_26 : decode cX7_placeOf 26 = .ok (.if_icmp .lt 33, 3) := by decide +kernel
theorem dX7_placeOf_29 : decode cX7_placeOf 29 = .ok (.aload_n 0, 1) := by decide +kernel
theorem dX7_placeOf_30 : decode cX7_placeOf 30 = .ok (.getfield 20, 3) := by decide +kernel
theorem dX7_placeOf_33 : decode cX7_placeOf 33 = .ok (.iconst 5, 1) := by decide +kernel
theorem dX7_placeOf_34 : decode cX7_placeOf 34 = .ok (.iload_n 1, 1) := by decide +kernel
theorem dX7_placeOf_35 : decode cX7_placeOf 35 = .ok (.imul, 1) := by decide +kernel
theorem dX7_placeOf_36 : decode cX7_placeOf 36 = .ok (.iload 4, 2) := by decide +kernel
theorem dX7_placeOf_38 : decode cX7_placeOf 38 = .ok (.iadd, 1) := by decide +kernel
theorem dX7_placeOf_39 : decode cX7_placeOf 39 = .ok (.iaload, 1) := by decide +kernel
theorem dX7_placeOf_40 : decode cX7_placeOf 40 = .ok (.iload_n 2, 1) := by decide +kernel
theorem dX7_placeOf_41 : decode cX7_placeOf 41 = .ok (.if_icmp .ne 24, 3) := by decide +kernel
theorem dX7_placeOf_44 : decode cX7_placeOf 44 = .ok (.aload_n 0, 1) := by decide +kernel
theorem dX7_placeOf_45 : decode cX7_placeOf 45 = .ok (.getfield 23, 3) := by decide +kernel
theorem dX7_placeOf_48 : decode cX7_placeOf 48 = .ok (.iconst 5, 1) := by decide +kernel
theorem dX7_placeOf_49 : decode cX7_placeOf 49 = .ok (.iload_n 1, 1) := by decide +kernel
theorem dX7_placeOf_50 : decode cX7_placeOf 50 = .ok (.imul, 1) := by decide +kernel
theorem dX7_placeOf_51 : decode cX7_placeOf 51 = .ok (.iload 4, 2) := by decide +kernel
theorem dX7_placeOf_53 : decode cX7_placeOf 53 = .ok (.iadd, 1) := by decide +kernel
theorem dX7_placeOf_54 : decode cX7_placeOf 54 = .ok (.iaload, 1) := by decide +kernel
theorem dX7_placeOf_55 : decode cX7_placeOf 55 = .ok (.iload_n 3, 1) := by decide +kernel
theorem dX7_placeOf_56 : decode cX7_placeOf 56 = .ok (.if_icmp .ge 9, 3) := by decide +kernel
theorem dX7_placeOf_59 : decode cX7_placeOf 59 = .ok (.iinc 4 1, 3) := by decide +kernel
theorem dX7_placeOf_62 : decode cX7_placeOf 62 = .ok (.goto (-59), 3) := by decide +kernel
theorem dX7_placeOf_65 : decode cX7_placeOf 65 = .ok (.iload 4, 2) := by decide +kernel
theorem dX7_placeOf_67 : decode cX7_placeOf 67 = .ok (.ireturn, 1) := by decide +kernel
set_option maxRecDepth 20000 in
theorem ggX7_isThere_X7_placeOf : GoodIn wsX7_isThere wsX7_placeOf := goodIn_r _ [8, 1, 2, 3, 9, 10, 11, 12, 13, 14, 15, 16, 17, 18, 19, 20, 21, 22, 23, 24, 25, 26, 27, 28, 29, 30, 31, 32, 33, 34, 35, 36, 37, 38, 39, 40, 41, 42, 43, 44, 45, 46, 47, 48, 49, 50, 51, 52, 53, 54, 55, 56, 57, 58, 59, 60, 61, 62, 63, 64, 65] (by decide +kernel) (by decide +kernel)
set_option maxRecDepth 20000 in
theorem gX7_isThere_X7_placeOf : GoodIn wsX7_isThere (wsV RX7 156 RX7 yX7_placeOf wsX7_placeOf) := goodIn_app (goodIn_of _ (by decide +kernel)) ggX7_isThere_X7_placeOf
theorem dX7_isThere_0 : decode cX7_isThere 0 = .ok (.aload_n 0, 1) := by decide +kernel
theorem dX7_isThere_1 : decode cX7_isThere 1 = .ok (.iload_n 1, 1) := by decide +kernel
theorem dX7_isThere_2 : decode cX7_isThere 2 = .ok (.iload_n 2, 1) := by decide +kernel
theorem dX7_isThere_3 : decode cX7_isThere 3 = .ok (.iload_n 3, 1) := by decide +kernel
theorem dX7_isThere_4 : decode cX7_isThere 4 = .ok (.invokevirtual 156, 3) := by decide +kernel
theorem dX7_isThere_7 : decode cX7_isThere 7 = .ok (.istore 4, 2) := by decide +kernel
theorem dX7_isThere_9 : decode cX7_isThere 9 = .ok (.iload 4, 2) := by decide +kernel
theorem dX7_isThere_11 : decode cX7_isThere 11 = .ok (.aload_n 0, 1) := by decide +kernel
theorem dX7_isThere_12 : decode cX7_isThere 12 = .ok (.getfield 17, 3) := by decide +kernel
theorem dX7_isThere_15 : decode cX7_isThere 15 = .ok (.iload_n 1, 1) := by decide +kernel
theorem dX7_isThere_16 : decode cX7_isThere 16 = .ok (.iaload, 1) := by decide +kernel
theorem dX7_isThere_17 : decode cX7_isThere 17 = .ok (.if_icmp .ge 37, 3) := by decide +kernel
theorem dX7_isThere_20 : decode cX7_isThere 20 = .ok (.aload_n 0, 1) := by decide +kernel
theorem dX7_isThere_21 : decode cX7_isThere 21 = .ok (.getfield 20, 3) := by decide +kernel
theorem dX7_isThere_24 : decode cX7_isThere 24 = .ok (.iconst 5, 1) := by decide +kernel
theorem dX7_isThere_25 : decode cX7_isThere 25 = .ok (.iload_n 1, 1) := by decide +kernel
theorem dX7_isThere_26 : decode cX7_isThere 26 = .ok (.imul, 1) := by decide +kernel
theorem dX7_isThere_27 : decode cX7_isThere 27 = .ok (.iload 4, 2) := by decide +kernel
theorem dX7_isThere_29 : decode cX7_isThere 29 = .ok (.iadd, 1) := by decide +kernel
theorem dX7_isThere_30 : decode cX7_isThere 30 = .ok (.iaload, 1) := by decide +kernel
theorem dX7_isThere_31 : decode cX7_isThere 31 = .ok (.iload_n 2, 1) := by decide +kernel
theorem dX7_isThere_32 : decode cX7_isThere 32 = .ok (.if_icmp .ne 22, 3) := by decide +kernel
theorem dX7_isThere_35 : decode cX7_isThere 35 = .ok (.aload_n 0, 1) := by decide +kernel
theorem dX7_isThere_36 : decode cX7_isThere 36 = .ok (.getfield 23, 3) := by decide +kernel
theorem dX7_isThere_39 : decode cX7_isThere 39 = .ok (.iconst 5, 1) := by decide +kernel
theorem dX7_isThere_40 : decode cX7_isThere 40 = .ok (.iload_n 1, 1) := by decide +kernel
theorem dX7_isThere_41 : decode cX7_isThere 41 = .ok (.imul, 1) := by decide +kernel
theorem dX7_isThere_42 : decode cX7_isThere 42 = .ok (.iload 4, 2) := by decide +kernel
theorem dX7_isThere_44 : decode cX7_isThere 44 = .ok (.iadd, 1) := by decide +kernel
theorem dX7_isThere_45 : decode cX7_isThere 45 = .ok (.iaload, 1) := by decide +kernel
theorem dX7_isThere_46 : decode cX7_isThere 46 = .ok (.iload_n 3, 1) := by decide +kernel
theorem dX7_isThere_47 : decode cX7_isThere 47 = .ok (.if_icmp .ne 7, 3) := by decide +kernel
theorem dX7_isThere_50 : decode cX7_isThere 50 = .ok (.iconst 1, 1) := by decide +kernel
theorem dX7_isThere_51 : decode cX7_isThere 51 = .ok (.goto 4, 3) := by decide +kernel
theorem dX7_isThere_54 : decode cX7_isThere 54 = .ok (.iconst 0, 1) := by decide +kernel
theorem dX7_isThere_55 : decode cX7_isThere 55 = .ok (.ireturn, 1) := by decide +kernel
set_option maxRecDepth 20000 in
theorem ggX7_edge_X7_isNode : GoodIn wsX7_edge wsX7_isNode := goodIn_r _ [10, 11, 12, 13, 9, 14, 27, 28, 29, 30, 31, 32, 33, 34, 35, 36, 37, 38, 39, 40, 41, 42, 43, 44, 45, 46, 47, 48, 49, 50, 51, 52, 53, 54, 55, 56, 57, 58, 59, 60, 61, 62, 63, 64, 65, 66, 67, 68, 69, 70, 71, 72, 73, 74, 75, 76, 77, 78, 79, 80, 81, 82, 83] (by decide +kernel) (by decide +kernel)
set_option maxRecDepth 20000 in
theorem gX7_edge_X7_isNode : GoodIn wsX7_edge (wsV RX7 152 RX7 yX7_isNode wsX7_isNode) := goodIn_app (goodIn_of _ (by decide +kernel)) ggX7_edge_X7_isNode
set_option maxRecDepth 20000 in
theorem ggX7_edge_X7_in : GoodIn wsX7_edge wsX7_in := goodIn_r _ [14] (by decide +kernel) (by decide +kernel)
set_option maxRecDepth 20000 in
theorem gX7_edge_X7_in : GoodIn wsX7_edge (va_wsS RX7 144 yX7_in wsX7_in) := goodIn_app (goodIn_of _ (by decide +kernel)) ggX7_edge_X7_in
set_option maxRecDepth 20000 in
theorem ggX7_edge_X7_isThere : GoodIn wsX7_edge wsX7_isThere := goodIn_r _ [18, 2, 3, 4, 19, 20, 21, 9, 22, 27, 28, 29, 30, 31, 32, 33, 34, 35, 36, 37, 38, 39, 40, 41, 42, 43, 44, 45, 46, 47, 48, 49, 50, 51, 52, 53, 54, 55, 56, 57, 58, 59, 60, 61, 62, 63, 64, 65, 66, 67, 68, 69, 70, 71, 72, 73, 74, 75, 76, 77, 78, 79, 80, 81, 82, 83] (by decide +kernel) (by decide +kernel)
set_option maxRecDepth 20000 in
theorem gX7_edge_X7_isThere : GoodIn wsX7_edge (wsV RX7 162 RX7 yX7_isThere wsX7_isThere) := goodIn_app (goodIn_of _ (by decide +kernel)) ggX7_edge_X7_isThere
set_option maxRecDepth 20000 in
theorem ggX7_edge_X7_edges : GoodIn wsX7_edge wsX7_edges := goodIn_r _ [26, 11, 2, 27, 28, 29, 30, 31, 32, 33, 34, 35, 36, 37, 38, 39, 40, 41, 42, 43, 44, 45, 46, 47, 48, 49, 50, 51, 52, 53, 54, 55, 56, 57, 58, 59, 60, 61, 62, 63, 64, 65, 66, 67, 68, 69, 70, 71, 72, 73, 74, 75, 76, 77, 78, 79, 80, 81, 82, 83] (by decide +kernel) (by decide +kernel)
set_option maxRecDepth 20000 in
theorem gX7_edge_X7_edges : GoodIn wsX7_edge (wsV RX7 166 RX7 yX7_edges wsX7_edges) := goodIn_app (goodIn_of _ (by decide +kernel)) ggX7_edge_X7_edges
set_option maxRecDepth 20000 in
theorem ggX7_edge_X7_placeOf : GoodIn wsX7_edge wsX7_placeOf := goodIn_r _ [22, 2, 3, 4, 27, 28, 29, 30, 31, 32, 33, 34, 35, 36, 37, 38, 39, 40, 41, 42, 43, 44, 45, 46, 47, 48, 49, 50, 51, 52, 53, 54, 55, 56, 57, 58, 59, 60, 61, 62, 63, 64, 65, 66, 67, 68, 69, 70, 71, 72, 73, 74, 75, 76, 77, 78, 79, 80, 81, 82, 83] (by decide +kernel) (by decide +kernel)
set_option maxRecDepth 20000 in
theorem gX7_edge_X7_placeOf : GoodIn wsX7_edge (wsV RX7 156 RX7 yX7_placeOf wsX7_placeOf) := goodIn_app (goodIn_of _ (by decide +kernel)) ggX7_edge_X7_placeOf
theorem dX7_edge_0 : decode cX7_edge 0 = .ok (.aload_n 0, 1) := by decide +kernel
theorem dX7_edge_1 : decode cX7_edge 1 = .ok (.iload_n 1, 1) := by decide +kernel
theorem dX7_edge_2 : decode cX7_edge 2 = .ok (.invokevirtual 152, 3) := by decide +kernel
theorem dX7_edge_5 : decode cX7_edge 5 = .ok (.ifCond .eq 23, 3) := by decide +kernel
theorem dX7_edge_8 : decode cX7_edge 8 = .ok (.iload_n 2, 1) := by decide +kernel
theorem dX7_edge_9 : decode cX7_edge 9 = .ok (.i2l, 1) := by decide +kernel
theorem dX7_edge_10 : decode cX7_edge 10 = .ok (.lconst 0, 1) := by decide +kernel
theorem dX7_edge_11 : decode cX7_edge 11 = .ok (.ldc2_w 160, 3) := by decide +kernel
theorem dX7_edge_14 : decode cX7_edge 14 = .ok (.invokestatic 144, 3) := by decide +kernel
theorem dX7_edge_17 : decode cX7_edge 17 = .ok (.ifCond .eq 11, 3) := by decide +kernel
theorem dX7_edge_20 : decode cX7_edge 20 = .ok (.aload_n 0, 1) := by decide +kernel
theorem dX7_edge_21 : decode cX7_edge 21 = .ok (.iload_n 3, 1) := by decide +kernel
theorem dX7_edge_22 : decode cX7_edge 22 = .ok (.invokevirtual 152, 3) := by decide +kernel
theorem dX7_edge_25 : decode cX7_edge 25 = .ok (.ifCond .ne 5, 3) := by decide +kernel
theorem dX7_edge_28 : decode cX7_edge 28 = .ok (.iconst (-1), 1) := by decide +kernel
theorem dX7_edge_29 : decode cX7_edge 29 = .ok (.ireturn, 1) := by decide +kernel
theorem dX7_edge_30 : decode cX7_edge 30 = .ok (.aload_n 0, 1) := by decide +kernel
theorem dX7_edge_31 : decode cX7_edge 31 = .ok (.iload_n 1, 1) := by decide +kernel
theorem dX7_edge_32 : decode cX7_edge 32 = .ok (.iload_n 2, 1) := by decide +kernel
theorem dX7_edge_33 : decode cX7_edge 33 = .ok (.iload_n 3, 1) := by decide +kernel
theorem dX7_edge_34 : decode cX7_edge 34 = .ok (.invokevirtual 162, 3) := by decide +kernel
theorem dX7_edge_37 : decode cX7_edge 37 = .ok (.ifCond .eq 6, 3) := by decide +kernel
theorem dX7_edge_40 : decode cX7_edge 40 = .ok (.bipush (-2), 2) := by decide +kernel
theorem dX7_edge_42 : decode cX7_edge 42 = .ok (.ireturn, 1) := by decide +kernel
theorem dX7_edge_43 : decode cX7_edge 43 = .ok (.aload_n 0, 1) := by decide +kernel
theorem dX7_edge_44 : decode cX7_edge 44 = .ok (.getfield 17, 3) := by decide +kernel
theorem dX7_edge_47 : decode cX7_edge 47 = .ok (.iload_n 1, 1) := by decide +kernel
theorem dX7_edge_48 : decode cX7_edge 48 = .ok (.iaload, 1) := by decide +kernel
theorem dX7_edge_49 : decode cX7_edge 49 = .ok (.iconst 5, 1) := by decide +kernel
theorem dX7_edge_50 : decode cX7_edge 50 = .ok (.if_icmp .eq 12, 3) := by decide +kernel
theorem dX7_edge_53 : decode cX7_edge 53 = .ok (.aload_n 0, 1) := by decide +kernel
theorem dX7_edge_54 : decode cX7_edge 54 = .ok (.invokevirtual 166, 3) := by decide +kernel
theorem dX7_edge_57 : decode cX7_edge 57 = .ok (.bipush 40, 2) := by decide +kernel
theorem dX7_edge_59 : decode cX7_edge 59 = .ok (.if_icmp .ne 6, 3) := by decide +kernel
theorem dX7_edge_62 : decode cX7_edge 62 = .ok (.bipush (-3), 2) := by decide +kernel
theorem dX7_edge_64 : decode cX7_edge 64 = .ok (.ireturn, 1) := by decide +kernel
theorem dX7_edge_65 : decode cX7_edge 65 = .ok (.aload_n 0, 1) := by decide +kernel
theorem dX7_edge_66 : decode cX7_edge 66 = .ok (.iload_n 1, 1) := by decide +kernel
theorem dX7_edge_67 : decode cX7_edge 67 = .ok (.iload_n 2, 1) := by decide +kernel
theorem dX7_edge_68 : decode cX7_edge 68 = .ok (.iload_n 3, 1) := by decide +kernel
theorem dX7_edge_69 : decode cX7_edge 69 = .ok (.invokevirtual 156, 3) := by decide +kernel
theorem dX7_edge_72 : decode cX7_edge 72 = .ok (.istore 4, 2) := by decide +kernel
theorem dX7_edge_74 : decode cX7_edge 74 = .ok (.aload_n 0, 1) := by decide +kernel
theorem dX7_edge_75 : decode cX7_edge 75 = .ok (.getfield 17, 3) := by decide +kernel
theorem dX7_edge_78 : decode cX7_edge 78 = .ok (.iload_n 1, 1) := by decide +kernel
theorem dX7_edge_79 : decode cX7_edge 79 = .ok (.iaload, 1) := by decide +kernel
theorem dX7_edge_80 : decode cX7_edge 80 = .ok (.istore 5, 2) := by decide +kernel
theorem dX7_edge_82 : decode cX7_edge 82 = .ok (.iload 5, 2) := by decide +kernel
theorem dX7_edge_84 : decode cX7_edge 84 = .ok (.iload 4, 2) := by decide +kernel
theorem dX7_edge_86 : decode cX7_edge 86 = .ok (.if_icmp .le 57, 3) := by decide +kernel
theorem dX7_edge_89 : decode cX7_edge 89 = .ok (.aload_n 0, 1) := by decide +kernel
theorem dX7_edge_90 : decode cX7_edge 90 = .ok (.getfield 20, 3) := by decide +kernel
theorem dX7_edge_93 : decode cX7_edge 93 = .ok (.iconst 5, 1) := by decide +kernel
theorem dX7_edge_94 : decode cX7_edge 94 = .ok (.iload_n 1, 1) := by decide +kernel
theorem dX7_edge_95 : decode cX7_edge 95 = .ok (.imul, 1) := by decide +kernel
theorem dX7_edge_96 : decode cX7_edge 96 = .ok (.iload 5, 2) := by decide +kernel
theorem dX7_edge_98 : decode cX7_edge 98 = .ok (.iadd, 1) := by decide +kernel
theorem dX7_edge_99 : decode cX7_edge 99 = .ok (.aload_n 0, 1) := by decide +kernel
theorem dX7_edge_100 : decode cX7_edge 100 = .ok (.getfield 20, 3) := by decide +kernel
theorem dX7_edge_103 : decode cX7_edge 103 = .ok (.iconst 5, 1) := by decide +kernel
theorem dX7_edge_104 : decode cX7_edge 104 = .ok (.iload_n 1, 1) := by decide +kernel
theorem dX7_edge_105 : decode cX7_edge 105 = .ok (.imul, 1) := by decide +kernel
theorem dX7_edge_106 : decode cX7_edge 106 = .ok (.iload 5, 2) := by decide +kernel
theorem dX7_edge_108 : decode cX7_edge 108 = .ok (.iadd, 1) := by decide +kernel
theorem dX7_edge_109 : decode cX7_edge 109 = .ok (.iconst 1, 1) := by decide +kernel
theorem dX7_edge_110 : decode cX7_edge 110 = .ok (.isub, 1) := by decide +kernel
theorem dX7_edge_111 : decode cX7_edge 111 = .ok (.iaload, 1) := by decide +kernel
theorem dX7_edge_112 : decode cX7_edge 112 = .ok (.iastore, 1) := by decide +kernel
theorem dX7_edge_113 : decode cX7_edge 113 = .ok (.aload_n 0, 1) := by decide +kernel
theorem dX7_edge_114 : decode cX7_edge 114 = .ok (.getfield 23, 3) := by decide +kernel
theorem dX7_edge_117 : decode cX7_edge 117 = .ok (.iconst 5, 1) := by decide +kernel
theorem dX7_edge_118 : decode cX7_edge 118 = .ok (.iload_n 1, 1) := by decide +kernel
theorem dX7_edge_119 : decode cX7_edge 119 = .ok (.imul, 1) := by decide +kernel
theorem dX7_edge_120 : decode cX7_edge 120 = .ok (.iload 5, 2) := by decide +kernel
theorem dX7_edge_122 : decode cX7_edge 122 = .ok (.iadd, 1) := by decide +kernel
theorem dX7_edge_123 : decode cX7_edge 123 = .ok (.aload_n 0, 1) := by decide +kernel
theorem dX7_edge_124 : decode cX7_edge 124 = .ok (.getfield 23, 3) := by decide +kernel
theorem dX7_edge_127 : decode cX7_edge 127 = .ok (.iconst 5, 1) := by decide +kernel
theorem dX7_edge_128 : decode cX7_edge 128 = .ok (.iload_n 1, 1) := by decide +kernel
theorem dX7_edge_129 : decode cX7_edge 129 = .ok (.imul, 1) := by decide +kernel
theorem dX7_edge_130 : decode cX7_edge 130 = .ok (.iload 5, 2) := by decide +kernel
theorem dX7_edge_132 : decode cX7_edge 132 = .ok (.iadd, 1) := by decide +kernel
theorem dX7_edge_133 : decode cX7_edge 133 = .ok (.iconst 1, 1) := by decide +kernel
theorem dX7_edge_134 : decode cX7_edge 134 = .ok (.isub, 1) := by decide +kernel
theorem dX7_edge_135 : decode cX7_edge 135 = .ok (.iaload, 1) := by decide +kernel
theorem dX7_edge_136 : decode cX7_edge 136 = .ok (.iastore, 1) := by decide +kernel
theorem dX7_edge_137 : decode cX7_edge 137 = .ok (.iinc 5 (-1), 3) := by decide +kernel
theorem dX7_edge_140 : decode cX7_edge 140 = .ok (.goto (-58), 3) := by decide +kernel
theorem dX7_edge_143 : decode cX7_edge 143 = .ok (.aload_n 0, 1) := by decide +kernel
theorem dX7_edge_144 : decode cX7_edge 144 = .ok (.getfield 20, 3) := by decide +kernel
theorem dX7_edge_147 : decode cX7_edge 147 = .ok (.iconst 5, 1) := by decide +kernel
theorem dX7_edge_148 : decode cX7_edge 148 = .ok (.iload_n 1, 1) := by decide +kernel
theorem dX7_edge_149 : decode cX7_edge 149 = .ok (.imul, 1) := by decide +kernel
theorem dX7_edge_150 : decode cX7_edge 150 = .ok (.iload 4, 2) := by decide +kernel
theorem dX7_edge_152 : decode cX7_edge 152 = .ok (.iadd, 1) := by decide +kernel
theorem dX7_edge_153 : decode cX7_edge 153 = .ok (.iload_n 2, 1) := by decide +kernel
theorem dX7_edge_154 : decode cX7_edge 154 = .ok (.iastore, 1) := by decide +kernel
theorem dX7_edge_155 : decode cX7_edge 155 = .ok (.aload_n 0, 1) := by decide +kernel
theorem dX7_edge_156 : decode cX7_edge 156 = .ok (.getfield 23, 3) := by decide +kernel
theorem dX7_edge_159 : decode cX7_edge 159 = .ok (.iconst 5, 1) := by decide +kernel
theorem dX7_edge_160 : decode cX7_edge 160 = .ok (.iload_n 1, 1) := by decide +kernel
theorem dX7_edge_161 : decode cX7_edge 161 = .ok (.imul, 1) := by decide +kernel
theorem dX7_edge_162 : decode cX7_edge 162 = .ok (.iload 4, 2) := by decide +kernel
theorem dX7_edge_164 : decode cX7_edge 164 = .ok (.iadd, 1) := by decide +kernel
theorem dX7_edge_165 : decode cX7_edge 165 = .ok (.iload_n 3, 1) := by decide +kernel
theorem dX7_edge_166 : decode cX7_edge 166 = .ok (.iastore, 1) := by decide +kernel
theorem dX7_edge_167 : decode cX7_edge 167 = .ok (.aload_n 0, 1) := by decide +kernel
theorem dX7_edge_168 : decode cX7_edge 168 = .ok (.getfield 17, 3) := by decide +kernel
theorem dX7_edge_171 : decode cX7_edge 171 = .ok (.iload_n 1, 1) := by decide +kernel
theorem dX7_edge_172 : decode cX7_edge 172 = .ok (.dup2, 1) := by decide +kernel
theorem dX7_edge_173 : decode cX7_edge 173 = .ok (.iaload, 1) := by decide +kernel
theorem dX7_edge_174 : decode cX7_edge 174 = .ok (.iconst 1, 1) := by decide +kernel
theorem dX7_edge_175 : decode cX7_edge 175 = .ok (.iadd, 1) := by decide +kernel
theorem dX7_edge_176 : decode cX7_edge 176 = .ok (.iastore, 1) := by decide +kernel
theorem dX7_edge_177 : decode cX7_edge 177 = .ok (.aload_n 0, 1) := by decide +kernel
theorem dX7_edge_178 : decode cX7_edge 178 = .ok (.iconst 0, 1) := by decide +kernel
theorem dX7_edge_179 : decode cX7_edge 179 = .ok (.putfield 148, 3) := by decide +kernel
theorem dX7_edge_182 : decode cX7_edge 182 = .ok (.aload_n 0, 1) := by decide +kernel
theorem dX7_edge_183 : decode cX7_edge 183 = .ok (.invokevirtual 166, 3) := by decide +kernel
theorem dX7_edge_186 : decode cX7_edge 186 = .ok (.ireturn, 1) := by decide +kernel
set_option maxRecDepth 20000 in
theorem ggX7_cut_X7_isNode : GoodIn wsX7_cut wsX7_isNode := goodIn_r _ [10, 11, 12, 13, 9, 14, 27, 28, 29, 30, 31, 32, 33, 34, 35, 36, 37, 38, 39, 40, 41, 42, 43, 44, 45, 46, 47, 48, 49, 50, 51, 52, 53, 54, 55, 56, 57, 58, 59, 60, 61, 62, 63, 64, 65, 66, 67, 68, 69, 70, 71, 72, 73, 74, 75, 76, 77, 78, 79, 80, 81, 82, 83] (by decide +kernel) (by decide +kernel)
set_option maxRecDepth 20000 in
theorem gX7_cut_X7_isNode : GoodIn wsX7_cut (wsV RX7 152 RX7 yX7_isNode wsX7_isNode) := goodIn_app (goodIn_of _ (by decide +kernel)) ggX7_cut_X7_isNode
set_option maxRecDepth 20000 in
theorem ggX7_cut_X7_in : GoodIn wsX7_cut wsX7_in := goodIn_r _ [14] (by decide +kernel) (by decide +kernel)
set_option maxRecDepth 20000 in
theorem gX7_cut_X7_in : GoodIn wsX7_cut (va_wsS RX7 144 yX7_in wsX7_in) := goodIn_app (goodIn_of _ (by decide +kernel)) ggX7_cut_X7_in
set_option maxRecDepth 20000 in
theorem ggX7_cut_X7_isThere : GoodIn wsX7_cut wsX7_isThere := goodIn_r _ [18, 2, 3, 4, 19, 20, 21, 9, 22, 27, 28, 29, 30, 31, 32, 33, 34, 35, 36, 37, 38, 39, 40, 41, 42, 43, 44, 45, 46, 47, 48, 49, 50, 51, 52, 53, 54, 55, 56, 57, 58, 59, 60, 61, 62, 63, 64, 65, 66, 67, 68, 69, 70, 71, 72, 73, 74, 75, 76, 77, 78, 79, 80, 81, 82, 83] (by decide +kernel) (by decide +kernel)
set_option maxRecDepth 20000 in
theorem gX7_cut_X7_isThere : GoodIn wsX7_cut (wsV RX7 162 RX7 yX7_isThere wsX7_isThere) := goodIn_app (goodIn_of _ (by decide +kernel)) ggX7_cut_X7_isThere
set_option maxRecDepth 20000 in
theorem ggX7_cut_X7_placeOf : GoodIn wsX7_cut wsX7_placeOf := goodIn_r _ [22, 2, 3, 4, 27, 28, 29, 30, 31, 32, 33, 34, 35, 36, 37, 38, 39, 40, 41, 42, 43, 44, 45, 46, 47, 48, 49, 50, 51, 52, 53, 54, 55, 56, 57, 58, 59, 60, 61, 62, 63, 64, 65, 66, 67, 68, 69, 70, 71, 72, 73, 74, 75, 76, 77, 78, 79, 80, 81, 82, 83] (by decide +kernel) (by decide +kernel)
set_option maxRecDepth 20000 in
theorem gX7_cut_X7_placeOf : GoodIn wsX7_cut (wsV RX7 156 RX7 yX7_placeOf wsX7_placeOf) := goodIn_app (goodIn_of _ (by decide +kernel)) ggX7_cut_X7_placeOf
set_option maxRecDepth 20000 in
theorem ggX7_cut_X7_edges : GoodIn wsX7_cut wsX7_edges := goodIn_r _ [26, 11, 2, 27, 28, 29, 30, 31, 32, 33, 34, 35, 36, 37, 38, 39, 40, 41, 42, 43, 44, 45, 46, 47, 48, 49, 50, 51, 52, 53, 54, 55, 56, 57, 58, 59, 60, 61, 62, 63, 64, 65, 66, 67, 68, 69, 70, 71, 72, 73, 74, 75, 76, 77, 78, 79, 80, 81, 82, 83] (by decide +kernel) (by decide +kernel)
set_option maxRecDepth 20000 in
theorem gX7_cut_X7_edges : GoodIn wsX7_cut (wsV RX7 166 RX7 yX7_edges wsX7_edges) := goodIn_app (goodIn_of _ (by decide +kernel)) ggX7_cut_X7_edges
theorem dX7_cut_0 : decode cX7_cut 0 = .ok (.aload_n 0, 1) := by decide +kernel
theorem dX7_cut_1 : decode cX7_cut 1 = .ok (.iload_n 1, 1) := by decide +kernel
theorem dX7_cut_2 : decode cX7_cut 2 = .ok (.invokevirtual 152, 3) := by decide +kernel
theorem dX7_cut_5 : decode cX7_cut 5 = .ok (.ifCond .eq 23, 3) := by decide +kernel
theorem dX7_cut_8 : decode cX7_cut 8 = .ok (.iload_n 2, 1) := by decide +kernel
theorem dX7_cut_9 : decode cX7_cut 9 = .ok (.i2l, 1) := by decide +kernel
theorem dX7_cut_10 : decode cX7_cut 10 = .ok (.lconst 0, 1) := by decide +kernel
theorem dX7_cut_11 : decode cX7_cut 11 = .ok (.ldc2_w 160, 3) := by decide +kernel
theorem dX7_cut_14 : decode cX7_cut 14 = .ok (.invokestatic 144, 3) := by decide +kernel
theorem dX7_cut_17 : decode cX7_cut 17 = .ok (.ifCond .eq 11, 3) := by decide +kernel
theorem dX7_cut_20 : decode cX7_cut 20 = .ok (.aload_n 0, 1) := by decide +kernel
theorem dX7_cut_21 : decode cX7_cut 21 = .ok (.iload_n 3, 1) := by decide +kernel
theorem dX7_cut_22 : decode cX7_cut 22 = .ok (.invokevirtual 152, 3) := by decide +kernel
theorem dX7_cut_25 : decode cX7_cut 25 = .ok (.ifCond .ne 5, 3) := by decide +kernel
theorem dX7_cut_28 : decode cX7_cut 28 = .ok (.iconst (-1), 1) := by decide +kernel
theorem dX7_cut_29 : decode cX7_cut 29 = .ok (.ireturn, 1) := by decide +kernel
theorem dX7_cut_30 : decode cX7_cut 30 = .ok (.aload_n 0, 1) := by decide +kernel
theorem dX7_cut_31 : decode cX7_cut 31 = .ok (.iload_n 1, 1) := by decide +kernel
theorem dX7_cut_32 : decode cX7_cut 32 = .ok (.iload_n 2, 1) := by decide +kernel
theorem dX7_cut_33 : decode cX7_cut 33 = .ok (.iload_n 3, 1) := by decide +kernel
theorem dX7_cut_34 : decode cX7_cut 34 = .ok (.invokevirtual 162, 3) := by decide +kernel
theorem dX7_cut_37 : decode cX7_cut 37 = .ok (.ifCond .ne 6, 3) := by decide +kernel
theorem dX7_cut_40 : decode cX7_cut 40 = .ok (.bipush (-2), 2) := by decide +kernel
theorem dX7_cut_42 : decode cX7_cut 42 = .ok (.ireturn, 1) := by decide +kernel
theorem dX7_cut_43 : decode cX7_cut 43 = .ok (.aload_n 0, 1) := by decide +kernel
theorem dX7_cut_44 : decode cX7_cut 44 = .ok (.getfield 17, 3) := by decide +kernel
theorem dX7_cut_47 : decode cX7_cut 47 = .ok (.iload_n 1, 1) := by decide +kernel
theorem dX7_cut_48 : decode cX7_cut 48 = .ok (.dup2, 1) := by decide +kernel
theorem dX7_cut_49 : decode cX7_cut 49 = .ok (.iaload, 1) := by decide +kernel
theorem dX7_cut_50 : decode cX7_cut 50 = .ok (.iconst 1, 1) := by decide +kernel
theorem dX7_cut_51 : decode cX7_cut 51 = .ok (.isub, 1) := by decide +kernel
theorem dX7_cut_52 : decode cX7_cut 52 = .ok (.iastore, 1) := by decide +kernel
theorem dX7_cut_53 : decode cX7_cut 53 = .ok (.aload_n 0, 1) := by decide +kernel
theorem dX7_cut_54 : decode cX7_cut 54 = .ok (.iload_n 1, 1) := by decide +kernel
theorem dX7_cut_55 : decode cX7_cut 55 = .ok (.iload_n 2, 1) := by decide +kernel
theorem dX7_cut_56 : decode cX7_cut 56 = .ok (.iload_n 3, 1) := by decide +kernel
theorem dX7_cut_57 : decode cX7_cut 57 = .ok (.invokevirtual 156, 3) := by decide +kernel
theorem dX7_cut_60 : decode cX7_cut 60 = .ok (.istore 4, 2) := by decide +kernel
theorem dX7_cut_62 : decode cX7_cut 62 = .ok (.iload 4, 2) := by decide +kernel
theorem dX7_cut_64 : decode cX7_cut 64 = .ok (.aload_n 0, 1) := by decide +kernel
theorem dX7_cut_65 : decode cX7_cut 65 = .ok (.getfield 17, 3) := by decide +kernel
theorem dX7_cut_68 : decode cX7_cut 68 = .ok (.iload_n 1, 1) := by decide +kernel
theorem dX7_cut_69 : decode cX7_cut 69 = .ok (.iaload, 1) := by decide +kernel
theorem dX7_cut_70 : decode cX7_cut 70 = .ok (.if_icmp .ge 57, 3) := by decide +kernel
theorem dX7_cut_73 : decode cX7_cut 73 = .ok (.aload_n 0, 1) := by decide +kernel
theorem dX7_cut_74 : decode cX7_cut 74 = .ok (.getfield 20, 3) := by decide +kernel
theorem dX7_cut_77 : decode cX7_cut 77 = .ok (.iconst 5, 1) := by decide +kernel
theorem dX7_cut_78 : decode cX7_cut 78 = .ok (.iload_n 1, 1) := by decide +kernel
theorem dX7_cut_79 : decode cX7_cut 79 = .ok (.imul, 1) := by decide +kernel
theorem dX7_cut_80 : decode cX7_cut 80 = .ok (.iload 4, 2) := by decide +kernel
theorem dX7_cut_82 : decode cX7_cut 82 = .ok (.iadd, 1) := by decide +kernel
theorem dX7_cut_83 : decode cX7_cut 83 = .ok (.aload_n 0, 1) := by decide +kernel
theorem dX7_cut_84 : decode cX7_cut 84 = .ok (.getfield 20, 3) := by decide +kernel
theorem dX7_cut_87 : decode cX7_cut 87 = .ok (.iconst 5, 1) := by decide +kernel
theorem dX7_cut_88 : decode cX7_cut 88 = .ok (.iload_n 1, 1) := by decide +kernel
theorem dX7_cut_89 : decode cX7_cut 89 = .ok (.imul, 1) := by decide +kernel
theorem dX7_cut_90 : decode cX7_cut 90 = .ok (.iload 4, 2) := by decide +kernel
theorem dX7_cut_92 : decode cX7_cut 92 = .ok (.iadd, 1) := by decide +kernel
theorem dX7_cut_93 : decode cX7_cut 93 = .ok (.iconst 1, 1) := by decide +kernel
theorem dX7_cut_94 : decode cX7_cut 94 = .ok (.iadd, 1) := by decide +kernel
theorem dX7_cut_95 : decode cX7_cut 95 = .ok (.iaload, 1) := by decide +kernel
theorem dX7_cut_96 : decode cX7_cut 96 = .ok (.iastore, 1) := by decide +kernel
theorem dX7_cut_97 : decode cX7_cut 97 = .ok (.aload_n 0, 1) := by decide +kernel
theorem dX7_cut_98 : decode cX7_cut 98 = .ok (.getfield 23, 3) := by decide +kernel
theorem dX7_cut_101 : decode cX7_cut 101 = .ok (.iconst 5, 1) := by decide +kernel
theorem dX7_cut_102 : decode cX7_cut 102 = .ok (.iload_n 1, 1) := by decide +kernel
theorem dX7_cut_103 : decode cX7_cut 103 = .ok (.imul, 1) := by decide +kernel
theorem dX7_cut_104 : decode cX7_cut 104 = .ok (.iload 4, 2) := by decide +kernel
theorem dX7_cut_106 : decode cX7_cut 106 = .ok (.iadd, 1) := by decide +kernel
theorem dX7_cut_107 : decode cX7_cut 107 = .ok (.aload_n 0, 1) := by decide +kernel
theorem dX7_cut_108 : decode cX7_cut 108 = .ok (.getfield 23, 3) := by decide +kernel
theorem dX7_cut_111 : decode cX7_cut 111 = .ok (.iconst 5, 1) := by decide +kernel
theorem dX7_cut_112 : decode cX7_cut 112 = .ok (.iload_n 1, 1) := by decide +kernel
theorem dX7_cut_113 : decode cX7_cut 113 = .ok (.imul, 1) := by decide +kernel
theorem dX7_cut_114 : decode cX7_cut 114 = .ok (.iload 4, 2) := by decide +kernel
theorem dX7_cut_116 : decode cX7_cut 116 = .ok (.iadd, 1) := by decide +kernel
theorem dX7_cut_117 : decode cX7_cut 117 = .ok (.iconst 1, 1) := by decide +kernel
theorem dX7_cut_118 : decode cX7_cut 118 = .ok (.iadd, 1) := by decide +kernel
theorem dX7_cut_119 : decode cX7_cut 119 = .ok (.iaload, 1) := by decide +kernel
theorem dX7_cut_120 : decode cX7_cut 120 = .ok (.iastore, 1) := by decide +kernel
theorem dX7_cut_121 : decode cX7_cut 121 = .ok (.iinc 4 1, 3) := by decide +kernel
theorem dX7_cut_124 : decode cX7_cut 124 = .ok (.goto (-62), 3) := by decide +kernel
theorem dX7_cut_127 : decode cX7_cut 127 = .ok (.aload_n 0, 1) := by decide +kernel
theorem dX7_cut_128 : decode cX7_cut 128 = .ok (.iconst 0, 1) := by decide +kernel
theorem dX7_cut_129 : decode cX7_cut 129 = .ok (.putfield 148, 3) := by decide +kernel
theorem dX7_cut_132 : decode cX7_cut 132 = .ok (.aload_n 0, 1) := by decide +kernel
theorem dX7_cut_133 : decode cX7_cut 133 = .ok (.invokevirtual 166, 3) := by decide +kernel
theorem dX7_cut_136 : decode cX7_cut 136 = .ok (.ireturn, 1) := by decide +kernel
theorem dX7_put_0 : decode cX7_put 0 = .ok (.bipush 24, 2) := by decide +kernel
theorem dX7_put_2 : decode cX7_put 2 = .ok (.istore_n 2, 1) := by decide +kernel
theorem dX7_put_3 : decode cX7_put 3 = .ok (.iload_n 2, 1) := by decide +kernel
theorem dX7_put_4 : decode cX7_put 4 = .ok (.ifCond .lt 35, 3) := by decide +kernel
theorem dX7_put_7 : decode cX7_put 7 = .ok (.aload_n 0, 1) := by decide +kernel
theorem dX7_put_8 : decode cX7_put 8 = .ok (.getfield 107, 3) := by decide +kernel
theorem dX7_put_11 : decode cX7_put 11 = .ok (.aload_n 0, 1) := by decide +kernel
theorem dX7_put_12 : decode cX7_put 12 = .ok (.getfield 170, 3) := by decide +kernel
theorem dX7_put_15 : decode cX7_put 15 = .ok (.iload_n 1, 1) := by decide +kernel
theorem dX7_put_16 : decode cX7_put 16 = .ok (.iload_n 2, 1) := by decide +kernel
theorem dX7_put_17 : decode cX7_put 17 = .ok (.ishr, 1) := by decide +kernel
theorem dX7_put_18 : decode cX7_put 18 = .ok (.sipush 255, 3) := by decide +kernel
theorem dX7_put_21 : decode cX7_put 21 = .ok (.iand, 1) := by decide +kernel
theorem dX7_put_22 : decode cX7_put 22 = .ok (.iastore, 1) := by decide +kernel
theorem dX7_put_23 : decode cX7_put 23 = .ok (.aload_n 0, 1) := by decide +kernel
theorem dX7_put_24 : decode cX7_put 24 = .ok (.dup, 1) := by decide +kernel
theorem dX7_put_25 : decode cX7_put 25 = .ok (.getfield 170, 3) := by decide +kernel
theorem dX7_put_28 : decode cX7_put 28 = .ok (.iconst 1, 1) := by decide +kernel
theorem dX7_put_29 : decode cX7_put 29 = .ok (.iadd, 1) := by decide +kernel
theorem dX7_put_30 : decode cX7_put 30 = .ok (.putfield 170, 3) := by decide +kernel
theorem dX7_put_33 : decode cX7_put 33 = .ok (.iinc 2 (-8), 3) := by decide +kernel
theorem dX7_put_36 : decode cX7_put 36 = .ok (.goto (-33), 3) := by decide +kernel
theorem dX7_put_39 : decode cX7_put 39 = .ok (.return_, 1) := by decide +kernel
set_option maxRecDepth 20000 in
theorem ggX7_feed_X7_put : GoodIn wsX7_feed wsX7_put := goodIn_r _ [6, 7, 1, 8, 9, 10, 11, 12, 13, 14, 15, 16, 17, 18, 19, 20, 21, 22, 23, 24, 25, 26, 27, 28, 29, 30, 31, 32, 33, 34, 35, 36, 37, 38, 39, 40, 41, 42, 43, 44, 45, 46, 47, 48, 49, 50, 51, 52, 53, 54, 55, 56, 57, 58, 59, 60, 61, 62, 63, 64] (by decide +kernel) (by decide +kernel)
set_option maxRecDepth 20000 in
theorem gX7_feed_X7_put : GoodIn wsX7_feed (wsV RX7 173 RX7 yX7_put wsX7_put) := goodIn_app (goodIn_of _ (by decide +kernel)) ggX7_feed_X7_put
theorem dX7_feed_0 : decode cX7_feed 0 = .ok (.aload_n 0, 1) := by decide +kernel
theorem dX7_feed_1 : decode cX7_feed 1 = .ok (.getfield 170, 3) := by decide +kernel
theorem dX7_feed_4 : decode cX7_feed 4 = .ok (.bipush 20, 2) := by decide +kernel
theorem dX7_feed_6 : decode cX7_feed 6 = .ok (.iadd, 1) := by decide +kernel
theorem dX7_feed_7 : decode cX7_feed 7 = .ok (.sipush 400, 3) := by decide +kernel
theorem dX7_feed_10 : decode cX7_feed 10 = .ok (.if_icmp .le 6, 3) := by decide +kernel
theorem dX7_feed_13 : decode cX7_feed 13 = .ok (.bipush (-3), 2) := by decide +kernel
theorem dX7_feed_15 : decode cX7_feed 15 = .ok (.ireturn, 1) := by decide +kernel
theorem dX7_feed_16 : decode cX7_feed 16 = .ok (.aload_n 0, 1) := by decide +kernel
theorem dX7_feed_17 : decode cX7_feed 17 = .ok (.iload_n 1, 1) := by decide +kernel
theorem dX7_feed_18 : decode cX7_feed 18 = .ok (.invokevirtual 173, 3) := by decide +kernel
theorem dX7_feed_21 : decode cX7_feed 21 = .ok (.aload_n 0, 1) := by decide +kernel
theorem dX7_feed_22 : decode cX7_feed 22 = .ok (.iload_n 2, 1) := by decide +kernel
theorem dX7_feed_23 : decode cX7_feed 23 = .ok (.invokevirtual 173, 3) := by decide +kernel
theorem dX7_feed_26 : decode cX7_feed 26 = .ok (.aload_n 0, 1) := by decide +kernel
theorem dX7_feed_27 : decode cX7_feed 27 = .ok (.iload_n 3, 1) := by decide +kernel
theorem dX7_feed_28 : decode cX7_feed 28 = .ok (.invokevirtual 173, 3) := by decide +kernel
theorem dX7_feed_31 : decode cX7_feed 31 = .ok (.aload_n 0, 1) := by decide +kernel
theorem dX7_feed_32 : decode cX7_feed 32 = .ok (.iload 4, 2) := by decide +kernel
theorem dX7_feed_34 : decode cX7_feed 34 = .ok (.invokevirtual 173, 3) := by decide +kernel
theorem dX7_feed_37 : decode cX7_feed 37 = .ok (.aload_n 0, 1) := by decide +kernel
theorem dX7_feed_38 : decode cX7_feed 38 = .ok (.iload 5, 2) := by decide +kernel
theorem dX7_feed_40 : decode cX7_feed 40 = .ok (.invokevirtual 173, 3) := by decide +kernel
theorem dX7_feed_43 : decode cX7_feed 43 = .ok (.aload_n 0, 1) := by decide +kernel
theorem dX7_feed_44 : decode cX7_feed 44 = .ok (.getfield 170, 3) := by decide +kernel
theorem dX7_feed_47 : decode cX7_feed 47 = .ok (.ireturn, 1) := by decide +kernel
set_option maxRecDepth 20000 in
theorem ggX7_end_X7_in : GoodIn wsX7_end wsX7_in := goodIn_r _ [5] (by decide +kernel) (by decide +kernel)
set_option maxRecDepth 20000 in
theorem gX7_end_X7_in : GoodIn wsX7_end (va_wsS RX7 144 yX7_in wsX7_in) := goodIn_app (goodIn_of _ (by decide +kernel)) ggX7_end_X7_in
