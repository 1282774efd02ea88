set_option maxRecDepth 20000 in
theorem ggX7_read_X7_free : GoodIn wsX7_read wsX7_free := goodIn_sub (List.forall_mem_cons.mpr ⟨(List.mem_of_getElem? (i := 8) rfl), (List.forall_mem_append.mpr ⟨(List.forall_mem_cons.mpr ⟨(List.mem_of_getElem? (i := 9) rfl), (fun _ h => absurd h List.not_mem_nil)⟩), (fun _ h => (List.mem_cons_of_mem _ (List.mem_append_right _ h)))⟩)⟩) (by decide +kernel)
set_option maxRecDepth 20000 in
theorem gX7_read_X7_free : GoodIn wsX7_read (wsV RX7 299 RX7 yX7_free wsX7_free) := goodIn_app (goodIn_sub (List.forall_mem_cons.mpr ⟨(List.mem_of_getElem? (i := 4) rfl), (List.forall_mem_cons.mpr ⟨(List.mem_of_getElem? (i := 5) rfl), (List.forall_mem_cons.mpr ⟨(List.mem_of_getElem? (i := 6) rfl), (List.forall_mem_cons.mpr ⟨(List.mem_of_getElem? (i := 7) rfl), (fun _ h => absurd h List.not_mem_nil)⟩)⟩)⟩)⟩) (by decide +kernel)) ggX7_read_X7_free
set_option maxRecDepth 20000 in
theorem ggX7_read_X7_findRanks : GoodIn wsX7_read wsX7_findRanks := goodIn_sub (List.forall_mem_cons.mpr ⟨(List.mem_of_getElem? (i := 13) rfl), (List.forall_mem_append.mpr ⟨(List.forall_mem_cons.mpr ⟨(List.mem_of_getElem? (i := 14) rfl), (List.forall_mem_cons.mpr ⟨(List.mem_of_getElem? (i := 15) rfl), (List.forall_mem_cons.mpr ⟨(List.mem_of_getElem? (i := 16) rfl), (List.forall_mem_cons.mpr ⟨(List.mem_of_getElem? (i := 17) rfl), (List.forall_mem_cons.mpr ⟨(List.mem_of_getElem? (i := 18) rfl), (fun _ h => absurd h List.not_mem_nil)⟩)⟩)⟩)⟩)⟩), (fun _ h => (List.mem_cons_of_mem _ (List.mem_append_right _ h)))⟩)⟩) (by decide +kernel)
set_option maxRecDepth 20000 in
theorem gX7_read_X7_findRanks : GoodIn wsX7_read (wsV RX7 302 RX7 yX7_findRanks wsX7_findRanks) := goodIn_app (goodIn_sub (List.forall_mem_cons.mpr ⟨(List.mem_of_getElem? (i := 10) rfl), (List.forall_mem_cons.mpr ⟨(List.mem_of_getElem? (i := 11) rfl), (List.forall_mem_cons.mpr ⟨(List.mem_of_getElem? (i := 12) rfl), (List.forall_mem_cons.mpr ⟨(List.mem_of_getElem? (i := 7) rfl), (fun _ h => absurd h List.not_mem_nil)⟩)⟩)⟩)⟩) (by decide +kernel)) ggX7_read_X7_findRanks
set_option maxRecDepth 20000 in
theorem ggX7_read_X7_changes : GoodIn wsX7_read wsX7_changes := goodIn_sub (List.forall_mem_cons.mpr ⟨(List.mem_of_getElem? (i := 22) rfl), (List.forall_mem_append.mpr ⟨(List.forall_mem_append.mpr ⟨(show ∀ w ∈ wsX7_changes_r1, w ∈ wsX7_read from (List.forall_mem_cons.mpr ⟨(List.mem_of_getElem? (i := 14) rfl), (List.forall_mem_cons.mpr ⟨(List.mem_of_getElem? (i := 23) rfl), (List.forall_mem_cons.mpr ⟨(List.mem_of_getElem? (i := 15) rfl), (List.forall_mem_cons.mpr ⟨(List.mem_of_getElem? (i := 3) rfl), (List.forall_mem_cons.mpr ⟨(List.mem_of_getElem? (i := 2) rfl), (List.forall_mem_cons.mpr ⟨(List.mem_of_getElem? (i := 24) rfl), (List.forall_mem_cons.mpr ⟨(List.mem_of_getElem? (i := 25) rfl), (List.forall_mem_cons.mpr ⟨(List.mem_of_getElem? (i := 26) rfl), (List.forall_mem_cons.mpr ⟨(List.mem_of_getElem? (i := 7) rfl), (List.forall_mem_cons.mpr ⟨(List.mem_of_getElem? (i := 27) rfl), (List.forall_mem_cons.mpr ⟨(List.mem_of_getElem? (i := 28) rfl), (List.forall_mem_cons.mpr ⟨(List.mem_of_getElem? (i := 29) rfl), (List.forall_mem_cons.mpr ⟨(List.mem_of_getElem? (i := 30) rfl), (List.forall_mem_cons.mpr ⟨(List.mem_of_getElem? (i := 31) rfl), (List.forall_mem_cons.mpr ⟨(List.mem_of_getElem? (i := 32) rfl), (List.forall_mem_cons.mpr ⟨(List.mem_of_getElem? (i := 33) rfl), (List.forall_mem_cons.mpr ⟨(List.mem_of_getElem? (i := 34) rfl), (List.forall_mem_cons.mpr ⟨(List.mem_of_getElem? (i := 35) rfl), (List.forall_mem_cons.mpr ⟨(List.mem_of_getElem? (i := 36) rfl), (List.forall_mem_cons.mpr ⟨(List.mem_of_getElem? (i := 37) rfl), (List.forall_mem_cons.mpr ⟨(List.mem_of_getElem? (i := 38) rfl), (List.forall_mem_cons.mpr ⟨(List.mem_of_getElem? (i := 16) rfl), (List.forall_mem_cons.mpr ⟨(List.mem_of_getElem? (i := 39) rfl), (List.forall_mem_cons.mpr ⟨(List.mem_of_getElem? (i := 40) rfl), (fun _ h => absurd h List.not_mem_nil)⟩)⟩)⟩)⟩)⟩)⟩)⟩)⟩)⟩)⟩)⟩)⟩)⟩)⟩)⟩)⟩)⟩)⟩)⟩)⟩)⟩)⟩)⟩)⟩)), (List.forall_mem_append.mpr ⟨(show ∀ w ∈ wsX7_changes_r2, w ∈ wsX7_read from (List.forall_mem_cons.mpr ⟨(List.mem_of_getElem? (i := 41) rfl), (List.forall_mem_cons.mpr ⟨(List.mem_of_getElem? (i := 42) rfl), (List.forall_mem_cons.mpr ⟨(List.mem_of_getElem? (i := 43) rfl), (List.forall_mem_cons.mpr ⟨(List.mem_of_getElem? (i := 44) rfl), (List.forall_mem_cons.mpr ⟨(List.mem_of_getElem? (i := 45) rfl), (List.forall_mem_cons.mpr ⟨(List.mem_of_getElem? (i := 46) rfl), (List.forall_mem_cons.mpr ⟨(List.mem_of_getElem? (i := 47) rfl), (List.forall_mem_cons.mpr ⟨(List.mem_of_getElem? (i := 48) rfl), (List.forall_mem_cons.mpr ⟨(List.mem_of_getElem? (i := 9) rfl), (List.forall_mem_cons.mpr ⟨(List.mem_of_getElem? (i := 49) rfl), (List.forall_mem_cons.mpr ⟨(List.mem_of_getElem? (i := 50) rfl), (List.forall_mem_cons.mpr ⟨(List.mem_of_getElem? (i := 51) rfl), (List.forall_mem_cons.mpr ⟨(List.mem_of_getElem? (i := 52) rfl), (List.forall_mem_cons.mpr ⟨(List.mem_of_getElem? (i := 53) rfl), (List.forall_mem_cons.mpr ⟨(List.mem_of_getElem? (i := 54) rfl), (List.forall_mem_cons.mpr ⟨(List.mem_of_getElem? (i := 55) rfl), (List.forall_mem_cons.mpr ⟨(List.mem_of_getElem? (i := 17) rfl), (List.forall_mem_cons.mpr ⟨(List.mem_of_getElem? (i := 18) rfl), (List.forall_mem_cons.mpr ⟨(List.mem_of_getElem? (i := 56) rfl), (List.forall_mem_cons.mpr ⟨(List.mem_of_getElem? (i := 57) rfl), (List.forall_mem_cons.mpr ⟨(List.mem_of_getElem? (i := 58) rfl), (List.forall_mem_cons.mpr ⟨(List.mem_of_getElem? (i := 59) rfl), (List.forall_mem_cons.mpr ⟨(List.mem_of_getElem? (i := 60) rfl), (List.forall_mem_cons.mpr ⟨(List.mem_of_getElem? (i := 61) rfl), (fun _ h => absurd h List.not_mem_nil)⟩)⟩)⟩)⟩)⟩)⟩)⟩)⟩)⟩)⟩)⟩)⟩)⟩)⟩)⟩)⟩)⟩)⟩)⟩)⟩)⟩)⟩)⟩)⟩)), (show ∀ w ∈ wsX7_changes_r3, w ∈ wsX7_read from (List.forall_mem_cons.mpr ⟨(List.mem_of_getElem? (i := 62) rfl), (List.forall_mem_cons.mpr ⟨(List.mem_of_getElem? (i := 63) rfl), (List.forall_mem_cons.mpr ⟨(List.mem_of_getElem? (i := 64) rfl), (List.forall_mem_cons.mpr ⟨(List.mem_of_getElem? (i := 65) rfl), (List.forall_mem_cons.mpr ⟨(List.mem_of_getElem? (i := 66) rfl), (List.forall_mem_cons.mpr ⟨(List.mem_of_getElem? (i := 67) rfl), (List.forall_mem_cons.mpr ⟨(List.mem_of_getElem? (i := 68) rfl), (fun _ h => absurd h List.not_mem_nil)⟩)⟩)⟩)⟩)⟩)⟩)⟩))⟩)⟩), (fun _ h => (List.mem_cons_of_mem _ (List.mem_append_right _ h)))⟩)⟩) (by decide +kernel)
set_option maxRecDepth 20000 in
theorem gX7_read_X7_changes : GoodIn wsX7_read (wsV RX7 305 RX7 yX7_changes wsX7_changes) := goodIn_app (goodIn_sub (List.forall_mem_cons.mpr ⟨(List.mem_of_getElem? (i := 19) rfl), (List.forall_mem_cons.mpr ⟨(List.mem_of_getElem? (i := 20) rfl), (List.forall_mem_cons.mpr ⟨(List.mem_of_getElem? (i := 21) rfl), (List.forall_mem_cons.mpr ⟨(List.mem_of_getElem? (i := 7) rfl), (fun _ h => absurd h List.not_mem_nil)⟩)⟩)⟩)⟩) (by decide +kernel)) ggX7_read_X7_changes
set_option maxRecDepth 100000 in
theorem daX7_read : ∀ q ∈ ([(0, .aload_n 0, 1), (1, .getfield 148, 3), (4, .ifCond .eq 4, 3), (7, .return_, 1), (8, .aload_n 0, 1), (9, .iconst 1, 1), (10, .putfield 148, 3), (13, .aload_n 0, 1), (14, .invokevirtual 299, 3), (17, .aload_n 0, 1), (18, .invokevirtual 302, 3), (21, .iconst 0, 1), (22, .istore_n 1, 1), (23, .iload_n 1, 1), (24, .bipush 60, 2), (26, .if_icmp .ge 23, 3), (29, .aload_n 0, 1), (30, .getfield 119, 3), (33, .iload_n 1, 1), (34, .iconst 1, 1), (35, .bastore, 1), (36, .aload_n 0, 1), (37, .getfield 122, 3), (40, .iload_n 1, 1), (41, .iconst 0, 1), (42, .bastore, 1), (43, .iinc 1 1, 3), (46, .goto (-23), 3), (49, .iconst 0, 1), (50, .istore_n 1, 1), (51, .iload_n 1, 1), (52, .bipush 7, 2), (54, .if_icmp .ge 25, 3), (57, .iconst 1, 1), (58, .istore_n 2, 1), (59, .iload_n 2, 1), (60, .ifCond .eq 13, 3), (63, .aload_n 0, 1), (64, .iload_n 1, 1), (65, .iconst 0, 1), (66, .invokevirtual 305, 3), (69, .istore_n 2, 1), (70, .goto (-11), 3), (73, .iinc 1 1, 3), (76, .goto (-25), 3), (79, .iconst 0, 1), (80, .istore_n 1, 1), (81, .iload_n 1, 1), (82, .bipush 7, 2), (84, .if_icmp .ge 25, 3), (87, .iconst 1, 1), (88, .istore_n 2, 1), (89, .iload_n 2, 1), (90, .ifCond .eq 13, 3), (93, .aload_n 0, 1), (94, .iload_n 1, 1), (95, .iconst 1, 1), (96, .invokevirtual 305, 3), (99, .istore_n 2, 1), (100, .goto (-11), 3), (103, .iinc 1 1, 3), (106, .goto (-25), 3), (109, .return_, 1)] : List (Nat × Instr × Nat)), decode cX7_read q.1 = .ok q.2 := by decide +kernel
theorem dX7_read_0 : decode cX7_read 0 = .ok (.aload_n 0, 1) := daX7_read (0, .aload_n 0, 1) (List.mem_of_getElem? (i := 0) rfl)
theorem dX7_read_1 : decode cX7_read 1 = .ok (.getfield 148, 3) := daX7_read (1, .getfield 148, 3) (List.mem_of_getElem? (i := 1) rfl)
theorem dX7_read_4 : decode cX7_read 4 = .ok (.ifCond .eq 4, 3) := daX7_read (4, .ifCond .eq 4, 3) (List.mem_of_getElem? (i := 2) rfl)
theorem dX7_read_7 : decode cX7_read 7 = .ok (.return_, 1) := daX7_read (7, .return_, 1) (List.mem_of_getElem? (i := 3) rfl)
theorem dX7_read_8 : decode cX7_read 8 = .ok (.aload_n 0, 1) := daX7_read (8, .aload_n 0, 1) (List.mem_of_getElem? (i := 4) rfl)
theorem dX7_read_9 : decode cX7_read 9 = .ok (.iconst 1, 1) := daX7_read (9, .iconst 1, 1) (List.mem_of_getElem? (i := 5) rfl)
theorem dX7_read_10 : decode cX7_read 10 = .ok (.putfield 148, 3) := daX7_read (10, .putfield 148, 3) (List.mem_of_getElem? (i := 6) rfl)
theorem dX7_read_13 : decode cX7_read 13 = .ok (.aload_n 0, 1) := daX7_read (13, .aload_n 0, 1) (List.mem_of_getElem? (i := 7) rfl)
theorem dX7_read_14 : decode cX7_read 14 = .ok (.invokevirtual 299, 3) := daX7_read (14, .invokevirtual 299, 3) (List.mem_of_getElem? (i := 8) rfl)
theorem dX7_read_17 : decode cX7_read 17 = .ok (.aload_n 0, 1) := daX7_read (17, .aload_n 0, 1) (List.mem_of_getElem? (i := 9) rfl)
theorem dX7_read_18 : decode cX7_read 18 = .ok (.invokevirtual 302, 3) := daX7_read (18, .invokevirtual 302, 3) (List.mem_of_getElem? (i := 10) rfl)
theorem dX7_read_21 : decode cX7_read 21 = .ok (.iconst 0, 1) := daX7_read (21, .iconst 0, 1) (List.mem_of_getElem? (i := 11) rfl)
theorem dX7_read_22 : decode cX7_read 22 = .ok (.istore_n 1, 1) := daX7_read (22, .istore_n 1, 1) (List.mem_of_getElem? (i := 12) rfl)
theorem dX7_read_23 : decode cX7_read 23 = .ok (.iload_n 1, 1) := daX7_read (23, .iload_n 1, 1) (List.mem_of_getElem? (i := 13) rfl)
theorem dX7_read_24 : decode cX7_read 24 = .ok (.bipush 60, 2) := daX7_read (24, .bipush 60, 2) (List.mem_of_getElem? (i := 14) rfl)
theorem dX7_read_26 : decode cX7_read 26 = .ok (.if_icmp .ge 23, 3) := daX7_read (26, .if_icmp .ge 23, 3) (List.mem_of_getElem? (i := 15) rfl)
theorem dX7_read_29 : decode cX7_read 29 = .ok (.aload_n 0, 1) := daX7_read (29, .aload_n 0, 1) (List.mem_of_getElem? (i := 16) rfl)
theorem dX7_read_30 : decode cX7_read 30 = .ok (.getfield 119, 3) := daX7_read (30, .getfield 119, 3) (List.mem_of_getElem? (i := 17) rfl)
theorem dX7_read_33 : decode cX7_read 33 = .ok (.iload_n 1, 1) := daX7_read (33, .iload_n 1, 1) (List.mem_of_getElem? (i := 18) rfl)
theorem dX7_read_34 : decode cX7_read 34 = .ok (.iconst 1, 1) := daX7_read (34, .iconst 1, 1) (List.mem_of_getElem? (i := 19) rfl)
theorem dX7_read_35 : decode cX7_read 35 = .ok (.bastore, 1) := daX7_read (35, .bastore, 1) (List.mem_of_getElem? (i := 20) rfl)
theorem dX7_read_36 : decode cX7_read 36 = .ok (.aload_n 0, 1) := daX7_read (36, .aload_n 0, 1) (List.mem_of_getElem? (i := 21) rfl)
theorem dX7_read_37 : decode cX7_read 37 = .ok (.getfield 122, 3) := daX7_read (37, .getfield 122, 3) (List.mem_of_getElem? (i := 22) rfl)
theorem dX7_read_40 : decode cX7_read 40 = .ok (.iload_n 1, 1) := daX7_read (40, .iload_n 1, 1) (List.mem_of_getElem? (i := 23) rfl)
theorem dX7_read_41 : decode cX7_read 41 = .ok (.iconst 0, 1) := daX7_read (41, .iconst 0, 1) (List.mem_of_getElem? (i := 24) rfl)
theorem dX7_read_42 : decode cX7_read 42 = .ok (.bastore, 1) := daX7_read (42, .bastore, 1) (List.mem_of_getElem? (i := 25) rfl)
theorem dX7_read_43 : decode cX7_read 43 = .ok (.iinc 1 1, 3) := daX7_read (43, .iinc 1 1, 3) (List.mem_of_getElem? (i := 26) rfl)
theorem dX7_read_46 : decode cX7_read 46 = .ok (.goto (-23), 3) := daX7_read (46, .goto (-23), 3) (List.mem_of_getElem? (i := 27) rfl)
theorem dX7_read_49 : decode cX7_read 49 = .ok (.iconst 0, 1) := daX7_read (49, .iconst 0, 1) (List.mem_of_getElem? (i := 28) rfl)
theorem dX7_read_50 : decode cX7_read 50 = .ok (.istore_n 1, 1) := daX7_read (50, .istore_n 1, 1) (List.mem_of_getElem? (i := 29) rfl)
theorem dX7_read_51 : decode cX7_read 51 = .ok (.iload_n 1, 1) := daX7_read (51, .iload_n 1, 1) (List.mem_of_getElem? (i := 30) rfl)
theorem dX7_read_52 : decode cX7_read 52 = .ok (.bipush 7, 2) := daX7_read (52, .bipush 7, 2) (List.mem_of_getElem? (i := 31) rfl)
theorem dX7_read_54 : decode cX7_read 54 = .ok (.if_icmp .ge 25, 3) := daX7_read (54, .if_icmp .ge 25, 3) (List.mem_of_getElem? (i := 32) rfl)
theorem dX7_read_57 : decode cX7_read 57 = .ok (.iconst 1, 1) := daX7_read (57, .iconst 1, 1) (List.mem_of_getElem? (i := 33) rfl)
theorem dX7_read_58 : decode cX7_read 58 = .ok (.istore_n 2, 1) := daX7_read (58, .istore_n 2, 1) (List.mem_of_getElem? (i := 34) rfl)
theorem dX7_read_59 : decode cX7_read 59 = .ok (.iload_n 2, 1) := daX7_read (59, .iload_n 2, 1) (List.mem_of_getElem? (i := 35) rfl)
theorem dX7_read_60 : decode cX7_read 60 = .ok (.ifCond .eq 13, 3) := daX7_read (60, .ifCond .eq 13, 3) (List.mem_of_getElem? (i := 36) rfl)
theorem dX7_read_63 : decode cX7_read 63 = .ok (.aload_n 0, 1) := daX7_read (63, .aload_n 0, 1) (List.mem_of_getElem? (i := 37) rfl)
theorem dX7_read_64 : decode cX7_read 64 = .ok (.iload_n 1, 1) := daX7_read (64, .iload_n 1, 1) (List.mem_of_getElem? (i := 38) rfl)
theorem dX7_read_65 : decode cX7_read 65 = .ok (.iconst 0, 1) := daX7_read (65, .iconst 0, 1) (List.mem_of_getElem? (i := 39) rfl)
theorem dX7_read_66 : decode cX7_read 66 = .ok (.invokevirtual 305, 3) := daX7_read (66, .invokevirtual 305, 3) (List.mem_of_getElem? (i := 40) rfl)
theorem dX7_read_69 : decode cX7_read 69 = .ok (.istore_n 2, 1) := daX7_read (69, .istore_n 2, 1) (List.mem_of_getElem? (i := 41) rfl)
theorem dX7_read_70 : decode cX7_read 70 = .ok (.goto (-11), 3) := daX7_read (70, .goto (-11), 3) (List.mem_of_getElem? (i := 42) rfl)
theorem dX7_read_73 : decode cX7_read 73 = .ok (.iinc 1 1, 3) := daX7_read (73, .iinc 1 1, 3) (List.mem_of_getElem? (i := 43) rfl)
theorem dX7_read_76 : decode cX7_read 76 = .ok (.goto (-25), 3) := daX7_read (76, .goto (-25), 3) (List.mem_of_getElem? (i := 44) rfl)
theorem dX7_read_79 : decode cX7_read 79 = .ok (.iconst 0, 1) := daX7_read (79, .iconst 0, 1) (List.mem_of_getElem? (i := 45) rfl)
theorem dX7_read_80 : decode cX7_read 80 = .ok (.istore_n 1, 1) := daX7_read (80, .istore_n 1, 1) (List.mem_of_getElem? (i := 46) rfl)
theorem dX7_read_81 : decode cX7_read 81 = .ok (.iload_n 1, 1) := daX7_read (81, .iload_n 1, 1) (List.mem_of_getElem? (i := 47) rfl)
theorem dX7_read_82 : decode cX7_read 82 = .ok (.bipush 7, 2) := daX7_read (82, .bipush 7, 2) (List.mem_of_getElem? (i := 48) rfl)
theorem dX7_read_84 : decode cX7_read 84 = .ok (.if_icmp .ge 25, 3) := daX7_read (84, .if_icmp .ge 25, 3) (List.mem_of_getElem? (i := 49) rfl)
theorem dX7_read_87 : decode cX7_read 87 = .ok (.iconst 1, 1) := daX7_read (87, .iconst 1, 1) (List.mem_of_getElem? (i := 50) rfl)
theorem dX7_read_88 : decode cX7_read 88 = .ok (.istore_n 2, 1) := daX7_read (88, .istore_n 2, 1) (List.mem_of_getElem? (i := 51) rfl)
theorem dX7_read_89 : decode cX7_read 89 = .ok (.iload_n 2, 1) := daX7_read (89, .iload_n 2, 1) (List.mem_of_getElem? (i := 52) rfl)
theorem dX7_read_90 : decode cX7_read 90 = .ok (.ifCond .eq 13, 3) := daX7_read (90, .ifCond .eq 13, 3) (List.mem_of_getElem? (i := 53) rfl)
theorem dX7_read_93 : decode cX7_read 93 = .ok (.aload_n 0, 1) := daX7_read (93, .aload_n 0, 1) (List.mem_of_getElem? (i := 54) rfl)
theorem dX7_read_94 : decode cX7_read 94 = .ok (.iload_n 1, 1) := daX7_read (94, .iload_n 1, 1) (List.mem_of_getElem? (i := 55) rfl)
theorem dX7_read_95 : decode cX7_read 95 = .ok (.iconst 1, 1) := daX7_read (95, .iconst 1, 1) (List.mem_of_getElem? (i := 56) rfl)
theorem dX7_read_96 : decode cX7_read 96 = .ok (.invokevirtual 305, 3) := daX7_read (96, .invokevirtual 305, 3) (List.mem_of_getElem? (i := 57) rfl)
theorem dX7_read_99 : decode cX7_read 99 = .ok (.istore_n 2, 1) := daX7_read (99, .istore_n 2, 1) (List.mem_of_getElem? (i := 58) rfl)
theorem dX7_read_100 : decode cX7_read 100 = .ok (.goto (-11), 3) := daX7_read (100, .goto (-11), 3) (List.mem_of_getElem? (i := 59) rfl)
theorem dX7_read_103 : decode cX7_read 103 = .ok (.iinc 1 1, 3) := daX7_read (103, .iinc 1 1, 3) (List.mem_of_getElem? (i := 60) rfl)
theorem dX7_read_106 : decode cX7_read 106 = .ok (.goto (-25), 3) := daX7_read (106, .goto (-25), 3) (List.mem_of_getElem? (i := 61) rfl)
theorem dX7_read_109 : decode cX7_read 109 = .ok (.return_, 1) := daX7_read (109, .return_, 1) (List.mem_of_getElem? (i := 62) rfl)
def rmX7_read : Room := { frames := 5, cells := 0, slots := 0, locals := 131 }
theorem zdX7_read : yX7_read.cls = RX7 ∧ yX7_read.cls ≠ "java/lang/invoke/MethodHandle" ∧ yX7_read.cls ≠ "java/lang/invoke/VarHandle" ∧ (parseMethodDescriptor yX7_read.desc).map (fun d => d.parameters.length) = some 0 := by decide +kernel
theorem kiX7_read_X7 : ∀ w ∈ wsX70, w ∈ wsX7_read := fun _ h => (List.mem_cons_of_mem _ (List.mem_append_right _ h))
theorem kfX7_read_148 : Cond.fieldLink RX7 148 "ShapeJudgeModel" "isRead" "Z" ∈ wsX7_read := (List.mem_of_getElem? (i := 1) rfl)
theorem kfX7_read_119 : Cond.fieldLink RX7 119 "ShapeJudgeModel" "fitting" "[Z" ∈ wsX7_read := (List.mem_of_getElem? (i := 2) rfl)
theorem kfX7_read_122 : Cond.fieldLink RX7 122 "ShapeJudgeModel" "sure" "[Z" ∈ wsX7_read := (List.mem_of_getElem? (i := 3) rfl)
def t_X7_read_23  (i6 : Int32) (m7 : Mem) : Option ((Int32 × Mem) ⊕ (Mem)) :=
  (if 60 ≤ i6 then (some (.inr m7)) else (ck (zin i6 60 = true) (bn (sto m7 37 (Int32.toNatClampNeg i6) (vp_nar .boolean 1)) fun m9 => ck (zin i6 60 = true) (bn (sto m9 38 (Int32.toNatClampNeg i6) (vp_nar .boolean 0)) fun m11 => bn (i6 + 1) fun x12 => some (.inl (x12, m11))))))
def l_X7_read_23  (n : Nat) (i6 : Int32) (m7 : Mem) : Option (Mem) := zlp n (fun a => t_X7_read_23  a.1 a.2) (i6, m7)
def t_X7_read_59 (i15 : Int32) (i17 : Int32) (m18 : Mem) : Option ((Int32 × Mem) ⊕ (Mem)) :=
  (if i17 = 0 then (some (.inr m18)) else (zb2 (s_X7_changes m18 i15 0) fun r20 m21 => some (.inl (r20, m21))))
def l_X7_read_59 (i15 : Int32) (n : Nat) (i17 : Int32) (m18 : Mem) : Option (Mem) := zlp n (fun a => t_X7_read_59 i15 a.1 a.2) (i17, m18)
def t_X7_read_51  (i15 : Int32) (m16 : Mem) : Option ((Int32 × Mem) ⊕ (Mem)) :=
  (if 7 ≤ i15 then (some (.inr m16)) else (((l_X7_read_59 i15 FU 1 m16).bind fun m23 => bn (i15 + 1) fun x24 => some (.inl (x24, m23)))))
def l_X7_read_51  (n : Nat) (i15 : Int32) (m16 : Mem) : Option (Mem) := zlp n (fun a => t_X7_read_51  a.1 a.2) (i15, m16)
def t_X7_read_89 (i27 : Int32) (i29 : Int32) (m30 : Mem) : Option ((Int32 × Mem) ⊕ (Mem)) :=
  (if i29 = 0 then (some (.inr m30)) else (zb2 (s_X7_changes m30 i27 1) fun r32 m33 => some (.inl (r32, m33))))
def l_X7_read_89 (i27 : Int32) (n : Nat) (i29 : Int32) (m30 : Mem) : Option (Mem) := zlp n (fun a => t_X7_read_89 i27 a.1 a.2) (i29, m30)
def t_X7_read_81  (i27 : Int32) (m28 : Mem) : Option ((Int32 × Mem) ⊕ (Mem)) :=
  (if 7 ≤ i27 then (some (.inr m28)) else (((l_X7_read_89 i27 FU 1 m28).bind fun m35 => bn (i27 + 1) fun x36 => some (.inl (x36, m35)))))
def l_X7_read_81  (n : Nat) (i27 : Int32) (m28 : Mem) : Option (Mem) := zlp n (fun a => t_X7_read_81  a.1 a.2) (i27, m28)
def s_X7_read (m : Mem)  : Option (Mem) :=
  (if (m 0 6) = 0 then (bn (sto m 0 6 1) fun m1 => (s_X7_free m1).bind fun m3 => (s_X7_findRanks m3).bind fun m5 => ((l_X7_read_23  FU 0 m5).bind fun m14 => ((l_X7_read_51  FU 0 m14).bind fun m26 => ((l_X7_read_81  FU 0 m26).bind fun m38 => some m38)))) else (some m))
set_option maxRecDepth 100000 in
set_option maxHeartbeats 4000000 in
theorem w_X7_read_23 {K : ZK} (C : zOK MM K cX7_read 3 none RX7 wsX7_read rmX7_read)   {o0 : Mem} (hk : zGo MM K o0 [(0, .ref ((zw K).2.1 0))] 49 []) : ∀ (n : Nat) (i6 : Int32) (m7 : Mem), l_X7_read_23  n i6 m7 = some o0 → zGo MM K m7 [(0, .ref ((zw K).2.1 0)), (1, .int i6)] 23 [] := by
  intro n
  induction n with
  | zero =>
    intro i6 m7 hf
    cases hf
  | succ n ih =>
    intro i6 m7 hf
    obtain ⟨z, hf, hz⟩ := zlp_el hf
    replace hf : t_X7_read_23  i6 m7 = some z := hf
    unfold t_X7_read_23 at hf
    refine z_iload_n C 1 dX7_read_23 rfl rfl ?_
    refine z_bipush C (v := 60) dX7_read_24 rfl ?_
    refine z_icmp_ge (tgt := 49) C dX7_read_26 (by decide) (fun c13 => ?_) (fun c13 => ?_)
    · replace hf := if_t c13 hf
      cases hf
      replace hz := zlz_r hz
      cases hz
      exact z_sub [0] rfl hk
    · replace hf := if_f c13 hf
      refine z_aload_n C 0 dX7_read_29 rfl rfl ?_
      refine z_getr C (t := 37) (Nat.le_of_ble_eq_true rfl) rfl rfl 48 (Nat.le_of_ble_eq_true rfl) rfl kiX7_read_X7 kfX7_read_119 dX7_read_30 ?_
      refine z_iload_n C 1 dX7_read_33 rfl rfl ?_
      refine z_iconst C (v := 1) dX7_read_34 rfl ?_
      obtain ⟨hi8, hf⟩ := ck_el hf
      refine z_zast C (k := 37) (Nat.le_of_ble_eq_true rfl) rfl hi8 dX7_read_35 ?_
      refine z_nm (fun m9 e_m9 => ?_)
      replace hf := bn_to e_m9 hf
      refine z_aload_n C 0 dX7_read_36 rfl rfl ?_
      refine z_getr C (t := 38) (Nat.le_of_ble_eq_true rfl) rfl rfl 49 (Nat.le_of_ble_eq_true rfl) rfl kiX7_read_X7 kfX7_read_122 dX7_read_37 ?_
      refine z_iload_n C 1 dX7_read_40 rfl rfl ?_
      refine z_iconst C (v := 0) dX7_read_41 rfl ?_
      obtain ⟨hi10, hf⟩ := ck_el hf
      refine z_zast C (k := 38) (Nat.le_of_ble_eq_true rfl) rfl hi10 dX7_read_42 ?_
      refine z_nm (fun m11 e_m11 => ?_)
      replace hf := bn_to e_m11 hf
      obtain ⟨x12, e_x12⟩ : ∃ y : Int32, y = i6 + 1 := ⟨_, rfl⟩
      replace hf := bn_to e_x12 hf
      refine z_iinc C (lv2 := [(0, .ref ((zw K).2.1 0)), (1, .int x12)]) 1 [1, 0] dX7_read_43 rfl rfl (Nat.le_of_ble_eq_true rfl) e_x12 rfl ?_
      refine z_goto (tgt := 23) C dX7_read_46 (by decide) ?_
      cases hf
      exact z_sub [0, 1] rfl (ih x12 m11 hz)
set_option maxRecDepth 100000 in
set_option maxHeartbeats 4000000 in
theorem w_X7_read_59 {K : ZK} (C : zOK MM K cX7_read 3 none RX7 wsX7_read rmX7_read) {i15 : Int32}  {o0 : Mem} (hk : zGo MM K o0 [(0, .ref ((zw K).2.1 0)), (1, .int i15)] 73 []) : ∀ (n : Nat) (i17 : Int32) (m18 : Mem), l_X7_read_59 i15 n i17 m18 = some o0 → zGo MM K m18 [(0, .ref ((zw K).2.1 0)), (1, .int i15), (2, .int i17)] 59 [] := by
  intro n
  induction n with
  | zero =>
    intro i17 m18 hf
    cases hf
  | succ n ih =>
    intro i17 m18 hf
    obtain ⟨z, hf, hz⟩ := zlp_el hf
    replace hf : t_X7_read_59 i15 i17 m18 = some z := hf
    unfold t_X7_read_59 at hf
    refine z_iload_n C 2 dX7_read_59 rfl rfl ?_
    refine z_if_eq (tgt := 73) C dX7_read_60 (by decide) (fun c22 => ?_) (fun c22 => ?_)
    · replace hf := if_t c22 hf
      cases hf
      replace hz := zlz_r hz
      cases hz
      exact z_sub [0, 1] rfl hk
    · replace hf := if_f c22 hf
      refine z_aload_n C 0 dX7_read_63 rfl rfl ?_
      refine z_iload_n C 1 dX7_read_64 rfl rfl ?_
      refine z_iconst C (v := 0) dX7_read_65 rfl ?_
      obtain ⟨r20, m21, hc19, hf⟩ := zb2_el hf
      refine z_cVi C (c_X7_changes _ _ hc19) rfl gX7_read_X7_changes rfl rfl zdX7_changes rfl (Nat.le_of_ble_eq_true rfl) rfl rfl rfl ⟨Nat.le_of_ble_eq_true rfl, Nat.le_of_ble_eq_true rfl⟩ (Nat.le_of_ble_eq_true rfl) dX7_read_66 rfl ?_
      refine z_istore_n C (lv2 := [(0, .ref ((zw K).2.1 0)), (1, .int i15), (2, .int r20)]) [1, 2, 0] dX7_read_69 rfl (Nat.le_of_ble_eq_true rfl) rfl ?_
      refine z_goto (tgt := 59) C dX7_read_70 (by decide) ?_
      cases hf
      exact z_sub [0, 1, 2] rfl (ih r20 m21 hz)
set_option maxRecDepth 100000 in
set_option maxHeartbeats 4000000 in
theorem w_X7_read_51 {K : ZK} (C : zOK MM K cX7_read 3 none RX7 wsX7_read rmX7_read)   {o0 : Mem} (hk : zGo MM K o0 [(0, .ref ((zw K).2.1 0))] 79 []) : ∀ (n : Nat) (i15 : Int32) (m16 : Mem), l_X7_read_51  n i15 m16 = some o0 → zGo MM K m16 [(0, .ref ((zw K).2.1 0)), (1, .int i15)] 51 [] := by
  intro n
  induction n with
  | zero =>
    intro i15 m16 hf
    cases hf
  | succ n ih =>
    intro i15 m16 hf
    obtain ⟨z, hf, hz⟩ := zlp_el hf
    replace hf : t_X7_read_51  i15 m16 = some z := hf
    unfold t_X7_read_51 at hf
    refine z_iload_n C 1 dX7_read_51 rfl rfl ?_
    refine z_bipush C (v := 7) dX7_read_52 rfl ?_
    refine z_icmp_ge (tgt := 79) C dX7_read_54 (by decide) (fun c25 => ?_) (fun c25 => ?_)
    · replace hf := if_t c25 hf
      cases hf
      replace hz := zlz_r hz
      cases hz
      exact z_sub [0] rfl hk
    · replace hf := if_f c25 hf
      refine z_iconst C (v := 1) dX7_read_57 rfl ?_
      refine z_istore_n C (lv2 := [(0, .ref ((zw K).2.1 0)), (1, .int i15), (2, .int 1)]) [1, 2, 0] dX7_read_58 rfl (Nat.le_of_ble_eq_true rfl) rfl ?_
      obtain ⟨m23, hg, hf⟩ := zb_el hf
      refine z_sub [0, 1, 2] rfl (w_X7_read_59 C  ?_ _ _ _ hg)
      clear hg
      obtain ⟨x24, e_x24⟩ : ∃ y : Int32, y = i15 + 1 := ⟨_, rfl⟩
      replace hf := bn_to e_x24 hf
      refine z_iinc C (lv2 := [(0, .ref ((zw K).2.1 0)), (1, .int x24)]) 1 [1, 0] dX7_read_73 rfl rfl (Nat.le_of_ble_eq_true rfl) e_x24 rfl ?_
      refine z_goto (tgt := 51) C dX7_read_76 (by decide) ?_
      cases hf
      exact z_sub [0, 1] rfl (ih x24 m23 hz)
set_option maxRecDepth 100000 in
set_option maxHeartbeats 4000000 in
theorem w_X7_read_89 {K : ZK} (C : zOK MM K cX7_read 3 none RX7 wsX7_read rmX7_read) {i27 : Int32}  {o0 : Mem} (hk : zGo MM K o0 [(0, .ref ((zw K).2.1 0)), (1, .int i27)] 103 []) : ∀ (n : Nat) (i29 : Int32) (m30 : Mem), l_X7_read_89 i27 n i29 m30 = some o0 → zGo MM K m30 [(0, .ref ((zw K).2.1 0)), (1, .int i27), (2, .int i29)] 89 [] := by
  intro n
  induction n with
  | zero =>
    intro i29 m30 hf
    cases hf
  | succ n ih =>
    intro i29 m30 hf
    obtain ⟨z, hf, hz⟩ := zlp_el hf
    replace hf : t_X7_read_89 i27 i29 m30 = some z := hf
    unfold t_X7_read_89 at hf
    refine z_iload_n C 2 dX7_read_89 rfl rfl ?_
    refine z_if_eq (tgt := 103) C dX7_read_90 (by decide) (fun c34 => ?_) (fun c34 => ?_)
    · replace hf := if_t c34 hf
      cases hf
      replace hz := zlz_r hz
      cases hz
      exact z_sub [0, 1] rfl hk
    · replace hf := if_f c34 hf
      refine z_aload_n C 0 dX7_read_93 rfl rfl ?_
      refine z_iload_n C 1 dX7_read_94 rfl rfl ?_
      refine z_iconst C (v := 1) dX7_read_95 rfl ?_
      obtain ⟨r32, m33, hc31, hf⟩ := zb2_el hf
      refine z_cVi C (c_X7_changes _ _ hc31) rfl gX7_read_X7_changes rfl rfl zdX7_changes rfl (Nat.le_of_ble_eq_true rfl) rfl rfl rfl ⟨Nat.le_of_ble_eq_true rfl, Nat.le_of_ble_eq_true rfl⟩ (Nat.le_of_ble_eq_true rfl) dX7_read_96 rfl ?_
      refine z_istore_n C (lv2 := [(0, .ref ((zw K).2.1 0)), (1, .int i27), (2, .int r32)]) [1, 2, 0] dX7_read_99 rfl (Nat.le_of_ble_eq_true rfl) rfl ?_
      refine z_goto (tgt := 89) C dX7_read_100 (by decide) ?_
      cases hf
      exact z_sub [0, 1, 2] rfl (ih r32 m33 hz)
set_option maxRecDepth 100000 in
set_option maxHeartbeats 4000000 in
theorem w_X7_read_81 {K : ZK} (C : zOK MM K cX7_read 3 none RX7 wsX7_read rmX7_read)   {o0 : Mem} (hk : zGo MM K o0 [] 109 []) : ∀ (n : Nat) (i27 : Int32) (m28 : Mem), l_X7_read_81  n i27 m28 = some o0 → zGo MM K m28 [(0, .ref ((zw K).2.1 0)), (1, .int i27)] 81 [] := by
  intro n
  induction n with
  | zero =>
    intro i27 m28 hf
    cases hf
  | succ n ih =>
    intro i27 m28 hf
    obtain ⟨z, hf, hz⟩ := zlp_el hf
    replace hf : t_X7_read_81  i27 m28 = some z := hf
    unfold t_X7_read_81 at hf
    refine z_iload_n C 1 dX7_read_81 rfl rfl ?_
    refine z_bipush C (v := 7) dX7_read_82 rfl ?_
    refine z_icmp_ge (tgt := 109) C dX7_read_84 (by decide) (fun c37 => ?_) (fun c37 => ?_)
    · replace hf := if_t c37 hf
      cases hf
      replace hz := zlz_r hz
      cases hz
      exact z_sub [] rfl hk
    · replace hf := if_f c37 hf
      refine z_iconst C (v := 1) dX7_read_87 rfl ?_
      refine z_istore_n C (lv2 := [(0, .ref ((zw K).2.1 0)), (1, .int i27), (2, .int 1)]) [1, 2, 0] dX7_read_88 rfl (Nat.le_of_ble_eq_true rfl) rfl ?_
      obtain ⟨m35, hg, hf⟩ := zb_el hf
      refine z_sub [0, 1, 2] rfl (w_X7_read_89 C  ?_ _ _ _ hg)
      clear hg
      obtain ⟨x36, e_x36⟩ : ∃ y : Int32, y = i27 + 1 := ⟨_, rfl⟩
      replace hf := bn_to e_x36 hf
      refine z_iinc C (lv2 := [(0, .ref ((zw K).2.1 0)), (1, .int x36)]) 1 [1, 0] dX7_read_103 rfl rfl (Nat.le_of_ble_eq_true rfl) e_x36 rfl ?_
      refine z_goto (tgt := 81) C dX7_read_106 (by decide) ?_
      cases hf
      exact z_sub [0, 1] rfl (ih x36 m35 hz)
set_option maxRecDepth 100000 in
set_option maxHeartbeats 4000000 in
theorem c_X7_read (l : Launch) (w : ZW) {m : Mem}  {m9 : Mem}  (hf : s_X7_read m  = some m9) : zCv MM l w yX7_read wsX7_read rmX7_read [.ref (w.2.1 0)] m m9 := by
  refine z_met_v MM_ok (own := RX7) (by decide +kernel) rfl rfl (Nat.le_of_ble_eq_true rfl) ?_
  intro K C hKw hKl hret
  subst hKw
  subst hKl
  unfold s_X7_read at hf
  show zGo MM K m [(0, .ref ((zw K).2.1 0))] 0 []
  refine z_aload_n C 0 dX7_read_0 rfl rfl ?_
  refine z_geti C (Nat.le_of_ble_eq_true rfl) rfl rfl 6 (Nat.le_of_ble_eq_true rfl) rfl kiX7_read_X7 kfX7_read_148 dX7_read_1 ?_
  refine z_if_eq (tgt := 8) C dX7_read_4 (by decide) (fun c39 => ?_) (fun c39 => ?_)
  · replace hf := if_t c39 hf
    refine z_aload_n C 0 dX7_read_8 rfl rfl ?_
    refine z_iconst C (v := 1) dX7_read_9 rfl ?_
    refine z_putz C (Nat.le_of_ble_eq_true rfl) rfl rfl 6 (Nat.le_of_ble_eq_true rfl) rfl kiX7_read_X7 kfX7_read_148 tyX7 tyX7_ok nmX7 rfl rfl (Or.inr rfl) dX7_read_10 ?_
    refine z_nm (fun m1 e_m1 => ?_)
    replace hf := bn_to e_m1 hf
    refine z_aload_n C 0 dX7_read_13 rfl rfl ?_
    obtain ⟨m3, hc2, hf⟩ := zb_el hf
    refine z_cVv C (c_X7_free _ _ hc2) rfl gX7_read_X7_free rfl rfl zdX7_free rfl (Nat.le_of_ble_eq_true rfl) rfl rfl rfl ⟨Nat.le_of_ble_eq_true rfl, Nat.le_of_ble_eq_true rfl⟩ (Nat.le_of_ble_eq_true rfl) dX7_read_14 rfl ?_
    refine z_aload_n C 0 dX7_read_17 rfl rfl ?_
    obtain ⟨m5, hc4, hf⟩ := zb_el hf
    refine z_cVv C (c_X7_findRanks _ _ hc4) rfl gX7_read_X7_findRanks rfl rfl zdX7_findRanks rfl (Nat.le_of_ble_eq_true rfl) rfl rfl rfl ⟨Nat.le_of_ble_eq_true rfl, Nat.le_of_ble_eq_true rfl⟩ (Nat.le_of_ble_eq_true rfl) dX7_read_18 rfl ?_
    refine z_iconst C (v := 0) dX7_read_21 rfl ?_
    refine z_istore_n C (lv2 := [(0, .ref ((zw K).2.1 0)), (1, .int 0)]) [1, 0] dX7_read_22 rfl (Nat.le_of_ble_eq_true rfl) rfl ?_
    obtain ⟨m14, hg, hf⟩ := zb_el hf
    refine z_sub [0, 1] rfl (w_X7_read_23 C  ?_ _ _ _ hg)
    clear hg
    refine z_iconst C (v := 0) dX7_read_49 rfl ?_
    refine z_istore_n C (lv2 := [(0, .ref ((zw K).2.1 0)), (1, .int 0)]) [1, 0] dX7_read_50 rfl (Nat.le_of_ble_eq_true rfl) rfl ?_
    obtain ⟨m26, hg, hf⟩ := zb_el hf
    refine z_sub [0, 1] rfl (w_X7_read_51 C  ?_ _ _ _ hg)
    clear hg
    refine z_iconst C (v := 0) dX7_read_79 rfl ?_
    refine z_istore_n C (lv2 := [(0, .ref ((zw K).2.1 0)), (1, .int 0)]) [1, 0] dX7_read_80 rfl (Nat.le_of_ble_eq_true rfl) rfl ?_
    obtain ⟨m38, hg, hf⟩ := zb_el hf
    refine z_sub [0, 1] rfl (w_X7_read_81 C  ?_ _ _ _ hg)
    clear hg
    have e1 := Option.some.inj hf
    subst e1
    exact hret _ _ dX7_read_109
  · replace hf := if_f c39 hf
    have e1 := Option.some.inj hf
    subst e1
    exact hret _ _ dX7_read_7
set_option maxRecDepth 20000 in
theorem ggX7_all_X7_isShape : GoodIn wsX7_all wsX7_isShape := goodIn_sub (List.forall_mem_cons.mpr ⟨(List.mem_of_getElem? (i := 7) rfl), (List.forall_mem_append.mpr ⟨(List.forall_mem_cons.mpr ⟨(List.mem_of_getElem? (i := 8) rfl), (List.forall_mem_cons.mpr ⟨(List.mem_of_getElem? (i := 9) rfl), (List.forall_mem_cons.mpr ⟨(List.mem_of_getElem? (i := 10) rfl), (List.forall_mem_cons.mpr ⟨(List.mem_of_getElem? (i := 6) rfl), (List.forall_mem_cons.mpr ⟨(List.mem_of_getElem? (i := 11) rfl), (fun _ h => absurd h List.not_mem_nil)⟩)⟩)⟩)⟩)⟩), (fun _ h => (List.mem_cons_of_mem _ (List.mem_append_right _ h)))⟩)⟩) (by decide +kernel)
set_option maxRecDepth 20000 in
theorem gX7_all_X7_isShape : GoodIn wsX7_all (wsV RX7 309 RX7 yX7_isShape wsX7_isShape) := goodIn_app (goodIn_sub (List.forall_mem_cons.mpr ⟨(List.mem_of_getElem? (i := 3) rfl), (List.forall_mem_cons.mpr ⟨(List.mem_of_getElem? (i := 4) rfl), (List.forall_mem_cons.mpr ⟨(List.mem_of_getElem? (i := 5) rfl), (List.forall_mem_cons.mpr ⟨(List.mem_of_getElem? (i := 6) rfl), (fun _ h => absurd h List.not_mem_nil)⟩)⟩)⟩)⟩) (by decide +kernel)) ggX7_all_X7_isShape
set_option maxRecDepth 20000 in
theorem ggX7_all_X7_read : GoodIn wsX7_all wsX7_read := goodIn_sub (List.forall_mem_cons.mpr ⟨(List.mem_of_getElem? (i := 15) rfl), (List.forall_mem_append.mpr ⟨(List.forall_mem_append.mpr ⟨(show ∀ w ∈ wsX7_read_r1, w ∈ wsX7_all from (List.forall_mem_cons.mpr ⟨(List.mem_of_getElem? (i := 16) rfl), (List.forall_mem_cons.mpr ⟨(List.mem_of_getElem? (i := 2) rfl), (List.forall_mem_cons.mpr ⟨(List.mem_of_getElem? (i := 17) rfl), (List.forall_mem_cons.mpr ⟨(List.mem_of_getElem? (i := 18) rfl), (List.forall_mem_cons.mpr ⟨(List.mem_of_getElem? (i := 19) rfl), (List.forall_mem_cons.mpr ⟨(List.mem_of_getElem? (i := 20) rfl), (List.forall_mem_cons.mpr ⟨(List.mem_of_getElem? (i := 6) rfl), (List.forall_mem_cons.mpr ⟨(List.mem_of_getElem? (i := 21) rfl), (List.forall_mem_cons.mpr ⟨(List.mem_of_getElem? (i := 22) rfl), (List.forall_mem_cons.mpr ⟨(List.mem_of_getElem? (i := 23) rfl), (List.forall_mem_cons.mpr ⟨(List.mem_of_getElem? (i := 24) rfl), (List.forall_mem_cons.mpr ⟨(List.mem_of_getElem? (i := 25) rfl), (List.forall_mem_cons.mpr ⟨(List.mem_of_getElem? (i := 26) rfl), (List.forall_mem_cons.mpr ⟨(List.mem_of_getElem? (i := 8) rfl), (List.forall_mem_cons.mpr ⟨(List.mem_of_getElem? (i := 27) rfl), (List.forall_mem_cons.mpr ⟨(List.mem_of_getElem? (i := 28) rfl), (List.forall_mem_cons.mpr ⟨(List.mem_of_getElem? (i := 29) rfl), (List.forall_mem_cons.mpr ⟨(List.mem_of_getElem? (i := 30) rfl), (List.forall_mem_cons.mpr ⟨(List.mem_of_getElem? (i := 31) rfl), (List.forall_mem_cons.mpr ⟨(List.mem_of_getElem? (i := 32) rfl), (List.forall_mem_cons.mpr ⟨(List.mem_of_getElem? (i := 33) rfl), (List.forall_mem_cons.mpr ⟨(List.mem_of_getElem? (i := 34) rfl), (List.forall_mem_cons.mpr ⟨(List.mem_of_getElem? (i := 1) rfl), (List.forall_mem_cons.mpr ⟨(List.mem_of_getElem? (i := 35) rfl), (fun _ h => absurd h List.not_mem_nil)⟩)⟩)⟩)⟩)⟩)⟩)⟩)⟩)⟩)⟩)⟩)⟩)⟩)⟩)⟩)⟩)⟩)⟩)⟩)⟩)⟩)⟩)⟩)⟩)), (List.forall_mem_append.mpr ⟨(show ∀ w ∈ wsX7_read_r2, w ∈ wsX7_all from (List.forall_mem_cons.mpr ⟨(List.mem_of_getElem? (i := 36) rfl), (List.forall_mem_cons.mpr ⟨(List.mem_of_getElem? (i := 37) rfl), (List.forall_mem_cons.mpr ⟨(List.mem_of_getElem? (i := 38) rfl), (List.forall_mem_cons.mpr ⟨(List.mem_of_getElem? (i := 39) rfl), (List.forall_mem_cons.mpr ⟨(List.mem_of_getElem? (i := 40) rfl), (List.forall_mem_cons.mpr ⟨(List.mem_of_getElem? (i := 41) rfl), (List.forall_mem_cons.mpr ⟨(List.mem_of_getElem? (i := 42) rfl), (List.forall_mem_cons.mpr ⟨(List.mem_of_getElem? (i := 43) rfl), (List.forall_mem_cons.mpr ⟨(List.mem_of_getElem? (i := 44) rfl), (List.forall_mem_cons.mpr ⟨(List.mem_of_getElem? (i := 45) rfl), (List.forall_mem_cons.mpr ⟨(List.mem_of_getElem? (i := 46) rfl), (List.forall_mem_cons.mpr ⟨(List.mem_of_getElem? (i := 47) rfl), (List.forall_mem_cons.mpr ⟨(List.mem_of_getElem? (i := 48) rfl), (List.forall_mem_cons.mpr ⟨(List.mem_of_getElem? (i := 49) rfl), (List.forall_mem_cons.mpr ⟨(List.mem_of_getElem? (i := 50) rfl), (List.forall_mem_cons.mpr ⟨(List.mem_of_getElem? (i := 51) rfl), (List.forall_mem_cons.mpr ⟨(List.mem_of_getElem? (i := 52) rfl), (List.forall_mem_cons.mpr ⟨(List.mem_of_getElem? (i := 53) rfl), (List.forall_mem_cons.mpr ⟨(List.mem_of_getElem? (i := 54) rfl), (List.forall_mem_cons.mpr ⟨(List.mem_of_getElem? (i := 55) rfl), (List.forall_mem_cons.mpr ⟨(List.mem_of_getElem? (i := 56) rfl), (List.forall_mem_cons.mpr ⟨(List.mem_of_getElem? (i := 57) rfl), (List.forall_mem_cons.mpr ⟨(List.mem_of_getElem? (i := 58) rfl), (List.forall_mem_cons.mpr ⟨(List.mem_of_getElem? (i := 59) rfl), (fun _ h => absurd h List.not_mem_nil)⟩)⟩)⟩)⟩)⟩)⟩)⟩)⟩)⟩)⟩)⟩)⟩)⟩)⟩)⟩)⟩)⟩)⟩)⟩)⟩)⟩)⟩)⟩)⟩)), (show ∀ w ∈ wsX7_read_r3, w ∈ wsX7_all from (List.forall_mem_cons.mpr ⟨(List.mem_of_getElem? (i := 60) rfl), (List.forall_mem_cons.mpr ⟨(List.mem_of_getElem? (i := 61) rfl), (List.forall_mem_cons.mpr ⟨(List.mem_of_getElem? (i := 62) rfl), (List.forall_mem_cons.mpr ⟨(List.mem_of_getElem? (i := 63) rfl), (List.forall_mem_cons.mpr ⟨(List.mem_of_getElem? (i := 64) rfl), (List.forall_mem_cons.mpr ⟨(List.mem_of_getElem? (i := 65) rfl), (List.forall_mem_cons.mpr ⟨(List.mem_of_getElem? (i := 66) rfl), (List.forall_mem_cons.mpr ⟨(List.mem_of_getElem? (i := 67) rfl), (List.forall_mem_cons.mpr ⟨(List.mem_of_getElem? (i := 68) rfl), (List.forall_mem_cons.mpr ⟨(List.mem_of_getElem? (i := 69) rfl), (List.forall_mem_cons.mpr ⟨(List.mem_of_getElem? (i := 9) rfl), (List.forall_mem_cons.mpr ⟨(List.mem_of_getElem? (i := 10) rfl), (List.forall_mem_cons.mpr ⟨(List.mem_of_getElem? (i := 11) rfl), (List.forall_mem_cons.mpr ⟨(List.mem_of_getElem? (i := 70) rfl), (List.forall_mem_cons.mpr ⟨(List.mem_of_getElem? (i := 71) rfl), (List.forall_mem_cons.mpr ⟨(List.mem_of_getElem? (i := 72) rfl), (List.forall_mem_cons.mpr ⟨(List.mem_of_getElem? (i := 73) rfl), (List.forall_mem_cons.mpr ⟨(List.mem_of_getElem? (i := 74) rfl), (List.forall_mem_cons.mpr ⟨(List.mem_of_getElem? (i := 75) rfl), (List.forall_mem_cons.mpr ⟨(List.mem_of_getElem? (i := 76) rfl), (fun _ h => absurd h List.not_mem_nil)⟩)⟩)⟩)⟩)⟩)⟩)⟩)⟩)⟩)⟩)⟩)⟩)⟩)⟩)⟩)⟩)⟩)⟩)⟩)⟩))⟩)⟩), (fun _ h => (List.mem_cons_of_mem _ (List.mem_append_right _ h)))⟩)⟩) (by decide +kernel)
set_option maxRecDepth 20000 in
theorem gX7_all_X7_read : GoodIn wsX7_all (wsV RX7 315 RX7 yX7_read wsX7_read) := goodIn_app (goodIn_sub (List.forall_mem_cons.mpr ⟨(List.mem_of_getElem? (i := 12) rfl), (List.forall_mem_cons.mpr ⟨(List.mem_of_getElem? (i := 13) rfl), (List.forall_mem_cons.mpr ⟨(List.mem_of_getElem? (i := 14) rfl), (List.forall_mem_cons.mpr ⟨(List.mem_of_getElem? (i := 6) rfl), (fun _ h => absurd h List.not_mem_nil)⟩)⟩)⟩)⟩) (by decide +kernel)) ggX7_all_X7_read
theorem dX7_all_0 : decode cX7_all 0 = .ok (.aload_n 0, 1) := by decide +kernel
theorem dX7_all_1 : decode cX7_all 1 = .ok (.iload_n 1, 1) := by decide +kernel
theorem dX7_all_2 : decode cX7_all 2 = .ok (.invokevirtual 309, 3) := by decide +kernel
theorem dX7_all_5 : decode cX7_all 5 = .ok (.ifCond .ne 5, 3) := by decide +kernel
theorem dX7_all_8 : decode cX7_all 8 = .ok (.iconst (-1), 1) := by decide +kernel
theorem dX7_all_9 : decode cX7_all 9 = .ok (.ireturn, 1) := by decide +kernel
theorem dX7_all_10 : decode cX7_all 10 = .ok (.aload_n 0, 1) := by decide +kernel
theorem dX7_all_11 : decode cX7_all 11 = .ok (.invokevirtual 315, 3) := by decide +kernel
theorem dX7_all_14 : decode cX7_all 14 = .ok (.iconst 0, 1) := by decide +kernel
theorem dX7_all_15 : decode cX7_all 15 = .ok (.istore_n 2, 1) := by decide +kernel
theorem dX7_all_16 : decode cX7_all 16 = .ok (.iconst 0, 1) := by decide +kernel
theorem dX7_all_17 : decode cX7_all 17 = .ok (.istore_n 3, 1) := by decide +kernel
theorem dX7_all_18 : decode cX7_all 18 = .ok (.iload_n 3, 1) := by decide +kernel
theorem dX7_all_19 : decode cX7_all 19 = .ok (.aload_n 0, 1) := by decide +kernel
theorem dX7_all_20 : decode cX7_all 20 = .ok (.getfield 140, 3) := by decide +kernel
theorem dX7_all_23 : decode cX7_all 23 = .ok (.if_icmp .ge 33, 3) := by decide +kernel
theorem dX7_all_26 : decode cX7_all 26 = .ok (.iload_n 2, 1) := by decide +kernel
theorem dX7_all_27 : decode cX7_all 27 = .ok (.aload_n 0, 1) := by decide +kernel
theorem dX7_all_28 : decode cX7_all 28 = .ok (.getfield 119, 3) := by decide +kernel
theorem dX7_all_31 : decode cX7_all 31 = .ok (.bipush 10, 2) := by decide +kernel
theorem dX7_all_33 : decode cX7_all 33 = .ok (.iload_n 1, 1) := by decide +kernel
theorem dX7_all_34 : decode cX7_all 34 = .ok (.imul, 1) := by decide +kernel
theorem dX7_all_35 : decode cX7_all 35 = .ok (.iload_n 3, 1) := by decide +kernel
theorem dX7_all_36 : decode cX7_all 36 = .ok (.iadd, 1) := by decide +kernel
theorem dX7_all_37 : decode cX7_all 37 = .ok (.baload, 1) := by decide +kernel
theorem dX7_all_38 : decode cX7_all 38 = .ok (.ifCond .eq 9, 3) := by decide +kernel
theorem dX7_all_41 : decode cX7_all 41 = .ok (.iconst 1, 1) := by decide +kernel
theorem dX7_all_42 : decode cX7_all 42 = .ok (.iload_n 3, 1) := by decide +kernel
theorem dX7_all_43 : decode cX7_all 43 = .ok (.ishl, 1) := by decide +kernel
theorem dX7_all_44 : decode cX7_all 44 = .ok (.goto 4, 3) := by decide +kernel
theorem dX7_all_47 : decode cX7_all 47 = .ok (.iconst 0, 1) := by decide +kernel
theorem dX7_all_48 : decode cX7_all 48 = .ok (.iadd, 1) := by decide +kernel
theorem dX7_all_49 : decode cX7_all 49 = .ok (.istore_n 2, 1) := by decide +kernel
theorem dX7_all_50 : decode cX7_all 50 = .ok (.iinc 3 1, 3) := by decide +kernel
theorem dX7_all_53 : decode cX7_all 53 = .ok (.goto (-35), 3) := by decide +kernel
theorem dX7_all_56 : decode cX7_all 56 = .ok (.iload_n 2, 1) := by decide +kernel
theorem dX7_all_57 : decode cX7_all 57 = .ok (.ireturn, 1) := by decide +kernel
def rmX7_all : Room := { frames := 6, cells := 0, slots := 0, locals := 153 }
theorem zdX7_all : yX7_all.cls = RX7 ∧ yX7_all.cls ≠ "java/lang/invoke/MethodHandle" ∧ yX7_all.cls ≠ "java/lang/invoke/VarHandle" ∧ (parseMethodDescriptor yX7_all.desc).map (fun d => d.parameters.length) = some 1 := by decide +kernel
theorem kiX7_all_X7 : ∀ w ∈ wsX70, w ∈ wsX7_all := fun _ h => (List.mem_cons_of_mem _ (List.mem_append_right _ h))
theorem kfX7_all_140 : Cond.fieldLink RX7 140 "ShapeJudgeModel" "nodes" "I" ∈ wsX7_all := (List.mem_of_getElem? (i := 1) rfl)
theorem kfX7_all_119 : Cond.fieldLink RX7 119 "ShapeJudgeModel" "fitting" "[Z" ∈ wsX7_all := (List.mem_of_getElem? (i := 2) rfl)
def t_X7_all_18 (a1 : Int32) (m4 : Mem) (i5 : Int32) (i6 : Int32) : Option ((Int32 × Int32) ⊕ (Int32)) :=
  (if (m4 0 0) ≤ i6 then (some (.inr i5)) else (ck (zin (((10 : Int32) * a1) + i6) 60 = true) ((if (m4 37 (Int32.toNatClampNeg (((10 : Int32) * a1) + i6))) = 0 then (bn (i5 + 0) fun x8 => bn (i6 + 1) fun x9 => some (.inl (x8, x9))) else (bn (i5 + ((1 : Int32) <<< (i6 &&& 31))) fun x10 => bn (i6 + 1) fun x11 => some (.inl (x10, x11)))))))
def l_X7_all_18 (a1 : Int32) (m4 : Mem) (n : Nat) (i5 : Int32) (i6 : Int32) : Option (Int32) := zlp n (fun a => t_X7_all_18 a1 m4 a.1 a.2) (i5, i6)
def s_X7_all (m : Mem) (a1 : Int32) : Option (Int32 × Mem) :=
  (s_X7_isShape m a1).bind fun r2 => (if r2 = 0 then (some ((-1), m)) else ((s_X7_read m).bind fun m4 => ((l_X7_all_18 a1 m4 FU 0 0).bind fun y14 => some (y14, m4))))
set_option maxRecDepth 100000 in
set_option maxHeartbeats 4000000 in
theorem w_X7_all_18 {K : ZK} (C : zOK MM K cX7_all 4 (some .int) RX7 wsX7_all rmX7_all) {a1 : Int32} {m4 : Mem}  {o0 : Int32} (hk : zGo MM K m4 [(2, .int o0)] 56 []) : ∀ (n : Nat) (i5 : Int32) (i6 : Int32), l_X7_all_18 a1 m4 n i5 i6 = some o0 → zGo MM K m4 [(0, .ref ((zw K).2.1 0)), (1, .int a1), (2, .int i5), (3, .int i6)] 18 [] := by
  intro n
  induction n with
  | zero =>
    intro i5 i6 hf
    cases hf
  | succ n ih =>
    intro i5 i6 hf
    obtain ⟨z, hf, hz⟩ := zlp_el hf
    replace hf : t_X7_all_18 a1 m4 i5 i6 = some z := hf
    unfold t_X7_all_18 at hf
    refine z_iload_n C 3 dX7_all_18 rfl rfl ?_
    refine z_aload_n C 0 dX7_all_19 rfl rfl ?_
    refine z_geti C (Nat.le_of_ble_eq_true rfl) rfl rfl 0 (Nat.le_of_ble_eq_true rfl) rfl kiX7_all_X7 kfX7_all_140 dX7_all_20 ?_
    refine z_icmp_ge (tgt := 56) C dX7_all_23 (by decide) (fun c13 => ?_) (fun c13 => ?_)
    · replace hf := if_t c13 hf
      cases hf
      replace hz := zlz_r hz
      cases hz
      exact z_sub [2] rfl hk
    · replace hf := if_f c13 hf
      refine z_iload_n C 2 dX7_all_26 rfl rfl ?_
      refine z_aload_n C 0 dX7_all_27 rfl rfl ?_
      refine z_getr C (t := 37) (Nat.le_of_ble_eq_true rfl) rfl rfl 48 (Nat.le_of_ble_eq_true rfl) rfl kiX7_all_X7 kfX7_all_119 dX7_all_28 ?_
      refine z_bipush C (v := 10) dX7_all_31 rfl ?_
      refine z_iload_n C 1 dX7_all_33 rfl rfl ?_
      refine z_imul C dX7_all_34 ?_
      refine z_iload_n C 3 dX7_all_35 rfl rfl ?_
      refine z_iadd C dX7_all_36 ?_
      obtain ⟨hi7, hf⟩ := ck_el hf
      refine z_zald C (k := 37) (Nat.le_of_ble_eq_true rfl) rfl hi7 dX7_all_37 ?_
      refine z_if_eq (tgt := 47) C dX7_all_38 (by decide) (fun c12 => ?_) (fun c12 => ?_)
      · replace hf := if_t c12 hf
        refine z_iconst C (v := 0) dX7_all_47 rfl ?_
        refine z_iadd C dX7_all_48 ?_
        refine z_topi (fun x8 e_x8 => ?_)
        replace hf := bn_to e_x8 hf
        refine z_istore_n C (lv2 := [(0, .ref ((zw K).2.1 0)), (1, .int a1), (2, .int x8), (3, .int i6)]) [1, 2, 0, 3] dX7_all_49 rfl (Nat.le_of_ble_eq_true rfl) rfl ?_
        obtain ⟨x9, e_x9⟩ : ∃ y : Int32, y = i6 + 1 := ⟨_, rfl⟩
        replace hf := bn_to e_x9 hf
        refine z_iinc C (lv2 := [(0, .ref ((zw K).2.1 0)), (1, .int a1), (2, .int x8), (3, .int x9)]) 3 [1, 2, 3, 0] dX7_all_50 rfl rfl (Nat.le_of_ble_eq_true rfl) e_x9 rfl ?_
        refine z_goto (tgt := 18) C dX7_all_53 (by decide) ?_
        cases hf
        exact z_sub [0, 1, 2, 3] rfl (ih x8 x9 hz)
      · replace hf := if_f c12 hf
        refine z_iconst C (v := 1) dX7_all_41 rfl ?_
        refine z_iload_n C 3 dX7_all_42 rfl rfl ?_
        refine z_ishl C dX7_all_43 ?_
        refine z_goto (tgt := 48) C dX7_all_44 (by decide) ?_
        refine z_iadd C dX7_all_48 ?_
        refine z_topi (fun x10 e_x10 => ?_)
        replace hf := bn_to e_x10 hf
        refine z_istore_n C (lv2 := [(0, .ref ((zw K).2.1 0)), (1, .int a1), (2, .int x10), (3, .int i6)]) [1, 2, 0, 3] dX7_all_49 rfl (Nat.le_of_ble_eq_true rfl) rfl ?_
        obtain ⟨x11, e_x11⟩ : ∃ y : Int32, y = i6 + 1 := ⟨_, rfl⟩
        replace hf := bn_to e_x11 hf
        refine z_iinc C (lv2 := [(0, .ref ((zw K).2.1 0)), (1, .int a1), (2, .int x10), (3, .int x11)]) 3 [1, 2, 3, 0] dX7_all_50 rfl rfl (Nat.le_of_ble_eq_true rfl) e_x11 rfl ?_
        refine z_goto (tgt := 18) C dX7_all_53 (by decide) ?_
        cases hf
        exact z_sub [0, 1, 2, 3] rfl (ih x10 x11 hz)
set_option maxRecDepth 100000 in
set_option maxHeartbeats 4000000 in
theorem c_X7_all (l : Launch) (w : ZW) {m : Mem} {a1 : Int32} {r9 : Int32} {m9 : Mem}  (hf : s_X7_all m a1 = some (r9, m9)) : zCi MM l w yX7_all wsX7_all rmX7_all [.ref (w.2.1 0), .int a1] m m9 r9 := by
  refine z_met_i MM_ok (own := RX7) (by decide +kernel) rfl rfl (Nat.le_of_ble_eq_true rfl) ?_
  intro K C hKw hKl hret
  subst hKw
  subst hKl
  unfold s_X7_all at hf
  show zGo MM K m [(0, .ref ((zw K).2.1 0)), (1, .int a1)] 0 []
  refine z_aload_n C 0 dX7_all_0 rfl rfl ?_
  refine z_iload_n C 1 dX7_all_1 rfl rfl ?_
  obtain ⟨r2, hc1, hf⟩ := zb_el hf
  refine z_cVi C (c_X7_isShape _ _ hc1) rfl gX7_all_X7_isShape rfl rfl zdX7_isShape rfl (Nat.le_of_ble_eq_true rfl) rfl rfl rfl ⟨Nat.le_of_ble_eq_true rfl, Nat.le_of_ble_eq_true rfl⟩ (Nat.le_of_ble_eq_true rfl) dX7_all_2 rfl ?_
  refine z_if_ne (tgt := 10) C dX7_all_5 (by decide) (fun c15 => ?_) (fun c15 => ?_)
  · replace hf := if_f c15 hf
    refine z_aload_n C 0 dX7_all_10 rfl rfl ?_
    obtain ⟨m4, hc3, hf⟩ := zb_el hf
    refine z_cVv C (c_X7_read _ _ hc3) rfl gX7_all_X7_read rfl rfl zdX7_read rfl (Nat.le_of_ble_eq_true rfl) rfl rfl rfl ⟨Nat.le_of_ble_eq_true rfl, Nat.le_of_ble_eq_true rfl⟩ (Nat.le_of_ble_eq_true rfl) dX7_all_11 rfl ?_
    refine z_iconst C (v := 0) dX7_all_14 rfl ?_
    refine z_istore_n C (lv2 := [(0, .ref ((zw K).2.1 0)), (1, .int a1), (2, .int 0)]) [1, 2, 0] dX7_all_15 rfl (Nat.le_of_ble_eq_true rfl) rfl ?_
    refine z_iconst C (v := 0) dX7_all_16 rfl ?_
    refine z_istore_n C (lv2 := [(0, .ref ((zw K).2.1 0)), (1, .int a1), (2, .int 0), (3, .int 0)]) [1, 2, 3, 0] dX7_all_17 rfl (Nat.le_of_ble_eq_true rfl) rfl ?_
    obtain ⟨y14, hg, hf⟩ := zb_el hf
    refine z_sub [0, 1, 2, 3] rfl (w_X7_all_18 C  ?_ _ _ _ hg)
    clear hg
    refine z_iload_n C 0 dX7_all_56 rfl rfl ?_
    obtain ⟨e1, e2⟩ := sp_el hf
    subst e1
    subst e2
    exact hret _ _ dX7_all_57
  · replace hf := if_t c15 hf
    refine z_iconst C (v := (-1)) dX7_all_8 (by decide) ?_
    obtain ⟨e1, e2⟩ := sp_el hf
    subst e1
    subst e2
    exact hret _ _ dX7_all_9
set_option maxRecDepth 20000 in
theorem ggX7_isNode_X7_in : GoodIn wsX7_isNode wsX7_in := goodIn_sub (List.forall_mem_cons.mpr ⟨(List.mem_of_getElem? (i := 5) rfl), (fun _ h => absurd h List.not_mem_nil)⟩) (by decide +kernel)
set_option maxRecDepth 20000 in
theorem gX7_isNode_X7_in : GoodIn wsX7_isNode (va_wsS RX7 144 yX7_in wsX7_in) := goodIn_app (goodIn_sub (List.forall_mem_cons.mpr ⟨(List.mem_of_getElem? (i := 2) rfl), (List.forall_mem_cons.mpr ⟨(List.mem_of_getElem? (i := 3) rfl), (List.forall_mem_cons.mpr ⟨(List.mem_of_getElem? (i := 4) rfl), (fun _ h => absurd h List.not_mem_nil)⟩)⟩)⟩) (by decide +kernel)) ggX7_isNode_X7_in
theorem dX7_isNode_0 : decode cX7_isNode 0 = .ok (.iload_n 1, 1) := by decide +kernel
theorem dX7_isNode_1 : decode cX7_isNode 1 = .ok (.i2l, 1) := by decide +kernel
theorem dX7_isNode_2 : decode cX7_isNode 2 = .ok (.lconst 0, 1) := by decide +kernel
theorem dX7_isNode_3 : decode cX7_isNode 3 = .ok (.aload_n 0, 1) := by decide +kernel
theorem dX7_isNode_4 : decode cX7_isNode 4 = .ok (.getfield 140, 3) := by decide +kernel
theorem dX7_isNode_7 : decode cX7_isNode 7 = .ok (.iconst 1, 1) := by decide +kernel
theorem dX7_isNode_8 : decode cX7_isNode 8 = .ok (.isub, 1) := by decide +kernel
theorem dX7_isNode_9 : decode cX7_isNode 9 = .ok (.i2l, 1) := by decide +kernel
theorem dX7_isNode_10 : decode cX7_isNode 10 = .ok (.invokestatic 144, 3) := by decide +kernel
theorem dX7_isNode_13 : decode cX7_isNode 13 = .ok (.ireturn, 1) := by decide +kernel
def rmX7_isNode : Room := { frames := 1, cells := 0, slots := 0, locals := 25 }
theorem zdX7_isNode : yX7_isNode.cls = RX7 ∧ yX7_isNode.cls ≠ "java/lang/invoke/MethodHandle" ∧ yX7_isNode.cls ≠ "java/lang/invoke/VarHandle" ∧ (parseMethodDescriptor yX7_isNode.desc).map (fun d => d.parameters.length) = some 1 := by decide +kernel
theorem kiX7_isNode_X7 : ∀ w ∈ wsX70, w ∈ wsX7_isNode := fun _ h => (List.mem_cons_of_mem _ (List.mem_append_right _ h))
theorem kfX7_isNode_140 : Cond.fieldLink RX7 140 "ShapeJudgeModel" "nodes" "I" ∈ wsX7_isNode := (List.mem_of_getElem? (i := 1) rfl)
def s_X7_isNode (m : Mem) (a1 : Int32) : Option (Int32) :=
  (s_X7_in (a1.toInt64) 0 ((m 0 0) - 1).toInt64).bind fun r2 => ck (r2 = 0 ∨ r2 = 1) (some r2)
set_option maxRecDepth 100000 in
set_option maxHeartbeats 4000000 in
theorem c_X7_isNode (l : Launch) (w : ZW) {m : Mem} {a1 : Int32} {r9 : Int32}  (hf : s_X7_isNode m a1 = some r9) : zCi MM l w yX7_isNode wsX7_isNode rmX7_isNode [.ref (w.2.1 0), .int a1] m m r9 := by
  refine z_met_z MM_ok (own := RX7) (by decide +kernel) rfl rfl (Nat.le_of_ble_eq_true rfl) ?_
  intro K C hKw hKl hret
  subst hKw
  subst hKl
  unfold s_X7_isNode at hf
  show zGo MM K m [(0, .ref ((zw K).2.1 0)), (1, .int a1)] 0 []
  refine z_iload_n C 1 dX7_isNode_0 rfl rfl ?_
  refine z_i2l C dX7_isNode_1 ?_
  refine z_lconst C (v := 0) dX7_isNode_2 rfl ?_
  refine z_aload_n C 0 dX7_isNode_3 rfl rfl ?_
  refine z_geti C (Nat.le_of_ble_eq_true rfl) rfl rfl 0 (Nat.le_of_ble_eq_true rfl) rfl kiX7_isNode_X7 kfX7_isNode_140 dX7_isNode_4 ?_
  refine z_iconst C (v := 1) dX7_isNode_7 rfl ?_
  refine z_isub C dX7_isNode_8 ?_
  refine z_i2l C dX7_isNode_9 ?_
  obtain ⟨r2, hc1, hf⟩ := zb_el hf
  refine z_cSi C (c_X7_in _ _ hc1) rfl gX7_isNode_X7_in rfl rfl zdX7_in.2 rfl ⟨Nat.le_of_ble_eq_true rfl, Nat.le_of_ble_eq_true rfl⟩ (Nat.le_of_ble_eq_true rfl) dX7_isNode_10 rfl ?_
  obtain ⟨hz, hf⟩ := ck_el hf
  have e1 := Option.some.inj hf
  subst e1
  exact hret _ _ dX7_isNode_13 hz
set_option maxRecDepth 20000 in
theorem ggX7_areBoth_X7_isNode : GoodIn wsX7_areBoth wsX7_isNode := goodIn_sub (List.forall_mem_cons.mpr ⟨(List.mem_of_getElem? (i := 5) rfl), (List.forall_mem_append.mpr ⟨(List.forall_mem_cons.mpr ⟨(List.mem_of_getElem? (i := 6) rfl), (List.forall_mem_cons.mpr ⟨(List.mem_of_getElem? (i := 7) rfl), (List.forall_mem_cons.mpr ⟨(List.mem_of_getElem? (i := 8) rfl), (List.forall_mem_cons.mpr ⟨(List.mem_of_getElem? (i := 4) rfl), (List.forall_mem_cons.mpr ⟨(List.mem_of_getElem? (i := 9) rfl), (fun _ h => absurd h List.not_mem_nil)⟩)⟩)⟩)⟩)⟩), (fun _ h => (List.mem_cons_of_mem _ (List.mem_append_right _ h)))⟩)⟩) (by decide +kernel)
set_option maxRecDepth 20000 in
theorem gX7_areBoth_X7_isNode : GoodIn wsX7_areBoth (wsV RX7 152 RX7 yX7_isNode wsX7_isNode) := goodIn_app (goodIn_sub (List.forall_mem_cons.mpr ⟨(List.mem_of_getElem? (i := 1) rfl), (List.forall_mem_cons.mpr ⟨(List.mem_of_getElem? (i := 2) rfl), (List.forall_mem_cons.mpr ⟨(List.mem_of_getElem? (i := 3) rfl), (List.forall_mem_cons.mpr ⟨(List.mem_of_getElem? (i := 4) rfl), (fun _ h => absurd h List.not_mem_nil)⟩)⟩)⟩)⟩) (by decide +kernel)) ggX7_areBoth_X7_isNode
set_option maxRecDepth 20000 in
theorem ggX7_areBoth_X7_isShape : GoodIn wsX7_areBoth wsX7_isShape := goodIn_sub (List.forall_mem_cons.mpr ⟨(List.mem_of_getElem? (i := 13) rfl), (List.forall_mem_append.mpr ⟨(List.forall_mem_cons.mpr ⟨(List.mem_of_getElem? (i := 14) rfl), (List.forall_mem_cons.mpr ⟨(List.mem_of_getElem? (i := 7) rfl), (List.forall_mem_cons.mpr ⟨(List.mem_of_getElem? (i := 8) rfl), (List.forall_mem_cons.mpr ⟨(List.mem_of_getElem? (i := 4) rfl), (List.forall_mem_cons.mpr ⟨(List.mem_of_getElem? (i := 9) rfl), (fun _ h => absurd h List.not_mem_nil)⟩)⟩)⟩)⟩)⟩), (fun _ h => (List.mem_cons_of_mem _ (List.mem_append_right _ h)))⟩)⟩) (by decide +kernel)
set_option maxRecDepth 20000 in
theorem gX7_areBoth_X7_isShape : GoodIn wsX7_areBoth (wsV RX7 309 RX7 yX7_isShape wsX7_isShape) := goodIn_app (goodIn_sub (List.forall_mem_cons.mpr ⟨(List.mem_of_getElem? (i := 10) rfl), (List.forall_mem_cons.mpr ⟨(List.mem_of_getElem? (i := 11) rfl), (List.forall_mem_cons.mpr ⟨(List.mem_of_getElem? (i := 12) rfl), (List.forall_mem_cons.mpr ⟨(List.mem_of_getElem? (i := 4) rfl), (fun _ h => absurd h List.not_mem_nil)⟩)⟩)⟩)⟩) (by decide +kernel)) ggX7_areBoth_X7_isShape
theorem dX7_areBoth_0 : decode cX7_areBoth 0 = .ok (.aload_n 0, 1) := by decide +kernel
theorem dX7_areBoth_1 : decode cX7_areBoth 1 = .ok (.iload_n 1, 1) := by decide +kernel
theorem dX7_areBoth_2 : decode cX7_areBoth 2 = .ok (.invokevirtual 152, 3) := by decide +kernel
theorem dX7_areBoth_5 : decode cX7_areBoth 5 = .ok (.ifCond .eq 15, 3) := by decide +kernel
theorem dX7_areBoth_8 : decode cX7_areBoth 8 = .ok (.aload_n 0, 1) := by decide +kernel
theorem dX7_areBoth_9 : decode cX7_areBoth 9 = .ok (.iload_n 2, 1) := by decide +kernel
theorem dX7_areBoth_10 : decode cX7_areBoth 10 = .ok (.invokevirtual 309, 3) := by decide +kernel
theorem dX7_areBoth_13 : decode cX7_areBoth 13 = .ok (.ifCond .eq 7, 3) := by decide +kernel
theorem dX7_areBoth_16 : decode cX7_areBoth 16 = .ok (.iconst 1, 1) := by decide +kernel
theorem dX7_areBoth_17 : decode cX7_areBoth 17 = .ok (.goto 4, 3) := by decide +kernel
theorem dX7_areBoth_20 : decode cX7_areBoth 20 = .ok (.iconst 0, 1) := by decide +kernel
theorem dX7_areBoth_21 : decode cX7_areBoth 21 = .ok (.ireturn, 1) := by decide +kernel
def rmX7_areBoth : Room := { frames := 2, cells := 0, slots := 0, locals := 46 }
theorem zdX7_areBoth : yX7_areBoth.cls = RX7 ∧ yX7_areBoth.cls ≠ "java/lang/invoke/MethodHandle" ∧ yX7_areBoth.cls ≠ "java/lang/invoke/VarHandle" ∧ (parseMethodDescriptor yX7_areBoth.desc).map (fun d => d.parameters.length) = some 2 := by decide +kernel
def s_X7_areBoth (m : Mem) (a1 : Int32) (a2 : Int32) : Option (Int32) :=
  (s_X7_isNode m a1).bind fun r2 => (if r2 = 0 then (some 0) else ((s_X7_isShape m a2).bind fun r4 => (if r4 = 0 then (some 0) else (some 1))))
set_option maxRecDepth 100000 in
set_option maxHeartbeats 4000000 in
theorem c_X7_areBoth (l : Launch) (w : ZW) {m : Mem} {a1 : Int32} {a2 : Int32} {r9 : Int32}  (hf : s_X7_areBoth m a1 a2 = some r9) : zCi MM l w yX7_areBoth wsX7_areBoth rmX7_areBoth [.ref (w.2.1 0), .int a1, .int a2] m m r9 := by
  refine z_met_z MM_ok (own := RX7) (by decide +kernel) rfl rfl (Nat.le_of_ble_eq_true rfl) ?_
  intro K C hKw hKl hret
  subst hKw
  subst hKl
  unfold s_X7_areBoth at hf
  show zGo MM K m [(0, .ref ((zw K).2.1 0)), (1, .int a1), (2, .int a2)] 0 []
  refine z_aload_n C 0 dX7_areBoth_0 rfl rfl ?_
  refine z_iload_n C 1 dX7_areBoth_1 rfl rfl ?_
  obtain ⟨r2, hc1, hf⟩ := zb_el hf
  refine z_cVi C (c_X7_isNode _ _ hc1) rfl gX7_areBoth_X7_isNode rfl rfl zdX7_isNode rfl (Nat.le_of_ble_eq_true rfl) rfl rfl rfl ⟨Nat.le_of_ble_eq_true rfl, Nat.le_of_ble_eq_true rfl⟩ (Nat.le_of_ble_eq_true rfl) dX7_areBoth_2 rfl ?_
  refine z_if_eq (tgt := 20) C dX7_areBoth_5 (by decide) (fun c6 => ?_) (fun c6 => ?_)
  · replace hf := if_t c6 hf
    refine z_iconst C (v := 0) dX7_areBoth_20 rfl ?_
    have e1 := Option.some.inj hf
    subst e1
    exact hret _ _ dX7_areBoth_21 (Or.inl rfl)
  · replace hf := if_f c6 hf
    refine z_aload_n C 0 dX7_areBoth_8 rfl rfl ?_
    refine z_iload_n C 2 dX7_areBoth_9 rfl rfl ?_
    obtain ⟨r4, hc3, hf⟩ := zb_el hf
    refine z_cVi C (c_X7_isShape _ _ hc3) rfl gX7_areBoth_X7_isShape rfl rfl zdX7_isShape rfl (Nat.le_of_ble_eq_true rfl) rfl rfl rfl ⟨Nat.le_of_ble_eq_true rfl, Nat.le_of_ble_eq_true rfl⟩ (Nat.le_of_ble_eq_true rfl) dX7_areBoth_10 rfl ?_
    refine z_if_eq (tgt := 20) C dX7_areBoth_13 (by decide) (fun c5 => ?_) (fun c5 => ?_)
    · replace hf := if_t c5 hf
      refine z_iconst C (v := 0) dX7_areBoth_20 rfl ?_
      have e1 := Option.some.inj hf
      subst e1
      exact hret _ _ dX7_areBoth_21 (Or.inl rfl)
    · replace hf := if_f c5 hf
      refine z_iconst C (v := 1) dX7_areBoth_16 rfl ?_
      refine z_goto (tgt := 21) C dX7_areBoth_17 (by decide) ?_
      have e1 := Option.some.inj hf
      subst e1
      exact hret _ _ dX7_areBoth_21 (Or.inr rfl)
theorem dX7_bits_0 : decode cX7_bits 0 = .ok (.iconst 0, 1) := by decide +kernel
theorem dX7_bits_1 : decode cX7_bits 1 = .ok (.istore_n 1, 1) := by decide +kernel
theorem dX7_bits_2 : decode cX7_bits 2 = .ok (.iconst 0, 1) := by decide +kernel
theorem dX7_bits_3 : decode cX7_bits 3 = .ok (.istore_n 2, 1) := by decide +kernel
theorem dX7_bits_4 : decode cX7_bits 4 = .ok (.iload_n 2, 1) := by decide +kernel
theorem dX7_bits_5 : decode cX7_bits 5 = .ok (.iconst 5, 1) := by decide +kernel
theorem dX7_bits_6 : decode cX7_bits 6 = .ok (.if_icmp .ge 17, 3) := by decide +kernel
theorem dX7_bits_9 : decode cX7_bits 9 = .ok (.iload_n 1, 1) := by decide +kernel
theorem dX7_bits_10 : decode cX7_bits 10 = .ok (.iload_n 0, 1) := by decide +kernel
theorem dX7_bits_11 : decode cX7_bits 11 = .ok (.iload_n 2, 1) := by decide +kernel
theorem dX7_bits_12 : decode cX7_bits 12 = .ok (.ishr, 1) := by decide +kernel
theorem dX7_bits_13 : decode cX7_bits 13 = .ok (.iconst 1, 1) := by decide +kernel
theorem dX7_bits_14 : decode cX7_bits 14 = .ok (.iand, 1) := by decide +kernel
theorem dX7_bits_15 : decode cX7_bits 15 = .ok (.iadd, 1) := by decide +kernel
theorem dX7_bits_16 : decode cX7_bits 16 = .ok (.istore_n 1, 1) := by decide +kernel
theorem dX7_bits_17 : decode cX7_bits 17 = .ok (.iinc 2 1, 3) := by decide +kernel
theorem dX7_bits_20 : decode cX7_bits 20 = .ok (.goto (-16), 3) := by decide +kernel
theorem dX7_bits_23 : decode cX7_bits 23 = .ok (.iload_n 1, 1) := by decide +kernel
theorem dX7_bits_24 : decode cX7_bits 24 = .ok (.ireturn, 1) := by decide +kernel
def rmX7_bits : Room := { frames := 0, cells := 0, slots := 0, locals := 0 }
theorem zdX7_bits : yX7_bits.cls = RX7 ∧ yX7_bits.cls ≠ "java/lang/invoke/MethodHandle" ∧ yX7_bits.cls ≠ "java/lang/invoke/VarHandle" ∧ (parseMethodDescriptor yX7_bits.desc).map (fun d => d.parameters.length) = some 1 := by decide +kernel
def t_X7_bits_4 (a1 : Int32) (i1 : Int32) (i2 : Int32) : Option ((Int32 × Int32) ⊕ (Int32)) :=
  (if 5 ≤ i2 then (some (.inr i1)) else (bn (i1 + ((a1 >>> (i2 &&& 31)) &&& 1)) fun x3 => bn (i2 + 1) fun x4 => some (.inl (x3, x4))))
def l_X7_bits_4 (a1 : Int32) (n : Nat) (i1 : Int32) (i2 : Int32) : Option (Int32) := zlp n (fun a => t_X7_bits_4 a1 a.1 a.2) (i1, i2)
def s_X7_bits (a1 : Int32) : Option (Int32) :=
  ((l_X7_bits_4 a1 FU 0 0).bind fun y6 => some y6)
set_option maxRecDepth 100000 in
set_option maxHeartbeats 4000000 in
theorem w_X7_bits_4 {K : ZK} (C : zOK MM K cX7_bits 3 (some .int) RX7 wsX7_bits rmX7_bits) {m : Mem} {a1 : Int32}  {o0 : Int32} (hk : zGo MM K m [(1, .int o0)] 23 []) : ∀ (n : Nat) (i1 : Int32) (i2 : Int32), l_X7_bits_4 a1 n i1 i2 = some o0 → zGo MM K m [(0, .int a1), (1, .int i1), (2, .int i2)] 4 [] := by
  intro n
  induction n with
  | zero =>
    intro i1 i2 hf
    cases hf
  | succ n ih =>
    intro i1 i2 hf
    obtain ⟨z, hf, hz⟩ := zlp_el hf
    replace hf : t_X7_bits_4 a1 i1 i2 = some z := hf
    unfold t_X7_bits_4 at hf
    refine z_iload_n C 2 dX7_bits_4 rfl rfl ?_
    refine z_iconst C (v := 5) dX7_bits_5 rfl ?_
    refine z_icmp_ge (tgt := 23) C dX7_bits_6 (by decide) (fun c5 => ?_) (fun c5 => ?_)
    · replace hf := if_t c5 hf
      cases hf
      replace hz := zlz_r hz
      cases hz
      exact z_sub [1] rfl hk
    · replace hf := if_f c5 hf
      refine z_iload_n C 1 dX7_bits_9 rfl rfl ?_
      refine z_iload_n C 0 dX7_bits_10 rfl rfl ?_
      refine z_iload_n C 2 dX7_bits_11 rfl rfl ?_
      refine z_ishr C dX7_bits_12 ?_
      refine z_iconst C (v := 1) dX7_bits_13 rfl ?_
      refine z_iand C dX7_bits_14 ?_
      refine z_iadd C dX7_bits_15 ?_
      refine z_topi (fun x3 e_x3 => ?_)
      replace hf := bn_to e_x3 hf
      refine z_istore_n C (lv2 := [(0, .int a1), (1, .int x3), (2, .int i2)]) [1, 0, 2] dX7_bits_16 rfl (Nat.le_of_ble_eq_true rfl) rfl ?_
      obtain ⟨x4, e_x4⟩ : ∃ y : Int32, y = i2 + 1 := ⟨_, rfl⟩
      replace hf := bn_to e_x4 hf
      refine z_iinc C (lv2 := [(0, .int a1), (1, .int x3), (2, .int x4)]) 2 [1, 2, 0] dX7_bits_17 rfl rfl (Nat.le_of_ble_eq_true rfl) e_x4 rfl ?_
      refine z_goto (tgt := 4) C dX7_bits_20 (by decide) ?_
      cases hf
      exact z_sub [0, 1, 2] rfl (ih x3 x4 hz)
set_option maxRecDepth 100000 in
set_option maxHeartbeats 4000000 in
theorem c_X7_bits (l : Launch) (w : ZW) {m : Mem} {a1 : Int32} {r9 : Int32}  (hf : s_X7_bits a1 = some r9) : zCi MM l w yX7_bits wsX7_bits rmX7_bits [.int a1] m m r9 := by
  refine z_met_i MM_ok (own := RX7) (by decide +kernel) rfl rfl (Nat.le_of_ble_eq_true rfl) ?_
  intro K C hKw hKl hret
  subst hKw
  subst hKl
  unfold s_X7_bits at hf
  show zGo MM K m [(0, .int a1)] 0 []
  refine z_iconst C (v := 0) dX7_bits_0 rfl ?_
  refine z_istore_n C (lv2 := [(0, .int a1), (1, .int 0)]) [1, 0] dX7_bits_1 rfl (Nat.le_of_ble_eq_true rfl) rfl ?_
  refine z_iconst C (v := 0) dX7_bits_2 rfl ?_
  refine z_istore_n C (lv2 := [(0, .int a1), (1, .int 0), (2, .int 0)]) [1, 2, 0] dX7_bits_3 rfl (Nat.le_of_ble_eq_true rfl) rfl ?_
  obtain ⟨y6, hg, hf⟩ := zb_el hf
  refine z_sub [0, 1, 2] rfl (w_X7_bits_4 C  ?_ _ _ _ hg)
  clear hg
  refine z_iload_n C 0 dX7_bits_23 rfl rfl ?_
  have e1 := Option.some.inj hf
  subst e1
  exact hret _ _ dX7_bits_24
set_option maxRecDepth 100000 in
theorem daX7_comes : ∀ q ∈ ([(0, .sipush 160, 3), (3, .aload_n 0, 1), (4, .getfield 234, 3), (7, .imul, 1), (8, .aload_n 0, 1), (9, .getfield 89, 3), (12, .aload_n 0, 1), (13, .getfield 234, 3), (16, .iaload, 1), (17, .iadd, 1), (18, .istore_n 3, 1), (19, .aload_n 0, 1), (20, .getfield 92, 3), (23, .iload_n 3, 1), (24, .iload_n 1, 1), (25, .iastore, 1), (26, .aload_n 0, 1), (27, .getfield 95, 3), (30, .iload_n 3, 1), (31, .iload_n 2, 1), (32, .iastore, 1), (33, .aload_n 0, 1), (34, .getfield 98, 3), (37, .iload_n 3, 1), (38, .iconst 1, 1), (39, .iastore, 1), (40, .aload_n 0, 1), (41, .getfield 101, 3), (44, .iload_n 3, 1), (45, .iconst 1, 1), (46, .iastore, 1), (47, .aload_n 0, 1), (48, .getfield 104, 3), (51, .iload_n 3, 1), (52, .bipush (-4), 2), (54, .iastore, 1), (55, .aload_n 0, 1), (56, .getfield 89, 3), (59, .aload_n 0, 1), (60, .getfield 234, 3), (63, .dup2, 1), (64, .iaload, 1), (65, .iconst 1, 1), (66, .iadd, 1), (67, .iastore, 1), (68, .iload_n 3, 1), (69, .ireturn, 1)] : List (Nat × Instr × Nat)), decode cX7_comes q.1 = .ok q.2 := by decide +kernel
theorem dX7_comes_0 : decode cX7_comes 0 = .ok (.sipush 160, 3) := daX7_comes (0, .sipush 160, 3) (List.mem_of_getElem? (i := 0) rfl)
theorem dX7_comes_3 : decode cX7_comes 3 = .ok (.aload_n 0, 1) := daX7_comes (3, .aload_n 0, 1) (List.mem_of_getElem? (i := 1) rfl)
theorem dX7_comes_4 : decode cX7_comes 4 = .ok (.getfield 234, 3) := daX7_comes (4, .getfield 234, 3) (List.mem_of_getElem? (i := 2) rfl)
theorem dX7_comes_7 : decode cX7_comes 7 = .ok (.imul, 1) := daX7_comes (7, .imul, 1) (List.mem_of_getElem? (i := 3) rfl)
theorem dX7_comes_8 : decode cX7_comes 8 = .ok (.aload_n 0, 1) := daX7_comes (8, .aload_n 0, 1) (List.mem_of_getElem? (i := 4) rfl)
theorem dX7_comes_9 : decode cX7_comes 9 = .ok (.getfield 89, 3) := daX7_comes (9, .getfield 89, 3) (List.mem_of_getElem? (i := 5) rfl)
theorem dX7_comes_12 : decode cX7_comes 12 = .ok (.aload_n 0, 1) := daX7_comes (12, .aload_n 0, 1) (List.mem_of_getElem? (i := 6) rfl)
theorem dX7_comes_13 : decode cX7_comes 13 = .ok (.getfield 234, 3) := daX7_comes (13, .getfield 234, 3) (List.mem_of_getElem? (i := 7) rfl)
theorem dX7_comes_16 : decode cX7_comes 16 = .ok (.iaload, 1) := daX7_comes (16, .iaload, 1) (List.mem_of_getElem? (i := 8) rfl)
theorem dX7_comes_17 : decode cX7_comes 17 = .ok (.iadd, 1) := daX7_comes (17, .iadd, 1) (List.mem_of_getElem? (i := 9) rfl)
theorem dX7_comes_18 : decode cX7_comes 18 = .ok (.istore_n 3, 1) := daX7_comes (18, .istore_n 3, 1) (List.mem_of_getElem? (i := 10) rfl)
theorem dX7_comes_19 : decode cX7_comes 19 = .ok (.aload_n 0, 1) := daX7_comes (19, .aload_n 0, 1) (List.mem_of_getElem? (i := 11) rfl)
theorem dX7_comes_20 : decode cX7_comes 20 = .ok (.getfield 92, 3) := daX7_comes (20, .getfield 92, 3) (List.mem_of_getElem? (i := 12) rfl)
theorem dX7_comes_23 : decode cX7_comes 23 = .ok (.iload_n 3, 1) := daX7_comes (23, .iload_n 3, 1) (List.mem_of_getElem? (i := 13) rfl)
theorem dX7_comes_24 : decode cX7_comes 24 = .ok (.iload_n 1, 1) := daX7_comes (24, .iload_n 1, 1) (List.mem_of_getElem? (i := 14) rfl)
theorem dX7_comes_25 : decode cX7_comes 25 = .ok (.iastore, 1) := daX7_comes (25, .iastore, 1) (List.mem_of_getElem? (i := 15) rfl)
theorem dX7_comes_26 : decode cX7_comes 26 = .ok (.aload_n 0, 1) := daX7_comes (26, .aload_n 0, 1) (List.mem_of_getElem? (i := 16) rfl)
theorem dX7_comes_27 : decode cX7_comes 27 = .ok (.getfield 95, 3) := daX7_comes (27, .getfield 95, 3) (List.mem_of_getElem? (i := 17) rfl)
theorem dX7_comes_30 : decode cX7_comes 30 = .ok (.iload_n 3, 1) := daX7_comes (30, .iload_n 3, 1) (List.mem_of_getElem? (i := 18) rfl)
theorem dX7_comes_31 : decode cX7_comes 31 = .ok (.iload_n 2, 1) := daX7_comes (31, .iload_n 2, 1) (List.mem_of_getElem? (i := 19) rfl)
theorem dX7_comes_32 : decode cX7_comes 32 = .ok (.iastore, 1) := daX7_comes (32, .iastore, 1) (List.mem_of_getElem? (i := 20) rfl)
theorem dX7_comes_33 : decode cX7_comes 33 = .ok (.aload_n 0, 1) := daX7_comes (33, .aload_n 0, 1) (List.mem_of_getElem? (i := 21) rfl)
theorem dX7_comes_34 : decode cX7_comes 34 = .ok (.getfield 98, 3) := daX7_comes (34, .getfield 98, 3) (List.mem_of_getElem? (i := 22) rfl)
theorem dX7_comes_37 : decode cX7_comes 37 = .ok (.iload_n 3, 1) := daX7_comes (37, .iload_n 3, 1) (List.mem_of_getElem? (i := 23) rfl)
theorem dX7_comes_38 : decode cX7_comes 38 = .ok (.iconst 1, 1) := daX7_comes (38, .iconst 1, 1) (List.mem_of_getElem? (i := 24) rfl)
theorem dX7_comes_39 : decode cX7_comes 39 = .ok (.iastore, 1) := daX7_comes (39, .iastore, 1) (List.mem_of_getElem? (i := 25) rfl)
theorem dX7_comes_40 : decode cX7_comes 40 = .ok (.aload_n 0, 1) := daX7_comes (40, .aload_n 0, 1) (List.mem_of_getElem? (i := 26) rfl)
theorem dX7_comes_41 : decode cX7_comes 41 = .ok (.getfield 101, 3) := daX7_comes (41, .getfield 101, 3) (List.mem_of_getElem? (i := 27) rfl)
theorem dX7_comes_44 : decode cX7_comes 44 = .ok (.iload_n 3, 1) := daX7_comes (44, .iload_n 3, 1) (List.mem_of_getElem? (i := 28) rfl)
theorem dX7_comes_45 : decode cX7_comes 45 = .ok (.iconst 1, 1) := daX7_comes (45, .iconst 1, 1) (List.mem_of_getElem? (i := 29) rfl)
theorem dX7_comes_46 : decode cX7_comes 46 = .ok (.iastore, 1) := daX7_comes (46, .iastore, 1) (List.mem_of_getElem? (i := 30) rfl)
theorem dX7_comes_47 : decode cX7_comes 47 = .ok (.aload_n 0, 1) := daX7_comes (47, .aload_n 0, 1) (List.mem_of_getElem? (i := 31) rfl)
theorem dX7_comes_48 : decode cX7_comes 48 = .ok (.getfield 104, 3) := daX7_comes (48, .getfield 104, 3) (List.mem_of_getElem? (i := 32) rfl)
theorem dX7_comes_51 : decode cX7_comes 51 = .ok (.iload_n 3, 1) := daX7_comes (51, .iload_n 3, 1) (List.mem_of_getElem? (i := 33) rfl)
theorem dX7_comes_52 : decode cX7_comes 52 = .ok (.bipush (-4), 2) := daX7_comes (52, .bipush (-4), 2) (List.mem_of_getElem? (i := 34) rfl)
theorem dX7_comes_54 : decode cX7_comes 54 = .ok (.iastore, 1) := daX7_comes (54, .iastore, 1) (List.mem_of_getElem? (i := 35) rfl)
theorem dX7_comes_55 : decode cX7_comes 55 = .ok (.aload_n 0, 1) := daX7_comes (55, .aload_n 0, 1) (List.mem_of_getElem? (i := 36) rfl)
theorem dX7_comes_56 : decode cX7_comes 56 = .ok (.getfield 89, 3) := daX7_comes (56, .getfield 89, 3) (List.mem_of_getElem? (i := 37) rfl)
theorem dX7_comes_59 : decode cX7_comes 59 = .ok (.aload_n 0, 1) := daX7_comes (59, .aload_n 0, 1) (List.mem_of_getElem? (i := 38) rfl)
theorem dX7_comes_60 : decode cX7_comes 60 = .ok (.getfield 234, 3) := daX7_comes (60, .getfield 234, 3) (List.mem_of_getElem? (i := 39) rfl)
theorem dX7_comes_63 : decode cX7_comes 63 = .ok (.dup2, 1) := daX7_comes (63, .dup2, 1) (List.mem_of_getElem? (i := 40) rfl)
theorem dX7_comes_64 : decode cX7_comes 64 = .ok (.iaload, 1) := daX7_comes (64, .iaload, 1) (List.mem_of_getElem? (i := 41) rfl)
theorem dX7_comes_65 : decode cX7_comes 65 = .ok (.iconst 1, 1) := daX7_comes (65, .iconst 1, 1) (List.mem_of_getElem? (i := 42) rfl)
theorem dX7_comes_66 : decode cX7_comes 66 = .ok (.iadd, 1) := daX7_comes (66, .iadd, 1) (List.mem_of_getElem? (i := 43) rfl)
theorem dX7_comes_67 : decode cX7_comes 67 = .ok (.iastore, 1) := daX7_comes (67, .iastore, 1) (List.mem_of_getElem? (i := 44) rfl)
theorem dX7_comes_68 : decode cX7_comes 68 = .ok (.iload_n 3, 1) := daX7_comes (68, .iload_n 3, 1) (List.mem_of_getElem? (i := 45) rfl)
theorem dX7_comes_69 : decode cX7_comes 69 = .ok (.ireturn, 1) := daX7_comes (69, .ireturn, 1) (List.mem_of_getElem? (i := 46) rfl)
def rmX7_comes : Room := { frames := 0, cells := 0, slots := 0, locals := 0 }
theorem zdX7_comes : yX7_comes.cls = RX7 ∧ yX7_comes.cls ≠ "java/lang/invoke/MethodHandle" ∧ yX7_comes.cls ≠ "java/lang/invoke/VarHandle" ∧ (parseMethodDescriptor yX7_comes.desc).map (fun d => d.parameters.length) = some 2 := by decide +kernel
theorem kiX7_comes_X7 : ∀ w ∈ wsX70, w ∈ wsX7_comes := fun _ h => (List.mem_cons_of_mem _ (List.mem_append_right _ h))
theorem kfX7_comes_234 : Cond.fieldLink RX7 234 "ShapeJudgeModel" "dShapes" "I" ∈ wsX7_comes := (List.mem_of_getElem? (i := 1) rfl)
theorem kfX7_comes_89 : Cond.fieldLink RX7 89 "ShapeJudgeModel" "dSize" "[I" ∈ wsX7_comes := (List.mem_of_getElem? (i := 2) rfl)
theorem kfX7_comes_92 : Cond.fieldLink RX7 92 "ShapeJudgeModel" "dKind" "[I" ∈ wsX7_comes := (List.mem_of_getElem? (i := 3) rfl)
theorem kfX7_comes_95 : Cond.fieldLink RX7 95 "ShapeJudgeModel" "dAround" "[I" ∈ wsX7_comes := (List.mem_of_getElem? (i := 4) rfl)
theorem kfX7_comes_98 : Cond.fieldLink RX7 98 "ShapeJudgeModel" "dLeast" "[I" ∈ wsX7_comes := (List.mem_of_getElem? (i := 5) rfl)
theorem kfX7_comes_101 : Cond.fieldLink RX7 101 "ShapeJudgeModel" "dMost" "[I" ∈ wsX7_comes := (List.mem_of_getElem? (i := 6) rfl)
theorem kfX7_comes_104 : Cond.fieldLink RX7 104 "ShapeJudgeModel" "dPartOf" "[I" ∈ wsX7_comes := (List.mem_of_getElem? (i := 7) rfl)
def s_X7_comes (m : Mem) (a1 : Int32) (a2 : Int32) : Option (Int32 × Mem) :=
  ck (zin (m 0 21) 6 = true) (bn (((160 : Int32) * (m 0 21)) + (m 27 (Int32.toNatClampNeg (m 0 21)))) fun x2 => ck (zin x2 960 = true) (bn (sto m 28 (Int32.toNatClampNeg x2) a1) fun m4 => ck (zin x2 960 = true) (bn (sto m4 29 (Int32.toNatClampNeg x2) a2) fun m6 => ck (zin x2 960 = true) (bn (sto m6 30 (Int32.toNatClampNeg x2) 1) fun m8 => ck (zin x2 960 = true) (bn (sto m8 31 (Int32.toNatClampNeg x2) 1) fun m10 => ck (zin x2 960 = true) (bn (sto m10 32 (Int32.toNatClampNeg x2) (-4)) fun m12 => ck (zin (m12 0 21) 6 = true) (ck (zin (m12 0 21) 6 = true) (bn (sto m12 27 (Int32.toNatClampNeg (m12 0 21)) ((m12 27 (Int32.toNatClampNeg (m12 0 21))) + 1)) fun m15 => some (x2, m15)))))))))
set_option maxRecDepth 100000 in
set_option maxHeartbeats 4000000 in
theorem c_X7_comes (l : Launch) (w : ZW) {m : Mem} {a1 : Int32} {a2 : Int32} {r9 : Int32} {m9 : Mem}  (hf : s_X7_comes m a1 a2 = some (r9, m9)) : zCi MM l w yX7_comes wsX7_comes rmX7_comes [.ref (w.2.1 0), .int a1, .int a2] m m9 r9 := by
  refine z_met_i MM_ok (own := RX7) (by decide +kernel) rfl rfl (Nat.le_of_ble_eq_true rfl) ?_
  intro K C hKw hKl hret
  subst hKw
  subst hKl
  unfold s_X7_comes at hf
  show zGo MM K m [(0, .ref ((zw K).2.1 0)), (1, .int a1), (2, .int a2)] 0 []
  refine z_sipush C (v := 160) dX7_comes_0 rfl ?_
  refine z_aload_n C 0 dX7_comes_3 rfl rfl ?_
  refine z_geti C (Nat.le_of_ble_eq_true rfl) rfl rfl 21 (Nat.le_of_ble_eq_true rfl) rfl kiX7_comes_X7 kfX7_comes_234 dX7_comes_4 ?_
  refine z_imul C dX7_comes_7 ?_
  refine z_aload_n C 0 dX7_comes_8 rfl rfl ?_
  refine z_getr C (t := 27) (Nat.le_of_ble_eq_true rfl) rfl rfl 30 (Nat.le_of_ble_eq_true rfl) rfl kiX7_comes_X7 kfX7_comes_89 dX7_comes_9 ?_
  refine z_aload_n C 0 dX7_comes_12 rfl rfl ?_
  refine z_geti C (Nat.le_of_ble_eq_true rfl) rfl rfl 21 (Nat.le_of_ble_eq_true rfl) rfl kiX7_comes_X7 kfX7_comes_234 dX7_comes_13 ?_
  obtain ⟨hi1, hf⟩ := ck_el hf
  refine z_iald C (k := 27) (Nat.le_of_ble_eq_true rfl) rfl hi1 dX7_comes_16 ?_
  refine z_iadd C dX7_comes_17 ?_
  refine z_topi (fun x2 e_x2 => ?_)
  replace hf := bn_to e_x2 hf
  refine z_istore_n C (lv2 := [(0, .ref ((zw K).2.1 0)), (1, .int a1), (2, .int a2), (3, .int x2)]) [1, 2, 3, 0] dX7_comes_18 rfl (Nat.le_of_ble_eq_true rfl) rfl ?_
  refine z_aload_n C 0 dX7_comes_19 rfl rfl ?_
  refine z_getr C (t := 28) (Nat.le_of_ble_eq_true rfl) rfl rfl 31 (Nat.le_of_ble_eq_true rfl) rfl kiX7_comes_X7 kfX7_comes_92 dX7_comes_20 ?_
  refine z_iload_n C 3 dX7_comes_23 rfl rfl ?_
  refine z_iload_n C 1 dX7_comes_24 rfl rfl ?_
  obtain ⟨hi3, hf⟩ := ck_el hf
  refine z_iast C (k := 28) (Nat.le_of_ble_eq_true rfl) rfl hi3 dX7_comes_25 ?_
  refine z_nm (fun m4 e_m4 => ?_)
  replace hf := bn_to e_m4 hf
  refine z_aload_n C 0 dX7_comes_26 rfl rfl ?_
  refine z_getr C (t := 29) (Nat.le_of_ble_eq_true rfl) rfl rfl 32 (Nat.le_of_ble_eq_true rfl) rfl kiX7_comes_X7 kfX7_comes_95 dX7_comes_27 ?_
  refine z_iload_n C 3 dX7_comes_30 rfl rfl ?_
  refine z_iload_n C 2 dX7_comes_31 rfl rfl ?_
  obtain ⟨hi5, hf⟩ := ck_el hf
  refine z_iast C (k := 29) (Nat.le_of_ble_eq_true rfl) rfl hi5 dX7_comes_32 ?_
  refine z_nm (fun m6 e_m6 => ?_)
  replace hf := bn_to e_m6 hf
  refine z_aload_n C 0 dX7_comes_33 rfl rfl ?_
  refine z_getr C (t := 30) (Nat.le_of_ble_eq_true rfl) rfl rfl 33 (Nat.le_of_ble_eq_true rfl) rfl kiX7_comes_X7 kfX7_comes_98 dX7_comes_34 ?_
  refine z_iload_n C 3 dX7_comes_37 rfl rfl ?_
  refine z_iconst C (v := 1) dX7_comes_38 rfl ?_
  obtain ⟨hi7, hf⟩ := ck_el hf
  refine z_iast C (k := 30) (Nat.le_of_ble_eq_true rfl) rfl hi7 dX7_comes_39 ?_
  refine z_nm (fun m8 e_m8 => ?_)
  replace hf := bn_to e_m8 hf
  refine z_aload_n C 0 dX7_comes_40 rfl rfl ?_
  refine z_getr C (t := 31) (Nat.le_of_ble_eq_true rfl) rfl rfl 34 (Nat.le_of_ble_eq_true rfl) rfl kiX7_comes_X7 kfX7_comes_101 dX7_comes_41 ?_
  refine z_iload_n C 3 dX7_comes_44 rfl rfl ?_
  refine z_iconst C (v := 1) dX7_comes_45 rfl ?_
  obtain ⟨hi9, hf⟩ := ck_el hf
  refine z_iast C (k := 31) (Nat.le_of_ble_eq_true rfl) rfl hi9 dX7_comes_46 ?_
  refine z_nm (fun m10 e_m10 => ?_)
  replace hf := bn_to e_m10 hf
  refine z_aload_n C 0 dX7_comes_47 rfl rfl ?_
  refine z_getr C (t := 32) (Nat.le_of_ble_eq_true rfl) rfl rfl 35 (Nat.le_of_ble_eq_true rfl) rfl kiX7_comes_X7 kfX7_comes_104 dX7_comes_48 ?_
  refine z_iload_n C 3 dX7_comes_51 rfl rfl ?_
  refine z_bipush C (v := (-4)) dX7_comes_52 (by decide) ?_
  obtain ⟨hi11, hf⟩ := ck_el hf
  refine z_iast C (k := 32) (Nat.le_of_ble_eq_true rfl) rfl hi11 dX7_comes_54 ?_
  refine z_nm (fun m12 e_m12 => ?_)
  replace hf := bn_to e_m12 hf
  refine z_aload_n C 0 dX7_comes_55 rfl rfl ?_
  refine z_getr C (t := 27) (Nat.le_of_ble_eq_true rfl) rfl rfl 30 (Nat.le_of_ble_eq_true rfl) rfl kiX7_comes_X7 kfX7_comes_89 dX7_comes_56 ?_
  refine z_aload_n C 0 dX7_comes_59 rfl rfl ?_
  refine z_geti C (Nat.le_of_ble_eq_true rfl) rfl rfl 21 (Nat.le_of_ble_eq_true rfl) rfl kiX7_comes_X7 kfX7_comes_234 dX7_comes_60 ?_
  refine z_dup2 C dX7_comes_63 ?_
  obtain ⟨hi13, hf⟩ := ck_el hf
  refine z_iald C (k := 27) (Nat.le_of_ble_eq_true rfl) rfl hi13 dX7_comes_64 ?_
  refine z_iconst C (v := 1) dX7_comes_65 rfl ?_
  refine z_iadd C dX7_comes_66 ?_
  obtain ⟨hi14, hf⟩ := ck_el hf
  refine z_iast C (k := 27) (Nat.le_of_ble_eq_true rfl) rfl hi14 dX7_comes_67 ?_
  refine z_nm (fun m15 e_m15 => ?_)
  replace hf := bn_to e_m15 hf
  refine z_iload_n C 3 dX7_comes_68 rfl rfl ?_
  obtain ⟨e1, e2⟩ := sp_el hf
  subst e1
  subst e2
  exact hret _ _ dX7_comes_69
theorem dX7_edges_0 : decode cX7_edges 0 = .ok (.iconst 0, 1) := by decide +kernel
theorem dX7_edges_1 : decode cX7_edges 1 = .ok (.istore_n 1, 1) := by decide +kernel
theorem dX7_edges_2 : decode cX7_edges 2 = .ok (.iconst 0, 1) := by decide +kernel
theorem dX7_edges_3 : decode cX7_edges 3 = .ok (.istore_n 2, 1) := by decide +kernel
theorem dX7_edges_4 : decode cX7_edges 4 = .ok (.iload_n 2, 1) := by decide +kernel
theorem dX7_edges_5 : decode cX7_edges 5 = .ok (.aload_n 0, 1) := by decide +kernel
theorem dX7_edges_6 : decode cX7_edges 6 = .ok (.getfield 140, 3) := by decide +kernel
theorem dX7_edges_9 : decode cX7_edges 9 = .ok (.if_icmp .ge 18, 3) := by decide +kernel
theorem dX7_edges_12 : decode cX7_edges 12 = .ok (.iload_n 1, 1) := by decide +kernel
theorem dX7_edges_13 : decode cX7_edges 13 = .ok (.aload_n 0, 1) := by decide +kernel
theorem dX7_edges_14 : decode cX7_edges 14 = .ok (.getfield 17, 3) := by decide +kernel
theorem dX7_edges_17 : decode cX7_edges 17 = .ok (.iload_n 2, 1) := by decide +kernel
theorem dX7_edges_18 : decode cX7_edges 18 = .ok (.iaload, 1) := by decide +kernel
theorem dX7_edges_19 : decode cX7_edges 19 = .ok (.iadd, 1) := by decide +kernel
theorem dX7_edges_20 : decode cX7_edges 20 = .ok (.istore_n 1, 1) := by decide +kernel
theorem dX7_edges_21 : decode cX7_edges 21 = .ok (.iinc 2 1, 3) := by decide +kernel
theorem dX7_edges_24 : decode cX7_edges 24 = .ok (.goto (-20), 3) := by decide +kernel
theorem dX7_edges_27 : decode cX7_edges 27 = .ok (.iload_n 1, 1) := by decide +kernel
theorem dX7_edges_28 : decode cX7_edges 28 = .ok (.ireturn, 1) := by decide +kernel
def rmX7_edges : Room := { frames := 0, cells := 0, slots := 0, locals := 0 }
theorem zdX7_edges : yX7_edges.cls = RX7 ∧ yX7_edges.cls ≠ "java/lang/invoke/MethodHandle" ∧ yX7_edges.cls ≠ "java/lang/invoke/VarHandle" ∧ (parseMethodDescriptor yX7_edges.desc).map (fun d => d.parameters.length) = some 0 := by decide +kernel
theorem kiX7_edges_X7 : ∀ w ∈ wsX70, w ∈ wsX7_edges := fun _ h => (List.mem_cons_of_mem _ (List.mem_append_right _ h))
theorem kfX7_edges_140 : Cond.fieldLink RX7 140 "ShapeJudgeModel" "nodes" "I" ∈ wsX7_edges := (List.mem_of_getElem? (i := 1) rfl)
theorem kfX7_edges_17 : Cond.fieldLink RX7 17 "ShapeJudgeModel" "many" "[I" ∈ wsX7_edges := (List.mem_of_getElem? (i := 2) rfl)
def t_X7_edges_4 (m : Mem) (i1 : Int32) (i2 : Int32) : Option ((Int32 × Int32) ⊕ (Int32)) :=
  (if (m 0 0) ≤ i2 then (some (.inr i1)) else (ck (zin i2 10 = true) (bn (i1 + (m 3 (Int32.toNatClampNeg i2))) fun x4 => bn (i2 + 1) fun x5 => some (.inl (x4, x5)))))
def l_X7_edges_4 (m : Mem) (n : Nat) (i1 : Int32) (i2 : Int32) : Option (Int32) := zlp n (fun a => t_X7_edges_4 m a.1 a.2) (i1, i2)
def s_X7_edges (m : Mem)  : Option (Int32) :=
  ((l_X7_edges_4 m FU 0 0).bind fun y7 => some y7)
set_option maxRecDepth 100000 in
set_option maxHeartbeats 4000000 in
theorem w_X7_edges_4 {K : ZK} (C : zOK MM K cX7_edges 3 (some .int) RX7 wsX7_edges rmX7_edges) {m : Mem}  {o0 : Int32} (hk : zGo MM K m [(1, .int o0)] 27 []) : ∀ (n : Nat) (i1 : Int32) (i2 : Int32), l_X7_edges_4 m n i1 i2 = some o0 → zGo MM K m [(0, .ref ((zw K).2.1 0)), (1, .int i1), (2, .int i2)] 4 [] := by
  intro n
  induction n with
  | zero =>
    intro i1 i2 hf
    cases hf
  | succ n ih =>
    intro i1 i2 hf
    obtain ⟨z, hf, hz⟩ := zlp_el hf
    replace hf : t_X7_edges_4 m i1 i2 = some z := hf
    unfold t_X7_edges_4 at hf
    refine z_iload_n C 2 dX7_edges_4 rfl rfl ?_
    refine z_aload_n C 0 dX7_edges_5 rfl rfl ?_
    refine z_geti C (Nat.le_of_ble_eq_true rfl) rfl rfl 0 (Nat.le_of_ble_eq_true rfl) rfl kiX7_edges_X7 kfX7_edges_140 dX7_edges_6 ?_
    refine z_icmp_ge (tgt := 27) C dX7_edges_9 (by decide) (fun c6 => ?_) (fun c6 => ?_)
    · replace hf := if_t c6 hf
      cases hf
      replace hz := zlz_r hz
      cases hz
      exact z_sub [1] rfl hk
    · replace hf := if_f c6 hf
      refine z_iload_n C 1 dX7_edges_12 rfl rfl ?_
      refine z_aload_n C 0 dX7_edges_13 rfl rfl ?_
      refine z_getr C (t := 3) (Nat.le_of_ble_eq_true rfl) rfl rfl 3 (Nat.le_of_ble_eq_true rfl) rfl kiX7_edges_X7 kfX7_edges_17 dX7_edges_14 ?_
      refine z_iload_n C 2 dX7_edges_17 rfl rfl ?_
      obtain ⟨hi3, hf⟩ := ck_el hf
      refine z_iald C (k := 3) (Nat.le_of_ble_eq_true rfl) rfl hi3 dX7_edges_18 ?_
      refine z_iadd C dX7_edges_19 ?_
      refine z_topi (fun x4 e_x4 => ?_)
      replace hf := bn_to e_x4 hf
      refine z_istore_n C (lv2 := [(0, .ref ((zw K).2.1 0)), (1, .int x4), (2, .int i2)]) [1, 0, 2] dX7_edges_20 rfl (Nat.le_of_ble_eq_true rfl) rfl ?_
      obtain ⟨x5, e_x5⟩ : ∃ y : Int32, y = i2 + 1 := ⟨_, rfl⟩
      replace hf := bn_to e_x5 hf
      refine z_iinc C (lv2 := [(0, .ref ((zw K).2.1 0)), (1, .int x4), (2, .int x5)]) 2 [1, 2, 0] dX7_edges_21 rfl rfl (Nat.le_of_ble_eq_true rfl) e_x5 rfl ?_
      refine z_goto (tgt := 4) C dX7_edges_24 (by decide) ?_
      cases hf
      exact z_sub [0, 1, 2] rfl (ih x4 x5 hz)
set_option maxRecDepth 100000 in
set_option maxHeartbeats 4000000 in
theorem c_X7_edges (l : Launch) (w : ZW) {m : Mem}  {r9 : Int32}  (hf : s_X7_edges m  = some r9) : zCi MM l w yX7_edges wsX7_edges rmX7_edges [.ref (w.2.1 0)] m m r9 := by
  refine z_met_i MM_ok (own := RX7) (by decide +kernel) rfl rfl (Nat.le_of_ble_eq_true rfl) ?_
  intro K C hKw hKl hret
  subst hKw
  subst hKl
  unfold s_X7_edges at hf
  show zGo MM K m [(0, .ref ((zw K).2.1 0))] 0 []
  refine z_iconst C (v := 0) dX7_edges_0 rfl ?_
  refine z_istore_n C (lv2 := [(0, .ref ((zw K).2.1 0)), (1, .int 0)]) [1, 0] dX7_edges_1 rfl (Nat.le_of_ble_eq_true rfl) rfl ?_
  refine z_iconst C (v := 0) dX7_edges_2 rfl ?_
  refine z_istore_n C (lv2 := [(0, .ref ((zw K).2.1 0)), (1, .int 0), (2, .int 0)]) [1, 2, 0] dX7_edges_3 rfl (Nat.le_of_ble_eq_true rfl) rfl ?_
  obtain ⟨y7, hg, hf⟩ := zb_el hf
  refine z_sub [0, 1, 2] rfl (w_X7_edges_4 C  ?_ _ _ _ hg)
  clear hg
  refine z_iload_n C 0 dX7_edges_27 rfl rfl ?_
  have e1 := Option.some.inj hf
  subst e1
  exact hret _ _ dX7_edges_28
set_option maxRecDepth 20000 in
theorem ggX7_count_X7_read : GoodIn wsX7_count wsX7_read := goodIn_sub (List.forall_mem_cons.mpr ⟨(List.mem_of_getElem? (i := 10) rfl), (List.forall_mem_append.mpr ⟨(List.forall_mem_append.mpr ⟨(show ∀ w ∈ wsX7_read_r1, w ∈ wsX7_count from (List.forall_mem_cons.mpr ⟨(List.mem_of_getElem? (i := 11) rfl), (List.forall_mem_cons.mpr ⟨(List.mem_of_getElem? (i := 3) rfl), (List.forall_mem_cons.mpr ⟨(List.mem_of_getElem? (i := 4) rfl), (List.forall_mem_cons.mpr ⟨(List.mem_of_getElem? (i := 12) rfl), (List.forall_mem_cons.mpr ⟨(List.mem_of_getElem? (i := 13) rfl), (List.forall_mem_cons.mpr ⟨(List.mem_of_getElem? (i := 14) rfl), (List.forall_mem_cons.mpr ⟨(List.mem_of_getElem? (i := 9) rfl), (List.forall_mem_cons.mpr ⟨(List.mem_of_getElem? (i := 15) rfl), (List.forall_mem_cons.mpr ⟨(List.mem_of_getElem? (i := 16) rfl), (List.forall_mem_cons.mpr ⟨(List.mem_of_getElem? (i := 17) rfl), (List.forall_mem_cons.mpr ⟨(List.mem_of_getElem? (i := 18) rfl), (List.forall_mem_cons.mpr ⟨(List.mem_of_getElem? (i := 19) rfl), (List.forall_mem_cons.mpr ⟨(List.mem_of_getElem? (i := 20) rfl), (List.forall_mem_cons.mpr ⟨(List.mem_of_getElem? (i := 1) rfl), (List.forall_mem_cons.mpr ⟨(List.mem_of_getElem? (i := 21) rfl), (List.forall_mem_cons.mpr ⟨(List.mem_of_getElem? (i := 22) rfl), (List.forall_mem_cons.mpr ⟨(List.mem_of_getElem? (i := 23) rfl), (List.forall_mem_cons.mpr ⟨(List.mem_of_getElem? (i := 24) rfl), (List.forall_mem_cons.mpr ⟨(List.mem_of_getElem? (i := 25) rfl), (List.forall_mem_cons.mpr ⟨(List.mem_of_getElem? (i := 26) rfl), (List.forall_mem_cons.mpr ⟨(List.mem_of_getElem? (i := 27) rfl), (List.forall_mem_cons.mpr ⟨(List.mem_of_getElem? (i := 28) rfl), (List.forall_mem_cons.mpr ⟨(List.mem_of_getElem? (i := 2) rfl), (List.forall_mem_cons.mpr ⟨(List.mem_of_getElem? (i := 29) rfl), (fun _ h => absurd h List.not_mem_nil)⟩)⟩)⟩)⟩)⟩)⟩)⟩)⟩)⟩)⟩)⟩)⟩)⟩)⟩)⟩)⟩)⟩)⟩)⟩)⟩)⟩)⟩)⟩)⟩)), (List.forall_mem_append.mpr ⟨(show ∀ w ∈ wsX7_read_r2, w ∈ wsX7_count from (List.forall_mem_cons.mpr ⟨(List.mem_of_getElem? (i := 30) rfl), (List.forall_mem_cons.mpr ⟨(List.mem_of_getElem? (i := 31) rfl), (List.forall_mem_cons.mpr ⟨(List.mem_of_getElem? (i := 32) rfl), (List.forall_mem_cons.mpr ⟨(List.mem_of_getElem? (i := 33) rfl), (List.forall_mem_cons.mpr ⟨(List.mem_of_getElem? (i := 34) rfl), (List.forall_mem_cons.mpr ⟨(List.mem_of_getElem? (i := 35) rfl), (List.forall_mem_cons.mpr ⟨(List.mem_of_getElem? (i := 36) rfl), (List.forall_mem_cons.mpr ⟨(List.mem_of_getElem? (i := 37) rfl), (List.forall_mem_cons.mpr ⟨(List.mem_of_getElem? (i := 38) rfl), (List.forall_mem_cons.mpr ⟨(List.mem_of_getElem? (i := 39) rfl), (List.forall_mem_cons.mpr ⟨(List.mem_of_getElem? (i := 40) rfl), (List.forall_mem_cons.mpr ⟨(List.mem_of_getElem? (i := 41) rfl), (List.forall_mem_cons.mpr ⟨(List.mem_of_getElem? (i := 42) rfl), (List.forall_mem_cons.mpr ⟨(List.mem_of_getElem? (i := 43) rfl), (List.forall_mem_cons.mpr ⟨(List.mem_of_getElem? (i := 44) rfl), (List.forall_mem_cons.mpr ⟨(List.mem_of_getElem? (i := 45) rfl), (List.forall_mem_cons.mpr ⟨(List.mem_of_getElem? (i := 46) rfl), (List.forall_mem_cons.mpr ⟨(List.mem_of_getElem? (i := 47) rfl), (List.forall_mem_cons.mpr ⟨(List.mem_of_getElem? (i := 48) rfl), (List.forall_mem_cons.mpr ⟨(List.mem_of_getElem? (i := 49) rfl), (List.forall_mem_cons.mpr ⟨(List.mem_of_getElem? (i := 50) rfl), (List.forall_mem_cons.mpr ⟨(List.mem_of_getElem? (i := 51) rfl), (List.forall_mem_cons.mpr ⟨(List.mem_of_getElem? (i := 52) rfl), (List.forall_mem_cons.mpr ⟨(List.mem_of_getElem? (i := 53) rfl), (fun _ h => absurd h List.not_mem_nil)⟩)⟩)⟩)⟩)⟩)⟩)⟩)⟩)⟩)⟩)⟩)⟩)⟩)⟩)⟩)⟩)⟩)⟩)⟩)⟩)⟩)⟩)⟩)⟩)), (show ∀ w ∈ wsX7_read_r3, w ∈ wsX7_count from (List.forall_mem_cons.mpr ⟨(List.mem_of_getElem? (i := 54) rfl), (List.forall_mem_cons.mpr ⟨(List.mem_of_getElem? (i := 55) rfl), (List.forall_mem_cons.mpr ⟨(List.mem_of_getElem? (i := 56) rfl), (List.forall_mem_cons.mpr ⟨(List.mem_of_getElem? (i := 57) rfl), (List.forall_mem_cons.mpr ⟨(List.mem_of_getElem? (i := 58) rfl), (List.forall_mem_cons.mpr ⟨(List.mem_of_getElem? (i := 59) rfl), (List.forall_mem_cons.mpr ⟨(List.mem_of_getElem? (i := 60) rfl), (List.forall_mem_cons.mpr ⟨(List.mem_of_getElem? (i := 61) rfl), (List.forall_mem_cons.mpr ⟨(List.mem_of_getElem? (i := 62) rfl), (List.forall_mem_cons.mpr ⟨(List.mem_of_getElem? (i := 63) rfl), (List.forall_mem_cons.mpr ⟨(List.mem_of_getElem? (i := 64) rfl), (List.forall_mem_cons.mpr ⟨(List.mem_of_getElem? (i := 65) rfl), (List.forall_mem_cons.mpr ⟨(List.mem_of_getElem? (i := 66) rfl), (List.forall_mem_cons.mpr ⟨(List.mem_of_getElem? (i := 67) rfl), (List.forall_mem_cons.mpr ⟨(List.mem_of_getElem? (i := 68) rfl), (List.forall_mem_cons.mpr ⟨(List.mem_of_getElem? (i := 69) rfl), (List.forall_mem_cons.mpr ⟨(List.mem_of_getElem? (i := 70) rfl), (List.forall_mem_cons.mpr ⟨(List.mem_of_getElem? (i := 71) rfl), (List.forall_mem_cons.mpr ⟨(List.mem_of_getElem? (i := 72) rfl), (List.forall_mem_cons.mpr ⟨(List.mem_of_getElem? (i := 73) rfl), (fun _ h => absurd h List.not_mem_nil)⟩)⟩)⟩)⟩)⟩)⟩)⟩)⟩)⟩)⟩)⟩)⟩)⟩)⟩)⟩)⟩)⟩)⟩)⟩)⟩))⟩)⟩), (fun _ h => (List.mem_cons_of_mem _ (List.mem_append_right _ h)))⟩)⟩) (by decide +kernel)
set_option maxRecDepth 20000 in
theorem gX7_count_X7_read : GoodIn wsX7_count (wsV RX7 315 RX7 yX7_read wsX7_read) := goodIn_app (goodIn_sub (List.forall_mem_cons.mpr ⟨(List.mem_of_getElem? (i := 6) rfl), (List.forall_mem_cons.mpr ⟨(List.mem_of_getElem? (i := 7) rfl), (List.forall_mem_cons.mpr ⟨(List.mem_of_getElem? (i := 8) rfl), (List.forall_mem_cons.mpr ⟨(List.mem_of_getElem? (i := 9) rfl), (fun _ h => absurd h List.not_mem_nil)⟩)⟩)⟩)⟩) (by decide +kernel)) ggX7_count_X7_read
set_option maxRecDepth 20000 in
theorem ggX7_count_X7_edges : GoodIn wsX7_count wsX7_edges := goodIn_sub (List.forall_mem_cons.mpr ⟨(List.mem_of_getElem? (i := 77) rfl), (List.forall_mem_append.mpr ⟨(List.forall_mem_cons.mpr ⟨(List.mem_of_getElem? (i := 2) rfl), (List.forall_mem_cons.mpr ⟨(List.mem_of_getElem? (i := 34) rfl), (fun _ h => absurd h List.not_mem_nil)⟩)⟩), (fun _ h => (List.mem_cons_of_mem _ (List.mem_append_right _ h)))⟩)⟩) (by decide +kernel)
set_option maxRecDepth 20000 in
theorem gX7_count_X7_edges : GoodIn wsX7_count (wsV RX7 166 RX7 yX7_edges wsX7_edges) := goodIn_app (goodIn_sub (List.forall_mem_cons.mpr ⟨(List.mem_of_getElem? (i := 74) rfl), (List.forall_mem_cons.mpr ⟨(List.mem_of_getElem? (i := 75) rfl), (List.forall_mem_cons.mpr ⟨(List.mem_of_getElem? (i := 76) rfl), (List.forall_mem_cons.mpr ⟨(List.mem_of_getElem? (i := 9) rfl), (fun _ h => absurd h List.not_mem_nil)⟩)⟩)⟩)⟩) (by decide +kernel)) ggX7_count_X7_edges
set_option maxRecDepth 100000 in
theorem daX7_count : ∀ q ∈ ([(0, .iconst 0, 1), (1, .istore_n 2, 1), (2, .iconst 0, 1), (3, .istore_n 3, 1), (4, .aload_n 0, 1), (5, .invokevirtual 315, 3), (8, .iconst 0, 1), (9, .istore 4, 2), (11, .iload 4, 2), (13, .aload_n 0, 1), (14, .getfield 258, 3), (17, .if_icmp .ge 75, 3), (20, .iconst 0, 1), (21, .istore 5, 2), (23, .iload 5, 2), (25, .aload_n 0, 1), (26, .getfield 140, 3), (29, .if_icmp .ge 57, 3), (32, .iload_n 2, 1), (33, .aload_n 0, 1), (34, .getfield 119, 3), (37, .bipush 10, 2), (39, .iload 4, 2), (41, .imul, 1), (42, .iload 5, 2), (44, .iadd, 1), (45, .baload, 1), (46, .ifCond .eq 7, 3), (49, .iconst 1, 1), (50, .goto 4, 3), (53, .iconst 0, 1), (54, .iadd, 1), (55, .istore_n 2, 1), (56, .iload_n 3, 1), (57, .aload_n 0, 1), (58, .getfield 122, 3), (61, .bipush 10, 2), (63, .iload 4, 2), (65, .imul, 1), (66, .iload 5, 2), (68, .iadd, 1), (69, .baload, 1), (70, .ifCond .eq 7, 3), (73, .iconst 1, 1), (74, .goto 4, 3), (77, .iconst 0, 1), (78, .iadd, 1), (79, .istore_n 3, 1), (80, .iinc 5 1, 3), (83, .goto (-60), 3), (86, .iinc 4 1, 3), (89, .goto (-78), 3), (92, .iload_n 1, 1), (93, .ifCond .ne 10, 3), (96, .aload_n 0, 1), (97, .getfield 140, 3), (100, .goto 58, 3), (103, .iload_n 1, 1), (104, .iconst 1, 1), (105, .if_icmp .ne 10, 3), (108, .aload_n 0, 1), (109, .invokevirtual 166, 3), (112, .goto 46, 3), (115, .iload_n 1, 1), (116, .iconst 2, 1), (117, .if_icmp .ne 10, 3), (120, .aload_n 0, 1), (121, .getfield 258, 3), (124, .goto 34, 3), (127, .iload_n 1, 1), (128, .iconst 3, 1), (129, .if_icmp .ne 10, 3), (132, .aload_n 0, 1), (133, .getfield 170, 3), (136, .goto 22, 3), (139, .iload_n 1, 1), (140, .iconst 4, 1), (141, .if_icmp .ne 7, 3), (144, .iload_n 2, 1), (145, .goto 13, 3), (148, .iload_n 1, 1), (149, .iconst 5, 1), (150, .if_icmp .ne 7, 3), (153, .iload_n 3, 1), (154, .goto 4, 3), (157, .iconst (-1), 1), (158, .ireturn, 1)] : List (Nat × Instr × Nat)), decode cX7_count q.1 = .ok q.2 := by decide +kernel
theorem dX7_count_0 : decode cX7_count 0 = .ok (.iconst 0, 1) := daX7_count (0, .iconst 0, 1) (List.mem_of_getElem? (i := 0) rfl)
theorem dX7_count_1 : decode cX7_count 1 = .ok (.istore_n 2, 1) := daX7_count (1, .istore_n 2, 1) (List.mem_of_getElem? (i := 1) rfl)
theorem dX7_count_2 : decode cX7_count 2 = .ok (.iconst 0, 1) := daX7_count (2, .iconst 0, 1) (List.mem_of_getElem? (i := 2) rfl)
theorem dX7_count_3 : decode cX7_count 3 = .ok (.istore_n 3, 1) := daX7_count (3, .istore_n 3, 1) (List.mem_of_getElem? (i := 3) rfl)
theorem dX7_count_4 : decode cX7_count 4 = .ok (.aload_n 0, 1) := daX7_count (4, .aload_n 0, 1) (List.mem_of_getElem? (i := 4) rfl)
theorem dX7_count_5 : decode cX7_count 5 = .ok (.invokevirtual 315, 3) := daX7_count (5, .invokevirtual 315, 3) (List.mem_of_getElem? (i := 5) rfl)
theorem dX7_count_8 : decode cX7_count 8 = .ok (.iconst 0, 1) := daX7_count (8, .iconst 0, 1) (List.mem_of_getElem? (i := 6) rfl)
theorem dX7_count_9 : decode cX7_count 9 = .ok (.istore 4, 2) := daX7_count (9, .istore 4, 2) (List.mem_of_getElem? (i := 7) rfl)
theorem dX7_count_11 : decode cX7_count 11 = .ok (.iload 4, 2) := daX7_count (11, .iload 4, 2) (List.mem_of_getElem? (i := 8) rfl)
theorem dX7_count_13 : decode cX7_count 13 = .ok (.aload_n 0, 1) := daX7_count (13, .aload_n 0, 1) (List.mem_of_getElem? (i := 9) rfl)
theorem dX7_count_14 : decode cX7_count 14 = .ok (.getfield 258, 3) := daX7_count (14, .getfield 258, 3) (List.mem_of_getElem? (i := 10) rfl)
theorem dX7_count_17 : decode cX7_count 17 = .ok (.if_icmp .ge 75, 3) := daX7_count (17, .if_icmp .ge 75, 3) (List.mem_of_getElem? (i := 11) rfl)
theorem dX7_count_20 : decode cX7_count 20 = .ok (.iconst 0, 1) := daX7_count (20, .iconst 0, 1) (List.mem_of_getElem? (i := 12) rfl)
theorem dX7_count_21 : decode cX7_count 21 = .ok (.istore 5, 2) := daX7_count (21, .istore 5, 2) (List.mem_of_getElem? (i := 13) rfl)
theorem dX7_count_23 : decode cX7_count 23 = .ok (.iload 5, 2) := daX7_count (23, .iload 5, 2) (List.mem_of_getElem? (i := 14) rfl)
theorem dX7_count_25 : decode cX7_count 25 = .ok (.aload_n 0, 1) := daX7_count (25, .aload_n 0, 1) (List.mem_of_getElem? (i := 15) rfl)
theorem dX7_count_26 : decode cX7_count 26 = .ok (.getfield 140, 3) := daX7_count (26, .getfield 140, 3) (List.mem_of_getElem? (i := 16) rfl)
theorem dX7_count_29 : decode cX7_count 29 = .ok (.if_icmp .ge 57, 3) := daX7_count (29, .if_icmp .ge 57, 3) (List.mem_of_getElem? (i := 17) rfl)
theorem dX7_count_32 : decode cX7_count 32 = .ok (.iload_n 2, 1) := daX7_count (32, .iload_n 2, 1) (List.mem_of_getElem? (i := 18) rfl)
theorem dX7_count_33 : decode cX7_count 33 = .ok (.aload_n 0, 1) := daX7_count (33, .aload_n 0, 1) (List.mem_of_getElem? (i := 19) rfl)
theorem dX7_count_34 : decode cX7_count 34 = .ok (.getfield 119, 3) := daX7_count (34, .getfield 119, 3) (List.mem_of_getElem? (i := 20) rfl)
theorem dX7_count_37 : decode cX7_count 37 = .ok (.bipush 10, 2) := daX7_count (37, .bipush 10, 2) (List.mem_of_getElem? (i := 21) rfl)
theorem dX7_count_39 : decode cX7_count 39 = .ok (.iload 4, 2) := daX7_count (39, .iload 4, 2) (List.mem_of_getElem? (i := 22) rfl)
theorem dX7_count_41 : decode cX7_count 41 = .ok (.imul, 1) := daX7_count (41, .imul, 1) (List.mem_of_getElem? (i := 23) rfl)
theorem dX7_count_42 : decode cX7_count 42 = .ok (.iload 5, 2) := daX7_count (42, .iload 5, 2) (List.mem_of_getElem? (i := 24) rfl)
theorem dX7_count_44 : decode cX7_count 44 = .ok (.iadd, 1) := daX7_count (44, .iadd, 1) (List.mem_of_getElem? (i := 25) rfl)
theorem dX7_count_45 : decode cX7_count 45 = .ok (.baload, 1) := daX7_count (45, .baload, 1) (List.mem_of_getElem? (i := 26) rfl)
theorem dX7_count_46 : decode cX7_count 46 = .ok (.ifCond .eq 7, 3) := daX7_count (46, .ifCond .eq 7, 3) (List.mem_of_getElem? (i := 27) rfl)
theorem dX7_count_49 : decode cX7_count 49 = .ok (.iconst 1, 1) := daX7_count (49, .iconst 1, 1) (List.mem_of_getElem? (i := 28) rfl)
theorem dX7_count_50 : decode cX7_count 50 = .ok (.goto 4, 3) := daX7_count (50, .goto 4, 3) (List.mem_of_getElem? (i := 29) rfl)
theorem dX7_count_53 : decode cX7_count 53 = .ok (.iconst 0, 1) := daX7_count (53, .iconst 0, 1) (List.mem_of_getElem? (i := 30) rfl)
theorem dX7_count_54 : decode cX7_count 54 = .ok (.iadd, 1) := daX7_count (54, .iadd, 1) (List.mem_of_getElem? (i := 31) rfl)
theorem dX7_count_55 : decode cX7_count 55 = .ok (.istore_n 2, 1) := daX7_count (55, .istore_n 2, 1) (List.mem_of_getElem? (i := 32) rfl)
theorem dX7_count_56 : decode cX7_count 56 = .ok (.iload_n 3, 1) := daX7_count (56, .iload_n 3, 1) (List.mem_of_getElem? (i := 33) rfl)
theorem dX7_count_57 : decode cX7_count 57 = .ok (.aload_n 0, 1) := daX7_count (57, .aload_n 0, 1) (List.mem_of_getElem? (i := 34) rfl)
theorem dX7_count_58 : decode cX7_count 58 = .ok (.getfield 122, 3) := daX7_count (58, .getfield 122, 3) (List.mem_of_getElem? (i := 35) rfl)
theorem dX7_count_61 : decode cX7_count 61 = .ok (.bipush 10, 2) := daX7_count (61, .bipush 10, 2) (List.mem_of_getElem? (i := 36) rfl)
theorem dX7_count_63 : decode cX7_count 63 = .ok (.iload 4, 2) := daX7_count (63, .iload 4, 2) (List.mem_of_getElem? (i := 37) rfl)
theorem dX7_count_65 : decode cX7_count 65 = .ok (.imul, 1) := daX7_count (65, .imul, 1) (List.mem_of_getElem? (i := 38) rfl)
theorem dX7_count_66 : decode cX7_count 66 = .ok (.iload 5, 2) := daX7_count (66, .iload 5, 2) (List.mem_of_getElem? (i := 39) rfl)
theorem dX7_count_68 : decode cX7_count 68 = .ok (.iadd, 1) := daX7_count (68, .iadd, 1) (List.mem_of_getElem? (i := 40) rfl)
theorem dX7_count_69 : decode cX7_count 69 = .ok (.baload, 1) := daX7_count (69, .baload, 1) (List.mem_of_getElem? (i := 41) rfl)
theorem dX7_count_70 : decode cX7_count 70 = .ok (.ifCond .eq 7, 3) := daX7_count (70, .ifCond .eq 7, 3) (List.mem_of_getElem? (i := 42) rfl)
theorem dX7_count_73 : decode cX7_count 73 = .ok (.iconst 1, 1) := daX7_count (73, .iconst 1, 1) (List.mem_of_getElem? (i := 43) rfl)
theorem dX7_count_74 : decode cX7_count 74 = .ok (.goto 4, 3) := daX7_count (74, .goto 4, 3) (List.mem_of_getElem? (i := 44) rfl)
theorem dX7_count_77 : decode cX7_count 77 = .ok (.iconst 0, 1) := daX7_count (77, .iconst 0, 1) (List.mem_of_getElem? (i := 45) rfl)
theorem dX7_count_78 : decode cX7_count 78 = .ok (.iadd, 1) := daX7_count (78, .iadd, 1) (List.mem_of_getElem? (i := 46) rfl)
theorem dX7_count_79 : decode cX7_count 79 = .ok (.istore_n 3, 1) := daX7_count (79, .istore_n 3, 1) (List.mem_of_getElem? (i := 47) rfl)
theorem dX7_count_80 : decode cX7_count 80 = .ok (.iinc 5 1, 3) := daX7_count (80, .iinc 5 1, 3) (List.mem_of_getElem? (i := 48) rfl)
theorem dX7_count_83 : decode cX7_count 83 = .ok (.goto (-60), 3) := daX7_count (83, .goto (-60), 3) (List.mem_of_getElem? (i := 49) rfl)
theorem dX7_count_86 : decode cX7_count 86 = .ok (.iinc 4 1, 3) := daX7_count (86, .iinc 4 1, 3) (List.mem_of_getElem? (i := 50) rfl)
theorem dX7_count_89 : decode cX7_count 89 = .ok (.goto (-78), 3) := daX7_count (89, .goto (-78), 3) (List.mem_of_getElem? (i := 51) rfl)
theorem dX7_count_92 : decode cX7_count 92 = .ok (.iload_n 1, 1) := daX7_count (92, .iload_n 1, 1) (List.mem_of_getElem? (i := 52) rfl)
theorem dX7_count_93 : decode cX7_count 93 = .ok (.ifCond .ne 10, 3) := daX7_count (93, .ifCond .ne 10, 3) (List.mem_of_getElem? (i := 53) rfl)
theorem dX7_count_96 : decode cX7_count 96 = .ok (.aload_n 0, 1) := daX7_count (96, .aload_n 0, 1) (List.mem_of_getElem? (i := 54) rfl)
theorem dX7_count_97 : decode cX7_count 97 = .ok (.getfield 140, 3) := daX7_count (97, .getfield 140, 3) (List.mem_of_getElem? (i := 55) rfl)
theorem dX7_count_100 : decode cX7_count 100 = .ok (.goto 58, 3) := daX7_count (100, .goto 58, 3) (List.mem_of_getElem? (i := 56) rfl)
theorem dX7_count_103 : decode cX7_count 103 = .ok (.iload_n 1, 1) := daX7_count (103, .iload_n 1, 1) (List.mem_of_getElem? (i := 57) rfl)
theorem dX7_count_104 : decode cX7_count 104 = .ok (.iconst 1, 1) := daX7_count (104, .iconst 1, 1) (List.mem_of_getElem? (i := 58) rfl)
theorem dX7_count_105 : decode cX7_count 105 = .ok (.if_icmp .ne 10, 3) := daX7_count (105, .if_icmp .ne 10, 3) (List.mem_of_getElem? (i := 59) rfl)
theorem dX7_count_108 : decode cX7_count 108 = .ok (.aload_n 0, 1) := daX7_count (108, .aload_n 0, 1) (List.mem_of_getElem? (i := 60) rfl)
theorem dX7_count_109 : decode cX7_count 109 = .ok (.invokevirtual 166, 3) := daX7_count (109, .invokevirtual 166, 3) (List.mem_of_getElem? (i := 61) rfl)
theorem dX7_count_112 : decode cX7_count 112 = .ok (.goto 46, 3) := daX7_count (112, .goto 46, 3) (List.mem_of_getElem? (i := 62) rfl)
theorem dX7_count_115 : decode cX7_count 115 = .ok (.iload_n 1, 1) := daX7_count (115, .iload_n 1, 1) (List.mem_of_getElem? (i := 63) rfl)
theorem dX7_count_116 : decode cX7_count 116 = .ok (.iconst 2, 1) := daX7_count (116, .iconst 2, 1) (List.mem_of_getElem? (i := 64) rfl)
theorem dX7_count_117 : decode cX7_count 117 = .ok (.if_icmp .ne 10, 3) := daX7_count (117, .if_icmp .ne 10, 3) (List.mem_of_getElem? (i := 65) rfl)
theorem dX7_count_120 : decode cX7_count 120 = .ok (.aload_n 0, 1) := daX7_count (120, .aload_n 0, 1) (List.mem_of_getElem? (i := 66) rfl)
theorem dX7_count_121 : decode cX7_count 121 = .ok (.getfield 258, 3) := daX7_count (121, .getfield 258, 3) (List.mem_of_getElem? (i := 67) rfl)
theorem dX7_count_124 : decode cX7_count 124 = .ok (.goto 34, 3) := daX7_count (124, .goto 34, 3) (List.mem_of_getElem? (i := 68) rfl)
theorem dX7_count_127 : decode cX7_count 127 = .ok (.iload_n 1, 1) := daX7_count (127, .iload_n 1, 1) (List.mem_of_getElem? (i := 69) rfl)
theorem dX7_count_128 : decode cX7_count 128 = .ok (.iconst 3, 1) := daX7_count (128, .iconst 3, 1) (List.mem_of_getElem? (i := 70) rfl)
theorem dX7_count_129 : decode cX7_count 129 = .ok (.if_icmp .ne 10, 3) := daX7_count (129, .if_icmp .ne 10, 3) (List.mem_of_getElem? (i := 71) rfl)
theorem dX7_count_132 : decode cX7_count 132 = .ok (.aload_n 0, 1) := daX7_count (132, .aload_n 0, 1) (List.mem_of_getElem? (i := 72) rfl)
theorem dX7_count_133 : decode cX7_count 133 = .ok (.getfield 170, 3) := daX7_count (133, .getfield 170, 3) (List.mem_of_getElem? (i := 73) rfl)
theorem dX7_count_136 : decode cX7_count 136 = .ok (.goto 22, 3) := daX7_count (136, .goto 22, 3) (List.mem_of_getElem? (i := 74) rfl)
theorem dX7_count_139 : decode cX7_count 139 = .ok (.iload_n 1, 1) := daX7_count (139, .iload_n 1, 1) (List.mem_of_getElem? (i := 75) rfl)
theorem dX7_count_140 : decode cX7_count 140 = .ok (.iconst 4, 1) := daX7_count (140, .iconst 4, 1) (List.mem_of_getElem? (i := 76) rfl)
theorem dX7_count_141 : decode cX7_count 141 = .ok (.if_icmp .ne 7, 3) := daX7_count (141, .if_icmp .ne 7, 3) (List.mem_of_getElem? (i := 77) rfl)
theorem dX7_count_144 : decode cX7_count 144 = .ok (.iload_n 2, 1) := daX7_count (144, .iload_n 2, 1) (List.mem_of_getElem? (i := 78) rfl)
theorem dX7_count_145 : decode cX7_count 145 = .ok (.goto 13, 3) := daX7_count (145, .goto 13, 3) (List.mem_of_getElem? (i := 79) rfl)
theorem dX7_count_148 : decode cX7_count 148 = .ok (.iload_n 1, 1) := daX7_count (148, .iload_n 1, 1) (List.mem_of_getElem? (i := 80) rfl)
theorem dX7_count_149 : decode cX7_count 149 = .ok (.iconst 5, 1) := daX7_count (149, .iconst 5, 1) (List.mem_of_getElem? (i := 81) rfl)
theorem dX7_count_150 : decode cX7_count 150 = .ok (.if_icmp .ne 7, 3) := daX7_count (150, .if_icmp .ne 7, 3) (List.mem_of_getElem? (i := 82) rfl)
theorem dX7_count_153 : decode cX7_count 153 = .ok (.iload_n 3, 1) := daX7_count (153, .iload_n 3, 1) (List.mem_of_getElem? (i := 83) rfl)
theorem dX7_count_154 : decode cX7_count 154 = .ok (.goto 4, 3) := daX7_count (154, .goto 4, 3) (List.mem_of_getElem? (i := 84) rfl)
theorem dX7_count_157 : decode cX7_count 157 = .ok (.iconst (-1), 1) := daX7_count (157, .iconst (-1), 1) (List.mem_of_getElem? (i := 85) rfl)
theorem dX7_count_158 : decode cX7_count 158 = .ok (.ireturn, 1) := daX7_count (158, .ireturn, 1) (List.mem_of_getElem? (i := 86) rfl)
def rmX7_count : Room := { frames := 6, cells := 0, slots := 0, locals := 153 }
theorem zdX7_count : yX7_count.cls = RX7 ∧ yX7_count.cls ≠ "java/lang/invoke/MethodHandle" ∧ yX7_count.cls ≠ "java/lang/invoke/VarHandle" ∧ (parseMethodDescriptor yX7_count.desc).map (fun d => d.parameters.length) = some 1 := by decide +kernel
theorem kiX7_count_X7 : ∀ w ∈ wsX70, w ∈ wsX7_count := fun _ h => (List.mem_cons_of_mem _ (List.mem_append_right _ h))
theorem kfX7_count_258 : Cond.fieldLink RX7 258 "ShapeJudgeModel" "shapes" "I" ∈ wsX7_count := (List.mem_of_getElem? (i := 1) rfl)
theorem kfX7_count_140 : Cond.fieldLink RX7 140 "ShapeJudgeModel" "nodes" "I" ∈ wsX7_count := (List.mem_of_getElem? (i := 2) rfl)
theorem kfX7_count_119 : Cond.fieldLink RX7 119 "ShapeJudgeModel" "fitting" "[Z" ∈ wsX7_count := (List.mem_of_getElem? (i := 3) rfl)
theorem kfX7_count_122 : Cond.fieldLink RX7 122 "ShapeJudgeModel" "sure" "[Z" ∈ wsX7_count := (List.mem_of_getElem? (i := 4) rfl)
theorem kfX7_count_170 : Cond.fieldLink RX7 170 "ShapeJudgeModel" "taped" "I" ∈ wsX7_count := (List.mem_of_getElem? (i := 5) rfl)
def t_X7_count_23 (m2 : Mem) (i5 : Int32) (i6 : Int32) (i7 : Int32) (i8 : Int32) : Option ((Int32 × Int32 × Int32) ⊕ (Int32 × Int32)) :=
  (if (m2 0 0) ≤ i8 then (some (.inr (i6, i7))) else (ck (zin (((10 : Int32) * i5) + i8) 60 = true) ((((if (m2 37 (Int32.toNatClampNeg (((10 : Int32) * i5) + i8))) = 0 then (some 0) else (some 1)) : Option (Int32)).bind fun y10 => bn (i6 + y10) fun x11 => ck (zin (((10 : Int32) * i5) + i8) 60 = true) ((if (m2 38 (Int32.toNatClampNeg (((10 : Int32) * i5) + i8))) = 0 then (bn (i7 + 0) fun x13 => bn (i8 + 1) fun x14 => some (.inl (x11, x13, x14))) else (bn (i7 + 1) fun x15 => bn (i8 + 1) fun x16 => some (.inl (x11, x15, x16)))))))))
def l_X7_count_23 (m2 : Mem) (i5 : Int32) (n : Nat) (i6 : Int32) (i7 : Int32) (i8 : Int32) : Option (Int32 × Int32) := zlp n (fun a => t_X7_count_23 m2 i5 a.1 a.2.1 a.2.2) (i6, i7, i8)
def t_X7_count_11 (m2 : Mem) (i3 : Int32) (i4 : Int32) (i5 : Int32) : Option ((Int32 × Int32 × Int32) ⊕ (Int32 × Int32)) :=
  (if (m2 0 7) ≤ i5 then (some (.inr (i3, i4))) else ((zb2 (l_X7_count_23 m2 i5 FU i3 i4 0) fun y20 y21 => bn (i5 + 1) fun x22 => some (.inl (y20, y21, x22)))))
def l_X7_count_11 (m2 : Mem) (n : Nat) (i3 : Int32) (i4 : Int32) (i5 : Int32) : Option (Int32 × Int32) := zlp n (fun a => t_X7_count_11 m2 a.1 a.2.1 a.2.2) (i3, i4, i5)
def s_X7_count (m : Mem) (a1 : Int32) : Option (Int32 × Mem) :=
  (s_X7_read m).bind fun m2 => (zb2 (l_X7_count_11 m2 FU 0 0 0) fun y24 y25 => (if a1 = 0 then (some ((m2 0 0), m2)) else ((if a1 = 1 then ((s_X7_edges m2).bind fun r31 => some (r31, m2)) else ((if a1 = 2 then (some ((m2 0 7), m2)) else ((if a1 = 3 then (some ((m2 0 37), m2)) else ((if a1 = 4 then (some (y24, m2)) else ((if a1 = 5 then (some (y25, m2)) else (some ((-1), m2))))))))))))))
set_option maxRecDepth 100000 in
set_option maxHeartbeats 4000000 in
theorem w_X7_count_23 {K : ZK} (C : zOK MM K cX7_count 6 (some .int) RX7 wsX7_count rmX7_count) {a1 : Int32} {m2 : Mem} {i5 : Int32}  {o0 : Int32} {o1 : Int32} (hk : zGo MM K m2 [(0, .ref ((zw K).2.1 0)), (1, .int a1), (2, .int o0), (3, .int o1), (4, .int i5)] 86 []) : ∀ (n : Nat) (i6 : Int32) (i7 : Int32) (i8 : Int32), l_X7_count_23 m2 i5 n i6 i7 i8 = some (o0, o1) → zGo MM K m2 [(0, .ref ((zw K).2.1 0)), (1, .int a1), (2, .int i6), (3, .int i7), (4, .int i5), (5, .int i8)] 23 [] := by
  intro n
  induction n with
  | zero =>
    intro i6 i7 i8 hf
    cases hf
  | succ n ih =>
    intro i6 i7 i8 hf
    obtain ⟨z, hf, hz⟩ := zlp_el hf
    replace hf : t_X7_count_23 m2 i5 i6 i7 i8 = some z := hf
    unfold t_X7_count_23 at hf
    refine z_iload C 5 dX7_count_23 rfl ?_
    refine z_aload_n C 0 dX7_count_25 rfl rfl ?_
    refine z_geti C (Nat.le_of_ble_eq_true rfl) rfl rfl 0 (Nat.le_of_ble_eq_true rfl) rfl kiX7_count_X7 kfX7_count_140 dX7_count_26 ?_
    refine z_icmp_ge (tgt := 86) C dX7_count_29 (by decide) (fun c19 => ?_) (fun c19 => ?_)
    · replace hf := if_t c19 hf
      cases hf
      replace hz := zlz_r hz
      cases hz
      exact z_sub [0, 1, 2, 3, 4] rfl hk
    · replace hf := if_f c19 hf
      refine z_iload_n C 2 dX7_count_32 rfl rfl ?_
      refine z_aload_n C 0 dX7_count_33 rfl rfl ?_
      refine z_getr C (t := 37) (Nat.le_of_ble_eq_true rfl) rfl rfl 48 (Nat.le_of_ble_eq_true rfl) rfl kiX7_count_X7 kfX7_count_119 dX7_count_34 ?_
      refine z_bipush C (v := 10) dX7_count_37 rfl ?_
      refine z_iload C 4 dX7_count_39 rfl ?_
      refine z_imul C dX7_count_41 ?_
      refine z_iload C 5 dX7_count_42 rfl ?_
      refine z_iadd C dX7_count_44 ?_
      obtain ⟨hi9, hf⟩ := ck_el hf
      refine z_zald C (k := 37) (Nat.le_of_ble_eq_true rfl) rfl hi9 dX7_count_45 ?_
      obtain ⟨y10, hg, hf⟩ := zb_el hf
      have hj : zGo MM K m2 [(0, .ref ((zw K).2.1 0)), (1, .int a1), (3, .int i7), (4, .int i5), (5, .int i8)] 54 [.int y10, .int i6] := by
        refine z_iadd C dX7_count_54 ?_
        refine z_topi (fun x11 e_x11 => ?_)
        replace hf := bn_to e_x11 hf
        refine z_istore_n C (lv2 := [(0, .ref ((zw K).2.1 0)), (1, .int a1), (2, .int x11), (3, .int i7), (4, .int i5), (5, .int i8)]) [1, 2, 0, 3, 4, 5] dX7_count_55 rfl (Nat.le_of_ble_eq_true rfl) rfl ?_
        refine z_iload_n C 3 dX7_count_56 rfl rfl ?_
        refine z_aload_n C 0 dX7_count_57 rfl rfl ?_
        refine z_getr C (t := 38) (Nat.le_of_ble_eq_true rfl) rfl rfl 49 (Nat.le_of_ble_eq_true rfl) rfl kiX7_count_X7 kfX7_count_122 dX7_count_58 ?_
        refine z_bipush C (v := 10) dX7_count_61 rfl ?_
        refine z_iload C 4 dX7_count_63 rfl ?_
        refine z_imul C dX7_count_65 ?_
        refine z_iload C 5 dX7_count_66 rfl ?_
        refine z_iadd C dX7_count_68 ?_
        obtain ⟨hi12, hf⟩ := ck_el hf
        refine z_zald C (k := 38) (Nat.le_of_ble_eq_true rfl) rfl hi12 dX7_count_69 ?_
        refine z_if_eq (tgt := 77) C dX7_count_70 (by decide) (fun c17 => ?_) (fun c17 => ?_)
        · replace hf := if_t c17 hf
          refine z_iconst C (v := 0) dX7_count_77 rfl ?_
          refine z_iadd C dX7_count_78 ?_
          refine z_topi (fun x13 e_x13 => ?_)
          replace hf := bn_to e_x13 hf
          refine z_istore_n C (lv2 := [(0, .ref ((zw K).2.1 0)), (1, .int a1), (2, .int x11), (3, .int x13), (4, .int i5), (5, .int i8)]) [1, 2, 3, 0, 4, 5] dX7_count_79 rfl (Nat.le_of_ble_eq_true rfl) rfl ?_
          obtain ⟨x14, e_x14⟩ : ∃ y : Int32, y = i8 + 1 := ⟨_, rfl⟩
          replace hf := bn_to e_x14 hf
          refine z_iinc C (lv2 := [(0, .ref ((zw K).2.1 0)), (1, .int a1), (2, .int x11), (3, .int x13), (4, .int i5), (5, .int x14)]) 5 [1, 2, 3, 4, 5, 0] dX7_count_80 rfl rfl (Nat.le_of_ble_eq_true rfl) e_x14 rfl ?_
          refine z_goto (tgt := 23) C dX7_count_83 (by decide) ?_
          cases hf
          exact z_sub [0, 1, 2, 3, 4, 5] rfl (ih x11 x13 x14 hz)
        · replace hf := if_f c17 hf
          refine z_iconst C (v := 1) dX7_count_73 rfl ?_
          refine z_goto (tgt := 78) C dX7_count_74 (by decide) ?_
          refine z_iadd C dX7_count_78 ?_
          refine z_topi (fun x15 e_x15 => ?_)
          replace hf := bn_to e_x15 hf
          refine z_istore_n C (lv2 := [(0, .ref ((zw K).2.1 0)), (1, .int a1), (2, .int x11), (3, .int x15), (4, .int i5), (5, .int i8)]) [1, 2, 3, 0, 4, 5] dX7_count_79 rfl (Nat.le_of_ble_eq_true rfl) rfl ?_
          obtain ⟨x16, e_x16⟩ : ∃ y : Int32, y = i8 + 1 := ⟨_, rfl⟩
          replace hf := bn_to e_x16 hf
          refine z_iinc C (lv2 := [(0, .ref ((zw K).2.1 0)), (1, .int a1), (2, .int x11), (3, .int x15), (4, .int i5), (5, .int x16)]) 5 [1, 2, 3, 4, 5, 0] dX7_count_80 rfl rfl (Nat.le_of_ble_eq_true rfl) e_x16 rfl ?_
          refine z_goto (tgt := 23) C dX7_count_83 (by decide) ?_
          cases hf
          exact z_sub [0, 1, 2, 3, 4, 5] rfl (ih x11 x15 x16 hz)
      replace hf := hg
      clear hg
      refine z_if_eq (tgt := 53) C dX7_count_46 (by decide) (fun c18 => ?_) (fun c18 => ?_)
      · replace hf := if_t c18 hf
        refine z_iconst C (v := 0) dX7_count_53 rfl ?_
        cases hf
        exact z_sub [0, 1, 3, 4, 5] rfl hj
      · replace hf := if_f c18 hf
        refine z_iconst C (v := 1) dX7_count_49 rfl ?_
        refine z_goto (tgt := 54) C dX7_count_50 (by decide) ?_
        cases hf
        exact z_sub [0, 1, 3, 4, 5] rfl hj
set_option maxRecDepth 100000 in
set_option maxHeartbeats 4000000 in
theorem w_X7_count_11 {K : ZK} (C : zOK MM K cX7_count 6 (some .int) RX7 wsX7_count rmX7_count) {a1 : Int32} {m2 : Mem}  {o0 : Int32} {o1 : Int32} (hk : zGo MM K m2 [(0, .ref ((zw K).2.1 0)), (1, .int a1), (2, .int o0), (3, .int o1)] 92 []) : ∀ (n : Nat) (i3 : Int32) (i4 : Int32) (i5 : Int32), l_X7_count_11 m2 n i3 i4 i5 = some (o0, o1) → zGo MM K m2 [(0, .ref ((zw K).2.1 0)), (1, .int a1), (2, .int i3), (3, .int i4), (4, .int i5)] 11 [] := by
  intro n
  induction n with
  | zero =>
    intro i3 i4 i5 hf
    cases hf
  | succ n ih =>
    intro i3 i4 i5 hf
    obtain ⟨z, hf, hz⟩ := zlp_el hf
    replace hf : t_X7_count_11 m2 i3 i4 i5 = some z := hf
    unfold t_X7_count_11 at hf
    refine z_iload C 4 dX7_count_11 rfl ?_
    refine z_aload_n C 0 dX7_count_13 rfl rfl ?_
    refine z_geti C (Nat.le_of_ble_eq_true rfl) rfl rfl 7 (Nat.le_of_ble_eq_true rfl) rfl kiX7_count_X7 kfX7_count_258 dX7_count_14 ?_
    refine z_icmp_ge (tgt := 92) C dX7_count_17 (by decide) (fun c23 => ?_) (fun c23 => ?_)
    · replace hf := if_t c23 hf
      cases hf
      replace hz := zlz_r hz
      cases hz
      exact z_sub [0, 1, 2, 3] rfl hk
    · replace hf := if_f c23 hf
      refine z_iconst C (v := 0) dX7_count_20 rfl ?_
      refine z_istore C (lv2 := [(0, .ref ((zw K).2.1 0)), (1, .int a1), (2, .int i3), (3, .int i4), (4, .int i5), (5, .int 0)]) [1, 2, 3, 4, 5, 0] dX7_count_21 (Nat.le_of_ble_eq_true rfl) rfl ?_
      obtain ⟨y20, y21, hg, hf⟩ := zb2_el hf
      refine z_sub [0, 1, 2, 3, 4, 5] rfl (w_X7_count_23 C  ?_ _ _ _ _ hg)
      clear hg
      obtain ⟨x22, e_x22⟩ : ∃ y : Int32, y = i5 + 1 := ⟨_, rfl⟩
      replace hf := bn_to e_x22 hf
      refine z_iinc C (lv2 := [(0, .ref ((zw K).2.1 0)), (1, .int a1), (2, .int y20), (3, .int y21), (4, .int x22)]) 4 [1, 2, 3, 4, 0] dX7_count_86 rfl rfl (Nat.le_of_ble_eq_true rfl) e_x22 rfl ?_
      refine z_goto (tgt := 11) C dX7_count_89 (by decide) ?_
      cases hf
      exact z_sub [0, 1, 2, 3, 4] rfl (ih y20 y21 x22 hz)
set_option maxRecDepth 100000 in
set_option maxHeartbeats 4000000 in
theorem c_X7_count (l : Launch) (w : ZW) {m : Mem} {a1 : Int32} {r9 : Int32} {m9 : Mem}  (hf : s_X7_count m a1 = some (r9, m9)) : zCi MM l w yX7_count wsX7_count rmX7_count [.ref (w.2.1 0), .int a1] m m9 r9 := by
  refine z_met_i MM_ok (own := RX7) (by decide +kernel) rfl rfl (Nat.le_of_ble_eq_true rfl) ?_
  intro K C hKw hKl hret
  subst hKw
  subst hKl
  unfold s_X7_count at hf
  show zGo MM K m [(0, .ref ((zw K).2.1 0)), (1, .int a1)] 0 []
  refine z_iconst C (v := 0) dX7_count_0 rfl ?_
  refine z_istore_n C (lv2 := [(0, .ref ((zw K).2.1 0)), (1, .int a1), (2, .int 0)]) [1, 2, 0] dX7_count_1 rfl (Nat.le_of_ble_eq_true rfl) rfl ?_
  refine z_iconst C (v := 0) dX7_count_2 rfl ?_
  refine z_istore_n C (lv2 := [(0, .ref ((zw K).2.1 0)), (1, .int a1), (2, .int 0), (3, .int 0)]) [1, 2, 3, 0] dX7_count_3 rfl (Nat.le_of_ble_eq_true rfl) rfl ?_
  refine z_aload_n C 0 dX7_count_4 rfl rfl ?_
  obtain ⟨m2, hc1, hf⟩ := zb_el hf
  refine z_cVv C (c_X7_read _ _ hc1) rfl gX7_count_X7_read rfl rfl zdX7_read rfl (Nat.le_of_ble_eq_true rfl) rfl rfl rfl ⟨Nat.le_of_ble_eq_true rfl, Nat.le_of_ble_eq_true rfl⟩ (Nat.le_of_ble_eq_true rfl) dX7_count_5 rfl ?_
  refine z_iconst C (v := 0) dX7_count_8 rfl ?_
  refine z_istore C (lv2 := [(0, .ref ((zw K).2.1 0)), (1, .int a1), (2, .int 0), (3, .int 0), (4, .int 0)]) [1, 2, 3, 4, 0] dX7_count_9 (Nat.le_of_ble_eq_true rfl) rfl ?_
  obtain ⟨y24, y25, hg, hf⟩ := zb2_el hf
  refine z_sub [0, 1, 2, 3, 4] rfl (w_X7_count_11 C  ?_ _ _ _ _ hg)
  clear hg
  refine z_iload_n C 1 dX7_count_92 rfl rfl ?_
  refine z_if_ne (tgt := 103) C dX7_count_93 (by decide) (fun c33 => ?_) (fun c33 => ?_)
  · replace hf := if_f c33 hf
    refine z_iload_n C 1 dX7_count_103 rfl rfl ?_
    refine z_iconst C (v := 1) dX7_count_104 rfl ?_
    refine z_icmp_ne (tgt := 115) C dX7_count_105 (by decide) (fun c32 => ?_) (fun c32 => ?_)
    · replace hf := if_f c32 hf
      refine z_iload_n C 1 dX7_count_115 rfl rfl ?_
      refine z_iconst C (v := 2) dX7_count_116 rfl ?_
      refine z_icmp_ne (tgt := 127) C dX7_count_117 (by decide) (fun c29 => ?_) (fun c29 => ?_)
      · replace hf := if_f c29 hf
        refine z_iload_n C 1 dX7_count_127 rfl rfl ?_
        refine z_iconst C (v := 3) dX7_count_128 rfl ?_
        refine z_icmp_ne (tgt := 139) C dX7_count_129 (by decide) (fun c28 => ?_) (fun c28 => ?_)
        · replace hf := if_f c28 hf
          refine z_iload_n C 1 dX7_count_139 rfl rfl ?_
          refine z_iconst C (v := 4) dX7_count_140 rfl ?_
          refine z_icmp_ne (tgt := 148) C dX7_count_141 (by decide) (fun c27 => ?_) (fun c27 => ?_)
          · replace hf := if_f c27 hf
            refine z_iload_n C 1 dX7_count_148 rfl rfl ?_
            refine z_iconst C (v := 5) dX7_count_149 rfl ?_
            refine z_icmp_ne (tgt := 157) C dX7_count_150 (by decide) (fun c26 => ?_) (fun c26 => ?_)
            · replace hf := if_f c26 hf
              refine z_iconst C (v := (-1)) dX7_count_157 (by decide) ?_
              obtain ⟨e1, e2⟩ := sp_el hf
              subst e1
              subst e2
              exact hret _ _ dX7_count_158
            · replace hf := if_t c26 hf
              refine z_iload_n C 3 dX7_count_153 rfl rfl ?_
              refine z_goto (tgt := 158) C dX7_count_154 (by decide) ?_
              obtain ⟨e1, e2⟩ := sp_el hf
              subst e1
              subst e2
              exact hret _ _ dX7_count_158
          · replace hf := if_t c27 hf
            refine z_iload_n C 2 dX7_count_144 rfl rfl ?_
            refine z_goto (tgt := 158) C dX7_count_145 (by decide) ?_
            obtain ⟨e1, e2⟩ := sp_el hf
            subst e1
            subst e2
            exact hret _ _ dX7_count_158
        · replace hf := if_t c28 hf
          refine z_aload_n C 0 dX7_count_132 rfl rfl ?_
          refine z_geti C (Nat.le_of_ble_eq_true rfl) rfl rfl 37 (Nat.le_of_ble_eq_true rfl) rfl kiX7_count_X7 kfX7_count_170 dX7_count_133 ?_
          refine z_goto (tgt := 158) C dX7_count_136 (by decide) ?_
          obtain ⟨e1, e2⟩ := sp_el hf
          subst e1
          subst e2
          exact hret _ _ dX7_count_158
      · replace hf := if_t c29 hf
        refine z_aload_n C 0 dX7_count_120 rfl rfl ?_
        refine z_geti C (Nat.le_of_ble_eq_true rfl) rfl rfl 7 (Nat.le_of_ble_eq_true rfl) rfl kiX7_count_X7 kfX7_count_258 dX7_count_121 ?_
        refine z_goto (tgt := 158) C dX7_count_124 (by decide) ?_
        obtain ⟨e1, e2⟩ := sp_el hf
        subst e1
        subst e2
        exact hret _ _ dX7_count_158
    · replace hf := if_t c32 hf
      refine z_aload_n C 0 dX7_count_108 rfl rfl ?_
      obtain ⟨r31, hc30, hf⟩ := zb_el hf
      refine z_cVi C (c_X7_edges _ _ hc30) rfl gX7_count_X7_edges rfl rfl zdX7_edges rfl (Nat.le_of_ble_eq_true rfl) rfl rfl rfl ⟨Nat.le_of_ble_eq_true rfl, Nat.le_of_ble_eq_true rfl⟩ (Nat.le_of_ble_eq_true rfl) dX7_count_109 rfl ?_
      refine z_goto (tgt := 158) C dX7_count_112 (by decide) ?_
      obtain ⟨e1, e2⟩ := sp_el hf
      subst e1
      subst e2
      exact hret _ _ dX7_count_158
  · replace hf := if_t c33 hf
    refine z_aload_n C 0 dX7_count_96 rfl rfl ?_
    refine z_geti C (Nat.le_of_ble_eq_true rfl) rfl rfl 0 (Nat.le_of_ble_eq_true rfl) rfl kiX7_count_X7 kfX7_count_140 dX7_count_97 ?_
    refine z_goto (tgt := 158) C dX7_count_100 (by decide) ?_
    obtain ⟨e1, e2⟩ := sp_el hf
    subst e1
    subst e2
    exact hret _ _ dX7_count_158
set_option maxRecDepth 100000 in
theorem daX7_placeOf : ∀ q ∈ ([(0, .iconst 0, 1), (1, .istore 4, 2), (3, .iload 4, 2), (5, .aload_n 0, 1), (6, .getfield 17, 3), (9, .iload_n 1, 1), (10, .iaload, 1), (11, .if_icmp .ge 54, 3), (14, .aload_n 0, 1), (15, .getfield 20, 3), (18, .iconst 5, 1), (19, .iload_n 1, 1), (20, .imul, 1), (21, .iload 4, 2), (23, .iadd, 1), (24, .iaload, 1), (25, .iload_n 2, 1), (26, .if_icmp .lt 33, 3), (29, .aload_n 0, 1), (30, .getfield 20, 3), (33, .iconst 5, 1), (34, .iload_n 1, 1), (35, .imul, 1), (36, .iload 4, 2), (38, .iadd, 1), (39, .iaload, 1), (40, .iload_n 2, 1), (41, .if_icmp .ne 24, 3), (44, .aload_n 0, 1), (45, .getfield 23, 3), (48, .iconst 5, 1), (49, .iload_n 1, 1), (50, .imul, 1), (51, .iload 4, 2), (53, .iadd, 1), (54, .iaload, 1), (55, .iload_n 3, 1), (56, .if_icmp .ge 9, 3), (59, .iinc 4 1, 3), (62, .goto (-59), 3), (65, .iload 4, 2), (67, .ireturn, 1)] : List (Nat × Instr × Nat)), decode cX7_placeOf q.1 = .ok q.2 := by decide +kernel
theorem dX7_placeOf_0 : decode cX7_placeOf 0 = .ok (.iconst 0, 1) := daX7_placeOf (0, .iconst 0, 1) (List.mem_of_getElem? (i := 0) rfl)
theorem dX7_placeOf_1 : decode cX7_placeOf 1 = .ok (.istore 4, 2) := daX7_placeOf (1, .istore 4, 2) (List.mem_of_getElem? (i := 1) rfl)
theorem dX7_placeOf_3 : decode cX7_placeOf 3 = .ok (.iload 4, 2) := daX7_placeOf (3, .iload 4, 2) (List.mem_of_getElem? (i := 2) rfl)
theorem dX7_placeOf_5 : decode cX7_placeOf 5 = .ok (.aload_n 0, 1) := daX7_placeOf (5, .aload_n 0, 1) (List.mem_of_getElem? (i := 3) rfl)
theorem dX7_placeOf_6 : decode cX7_placeOf 6 = .ok (.getfield 17, 3) := daX7_placeOf (6, .getfield 17, 3) (List.mem_of_getElem? (i := 4) rfl)
theorem dX7_placeOf_9 : decode cX7_placeOf 9 = .ok (.iload_n 1, 1) := daX7_placeOf (9, .iload_n 1, 1) (List.mem_of_getElem? (i := 5) rfl)
theorem dX7_placeOf_10 : decode cX7_placeOf 10 = .ok (.iaload, 1) := daX7_placeOf (10, .iaload, 1) (List.mem_of_getElem? (i := 6) rfl)
theorem dX7_placeOf_11 : decode cX7_placeOf 11 = .ok (.if_icmp .ge 54, 3) := daX7_placeOf (11, .if_icmp .ge 54, 3) (List.mem_of_getElem? (i := 7) rfl)
theorem dX7_placeOf_14 : decode cX7_placeOf 14 = .ok (.aload_n 0, 1) := daX7_placeOf (14, .aload_n 0, 1) (List.mem_of_getElem? (i := 8) rfl)
theorem dX7_placeOf_15 : decode cX7_placeOf 15 = .ok (.getfield 20, 3) := daX7_placeOf (15, .getfield 20, 3) (List.mem_of_getElem? (i := 9) rfl)
theorem dX7_placeOf_18 : decode cX7_placeOf 18 = .ok (.iconst 5, 1) := daX7_placeOf (18, .iconst 5, 1) (List.mem_of_getElem? (i := 10) rfl)
theorem dX7_placeOf_19 : decode cX7_placeOf 19 = .ok (.iload_n 1, 1) := daX7_placeOf (19, .iload_n 1, 1) (List.mem_of_getElem? (i := 11) rfl)
theorem dX7_placeOf_20 : decode cX7_placeOf 20 = .ok (.imul, 1) := daX7_placeOf (20, .imul, 1) (List.mem_of_getElem? (i := 12) rfl)
theorem dX7_placeOf_21 : decode cX7_placeOf 21 = .ok (.iload 4, 2) := daX7_placeOf (21, .iload 4, 2) (List.mem_of_getElem? (i := 13) rfl)
theorem dX7_placeOf_23 : decode cX7_placeOf 23 = .ok (.iadd, 1) := daX7_placeOf (23, .iadd, 1) (List.mem_of_getElem? (i := 14) rfl)
theorem dX7_placeOf_24 : decode cX7_placeOf 24 = .ok (.iaload, 1) := daX7_placeOf (24, .iaload, 1) (List.mem_of_getElem? (i := 15) rfl)
theorem dX7_placeOf_25 : decode cX7_placeOf 25 = .ok (.iload_n 2, 1) := daX7_placeOf (25, .iload_n 2, 1) (List.mem_of_getElem? (i := 16) rfl)
theorem dX7_placeOf_26 : decode cX7_placeOf 26 = .ok (.if_icmp .lt 33, 3) := daX7_placeOf (26, .if_icmp .lt 33, 3) (List.mem_of_getElem? (i := 17) rfl)
theorem dX7_placeOf_29 : decode cX7_placeOf 29 = .ok (.aload_n 0, 1) := daX7_placeOf (29, .aload_n 0, 1) (List.mem_of_getElem? (i := 18) rfl)
theorem dX7_placeOf_30 : decode cX7_placeOf 30 = .ok (.getfield 20, 3) := daX7_placeOf (30, .getfield 20, 3) (List.mem_of_getElem? (i := 19) rfl)
theorem dX7_placeOf_33 : decode cX7_placeOf 33 = .ok (.iconst 5, 1) := daX7_placeOf (33, .iconst 5, 1) (List.mem_of_getElem? (i := 20) rfl)
theorem dX7_placeOf_34 : decode cX7_placeOf 34 = .ok (.iload_n 1, 1) := daX7_placeOf (34, .iload_n 1, 1) (List.mem_of_getElem? (i := 21) rfl)
theorem dX7_placeOf_35 : decode cX7_placeOf 35 = .ok (.imul, 1) := daX7_placeOf (35, .imul, 1) (List.mem_of_getElem? (i := 22) rfl)
theorem dX7_placeOf_36 : decode cX7_placeOf 36 = .ok (.iload 4, 2) := daX7_placeOf (36, .iload 4, 2) (List.mem_of_getElem? (i := 23) rfl)
theorem dX7_placeOf_38 : decode cX7_placeOf 38 = .ok (.iadd, 1) := daX7_placeOf (38, .iadd, 1) (List.mem_of_getElem? (i := 24) rfl)
theorem dX7_placeOf_39 : decode cX7_placeOf 39 = .ok (.iaload, 1) := daX7_placeOf (39, .iaload, 1) (List.mem_of_getElem? (i := 25) rfl)
theorem dX7_placeOf_40 : decode cX7_placeOf 40 = .ok (.iload_n 2, 1) := daX7_placeOf (40, .iload_n 2, 1) (List.mem_of_getElem? (i := 26) rfl)
theorem dX7_placeOf_41 : decode cX7_placeOf 41 = .ok (.if_icmp .ne 24, 3) := daX7_placeOf (41, .if_icmp .ne 24, 3) (List.mem_of_getElem? (i := 27) rfl)
theorem dX7_placeOf_44 : decode cX7_placeOf 44 = .ok (.aload_n 0, 1) := daX7_placeOf (44, .aload_n 0, 1) (List.mem_of_getElem? (i := 28) rfl)
theorem dX7_placeOf_45 : decode cX7_placeOf 45 = .ok (.getfield 23, 3) := daX7_placeOf (45, .getfield 23, 3) (List.mem_of_getElem? (i := 29) rfl)
theorem dX7_placeOf_48 : decode cX7_placeOf 48 = .ok (.iconst 5, 1) := daX7_placeOf (48, .iconst 5, 1) (List.mem_of_getElem? (i := 30) rfl)
theorem dX7_placeOf_49 : decode cX7_placeOf 49 = .ok (.iload_n 1, 1) := daX7_placeOf (49, .iload_n 1, 1) (List.mem_of_getElem? (i := 31) rfl)
theorem dX7_placeOf_50 : decode cX7_placeOf 50 = .ok (.imul, 1) := daX7_placeOf (50, .imul, 1) (List.mem_of_getElem? (i := 32) rfl)
theorem dX7_placeOf_51 : decode cX7_placeOf 51 = .ok (.iload 4, 2) := daX7_placeOf (51, .iload 4, 2) (List.mem_of_getElem? (i := 33) rfl)
theorem dX7_placeOf_53 : decode cX7_placeOf 53 = .ok (.iadd, 1) := daX7_placeOf (53, .iadd, 1) (List.mem_of_getElem? (i := 34) rfl)
theorem dX7_placeOf_54 : decode cX7_placeOf 54 = .ok (.iaload, 1) := daX7_placeOf (54, .iaload, 1) (List.mem_of_getElem? (i := 35) rfl)
theorem dX7_placeOf_55 : decode cX7_placeOf 55 = .ok (.iload_n 3, 1) := daX7_placeOf (55, .iload_n 3, 1) (List.mem_of_getElem? (i := 36) rfl)
theorem dX7_placeOf_56 : decode cX7_placeOf 56 = .ok (.if_icmp .ge 9, 3) := daX7_placeOf (56, .if_icmp .ge 9, 3) (List.mem_of_getElem? (i := 37) rfl)
theorem dX7_placeOf_59 : decode cX7_placeOf 59 = .ok (.iinc 4 1, 3) := daX7_placeOf (59, .iinc 4 1, 3) (List.mem_of_getElem? (i := 38) rfl)
theorem dX7_placeOf_62 : decode cX7_placeOf 62 = .ok (.goto (-59), 3) := daX7_placeOf (62, .goto (-59), 3) (List.mem_of_getElem? (i := 39) rfl)
theorem dX7_placeOf_65 : decode cX7_placeOf 65 = .ok (.iload 4, 2) := daX7_placeOf (65, .iload 4, 2) (List.mem_of_getElem? (i := 40) rfl)
theorem dX7_placeOf_67 : decode cX7_placeOf 67 = .ok (.ireturn, 1) := daX7_placeOf (67, .ireturn, 1) (List.mem_of_getElem? (i := 41) rfl)
def rmX7_placeOf : Room := { frames := 0, cells := 0, slots := 0, locals := 0 }
theorem zdX7_placeOf : yX7_placeOf.cls = RX7 ∧ yX7_placeOf.cls ≠ "java/lang/invoke/MethodHandle" ∧ yX7_placeOf.cls ≠ "java/lang/invoke/VarHandle" ∧ (parseMethodDescriptor yX7_placeOf.desc).map (fun d => d.parameters.length) = some 3 := by decide +kernel
theorem kiX7_placeOf_X7 : ∀ w ∈ wsX70, w ∈ wsX7_placeOf := fun _ h => (List.mem_cons_of_mem _ (List.mem_append_right _ h))
theorem kfX7_placeOf_17 : Cond.fieldLink RX7 17 "ShapeJudgeModel" "many" "[I" ∈ wsX7_placeOf := (List.mem_of_getElem? (i := 1) rfl)
theorem kfX7_placeOf_20 : Cond.fieldLink RX7 20 "ShapeJudgeModel" "names" "[I" ∈ wsX7_placeOf := (List.mem_of_getElem? (i := 2) rfl)
theorem kfX7_placeOf_23 : Cond.fieldLink RX7 23 "ShapeJudgeModel" "tos" "[I" ∈ wsX7_placeOf := (List.mem_of_getElem? (i := 3) rfl)
def t_X7_placeOf_3 (m : Mem) (a1 : Int32) (a2 : Int32) (a3 : Int32) (i1 : Int32) : Option ((Int32) ⊕ (Int32)) :=
  ck (zin a1 10 = true) ((if (m 3 (Int32.toNatClampNeg a1)) ≤ i1 then (some (.inr i1)) else (ck (zin (((5 : Int32) * a1) + i1) 50 = true) ((if (m 4 (Int32.toNatClampNeg (((5 : Int32) * a1) + i1))) < a2 then (bn (i1 + 1) fun x4 => some (.inl x4)) else (ck (zin (((5 : Int32) * a1) + i1) 50 = true) ((if (m 4 (Int32.toNatClampNeg (((5 : Int32) * a1) + i1))) = a2 then (ck (zin (((5 : Int32) * a1) + i1) 50 = true) ((if a3 ≤ (m 5 (Int32.toNatClampNeg (((5 : Int32) * a1) + i1))) then (some (.inr i1)) else (bn (i1 + 1) fun x7 => some (.inl x7))))) else (some (.inr i1))))))))))
def l_X7_placeOf_3 (m : Mem) (a1 : Int32) (a2 : Int32) (a3 : Int32) (n : Nat) (i1 : Int32) : Option (Int32) := zlp n (fun a => t_X7_placeOf_3 m a1 a2 a3 a) i1
def s_X7_placeOf (m : Mem) (a1 : Int32) (a2 : Int32) (a3 : Int32) : Option (Int32) :=
  ((l_X7_placeOf_3 m a1 a2 a3 FU 0).bind fun y12 => some y12)
set_option maxRecDepth 100000 in
set_option maxHeartbeats 4000000 in
theorem w_X7_placeOf_3 {K : ZK} (C : zOK MM K cX7_placeOf 5 (some .int) RX7 wsX7_placeOf rmX7_placeOf) {m : Mem} {a1 : Int32} {a2 : Int32} {a3 : Int32}  {o0 : Int32} (hk : zGo MM K m [(4, .int o0)] 65 []) : ∀ (n : Nat) (i1 : Int32), l_X7_placeOf_3 m a1 a2 a3 n i1 = some o0 → zGo MM K m [(0, .ref ((zw K).2.1 0)), (1, .int a1), (2, .int a2), (3, .int a3), (4, .int i1)] 3 [] := by
  intro n
  induction n with
  | zero =>
    intro i1 hf
    cases hf
  | succ n ih =>
    intro i1 hf
    obtain ⟨z, hf, hz⟩ := zlp_el hf
    replace hf : t_X7_placeOf_3 m a1 a2 a3 i1 = some z := hf
    unfold t_X7_placeOf_3 at hf
    refine z_iload C 4 dX7_placeOf_3 rfl ?_
    refine z_aload_n C 0 dX7_placeOf_5 rfl rfl ?_
    refine z_getr C (t := 3) (Nat.le_of_ble_eq_true rfl) rfl rfl 3 (Nat.le_of_ble_eq_true rfl) rfl kiX7_placeOf_X7 kfX7_placeOf_17 dX7_placeOf_6 ?_
    refine z_iload_n C 1 dX7_placeOf_9 rfl rfl ?_
    obtain ⟨hi2, hf⟩ := ck_el hf
    refine z_iald C (k := 3) (Nat.le_of_ble_eq_true rfl) rfl hi2 dX7_placeOf_10 ?_
    refine z_icmp_ge (tgt := 65) C dX7_placeOf_11 (by decide) (fun c11 => ?_) (fun c11 => ?_)
    · replace hf := if_t c11 hf
      cases hf
      replace hz := zlz_r hz
      cases hz
      exact z_sub [4] rfl hk
    · replace hf := if_f c11 hf
      refine z_aload_n C 0 dX7_placeOf_14 rfl rfl ?_
      refine z_getr C (t := 4) (Nat.le_of_ble_eq_true rfl) rfl rfl 4 (Nat.le_of_ble_eq_true rfl) rfl kiX7_placeOf_X7 kfX7_placeOf_20 dX7_placeOf_15 ?_
      refine z_iconst C (v := 5) dX7_placeOf_18 rfl ?_
      refine z_iload_n C 1 dX7_placeOf_19 rfl rfl ?_
      refine z_imul C dX7_placeOf_20 ?_
      refine z_iload C 4 dX7_placeOf_21 rfl ?_
      refine z_iadd C dX7_placeOf_23 ?_
      obtain ⟨hi3, hf⟩ := ck_el hf
      refine z_iald C (k := 4) (Nat.le_of_ble_eq_true rfl) rfl hi3 dX7_placeOf_24 ?_
      refine z_iload_n C 2 dX7_placeOf_25 rfl rfl ?_
      refine z_icmp_lt (tgt := 59) C dX7_placeOf_26 (by decide) (fun c10 => ?_) (fun c10 => ?_)
      · replace hf := if_t c10 hf
        obtain ⟨x4, e_x4⟩ : ∃ y : Int32, y = i1 + 1 := ⟨_, rfl⟩
        replace hf := bn_to e_x4 hf
        refine z_iinc C (lv2 := [(0, .ref ((zw K).2.1 0)), (1, .int a1), (2, .int a2), (3, .int a3), (4, .int x4)]) 4 [1, 2, 3, 4, 0] dX7_placeOf_59 rfl rfl (Nat.le_of_ble_eq_true rfl) e_x4 rfl ?_
        refine z_goto (tgt := 3) C dX7_placeOf_62 (by decide) ?_
        cases hf
        exact z_sub [0, 1, 2, 3, 4] rfl (ih x4 hz)
      · replace hf := if_f c10 hf
        refine z_aload_n C 0 dX7_placeOf_29 rfl rfl ?_
        refine z_getr C (t := 4) (Nat.le_of_ble_eq_true rfl) rfl rfl 4 (Nat.le_of_ble_eq_true rfl) rfl kiX7_placeOf_X7 kfX7_placeOf_20 dX7_placeOf_30 ?_
        refine z_iconst C (v := 5) dX7_placeOf_33 rfl ?_
        refine z_iload_n C 1 dX7_placeOf_34 rfl rfl ?_
        refine z_imul C dX7_placeOf_35 ?_
        refine z_iload C 4 dX7_placeOf_36 rfl ?_
        refine z_iadd C dX7_placeOf_38 ?_
        obtain ⟨hi5, hf⟩ := ck_el hf
        refine z_iald C (k := 4) (Nat.le_of_ble_eq_true rfl) rfl hi5 dX7_placeOf_39 ?_
        refine z_iload_n C 2 dX7_placeOf_40 rfl rfl ?_
        refine z_icmp_ne (tgt := 65) C dX7_placeOf_41 (by decide) (fun c9 => ?_) (fun c9 => ?_)
        · replace hf := if_f c9 hf
          cases hf
          replace hz := zlz_r hz
          cases hz
          exact z_sub [4] rfl hk
        · replace hf := if_t c9 hf
          refine z_aload_n C 0 dX7_placeOf_44 rfl rfl ?_
          refine z_getr C (t := 5) (Nat.le_of_ble_eq_true rfl) rfl rfl 5 (Nat.le_of_ble_eq_true rfl) rfl kiX7_placeOf_X7 kfX7_placeOf_23 dX7_placeOf_45 ?_
          refine z_iconst C (v := 5) dX7_placeOf_48 rfl ?_
          refine z_iload_n C 1 dX7_placeOf_49 rfl rfl ?_
          refine z_imul C dX7_placeOf_50 ?_
          refine z_iload C 4 dX7_placeOf_51 rfl ?_
          refine z_iadd C dX7_placeOf_53 ?_
          obtain ⟨hi6, hf⟩ := ck_el hf
          refine z_iald C (k := 5) (Nat.le_of_ble_eq_true rfl) rfl hi6 dX7_placeOf_54 ?_
          refine z_iload_n C 3 dX7_placeOf_55 rfl rfl ?_
          refine z_icmp_ge (tgt := 65) C dX7_placeOf_56 (by decide) (fun c8 => ?_) (fun c8 => ?_)
          · replace hf := if_t c8 hf
            cases hf
            replace hz := zlz_r hz
            cases hz
            exact z_sub [4] rfl hk
          · replace hf := if_f c8 hf
            obtain ⟨x7, e_x7⟩ : ∃ y : Int32, y = i1 + 1 := ⟨_, rfl⟩
            replace hf := bn_to e_x7 hf
            refine z_iinc C (lv2 := [(0, .ref ((zw K).2.1 0)), (1, .int a1), (2, .int a2), (3, .int a3), (4, .int x7)]) 4 [1, 2, 3, 4, 0] dX7_placeOf_59 rfl rfl (Nat.le_of_ble_eq_true rfl) e_x7 rfl ?_
            refine z_goto (tgt := 3) C dX7_placeOf_62 (by decide) ?_
            cases hf
            exact z_sub [0, 1, 2, 3, 4] rfl (ih x7 hz)
set_option maxRecDepth 100000 in
set_option maxHeartbeats 4000000 in
theorem c_X7_placeOf (l : Launch) (w : ZW) {m : Mem} {a1 : Int32} {a2 : Int32} {a3 : Int32} {r9 : Int32}  (hf : s_X7_placeOf m a1 a2 a3 = some r9) : zCi MM l w yX7_placeOf wsX7_placeOf rmX7_placeOf [.ref (w.2.1 0), .int a1, .int a2, .int a3] m m r9 := by
  refine z_met_i MM_ok (own := RX7) (by decide +kernel) rfl rfl (Nat.le_of_ble_eq_true rfl) ?_
  intro K C hKw hKl hret
  subst hKw
  subst hKl
  unfold s_X7_placeOf at hf
  show zGo MM K m [(0, .ref ((zw K).2.1 0)), (1, .int a1), (2, .int a2), (3, .int a3)] 0 []
  refine z_iconst C (v := 0) dX7_placeOf_0 rfl ?_
  refine z_istore C (lv2 := [(0, .ref ((zw K).2.1 0)), (1, .int a1), (2, .int a2), (3, .int a3), (4, .int 0)]) [1, 2, 3, 4, 0] dX7_placeOf_1 (Nat.le_of_ble_eq_true rfl) rfl ?_
  obtain ⟨y12, hg, hf⟩ := zb_el hf
  refine z_sub [0, 1, 2, 3, 4] rfl (w_X7_placeOf_3 C  ?_ _ _ hg)
  clear hg
  refine z_iload C 0 dX7_placeOf_65 rfl ?_
  have e1 := Option.some.inj hf
  subst e1
  exact hret _ _ dX7_placeOf_67
