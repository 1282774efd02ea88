set_option maxRecDepth 20000 in
theorem ggX7_readCount_X7_is : GoodIn wsX7_readCount wsX7_is := goodIn_sub (List.forall_mem_cons.mpr ⟨(List.mem_of_getElem? (i := 12) rfl), (List.forall_mem_append.mpr ⟨(List.forall_mem_cons.mpr ⟨(List.mem_of_getElem? (i := 2) rfl), (List.forall_mem_cons.mpr ⟨(List.mem_of_getElem? (i := 3) rfl), (List.forall_mem_cons.mpr ⟨(List.mem_of_getElem? (i := 4) rfl), (fun _ h => absurd h List.not_mem_nil)⟩)⟩)⟩), (fun _ h => (List.mem_cons_of_mem _ (List.mem_append_right _ h)))⟩)⟩) (by decide +kernel)
set_option maxRecDepth 20000 in
theorem gX7_readCount_X7_is : GoodIn wsX7_readCount (wsV RX7 228 RX7 yX7_is wsX7_is) := goodIn_app (goodIn_sub (List.forall_mem_cons.mpr ⟨(List.mem_of_getElem? (i := 8) rfl), (List.forall_mem_cons.mpr ⟨(List.mem_of_getElem? (i := 9) rfl), (List.forall_mem_cons.mpr ⟨(List.mem_of_getElem? (i := 10) rfl), (List.forall_mem_cons.mpr ⟨(List.mem_of_getElem? (i := 11) rfl), (fun _ h => absurd h List.not_mem_nil)⟩)⟩)⟩)⟩) (by decide +kernel)) ggX7_readCount_X7_is
set_option maxRecDepth 20000 in
theorem ggX7_readCount_X7_next : GoodIn wsX7_readCount wsX7_next := goodIn_sub (List.forall_mem_cons.mpr ⟨(List.mem_of_getElem? (i := 16) rfl), (List.forall_mem_append.mpr ⟨(List.forall_mem_append.mpr ⟨(show ∀ w ∈ wsX7_next_r1, w ∈ wsX7_readCount from (List.forall_mem_cons.mpr ⟨(List.mem_of_getElem? (i := 17) rfl), (List.forall_mem_cons.mpr ⟨(List.mem_of_getElem? (i := 6) rfl), (List.forall_mem_cons.mpr ⟨(List.mem_of_getElem? (i := 3) rfl), (List.forall_mem_cons.mpr ⟨(List.mem_of_getElem? (i := 18) rfl), (List.forall_mem_cons.mpr ⟨(List.mem_of_getElem? (i := 19) rfl), (List.forall_mem_cons.mpr ⟨(List.mem_of_getElem? (i := 4) rfl), (List.forall_mem_cons.mpr ⟨(List.mem_of_getElem? (i := 20) rfl), (List.forall_mem_cons.mpr ⟨(List.mem_of_getElem? (i := 21) rfl), (List.forall_mem_cons.mpr ⟨(List.mem_of_getElem? (i := 22) rfl), (List.forall_mem_cons.mpr ⟨(List.mem_of_getElem? (i := 23) rfl), (List.forall_mem_cons.mpr ⟨(List.mem_of_getElem? (i := 24) rfl), (List.forall_mem_cons.mpr ⟨(List.mem_of_getElem? (i := 25) rfl), (List.forall_mem_cons.mpr ⟨(List.mem_of_getElem? (i := 26) rfl), (List.forall_mem_cons.mpr ⟨(List.mem_of_getElem? (i := 11) rfl), (List.forall_mem_cons.mpr ⟨(List.mem_of_getElem? (i := 27) rfl), (List.forall_mem_cons.mpr ⟨(List.mem_of_getElem? (i := 28) rfl), (List.forall_mem_cons.mpr ⟨(List.mem_of_getElem? (i := 29) rfl), (List.forall_mem_cons.mpr ⟨(List.mem_of_getElem? (i := 30) rfl), (List.forall_mem_cons.mpr ⟨(List.mem_of_getElem? (i := 31) rfl), (List.forall_mem_cons.mpr ⟨(List.mem_of_getElem? (i := 32) rfl), (List.forall_mem_cons.mpr ⟨(List.mem_of_getElem? (i := 33) rfl), (List.forall_mem_cons.mpr ⟨(List.mem_of_getElem? (i := 34) rfl), (List.forall_mem_cons.mpr ⟨(List.mem_of_getElem? (i := 35) rfl), (List.forall_mem_cons.mpr ⟨(List.mem_of_getElem? (i := 36) rfl), (fun _ h => absurd h List.not_mem_nil)⟩)⟩)⟩)⟩)⟩)⟩)⟩)⟩)⟩)⟩)⟩)⟩)⟩)⟩)⟩)⟩)⟩)⟩)⟩)⟩)⟩)⟩)⟩)⟩)), (show ∀ w ∈ wsX7_next_r2, w ∈ wsX7_readCount from (List.forall_mem_cons.mpr ⟨(List.mem_of_getElem? (i := 2) rfl), (List.forall_mem_cons.mpr ⟨(List.mem_of_getElem? (i := 37) rfl), (List.forall_mem_cons.mpr ⟨(List.mem_of_getElem? (i := 38) rfl), (List.forall_mem_cons.mpr ⟨(List.mem_of_getElem? (i := 39) rfl), (List.forall_mem_cons.mpr ⟨(List.mem_of_getElem? (i := 40) rfl), (List.forall_mem_cons.mpr ⟨(List.mem_of_getElem? (i := 41) rfl), (List.forall_mem_cons.mpr ⟨(List.mem_of_getElem? (i := 42) rfl), (List.forall_mem_cons.mpr ⟨(List.mem_of_getElem? (i := 43) rfl), (List.forall_mem_cons.mpr ⟨(List.mem_of_getElem? (i := 44) rfl), (fun _ h => absurd h List.not_mem_nil)⟩)⟩)⟩)⟩)⟩)⟩)⟩)⟩)⟩))⟩), (fun _ h => (List.mem_cons_of_mem _ (List.mem_append_right _ h)))⟩)⟩) (by decide +kernel)
set_option maxRecDepth 20000 in
theorem gX7_readCount_X7_next : GoodIn wsX7_readCount (wsV RX7 225 RX7 yX7_next wsX7_next) := goodIn_app (goodIn_sub (List.forall_mem_cons.mpr ⟨(List.mem_of_getElem? (i := 13) rfl), (List.forall_mem_cons.mpr ⟨(List.mem_of_getElem? (i := 14) rfl), (List.forall_mem_cons.mpr ⟨(List.mem_of_getElem? (i := 15) rfl), (List.forall_mem_cons.mpr ⟨(List.mem_of_getElem? (i := 11) rfl), (fun _ h => absurd h List.not_mem_nil)⟩)⟩)⟩)⟩) (by decide +kernel)) ggX7_readCount_X7_next
set_option maxRecDepth 20000 in
theorem ggX7_readCount_X7_number : GoodIn wsX7_readCount wsX7_number := goodIn_sub (List.forall_mem_cons.mpr ⟨(List.mem_of_getElem? (i := 48) rfl), (List.forall_mem_append.mpr ⟨(List.forall_mem_append.mpr ⟨(show ∀ w ∈ wsX7_number_r1, w ∈ wsX7_readCount from (List.forall_mem_cons.mpr ⟨(List.mem_of_getElem? (i := 2) rfl), (List.forall_mem_cons.mpr ⟨(List.mem_of_getElem? (i := 3) rfl), (List.forall_mem_cons.mpr ⟨(List.mem_of_getElem? (i := 4) rfl), (List.forall_mem_cons.mpr ⟨(List.mem_of_getElem? (i := 6) rfl), (List.forall_mem_cons.mpr ⟨(List.mem_of_getElem? (i := 30) rfl), (List.forall_mem_cons.mpr ⟨(List.mem_of_getElem? (i := 31) rfl), (List.forall_mem_cons.mpr ⟨(List.mem_of_getElem? (i := 11) rfl), (List.forall_mem_cons.mpr ⟨(List.mem_of_getElem? (i := 32) rfl), (List.forall_mem_cons.mpr ⟨(List.mem_of_getElem? (i := 33) rfl), (List.forall_mem_cons.mpr ⟨(List.mem_of_getElem? (i := 34) rfl), (List.forall_mem_cons.mpr ⟨(List.mem_of_getElem? (i := 35) rfl), (List.forall_mem_cons.mpr ⟨(List.mem_of_getElem? (i := 36) rfl), (List.forall_mem_cons.mpr ⟨(List.mem_of_getElem? (i := 37) rfl), (List.forall_mem_cons.mpr ⟨(List.mem_of_getElem? (i := 49) rfl), (List.forall_mem_cons.mpr ⟨(List.mem_of_getElem? (i := 50) rfl), (List.forall_mem_cons.mpr ⟨(List.mem_of_getElem? (i := 51) rfl), (List.forall_mem_cons.mpr ⟨(List.mem_of_getElem? (i := 52) rfl), (List.forall_mem_cons.mpr ⟨(List.mem_of_getElem? (i := 53) rfl), (List.forall_mem_cons.mpr ⟨(List.mem_of_getElem? (i := 13) rfl), (List.forall_mem_cons.mpr ⟨(List.mem_of_getElem? (i := 14) rfl), (List.forall_mem_cons.mpr ⟨(List.mem_of_getElem? (i := 15) rfl), (List.forall_mem_cons.mpr ⟨(List.mem_of_getElem? (i := 16) rfl), (List.forall_mem_cons.mpr ⟨(List.mem_of_getElem? (i := 17) rfl), (List.forall_mem_cons.mpr ⟨(List.mem_of_getElem? (i := 18) rfl), (fun _ h => absurd h List.not_mem_nil)⟩)⟩)⟩)⟩)⟩)⟩)⟩)⟩)⟩)⟩)⟩)⟩)⟩)⟩)⟩)⟩)⟩)⟩)⟩)⟩)⟩)⟩)⟩)⟩)), (show ∀ w ∈ wsX7_number_r2, w ∈ wsX7_readCount from (List.forall_mem_cons.mpr ⟨(List.mem_of_getElem? (i := 19) rfl), (List.forall_mem_cons.mpr ⟨(List.mem_of_getElem? (i := 20) rfl), (List.forall_mem_cons.mpr ⟨(List.mem_of_getElem? (i := 21) rfl), (List.forall_mem_cons.mpr ⟨(List.mem_of_getElem? (i := 22) rfl), (List.forall_mem_cons.mpr ⟨(List.mem_of_getElem? (i := 23) rfl), (List.forall_mem_cons.mpr ⟨(List.mem_of_getElem? (i := 24) rfl), (List.forall_mem_cons.mpr ⟨(List.mem_of_getElem? (i := 25) rfl), (List.forall_mem_cons.mpr ⟨(List.mem_of_getElem? (i := 26) rfl), (List.forall_mem_cons.mpr ⟨(List.mem_of_getElem? (i := 27) rfl), (List.forall_mem_cons.mpr ⟨(List.mem_of_getElem? (i := 28) rfl), (List.forall_mem_cons.mpr ⟨(List.mem_of_getElem? (i := 29) rfl), (List.forall_mem_cons.mpr ⟨(List.mem_of_getElem? (i := 38) rfl), (List.forall_mem_cons.mpr ⟨(List.mem_of_getElem? (i := 39) rfl), (List.forall_mem_cons.mpr ⟨(List.mem_of_getElem? (i := 40) rfl), (List.forall_mem_cons.mpr ⟨(List.mem_of_getElem? (i := 41) rfl), (List.forall_mem_cons.mpr ⟨(List.mem_of_getElem? (i := 42) rfl), (List.forall_mem_cons.mpr ⟨(List.mem_of_getElem? (i := 43) rfl), (List.forall_mem_cons.mpr ⟨(List.mem_of_getElem? (i := 44) rfl), (fun _ h => absurd h List.not_mem_nil)⟩)⟩)⟩)⟩)⟩)⟩)⟩)⟩)⟩)⟩)⟩)⟩)⟩)⟩)⟩)⟩)⟩)⟩))⟩), (fun _ h => (List.mem_cons_of_mem _ (List.mem_append_right _ h)))⟩)⟩) (by decide +kernel)
set_option maxRecDepth 20000 in
theorem gX7_readCount_X7_number : GoodIn wsX7_readCount (wsV RX7 237 RX7 yX7_number wsX7_number) := goodIn_app (goodIn_sub (List.forall_mem_cons.mpr ⟨(List.mem_of_getElem? (i := 45) rfl), (List.forall_mem_cons.mpr ⟨(List.mem_of_getElem? (i := 46) rfl), (List.forall_mem_cons.mpr ⟨(List.mem_of_getElem? (i := 47) rfl), (List.forall_mem_cons.mpr ⟨(List.mem_of_getElem? (i := 11) rfl), (fun _ h => absurd h List.not_mem_nil)⟩)⟩)⟩)⟩) (by decide +kernel)) ggX7_readCount_X7_number
set_option maxRecDepth 20000 in
theorem ggX7_readCount_X7_in : GoodIn wsX7_readCount wsX7_in := goodIn_sub (List.forall_mem_cons.mpr ⟨(List.mem_of_getElem? (i := 32) rfl), (fun _ h => absurd h List.not_mem_nil)⟩) (by decide +kernel)
set_option maxRecDepth 20000 in
theorem gX7_readCount_X7_in : GoodIn wsX7_readCount (va_wsS RX7 144 yX7_in wsX7_in) := goodIn_app (goodIn_sub (List.forall_mem_cons.mpr ⟨(List.mem_of_getElem? (i := 30) rfl), (List.forall_mem_cons.mpr ⟨(List.mem_of_getElem? (i := 31) rfl), (List.forall_mem_cons.mpr ⟨(List.mem_of_getElem? (i := 11) rfl), (fun _ h => absurd h List.not_mem_nil)⟩)⟩)⟩) (by decide +kernel)) ggX7_readCount_X7_in
set_option maxRecDepth 20000 in
theorem ggX7_readCount_X7_fails : GoodIn wsX7_readCount wsX7_fails := goodIn_sub (List.forall_mem_cons.mpr ⟨(List.mem_of_getElem? (i := 36) rfl), (List.forall_mem_append.mpr ⟨(List.forall_mem_cons.mpr ⟨(List.mem_of_getElem? (i := 2) rfl), (List.forall_mem_cons.mpr ⟨(List.mem_of_getElem? (i := 37) rfl), (fun _ h => absurd h List.not_mem_nil)⟩)⟩), (fun _ h => (List.mem_cons_of_mem _ (List.mem_append_right _ h)))⟩)⟩) (by decide +kernel)
set_option maxRecDepth 20000 in
theorem gX7_readCount_X7_fails : GoodIn wsX7_readCount (wsV RX7 207 RX7 yX7_fails wsX7_fails) := goodIn_app (goodIn_sub (List.forall_mem_cons.mpr ⟨(List.mem_of_getElem? (i := 33) rfl), (List.forall_mem_cons.mpr ⟨(List.mem_of_getElem? (i := 34) rfl), (List.forall_mem_cons.mpr ⟨(List.mem_of_getElem? (i := 35) rfl), (List.forall_mem_cons.mpr ⟨(List.mem_of_getElem? (i := 11) rfl), (fun _ h => absurd h List.not_mem_nil)⟩)⟩)⟩)⟩) (by decide +kernel)) ggX7_readCount_X7_fails
set_option maxRecDepth 20000 in
theorem ggX7_readCount_X7_taken2 : GoodIn wsX7_readCount wsX7_taken2 := goodIn_sub (List.forall_mem_cons.mpr ⟨(List.mem_of_getElem? (i := 57) rfl), (List.forall_mem_append.mpr ⟨(List.forall_mem_append.mpr ⟨(show ∀ w ∈ wsX7_taken2_r1, w ∈ wsX7_readCount from (List.forall_mem_cons.mpr ⟨(List.mem_of_getElem? (i := 2) rfl), (List.forall_mem_cons.mpr ⟨(List.mem_of_getElem? (i := 6) rfl), (List.forall_mem_cons.mpr ⟨(List.mem_of_getElem? (i := 8) rfl), (List.forall_mem_cons.mpr ⟨(List.mem_of_getElem? (i := 9) rfl), (List.forall_mem_cons.mpr ⟨(List.mem_of_getElem? (i := 10) rfl), (List.forall_mem_cons.mpr ⟨(List.mem_of_getElem? (i := 11) rfl), (List.forall_mem_cons.mpr ⟨(List.mem_of_getElem? (i := 12) rfl), (List.forall_mem_cons.mpr ⟨(List.mem_of_getElem? (i := 3) rfl), (List.forall_mem_cons.mpr ⟨(List.mem_of_getElem? (i := 4) rfl), (List.forall_mem_cons.mpr ⟨(List.mem_of_getElem? (i := 33) rfl), (List.forall_mem_cons.mpr ⟨(List.mem_of_getElem? (i := 34) rfl), (List.forall_mem_cons.mpr ⟨(List.mem_of_getElem? (i := 35) rfl), (List.forall_mem_cons.mpr ⟨(List.mem_of_getElem? (i := 36) rfl), (List.forall_mem_cons.mpr ⟨(List.mem_of_getElem? (i := 37) rfl), (List.forall_mem_cons.mpr ⟨(List.mem_of_getElem? (i := 13) rfl), (List.forall_mem_cons.mpr ⟨(List.mem_of_getElem? (i := 14) rfl), (List.forall_mem_cons.mpr ⟨(List.mem_of_getElem? (i := 15) rfl), (List.forall_mem_cons.mpr ⟨(List.mem_of_getElem? (i := 16) rfl), (List.forall_mem_cons.mpr ⟨(List.mem_of_getElem? (i := 17) rfl), (List.forall_mem_cons.mpr ⟨(List.mem_of_getElem? (i := 18) rfl), (List.forall_mem_cons.mpr ⟨(List.mem_of_getElem? (i := 19) rfl), (List.forall_mem_cons.mpr ⟨(List.mem_of_getElem? (i := 20) rfl), (List.forall_mem_cons.mpr ⟨(List.mem_of_getElem? (i := 21) rfl), (List.forall_mem_cons.mpr ⟨(List.mem_of_getElem? (i := 22) rfl), (fun _ h => absurd h List.not_mem_nil)⟩)⟩)⟩)⟩)⟩)⟩)⟩)⟩)⟩)⟩)⟩)⟩)⟩)⟩)⟩)⟩)⟩)⟩)⟩)⟩)⟩)⟩)⟩)⟩)), (show ∀ w ∈ wsX7_taken2_r2, w ∈ wsX7_readCount from (List.forall_mem_cons.mpr ⟨(List.mem_of_getElem? (i := 23) rfl), (List.forall_mem_cons.mpr ⟨(List.mem_of_getElem? (i := 24) rfl), (List.forall_mem_cons.mpr ⟨(List.mem_of_getElem? (i := 25) rfl), (List.forall_mem_cons.mpr ⟨(List.mem_of_getElem? (i := 26) rfl), (List.forall_mem_cons.mpr ⟨(List.mem_of_getElem? (i := 27) rfl), (List.forall_mem_cons.mpr ⟨(List.mem_of_getElem? (i := 28) rfl), (List.forall_mem_cons.mpr ⟨(List.mem_of_getElem? (i := 29) rfl), (List.forall_mem_cons.mpr ⟨(List.mem_of_getElem? (i := 30) rfl), (List.forall_mem_cons.mpr ⟨(List.mem_of_getElem? (i := 31) rfl), (List.forall_mem_cons.mpr ⟨(List.mem_of_getElem? (i := 32) rfl), (List.forall_mem_cons.mpr ⟨(List.mem_of_getElem? (i := 38) rfl), (List.forall_mem_cons.mpr ⟨(List.mem_of_getElem? (i := 39) rfl), (List.forall_mem_cons.mpr ⟨(List.mem_of_getElem? (i := 40) rfl), (List.forall_mem_cons.mpr ⟨(List.mem_of_getElem? (i := 41) rfl), (List.forall_mem_cons.mpr ⟨(List.mem_of_getElem? (i := 42) rfl), (List.forall_mem_cons.mpr ⟨(List.mem_of_getElem? (i := 43) rfl), (List.forall_mem_cons.mpr ⟨(List.mem_of_getElem? (i := 44) rfl), (fun _ h => absurd h List.not_mem_nil)⟩)⟩)⟩)⟩)⟩)⟩)⟩)⟩)⟩)⟩)⟩)⟩)⟩)⟩)⟩)⟩)⟩))⟩), (fun _ h => (List.mem_cons_of_mem _ (List.mem_append_right _ h)))⟩)⟩) (by decide +kernel)
set_option maxRecDepth 20000 in
theorem gX7_readCount_X7_taken2 : GoodIn wsX7_readCount (wsV RX7 243 RX7 yX7_taken2 wsX7_taken2) := goodIn_app (goodIn_sub (List.forall_mem_cons.mpr ⟨(List.mem_of_getElem? (i := 54) rfl), (List.forall_mem_cons.mpr ⟨(List.mem_of_getElem? (i := 55) rfl), (List.forall_mem_cons.mpr ⟨(List.mem_of_getElem? (i := 56) rfl), (List.forall_mem_cons.mpr ⟨(List.mem_of_getElem? (i := 11) rfl), (fun _ h => absurd h List.not_mem_nil)⟩)⟩)⟩)⟩) (by decide +kernel)) ggX7_readCount_X7_taken2
set_option maxRecDepth 100000 in
theorem daX7_readCount : ∀ q ∈ ([(0, .aload_n 0, 1), (1, .bipush 91, 2), (3, .invokevirtual 228, 3), (6, .ifCond .eq 89, 3), (9, .aload_n 0, 1), (10, .invokevirtual 225, 3), (13, .aload_n 0, 1), (14, .getfield 98, 3), (17, .iload_n 1, 1), (18, .aload_n 0, 1), (19, .iconst 0, 1), (20, .iconst 5, 1), (21, .invokevirtual 237, 3), (24, .iastore, 1), (25, .aload_n 0, 1), (26, .getfield 177, 3), (29, .ifCond .ne 48, 3), (32, .aload_n 0, 1), (33, .getfield 193, 3), (36, .iconst 2, 1), (37, .if_icmp .ne 40, 3), (40, .aload_n 0, 1), (41, .getfield 200, 3), (44, .i2l, 1), (45, .lconst 0, 1), (46, .ldc2_w 241, 3), (49, .invokestatic 144, 3), (52, .ifCond .eq 25, 3), (55, .aload_n 0, 1), (56, .getfield 200, 3), (59, .aload_n 0, 1), (60, .getfield 98, 3), (63, .iload_n 1, 1), (64, .iaload, 1), (65, .if_icmp .ge 12, 3), (68, .aload_n 0, 1), (69, .iconst 3, 1), (70, .aload_n 0, 1), (71, .getfield 186, 3), (74, .invokevirtual 207, 3), (77, .aload_n 0, 1), (78, .getfield 101, 3), (81, .iload_n 1, 1), (82, .aload_n 0, 1), (83, .iconst 0, 1), (84, .iconst 5, 1), (85, .invokevirtual 237, 3), (88, .iastore, 1), (89, .aload_n 0, 1), (90, .bipush 93, 2), (92, .invokevirtual 243, 3), (95, .return_, 1)] : List (Nat × Instr × Nat)), decode cX7_readCount q.1 = .ok q.2 := by decide +kernel
theorem dX7_readCount_0 : decode cX7_readCount 0 = .ok (.aload_n 0, 1) := daX7_readCount (0, .aload_n 0, 1) (List.mem_of_getElem? (i := 0) rfl)
theorem dX7_readCount_1 : decode cX7_readCount 1 = .ok (.bipush 91, 2) := daX7_readCount (1, .bipush 91, 2) (List.mem_of_getElem? (i := 1) rfl)
theorem dX7_readCount_3 : decode cX7_readCount 3 = .ok (.invokevirtual 228, 3) := daX7_readCount (3, .invokevirtual 228, 3) (List.mem_of_getElem? (i := 2) rfl)
theorem dX7_readCount_6 : decode cX7_readCount 6 = .ok (.ifCond .eq 89, 3) := daX7_readCount (6, .ifCond .eq 89, 3) (List.mem_of_getElem? (i := 3) rfl)
theorem dX7_readCount_9 : decode cX7_readCount 9 = .ok (.aload_n 0, 1) := daX7_readCount (9, .aload_n 0, 1) (List.mem_of_getElem? (i := 4) rfl)
theorem dX7_readCount_10 : decode cX7_readCount 10 = .ok (.invokevirtual 225, 3) := daX7_readCount (10, .invokevirtual 225, 3) (List.mem_of_getElem? (i := 5) rfl)
theorem dX7_readCount_13 : decode cX7_readCount 13 = .ok (.aload_n 0, 1) := daX7_readCount (13, .aload_n 0, 1) (List.mem_of_getElem? (i := 6) rfl)
theorem dX7_readCount_14 : decode cX7_readCount 14 = .ok (.getfield 98, 3) := daX7_readCount (14, .getfield 98, 3) (List.mem_of_getElem? (i := 7) rfl)
theorem dX7_readCount_17 : decode cX7_readCount 17 = .ok (.iload_n 1, 1) := daX7_readCount (17, .iload_n 1, 1) (List.mem_of_getElem? (i := 8) rfl)
theorem dX7_readCount_18 : decode cX7_readCount 18 = .ok (.aload_n 0, 1) := daX7_readCount (18, .aload_n 0, 1) (List.mem_of_getElem? (i := 9) rfl)
theorem dX7_readCount_19 : decode cX7_readCount 19 = .ok (.iconst 0, 1) := daX7_readCount (19, .iconst 0, 1) (List.mem_of_getElem? (i := 10) rfl)
theorem dX7_readCount_20 : decode cX7_readCount 20 = .ok (.iconst 5, 1) := daX7_readCount (20, .iconst 5, 1) (List.mem_of_getElem? (i := 11) rfl)
theorem dX7_readCount_21 : decode cX7_readCount 21 = .ok (.invokevirtual 237, 3) := daX7_readCount (21, .invokevirtual 237, 3) (List.mem_of_getElem? (i := 12) rfl)
theorem dX7_readCount_24 : decode cX7_readCount 24 = .ok (.iastore, 1) := daX7_readCount (24, .iastore, 1) (List.mem_of_getElem? (i := 13) rfl)
theorem dX7_readCount_25 : decode cX7_readCount 25 = .ok (.aload_n 0, 1) := daX7_readCount (25, .aload_n 0, 1) (List.mem_of_getElem? (i := 14) rfl)
theorem dX7_readCount_26 : decode cX7_readCount 26 = .ok (.getfield 177, 3) := daX7_readCount (26, .getfield 177, 3) (List.mem_of_getElem? (i := 15) rfl)
theorem dX7_readCount_29 : decode cX7_readCount 29 = .ok (.ifCond .ne 48, 3) := daX7_readCount (29, .ifCond .ne 48, 3) (List.mem_of_getElem? (i := 16) rfl)
theorem dX7_readCount_32 : decode cX7_readCount 32 = .ok (.aload_n 0, 1) := daX7_readCount (32, .aload_n 0, 1) (List.mem_of_getElem? (i := 17) rfl)
theorem dX7_readCount_33 : decode cX7_readCount 33 = .ok (.getfield 193, 3) := daX7_readCount (33, .getfield 193, 3) (List.mem_of_getElem? (i := 18) rfl)
theorem dX7_readCount_36 : decode cX7_readCount 36 = .ok (.iconst 2, 1) := daX7_readCount (36, .iconst 2, 1) (List.mem_of_getElem? (i := 19) rfl)
theorem dX7_readCount_37 : decode cX7_readCount 37 = .ok (.if_icmp .ne 40, 3) := daX7_readCount (37, .if_icmp .ne 40, 3) (List.mem_of_getElem? (i := 20) rfl)
theorem dX7_readCount_40 : decode cX7_readCount 40 = .ok (.aload_n 0, 1) := daX7_readCount (40, .aload_n 0, 1) (List.mem_of_getElem? (i := 21) rfl)
theorem dX7_readCount_41 : decode cX7_readCount 41 = .ok (.getfield 200, 3) := daX7_readCount (41, .getfield 200, 3) (List.mem_of_getElem? (i := 22) rfl)
theorem dX7_readCount_44 : decode cX7_readCount 44 = .ok (.i2l, 1) := daX7_readCount (44, .i2l, 1) (List.mem_of_getElem? (i := 23) rfl)
theorem dX7_readCount_45 : decode cX7_readCount 45 = .ok (.lconst 0, 1) := daX7_readCount (45, .lconst 0, 1) (List.mem_of_getElem? (i := 24) rfl)
theorem dX7_readCount_46 : decode cX7_readCount 46 = .ok (.ldc2_w 241, 3) := daX7_readCount (46, .ldc2_w 241, 3) (List.mem_of_getElem? (i := 25) rfl)
theorem dX7_readCount_49 : decode cX7_readCount 49 = .ok (.invokestatic 144, 3) := daX7_readCount (49, .invokestatic 144, 3) (List.mem_of_getElem? (i := 26) rfl)
theorem dX7_readCount_52 : decode cX7_readCount 52 = .ok (.ifCond .eq 25, 3) := daX7_readCount (52, .ifCond .eq 25, 3) (List.mem_of_getElem? (i := 27) rfl)
theorem dX7_readCount_55 : decode cX7_readCount 55 = .ok (.aload_n 0, 1) := daX7_readCount (55, .aload_n 0, 1) (List.mem_of_getElem? (i := 28) rfl)
theorem dX7_readCount_56 : decode cX7_readCount 56 = .ok (.getfield 200, 3) := daX7_readCount (56, .getfield 200, 3) (List.mem_of_getElem? (i := 29) rfl)
theorem dX7_readCount_59 : decode cX7_readCount 59 = .ok (.aload_n 0, 1) := daX7_readCount (59, .aload_n 0, 1) (List.mem_of_getElem? (i := 30) rfl)
theorem dX7_readCount_60 : decode cX7_readCount 60 = .ok (.getfield 98, 3) := daX7_readCount (60, .getfield 98, 3) (List.mem_of_getElem? (i := 31) rfl)
theorem dX7_readCount_63 : decode cX7_readCount 63 = .ok (.iload_n 1, 1) := daX7_readCount (63, .iload_n 1, 1) (List.mem_of_getElem? (i := 32) rfl)
theorem dX7_readCount_64 : decode cX7_readCount 64 = .ok (.iaload, 1) := daX7_readCount (64, .iaload, 1) (List.mem_of_getElem? (i := 33) rfl)
theorem dX7_readCount_65 : decode cX7_readCount 65 = .ok (.if_icmp .ge 12, 3) := daX7_readCount (65, .if_icmp .ge 12, 3) (List.mem_of_getElem? (i := 34) rfl)
theorem dX7_readCount_68 : decode cX7_readCount 68 = .ok (.aload_n 0, 1) := daX7_readCount (68, .aload_n 0, 1) (List.mem_of_getElem? (i := 35) rfl)
theorem dX7_readCount_69 : decode cX7_readCount 69 = .ok (.iconst 3, 1) := daX7_readCount (69, .iconst 3, 1) (List.mem_of_getElem? (i := 36) rfl)
theorem dX7_readCount_70 : decode cX7_readCount 70 = .ok (.aload_n 0, 1) := daX7_readCount (70, .aload_n 0, 1) (List.mem_of_getElem? (i := 37) rfl)
theorem dX7_readCount_71 : decode cX7_readCount 71 = .ok (.getfield 186, 3) := daX7_readCount (71, .getfield 186, 3) (List.mem_of_getElem? (i := 38) rfl)
theorem dX7_readCount_74 : decode cX7_readCount 74 = .ok (.invokevirtual 207, 3) := daX7_readCount (74, .invokevirtual 207, 3) (List.mem_of_getElem? (i := 39) rfl)
theorem dX7_readCount_77 : decode cX7_readCount 77 = .ok (.aload_n 0, 1) := daX7_readCount (77, .aload_n 0, 1) (List.mem_of_getElem? (i := 40) rfl)
theorem dX7_readCount_78 : decode cX7_readCount 78 = .ok (.getfield 101, 3) := daX7_readCount (78, .getfield 101, 3) (List.mem_of_getElem? (i := 41) rfl)
theorem dX7_readCount_81 : decode cX7_readCount 81 = .ok (.iload_n 1, 1) := daX7_readCount (81, .iload_n 1, 1) (List.mem_of_getElem? (i := 42) rfl)
theorem dX7_readCount_82 : decode cX7_readCount 82 = .ok (.aload_n 0, 1) := daX7_readCount (82, .aload_n 0, 1) (List.mem_of_getElem? (i := 43) rfl)
theorem dX7_readCount_83 : decode cX7_readCount 83 = .ok (.iconst 0, 1) := daX7_readCount (83, .iconst 0, 1) (List.mem_of_getElem? (i := 44) rfl)
theorem dX7_readCount_84 : decode cX7_readCount 84 = .ok (.iconst 5, 1) := daX7_readCount (84, .iconst 5, 1) (List.mem_of_getElem? (i := 45) rfl)
theorem dX7_readCount_85 : decode cX7_readCount 85 = .ok (.invokevirtual 237, 3) := daX7_readCount (85, .invokevirtual 237, 3) (List.mem_of_getElem? (i := 46) rfl)
theorem dX7_readCount_88 : decode cX7_readCount 88 = .ok (.iastore, 1) := daX7_readCount (88, .iastore, 1) (List.mem_of_getElem? (i := 47) rfl)
theorem dX7_readCount_89 : decode cX7_readCount 89 = .ok (.aload_n 0, 1) := daX7_readCount (89, .aload_n 0, 1) (List.mem_of_getElem? (i := 48) rfl)
theorem dX7_readCount_90 : decode cX7_readCount 90 = .ok (.bipush 93, 2) := daX7_readCount (90, .bipush 93, 2) (List.mem_of_getElem? (i := 49) rfl)
theorem dX7_readCount_92 : decode cX7_readCount 92 = .ok (.invokevirtual 243, 3) := daX7_readCount (92, .invokevirtual 243, 3) (List.mem_of_getElem? (i := 50) rfl)
theorem dX7_readCount_95 : decode cX7_readCount 95 = .ok (.return_, 1) := daX7_readCount (95, .return_, 1) (List.mem_of_getElem? (i := 51) rfl)
def rmX7_readCount : Room := { frames := 5, cells := 0, slots := 0, locals := 107 }
theorem zdX7_readCount : yX7_readCount.cls = RX7 ∧ yX7_readCount.cls ≠ "java/lang/invoke/MethodHandle" ∧ yX7_readCount.cls ≠ "java/lang/invoke/VarHandle" ∧ (parseMethodDescriptor yX7_readCount.desc).map (fun d => d.parameters.length) = some 1 := by decide +kernel
theorem kiX7_readCount_X7 : ∀ w ∈ wsX70, w ∈ wsX7_readCount := fun _ h => (List.mem_cons_of_mem _ (List.mem_append_right _ h))
theorem kfX7_readCount_98 : Cond.fieldLink RX7 98 "ShapeJudgeModel" "dLeast" "[I" ∈ wsX7_readCount := (List.mem_of_getElem? (i := 1) rfl)
theorem kfX7_readCount_177 : Cond.fieldLink RX7 177 "ShapeJudgeModel" "fault" "I" ∈ wsX7_readCount := (List.mem_of_getElem? (i := 2) rfl)
theorem kfX7_readCount_101 : Cond.fieldLink RX7 101 "ShapeJudgeModel" "dMost" "[I" ∈ wsX7_readCount := (List.mem_of_getElem? (i := 7) rfl)
theorem kfX7_readCount_193 : Cond.fieldLink RX7 193 "ShapeJudgeModel" "sort" "I" ∈ wsX7_readCount := (List.mem_of_getElem? (i := 3) rfl)
theorem kfX7_readCount_200 : Cond.fieldLink RX7 200 "ShapeJudgeModel" "value" "I" ∈ wsX7_readCount := (List.mem_of_getElem? (i := 4) rfl)
theorem kcX7_readCount_241 : Cond.constantLong RX7 241 (5) ∈ wsX7_readCount := (List.mem_of_getElem? (i := 5) rfl)
theorem kfX7_readCount_186 : Cond.fieldLink RX7 186 "ShapeJudgeModel" "from" "I" ∈ wsX7_readCount := (List.mem_of_getElem? (i := 6) rfl)
def s_X7_readCount (m : Mem) (a1 : Int32) : Option (Mem) :=
  (s_X7_is m 91).bind fun r2 => (if r2 = 0 then (some m) else ((s_X7_next m).bind fun m4 => zb2 (s_X7_number m4 0 5) fun r6 m7 => ck (zin a1 960 = true) (bn (sto m7 30 (Int32.toNatClampNeg a1) r6) fun m9 => (if (m9 0 42) = 0 then ((if (m9 0 40) = 2 then ((s_X7_in (m9 0 41).toInt64 0 5).bind fun r25 => (if r25 = 0 then (zb2 (s_X7_number m9 0 5) fun r27 m28 => ck (zin a1 960 = true) (bn (sto m28 31 (Int32.toNatClampNeg a1) r27) fun m30 => (s_X7_taken2 m30 93).bind fun m32 => some m32)) else (ck (zin a1 960 = true) ((if (m9 30 (Int32.toNatClampNeg a1)) ≤ (m9 0 41) then (zb2 (s_X7_number m9 0 5) fun r35 m36 => ck (zin a1 960 = true) (bn (sto m36 31 (Int32.toNatClampNeg a1) r35) fun m38 => (s_X7_taken2 m38 93).bind fun m40 => some m40)) else ((s_X7_fails m9 3 (m9 0 39)).bind fun m42 => zb2 (s_X7_number m42 0 5) fun r44 m45 => ck (zin a1 960 = true) (bn (sto m45 31 (Int32.toNatClampNeg a1) r44) fun m47 => (s_X7_taken2 m47 93).bind fun m49 => some m49))))))) else (zb2 (s_X7_number m9 0 5) fun r18 m19 => ck (zin a1 960 = true) (bn (sto m19 31 (Int32.toNatClampNeg a1) r18) fun m21 => (s_X7_taken2 m21 93).bind fun m23 => some m23)))) else (zb2 (s_X7_number m9 0 5) fun r11 m12 => ck (zin a1 960 = true) (bn (sto m12 31 (Int32.toNatClampNeg a1) r11) fun m14 => (s_X7_taken2 m14 93).bind fun m16 => some m16))))))
set_option maxRecDepth 100000 in
set_option maxHeartbeats 4000000 in
theorem c_X7_readCount (l : Launch) (w : ZW) {m : Mem} {a1 : Int32} {m9 : Mem}  (hf : s_X7_readCount m a1 = some m9) : zCv MM l w yX7_readCount wsX7_readCount rmX7_readCount [.ref (w.2.1 0), .int a1] m m9 := by
  refine z_met_v MM_ok (own := RX7) (by decide +kernel) rfl rfl (Nat.le_of_ble_eq_true rfl) ?_
  intro K C hKw hKl hret
  subst hKw
  subst hKl
  unfold s_X7_readCount at hf
  show zGo MM K m [(0, .ref ((zw K).2.1 0)), (1, .int a1)] 0 []
  refine z_aload_n C 0 dX7_readCount_0 rfl rfl ?_
  refine z_bipush C (v := 91) dX7_readCount_1 rfl ?_
  obtain ⟨r2, hc1, hf⟩ := zb_el hf
  refine z_cVi C (c_X7_is _ _ hc1) rfl gX7_readCount_X7_is rfl rfl zdX7_is rfl (Nat.le_of_ble_eq_true rfl) rfl rfl rfl ⟨Nat.le_of_ble_eq_true rfl, Nat.le_of_ble_eq_true rfl⟩ (Nat.le_of_ble_eq_true rfl) dX7_readCount_3 rfl ?_
  refine z_if_eq (tgt := 95) C dX7_readCount_6 (by decide) (fun c54 => ?_) (fun c54 => ?_)
  · replace hf := if_t c54 hf
    have e1 := Option.some.inj hf
    subst e1
    exact hret _ _ dX7_readCount_95
  · replace hf := if_f c54 hf
    refine z_aload_n C 0 dX7_readCount_9 rfl rfl ?_
    obtain ⟨m4, hc3, hf⟩ := zb_el hf
    refine z_cVv C (c_X7_next _ _ hc3) rfl gX7_readCount_X7_next rfl rfl zdX7_next rfl (Nat.le_of_ble_eq_true rfl) rfl rfl rfl ⟨Nat.le_of_ble_eq_true rfl, Nat.le_of_ble_eq_true rfl⟩ (Nat.le_of_ble_eq_true rfl) dX7_readCount_10 rfl ?_
    refine z_aload_n C 0 dX7_readCount_13 rfl rfl ?_
    refine z_getr C (t := 30) (Nat.le_of_ble_eq_true rfl) rfl rfl 33 (Nat.le_of_ble_eq_true rfl) rfl kiX7_readCount_X7 kfX7_readCount_98 dX7_readCount_14 ?_
    refine z_iload_n C 1 dX7_readCount_17 rfl rfl ?_
    refine z_aload_n C 0 dX7_readCount_18 rfl rfl ?_
    refine z_iconst C (v := 0) dX7_readCount_19 rfl ?_
    refine z_iconst C (v := 5) dX7_readCount_20 rfl ?_
    obtain ⟨r6, m7, hc5, hf⟩ := zb2_el hf
    refine z_cVi C (c_X7_number _ _ hc5) rfl gX7_readCount_X7_number rfl rfl zdX7_number rfl (Nat.le_of_ble_eq_true rfl) rfl rfl rfl ⟨Nat.le_of_ble_eq_true rfl, Nat.le_of_ble_eq_true rfl⟩ (Nat.le_of_ble_eq_true rfl) dX7_readCount_21 rfl ?_
    obtain ⟨hi8, hf⟩ := ck_el hf
    refine z_iast C (k := 30) (Nat.le_of_ble_eq_true rfl) rfl hi8 dX7_readCount_24 ?_
    refine z_nm (fun m9 e_m9 => ?_)
    replace hf := bn_to e_m9 hf
    refine z_aload_n C 0 dX7_readCount_25 rfl rfl ?_
    refine z_geti C (Nat.le_of_ble_eq_true rfl) rfl rfl 42 (Nat.le_of_ble_eq_true rfl) rfl kiX7_readCount_X7 kfX7_readCount_177 dX7_readCount_26 ?_
    refine z_if_ne (tgt := 77) C dX7_readCount_29 (by decide) (fun c53 => ?_) (fun c53 => ?_)
    · replace hf := if_f c53 hf
      refine z_aload_n C 0 dX7_readCount_77 rfl rfl ?_
      refine z_getr C (t := 31) (Nat.le_of_ble_eq_true rfl) rfl rfl 34 (Nat.le_of_ble_eq_true rfl) rfl kiX7_readCount_X7 kfX7_readCount_101 dX7_readCount_78 ?_
      refine z_iload_n C 1 dX7_readCount_81 rfl rfl ?_
      refine z_aload_n C 0 dX7_readCount_82 rfl rfl ?_
      refine z_iconst C (v := 0) dX7_readCount_83 rfl ?_
      refine z_iconst C (v := 5) dX7_readCount_84 rfl ?_
      obtain ⟨r11, m12, hc10, hf⟩ := zb2_el hf
      refine z_cVi C (c_X7_number _ _ hc10) rfl gX7_readCount_X7_number rfl rfl zdX7_number rfl (Nat.le_of_ble_eq_true rfl) rfl rfl rfl ⟨Nat.le_of_ble_eq_true rfl, Nat.le_of_ble_eq_true rfl⟩ (Nat.le_of_ble_eq_true rfl) dX7_readCount_85 rfl ?_
      obtain ⟨hi13, hf⟩ := ck_el hf
      refine z_iast C (k := 31) (Nat.le_of_ble_eq_true rfl) rfl hi13 dX7_readCount_88 ?_
      refine z_nm (fun m14 e_m14 => ?_)
      replace hf := bn_to e_m14 hf
      refine z_aload_n C 0 dX7_readCount_89 rfl rfl ?_
      refine z_bipush C (v := 93) dX7_readCount_90 rfl ?_
      obtain ⟨m16, hc15, hf⟩ := zb_el hf
      refine z_cVv C (c_X7_taken2 _ _ hc15) rfl gX7_readCount_X7_taken2 rfl rfl zdX7_taken2 rfl (Nat.le_of_ble_eq_true rfl) rfl rfl rfl ⟨Nat.le_of_ble_eq_true rfl, Nat.le_of_ble_eq_true rfl⟩ (Nat.le_of_ble_eq_true rfl) dX7_readCount_92 rfl ?_
      have e1 := Option.some.inj hf
      subst e1
      exact hret _ _ dX7_readCount_95
    · replace hf := if_t c53 hf
      refine z_aload_n C 0 dX7_readCount_32 rfl rfl ?_
      refine z_geti C (Nat.le_of_ble_eq_true rfl) rfl rfl 40 (Nat.le_of_ble_eq_true rfl) rfl kiX7_readCount_X7 kfX7_readCount_193 dX7_readCount_33 ?_
      refine z_iconst C (v := 2) dX7_readCount_36 rfl ?_
      refine z_icmp_ne (tgt := 77) C dX7_readCount_37 (by decide) (fun c52 => ?_) (fun c52 => ?_)
      · replace hf := if_f c52 hf
        refine z_aload_n C 0 dX7_readCount_77 rfl rfl ?_
        refine z_getr C (t := 31) (Nat.le_of_ble_eq_true rfl) rfl rfl 34 (Nat.le_of_ble_eq_true rfl) rfl kiX7_readCount_X7 kfX7_readCount_101 dX7_readCount_78 ?_
        refine z_iload_n C 1 dX7_readCount_81 rfl rfl ?_
        refine z_aload_n C 0 dX7_readCount_82 rfl rfl ?_
        refine z_iconst C (v := 0) dX7_readCount_83 rfl ?_
        refine z_iconst C (v := 5) dX7_readCount_84 rfl ?_
        obtain ⟨r18, m19, hc17, hf⟩ := zb2_el hf
        refine z_cVi C (c_X7_number _ _ hc17) rfl gX7_readCount_X7_number rfl rfl zdX7_number rfl (Nat.le_of_ble_eq_true rfl) rfl rfl rfl ⟨Nat.le_of_ble_eq_true rfl, Nat.le_of_ble_eq_true rfl⟩ (Nat.le_of_ble_eq_true rfl) dX7_readCount_85 rfl ?_
        obtain ⟨hi20, hf⟩ := ck_el hf
        refine z_iast C (k := 31) (Nat.le_of_ble_eq_true rfl) rfl hi20 dX7_readCount_88 ?_
        refine z_nm (fun m21 e_m21 => ?_)
        replace hf := bn_to e_m21 hf
        refine z_aload_n C 0 dX7_readCount_89 rfl rfl ?_
        refine z_bipush C (v := 93) dX7_readCount_90 rfl ?_
        obtain ⟨m23, hc22, hf⟩ := zb_el hf
        refine z_cVv C (c_X7_taken2 _ _ hc22) rfl gX7_readCount_X7_taken2 rfl rfl zdX7_taken2 rfl (Nat.le_of_ble_eq_true rfl) rfl rfl rfl ⟨Nat.le_of_ble_eq_true rfl, Nat.le_of_ble_eq_true rfl⟩ (Nat.le_of_ble_eq_true rfl) dX7_readCount_92 rfl ?_
        have e1 := Option.some.inj hf
        subst e1
        exact hret _ _ dX7_readCount_95
      · replace hf := if_t c52 hf
        refine z_aload_n C 0 dX7_readCount_40 rfl rfl ?_
        refine z_geti C (Nat.le_of_ble_eq_true rfl) rfl rfl 41 (Nat.le_of_ble_eq_true rfl) rfl kiX7_readCount_X7 kfX7_readCount_200 dX7_readCount_41 ?_
        refine z_i2l C dX7_readCount_44 ?_
        refine z_lconst C (v := 0) dX7_readCount_45 rfl ?_
        refine z_ldc2 C (v := 5) dX7_readCount_46 kcX7_readCount_241 ?_
        obtain ⟨r25, hc24, hf⟩ := zb_el hf
        refine z_cSi C (c_X7_in _ _ hc24) rfl gX7_readCount_X7_in rfl rfl zdX7_in.2 rfl ⟨Nat.le_of_ble_eq_true rfl, Nat.le_of_ble_eq_true rfl⟩ (Nat.le_of_ble_eq_true rfl) dX7_readCount_49 rfl ?_
        refine z_if_eq (tgt := 77) C dX7_readCount_52 (by decide) (fun c51 => ?_) (fun c51 => ?_)
        · replace hf := if_t c51 hf
          refine z_aload_n C 0 dX7_readCount_77 rfl rfl ?_
          refine z_getr C (t := 31) (Nat.le_of_ble_eq_true rfl) rfl rfl 34 (Nat.le_of_ble_eq_true rfl) rfl kiX7_readCount_X7 kfX7_readCount_101 dX7_readCount_78 ?_
          refine z_iload_n C 1 dX7_readCount_81 rfl rfl ?_
          refine z_aload_n C 0 dX7_readCount_82 rfl rfl ?_
          refine z_iconst C (v := 0) dX7_readCount_83 rfl ?_
          refine z_iconst C (v := 5) dX7_readCount_84 rfl ?_
          obtain ⟨r27, m28, hc26, hf⟩ := zb2_el hf
          refine z_cVi C (c_X7_number _ _ hc26) rfl gX7_readCount_X7_number rfl rfl zdX7_number rfl (Nat.le_of_ble_eq_true rfl) rfl rfl rfl ⟨Nat.le_of_ble_eq_true rfl, Nat.le_of_ble_eq_true rfl⟩ (Nat.le_of_ble_eq_true rfl) dX7_readCount_85 rfl ?_
          obtain ⟨hi29, hf⟩ := ck_el hf
          refine z_iast C (k := 31) (Nat.le_of_ble_eq_true rfl) rfl hi29 dX7_readCount_88 ?_
          refine z_nm (fun m30 e_m30 => ?_)
          replace hf := bn_to e_m30 hf
          refine z_aload_n C 0 dX7_readCount_89 rfl rfl ?_
          refine z_bipush C (v := 93) dX7_readCount_90 rfl ?_
          obtain ⟨m32, hc31, hf⟩ := zb_el hf
          refine z_cVv C (c_X7_taken2 _ _ hc31) rfl gX7_readCount_X7_taken2 rfl rfl zdX7_taken2 rfl (Nat.le_of_ble_eq_true rfl) rfl rfl rfl ⟨Nat.le_of_ble_eq_true rfl, Nat.le_of_ble_eq_true rfl⟩ (Nat.le_of_ble_eq_true rfl) dX7_readCount_92 rfl ?_
          have e1 := Option.some.inj hf
          subst e1
          exact hret _ _ dX7_readCount_95
        · replace hf := if_f c51 hf
          refine z_aload_n C 0 dX7_readCount_55 rfl rfl ?_
          refine z_geti C (Nat.le_of_ble_eq_true rfl) rfl rfl 41 (Nat.le_of_ble_eq_true rfl) rfl kiX7_readCount_X7 kfX7_readCount_200 dX7_readCount_56 ?_
          refine z_aload_n C 0 dX7_readCount_59 rfl rfl ?_
          refine z_getr C (t := 30) (Nat.le_of_ble_eq_true rfl) rfl rfl 33 (Nat.le_of_ble_eq_true rfl) rfl kiX7_readCount_X7 kfX7_readCount_98 dX7_readCount_60 ?_
          refine z_iload_n C 1 dX7_readCount_63 rfl rfl ?_
          obtain ⟨hi33, hf⟩ := ck_el hf
          refine z_iald C (k := 30) (Nat.le_of_ble_eq_true rfl) rfl hi33 dX7_readCount_64 ?_
          refine z_icmp_ge (tgt := 77) C dX7_readCount_65 (by decide) (fun c50 => ?_) (fun c50 => ?_)
          · replace hf := if_t c50 hf
            refine z_aload_n C 0 dX7_readCount_77 rfl rfl ?_
            refine z_getr C (t := 31) (Nat.le_of_ble_eq_true rfl) rfl rfl 34 (Nat.le_of_ble_eq_true rfl) rfl kiX7_readCount_X7 kfX7_readCount_101 dX7_readCount_78 ?_
            refine z_iload_n C 1 dX7_readCount_81 rfl rfl ?_
            refine z_aload_n C 0 dX7_readCount_82 rfl rfl ?_
            refine z_iconst C (v := 0) dX7_readCount_83 rfl ?_
            refine z_iconst C (v := 5) dX7_readCount_84 rfl ?_
            obtain ⟨r35, m36, hc34, hf⟩ := zb2_el hf
            refine z_cVi C (c_X7_number _ _ hc34) rfl gX7_readCount_X7_number rfl rfl zdX7_number rfl (Nat.le_of_ble_eq_true rfl) rfl rfl rfl ⟨Nat.le_of_ble_eq_true rfl, Nat.le_of_ble_eq_true rfl⟩ (Nat.le_of_ble_eq_true rfl) dX7_readCount_85 rfl ?_
            obtain ⟨hi37, hf⟩ := ck_el hf
            refine z_iast C (k := 31) (Nat.le_of_ble_eq_true rfl) rfl hi37 dX7_readCount_88 ?_
            refine z_nm (fun m38 e_m38 => ?_)
            replace hf := bn_to e_m38 hf
            refine z_aload_n C 0 dX7_readCount_89 rfl rfl ?_
            refine z_bipush C (v := 93) dX7_readCount_90 rfl ?_
            obtain ⟨m40, hc39, hf⟩ := zb_el hf
            refine z_cVv C (c_X7_taken2 _ _ hc39) rfl gX7_readCount_X7_taken2 rfl rfl zdX7_taken2 rfl (Nat.le_of_ble_eq_true rfl) rfl rfl rfl ⟨Nat.le_of_ble_eq_true rfl, Nat.le_of_ble_eq_true rfl⟩ (Nat.le_of_ble_eq_true rfl) dX7_readCount_92 rfl ?_
            have e1 := Option.some.inj hf
            subst e1
            exact hret _ _ dX7_readCount_95
          · replace hf := if_f c50 hf
            refine z_aload_n C 0 dX7_readCount_68 rfl rfl ?_
            refine z_iconst C (v := 3) dX7_readCount_69 rfl ?_
            refine z_aload_n C 0 dX7_readCount_70 rfl rfl ?_
            refine z_geti C (Nat.le_of_ble_eq_true rfl) rfl rfl 39 (Nat.le_of_ble_eq_true rfl) rfl kiX7_readCount_X7 kfX7_readCount_186 dX7_readCount_71 ?_
            obtain ⟨m42, hc41, hf⟩ := zb_el hf
            refine z_cVv C (c_X7_fails _ _ hc41) rfl gX7_readCount_X7_fails rfl rfl zdX7_fails rfl (Nat.le_of_ble_eq_true rfl) rfl rfl rfl ⟨Nat.le_of_ble_eq_true rfl, Nat.le_of_ble_eq_true rfl⟩ (Nat.le_of_ble_eq_true rfl) dX7_readCount_74 rfl ?_
            refine z_aload_n C 0 dX7_readCount_77 rfl rfl ?_
            refine z_getr C (t := 31) (Nat.le_of_ble_eq_true rfl) rfl rfl 34 (Nat.le_of_ble_eq_true rfl) rfl kiX7_readCount_X7 kfX7_readCount_101 dX7_readCount_78 ?_
            refine z_iload_n C 1 dX7_readCount_81 rfl rfl ?_
            refine z_aload_n C 0 dX7_readCount_82 rfl rfl ?_
            refine z_iconst C (v := 0) dX7_readCount_83 rfl ?_
            refine z_iconst C (v := 5) dX7_readCount_84 rfl ?_
            obtain ⟨r44, m45, hc43, hf⟩ := zb2_el hf
            refine z_cVi C (c_X7_number _ _ hc43) rfl gX7_readCount_X7_number rfl rfl zdX7_number rfl (Nat.le_of_ble_eq_true rfl) rfl rfl rfl ⟨Nat.le_of_ble_eq_true rfl, Nat.le_of_ble_eq_true rfl⟩ (Nat.le_of_ble_eq_true rfl) dX7_readCount_85 rfl ?_
            obtain ⟨hi46, hf⟩ := ck_el hf
            refine z_iast C (k := 31) (Nat.le_of_ble_eq_true rfl) rfl hi46 dX7_readCount_88 ?_
            refine z_nm (fun m47 e_m47 => ?_)
            replace hf := bn_to e_m47 hf
            refine z_aload_n C 0 dX7_readCount_89 rfl rfl ?_
            refine z_bipush C (v := 93) dX7_readCount_90 rfl ?_
            obtain ⟨m49, hc48, hf⟩ := zb_el hf
            refine z_cVv C (c_X7_taken2 _ _ hc48) rfl gX7_readCount_X7_taken2 rfl rfl zdX7_taken2 rfl (Nat.le_of_ble_eq_true rfl) rfl rfl rfl ⟨Nat.le_of_ble_eq_true rfl, Nat.le_of_ble_eq_true rfl⟩ (Nat.le_of_ble_eq_true rfl) dX7_readCount_92 rfl ?_
            have e1 := Option.some.inj hf
            subst e1
            exact hret _ _ dX7_readCount_95
set_option maxRecDepth 20000 in
theorem ggX7_readAny_X7_comes : GoodIn wsX7_readAny wsX7_comes := goodIn_sub (List.forall_mem_cons.mpr ⟨(List.mem_of_getElem? (i := 11) rfl), (List.forall_mem_append.mpr ⟨(List.forall_mem_cons.mpr ⟨(List.mem_of_getElem? (i := 12) rfl), (List.forall_mem_cons.mpr ⟨(List.mem_of_getElem? (i := 13) rfl), (List.forall_mem_cons.mpr ⟨(List.mem_of_getElem? (i := 14) rfl), (List.forall_mem_cons.mpr ⟨(List.mem_of_getElem? (i := 6) rfl), (List.forall_mem_cons.mpr ⟨(List.mem_of_getElem? (i := 15) rfl), (List.forall_mem_cons.mpr ⟨(List.mem_of_getElem? (i := 16) rfl), (List.forall_mem_cons.mpr ⟨(List.mem_of_getElem? (i := 17) rfl), (fun _ h => absurd h List.not_mem_nil)⟩)⟩)⟩)⟩)⟩)⟩)⟩), (fun _ h => (List.mem_cons_of_mem _ (List.mem_append_right _ h)))⟩)⟩) (by decide +kernel)
set_option maxRecDepth 20000 in
theorem gX7_readAny_X7_comes : GoodIn wsX7_readAny (wsV RX7 246 RX7 yX7_comes wsX7_comes) := goodIn_app (goodIn_sub (List.forall_mem_cons.mpr ⟨(List.mem_of_getElem? (i := 7) rfl), (List.forall_mem_cons.mpr ⟨(List.mem_of_getElem? (i := 8) rfl), (List.forall_mem_cons.mpr ⟨(List.mem_of_getElem? (i := 9) rfl), (List.forall_mem_cons.mpr ⟨(List.mem_of_getElem? (i := 10) rfl), (fun _ h => absurd h List.not_mem_nil)⟩)⟩)⟩)⟩) (by decide +kernel)) ggX7_readAny_X7_comes
set_option maxRecDepth 20000 in
theorem ggX7_readAny_X7_is : GoodIn wsX7_readAny wsX7_is := goodIn_sub (List.forall_mem_cons.mpr ⟨(List.mem_of_getElem? (i := 21) rfl), (List.forall_mem_append.mpr ⟨(List.forall_mem_cons.mpr ⟨(List.mem_of_getElem? (i := 3) rfl), (List.forall_mem_cons.mpr ⟨(List.mem_of_getElem? (i := 5) rfl), (List.forall_mem_cons.mpr ⟨(List.mem_of_getElem? (i := 22) rfl), (fun _ h => absurd h List.not_mem_nil)⟩)⟩)⟩), (fun _ h => (List.mem_cons_of_mem _ (List.mem_append_right _ h)))⟩)⟩) (by decide +kernel)
set_option maxRecDepth 20000 in
theorem gX7_readAny_X7_is : GoodIn wsX7_readAny (wsV RX7 228 RX7 yX7_is wsX7_is) := goodIn_app (goodIn_sub (List.forall_mem_cons.mpr ⟨(List.mem_of_getElem? (i := 18) rfl), (List.forall_mem_cons.mpr ⟨(List.mem_of_getElem? (i := 19) rfl), (List.forall_mem_cons.mpr ⟨(List.mem_of_getElem? (i := 20) rfl), (List.forall_mem_cons.mpr ⟨(List.mem_of_getElem? (i := 10) rfl), (fun _ h => absurd h List.not_mem_nil)⟩)⟩)⟩)⟩) (by decide +kernel)) ggX7_readAny_X7_is
set_option maxRecDepth 20000 in
theorem ggX7_readAny_X7_fails : GoodIn wsX7_readAny wsX7_fails := goodIn_sub (List.forall_mem_cons.mpr ⟨(List.mem_of_getElem? (i := 26) rfl), (List.forall_mem_append.mpr ⟨(List.forall_mem_cons.mpr ⟨(List.mem_of_getElem? (i := 3) rfl), (List.forall_mem_cons.mpr ⟨(List.mem_of_getElem? (i := 27) rfl), (fun _ h => absurd h List.not_mem_nil)⟩)⟩), (fun _ h => (List.mem_cons_of_mem _ (List.mem_append_right _ h)))⟩)⟩) (by decide +kernel)
set_option maxRecDepth 20000 in
theorem gX7_readAny_X7_fails : GoodIn wsX7_readAny (wsV RX7 207 RX7 yX7_fails wsX7_fails) := goodIn_app (goodIn_sub (List.forall_mem_cons.mpr ⟨(List.mem_of_getElem? (i := 23) rfl), (List.forall_mem_cons.mpr ⟨(List.mem_of_getElem? (i := 24) rfl), (List.forall_mem_cons.mpr ⟨(List.mem_of_getElem? (i := 25) rfl), (List.forall_mem_cons.mpr ⟨(List.mem_of_getElem? (i := 10) rfl), (fun _ h => absurd h List.not_mem_nil)⟩)⟩)⟩)⟩) (by decide +kernel)) ggX7_readAny_X7_fails
set_option maxRecDepth 20000 in
theorem ggX7_readAny_X7_next : GoodIn wsX7_readAny wsX7_next := goodIn_sub (List.forall_mem_cons.mpr ⟨(List.mem_of_getElem? (i := 31) rfl), (List.forall_mem_append.mpr ⟨(List.forall_mem_append.mpr ⟨(show ∀ w ∈ wsX7_next_r1, w ∈ wsX7_readAny from (List.forall_mem_cons.mpr ⟨(List.mem_of_getElem? (i := 32) rfl), (List.forall_mem_cons.mpr ⟨(List.mem_of_getElem? (i := 4) rfl), (List.forall_mem_cons.mpr ⟨(List.mem_of_getElem? (i := 5) rfl), (List.forall_mem_cons.mpr ⟨(List.mem_of_getElem? (i := 33) rfl), (List.forall_mem_cons.mpr ⟨(List.mem_of_getElem? (i := 34) rfl), (List.forall_mem_cons.mpr ⟨(List.mem_of_getElem? (i := 22) rfl), (List.forall_mem_cons.mpr ⟨(List.mem_of_getElem? (i := 35) rfl), (List.forall_mem_cons.mpr ⟨(List.mem_of_getElem? (i := 36) rfl), (List.forall_mem_cons.mpr ⟨(List.mem_of_getElem? (i := 37) rfl), (List.forall_mem_cons.mpr ⟨(List.mem_of_getElem? (i := 38) rfl), (List.forall_mem_cons.mpr ⟨(List.mem_of_getElem? (i := 39) rfl), (List.forall_mem_cons.mpr ⟨(List.mem_of_getElem? (i := 40) rfl), (List.forall_mem_cons.mpr ⟨(List.mem_of_getElem? (i := 41) rfl), (List.forall_mem_cons.mpr ⟨(List.mem_of_getElem? (i := 10) rfl), (List.forall_mem_cons.mpr ⟨(List.mem_of_getElem? (i := 42) rfl), (List.forall_mem_cons.mpr ⟨(List.mem_of_getElem? (i := 43) rfl), (List.forall_mem_cons.mpr ⟨(List.mem_of_getElem? (i := 44) rfl), (List.forall_mem_cons.mpr ⟨(List.mem_of_getElem? (i := 45) rfl), (List.forall_mem_cons.mpr ⟨(List.mem_of_getElem? (i := 46) rfl), (List.forall_mem_cons.mpr ⟨(List.mem_of_getElem? (i := 47) rfl), (List.forall_mem_cons.mpr ⟨(List.mem_of_getElem? (i := 23) rfl), (List.forall_mem_cons.mpr ⟨(List.mem_of_getElem? (i := 24) rfl), (List.forall_mem_cons.mpr ⟨(List.mem_of_getElem? (i := 25) rfl), (List.forall_mem_cons.mpr ⟨(List.mem_of_getElem? (i := 26) rfl), (fun _ h => absurd h List.not_mem_nil)⟩)⟩)⟩)⟩)⟩)⟩)⟩)⟩)⟩)⟩)⟩)⟩)⟩)⟩)⟩)⟩)⟩)⟩)⟩)⟩)⟩)⟩)⟩)⟩)), (show ∀ w ∈ wsX7_next_r2, w ∈ wsX7_readAny from (List.forall_mem_cons.mpr ⟨(List.mem_of_getElem? (i := 3) rfl), (List.forall_mem_cons.mpr ⟨(List.mem_of_getElem? (i := 27) rfl), (List.forall_mem_cons.mpr ⟨(List.mem_of_getElem? (i := 48) rfl), (List.forall_mem_cons.mpr ⟨(List.mem_of_getElem? (i := 49) rfl), (List.forall_mem_cons.mpr ⟨(List.mem_of_getElem? (i := 50) rfl), (List.forall_mem_cons.mpr ⟨(List.mem_of_getElem? (i := 51) rfl), (List.forall_mem_cons.mpr ⟨(List.mem_of_getElem? (i := 52) rfl), (List.forall_mem_cons.mpr ⟨(List.mem_of_getElem? (i := 53) rfl), (List.forall_mem_cons.mpr ⟨(List.mem_of_getElem? (i := 54) rfl), (fun _ h => absurd h List.not_mem_nil)⟩)⟩)⟩)⟩)⟩)⟩)⟩)⟩)⟩))⟩), (fun _ h => (List.mem_cons_of_mem _ (List.mem_append_right _ h)))⟩)⟩) (by decide +kernel)
set_option maxRecDepth 20000 in
theorem gX7_readAny_X7_next : GoodIn wsX7_readAny (wsV RX7 225 RX7 yX7_next wsX7_next) := goodIn_app (goodIn_sub (List.forall_mem_cons.mpr ⟨(List.mem_of_getElem? (i := 28) rfl), (List.forall_mem_cons.mpr ⟨(List.mem_of_getElem? (i := 29) rfl), (List.forall_mem_cons.mpr ⟨(List.mem_of_getElem? (i := 30) rfl), (List.forall_mem_cons.mpr ⟨(List.mem_of_getElem? (i := 10) rfl), (fun _ h => absurd h List.not_mem_nil)⟩)⟩)⟩)⟩) (by decide +kernel)) ggX7_readAny_X7_next
set_option maxRecDepth 20000 in
theorem ggX7_readAny_X7_readPart : GoodIn wsX7_readAny wsX7_readPart := goodIn_sub (List.forall_mem_cons.mpr ⟨(List.mem_of_getElem? (i := 58) rfl), (List.forall_mem_append.mpr ⟨(List.forall_mem_append.mpr ⟨(show ∀ w ∈ wsX7_readPart_r1, w ∈ wsX7_readAny from (List.forall_mem_cons.mpr ⟨(List.mem_of_getElem? (i := 3) rfl), (List.forall_mem_cons.mpr ⟨(List.mem_of_getElem? (i := 22) rfl), (List.forall_mem_cons.mpr ⟨(List.mem_of_getElem? (i := 59) rfl), (List.forall_mem_cons.mpr ⟨(List.mem_of_getElem? (i := 4) rfl), (List.forall_mem_cons.mpr ⟨(List.mem_of_getElem? (i := 60) rfl), (List.forall_mem_cons.mpr ⟨(List.mem_of_getElem? (i := 12) rfl), (List.forall_mem_cons.mpr ⟨(List.mem_of_getElem? (i := 17) rfl), (List.forall_mem_cons.mpr ⟨(List.mem_of_getElem? (i := 61) rfl), (List.forall_mem_cons.mpr ⟨(List.mem_of_getElem? (i := 62) rfl), (List.forall_mem_cons.mpr ⟨(List.mem_of_getElem? (i := 63) rfl), (List.forall_mem_cons.mpr ⟨(List.mem_of_getElem? (i := 64) rfl), (List.forall_mem_cons.mpr ⟨(List.mem_of_getElem? (i := 65) rfl), (List.forall_mem_cons.mpr ⟨(List.mem_of_getElem? (i := 66) rfl), (List.forall_mem_cons.mpr ⟨(List.mem_of_getElem? (i := 5) rfl), (List.forall_mem_cons.mpr ⟨(List.mem_of_getElem? (i := 45) rfl), (List.forall_mem_cons.mpr ⟨(List.mem_of_getElem? (i := 46) rfl), (List.forall_mem_cons.mpr ⟨(List.mem_of_getElem? (i := 10) rfl), (List.forall_mem_cons.mpr ⟨(List.mem_of_getElem? (i := 47) rfl), (List.forall_mem_cons.mpr ⟨(List.mem_of_getElem? (i := 23) rfl), (List.forall_mem_cons.mpr ⟨(List.mem_of_getElem? (i := 24) rfl), (List.forall_mem_cons.mpr ⟨(List.mem_of_getElem? (i := 25) rfl), (List.forall_mem_cons.mpr ⟨(List.mem_of_getElem? (i := 26) rfl), (List.forall_mem_cons.mpr ⟨(List.mem_of_getElem? (i := 27) rfl), (List.forall_mem_cons.mpr ⟨(List.mem_of_getElem? (i := 67) rfl), (fun _ h => absurd h List.not_mem_nil)⟩)⟩)⟩)⟩)⟩)⟩)⟩)⟩)⟩)⟩)⟩)⟩)⟩)⟩)⟩)⟩)⟩)⟩)⟩)⟩)⟩)⟩)⟩)⟩)), (List.forall_mem_append.mpr ⟨(show ∀ w ∈ wsX7_readPart_r2, w ∈ wsX7_readAny from (List.forall_mem_cons.mpr ⟨(List.mem_of_getElem? (i := 68) rfl), (List.forall_mem_cons.mpr ⟨(List.mem_of_getElem? (i := 69) rfl), (List.forall_mem_cons.mpr ⟨(List.mem_of_getElem? (i := 70) rfl), (List.forall_mem_cons.mpr ⟨(List.mem_of_getElem? (i := 28) rfl), (List.forall_mem_cons.mpr ⟨(List.mem_of_getElem? (i := 29) rfl), (List.forall_mem_cons.mpr ⟨(List.mem_of_getElem? (i := 30) rfl), (List.forall_mem_cons.mpr ⟨(List.mem_of_getElem? (i := 31) rfl), (List.forall_mem_cons.mpr ⟨(List.mem_of_getElem? (i := 32) rfl), (List.forall_mem_cons.mpr ⟨(List.mem_of_getElem? (i := 33) rfl), (List.forall_mem_cons.mpr ⟨(List.mem_of_getElem? (i := 34) rfl), (List.forall_mem_cons.mpr ⟨(List.mem_of_getElem? (i := 35) rfl), (List.forall_mem_cons.mpr ⟨(List.mem_of_getElem? (i := 36) rfl), (List.forall_mem_cons.mpr ⟨(List.mem_of_getElem? (i := 37) rfl), (List.forall_mem_cons.mpr ⟨(List.mem_of_getElem? (i := 38) rfl), (List.forall_mem_cons.mpr ⟨(List.mem_of_getElem? (i := 39) rfl), (List.forall_mem_cons.mpr ⟨(List.mem_of_getElem? (i := 40) rfl), (List.forall_mem_cons.mpr ⟨(List.mem_of_getElem? (i := 41) rfl), (List.forall_mem_cons.mpr ⟨(List.mem_of_getElem? (i := 42) rfl), (List.forall_mem_cons.mpr ⟨(List.mem_of_getElem? (i := 43) rfl), (List.forall_mem_cons.mpr ⟨(List.mem_of_getElem? (i := 44) rfl), (List.forall_mem_cons.mpr ⟨(List.mem_of_getElem? (i := 48) rfl), (List.forall_mem_cons.mpr ⟨(List.mem_of_getElem? (i := 49) rfl), (List.forall_mem_cons.mpr ⟨(List.mem_of_getElem? (i := 50) rfl), (List.forall_mem_cons.mpr ⟨(List.mem_of_getElem? (i := 51) rfl), (fun _ h => absurd h List.not_mem_nil)⟩)⟩)⟩)⟩)⟩)⟩)⟩)⟩)⟩)⟩)⟩)⟩)⟩)⟩)⟩)⟩)⟩)⟩)⟩)⟩)⟩)⟩)⟩)⟩)), (show ∀ w ∈ wsX7_readPart_r3, w ∈ wsX7_readAny from (List.forall_mem_cons.mpr ⟨(List.mem_of_getElem? (i := 52) rfl), (List.forall_mem_cons.mpr ⟨(List.mem_of_getElem? (i := 53) rfl), (List.forall_mem_cons.mpr ⟨(List.mem_of_getElem? (i := 54) rfl), (List.forall_mem_cons.mpr ⟨(List.mem_of_getElem? (i := 18) rfl), (List.forall_mem_cons.mpr ⟨(List.mem_of_getElem? (i := 19) rfl), (List.forall_mem_cons.mpr ⟨(List.mem_of_getElem? (i := 20) rfl), (List.forall_mem_cons.mpr ⟨(List.mem_of_getElem? (i := 21) rfl), (fun _ h => absurd h List.not_mem_nil)⟩)⟩)⟩)⟩)⟩)⟩)⟩))⟩)⟩), (fun _ h => (List.mem_cons_of_mem _ (List.mem_append_right _ h)))⟩)⟩) (by decide +kernel)
set_option maxRecDepth 20000 in
theorem gX7_readAny_X7_readPart : GoodIn wsX7_readAny (wsV RX7 249 RX7 yX7_readPart wsX7_readPart) := goodIn_app (goodIn_sub (List.forall_mem_cons.mpr ⟨(List.mem_of_getElem? (i := 55) rfl), (List.forall_mem_cons.mpr ⟨(List.mem_of_getElem? (i := 56) rfl), (List.forall_mem_cons.mpr ⟨(List.mem_of_getElem? (i := 57) rfl), (List.forall_mem_cons.mpr ⟨(List.mem_of_getElem? (i := 10) rfl), (fun _ h => absurd h List.not_mem_nil)⟩)⟩)⟩)⟩) (by decide +kernel)) ggX7_readAny_X7_readPart
set_option maxRecDepth 20000 in
theorem ggX7_readAny_X7_readCount : GoodIn wsX7_readAny wsX7_readCount := goodIn_sub (List.forall_mem_cons.mpr ⟨(List.mem_of_getElem? (i := 74) rfl), (List.forall_mem_append.mpr ⟨(List.forall_mem_append.mpr ⟨(show ∀ w ∈ wsX7_readCount_r1, w ∈ wsX7_readAny from (List.forall_mem_cons.mpr ⟨(List.mem_of_getElem? (i := 15) rfl), (List.forall_mem_cons.mpr ⟨(List.mem_of_getElem? (i := 3) rfl), (List.forall_mem_cons.mpr ⟨(List.mem_of_getElem? (i := 5) rfl), (List.forall_mem_cons.mpr ⟨(List.mem_of_getElem? (i := 22) rfl), (List.forall_mem_cons.mpr ⟨(List.mem_of_getElem? (i := 75) rfl), (List.forall_mem_cons.mpr ⟨(List.mem_of_getElem? (i := 4) rfl), (List.forall_mem_cons.mpr ⟨(List.mem_of_getElem? (i := 16) rfl), (List.forall_mem_cons.mpr ⟨(List.mem_of_getElem? (i := 18) rfl), (List.forall_mem_cons.mpr ⟨(List.mem_of_getElem? (i := 19) rfl), (List.forall_mem_cons.mpr ⟨(List.mem_of_getElem? (i := 20) rfl), (List.forall_mem_cons.mpr ⟨(List.mem_of_getElem? (i := 10) rfl), (List.forall_mem_cons.mpr ⟨(List.mem_of_getElem? (i := 21) rfl), (List.forall_mem_cons.mpr ⟨(List.mem_of_getElem? (i := 28) rfl), (List.forall_mem_cons.mpr ⟨(List.mem_of_getElem? (i := 29) rfl), (List.forall_mem_cons.mpr ⟨(List.mem_of_getElem? (i := 30) rfl), (List.forall_mem_cons.mpr ⟨(List.mem_of_getElem? (i := 31) rfl), (List.forall_mem_cons.mpr ⟨(List.mem_of_getElem? (i := 32) rfl), (List.forall_mem_cons.mpr ⟨(List.mem_of_getElem? (i := 33) rfl), (List.forall_mem_cons.mpr ⟨(List.mem_of_getElem? (i := 34) rfl), (List.forall_mem_cons.mpr ⟨(List.mem_of_getElem? (i := 35) rfl), (List.forall_mem_cons.mpr ⟨(List.mem_of_getElem? (i := 36) rfl), (List.forall_mem_cons.mpr ⟨(List.mem_of_getElem? (i := 37) rfl), (List.forall_mem_cons.mpr ⟨(List.mem_of_getElem? (i := 38) rfl), (List.forall_mem_cons.mpr ⟨(List.mem_of_getElem? (i := 39) rfl), (fun _ h => absurd h List.not_mem_nil)⟩)⟩)⟩)⟩)⟩)⟩)⟩)⟩)⟩)⟩)⟩)⟩)⟩)⟩)⟩)⟩)⟩)⟩)⟩)⟩)⟩)⟩)⟩)⟩)), (List.forall_mem_append.mpr ⟨(show ∀ w ∈ wsX7_readCount_r2, w ∈ wsX7_readAny from (List.forall_mem_cons.mpr ⟨(List.mem_of_getElem? (i := 40) rfl), (List.forall_mem_cons.mpr ⟨(List.mem_of_getElem? (i := 41) rfl), (List.forall_mem_cons.mpr ⟨(List.mem_of_getElem? (i := 42) rfl), (List.forall_mem_cons.mpr ⟨(List.mem_of_getElem? (i := 43) rfl), (List.forall_mem_cons.mpr ⟨(List.mem_of_getElem? (i := 44) rfl), (List.forall_mem_cons.mpr ⟨(List.mem_of_getElem? (i := 45) rfl), (List.forall_mem_cons.mpr ⟨(List.mem_of_getElem? (i := 46) rfl), (List.forall_mem_cons.mpr ⟨(List.mem_of_getElem? (i := 47) rfl), (List.forall_mem_cons.mpr ⟨(List.mem_of_getElem? (i := 23) rfl), (List.forall_mem_cons.mpr ⟨(List.mem_of_getElem? (i := 24) rfl), (List.forall_mem_cons.mpr ⟨(List.mem_of_getElem? (i := 25) rfl), (List.forall_mem_cons.mpr ⟨(List.mem_of_getElem? (i := 26) rfl), (List.forall_mem_cons.mpr ⟨(List.mem_of_getElem? (i := 27) rfl), (List.forall_mem_cons.mpr ⟨(List.mem_of_getElem? (i := 48) rfl), (List.forall_mem_cons.mpr ⟨(List.mem_of_getElem? (i := 49) rfl), (List.forall_mem_cons.mpr ⟨(List.mem_of_getElem? (i := 50) rfl), (List.forall_mem_cons.mpr ⟨(List.mem_of_getElem? (i := 51) rfl), (List.forall_mem_cons.mpr ⟨(List.mem_of_getElem? (i := 52) rfl), (List.forall_mem_cons.mpr ⟨(List.mem_of_getElem? (i := 53) rfl), (List.forall_mem_cons.mpr ⟨(List.mem_of_getElem? (i := 54) rfl), (List.forall_mem_cons.mpr ⟨(List.mem_of_getElem? (i := 76) rfl), (List.forall_mem_cons.mpr ⟨(List.mem_of_getElem? (i := 77) rfl), (List.forall_mem_cons.mpr ⟨(List.mem_of_getElem? (i := 78) rfl), (List.forall_mem_cons.mpr ⟨(List.mem_of_getElem? (i := 79) rfl), (fun _ h => absurd h List.not_mem_nil)⟩)⟩)⟩)⟩)⟩)⟩)⟩)⟩)⟩)⟩)⟩)⟩)⟩)⟩)⟩)⟩)⟩)⟩)⟩)⟩)⟩)⟩)⟩)⟩)), (show ∀ w ∈ wsX7_readCount_r3, w ∈ wsX7_readAny from (List.forall_mem_cons.mpr ⟨(List.mem_of_getElem? (i := 67) rfl), (List.forall_mem_cons.mpr ⟨(List.mem_of_getElem? (i := 68) rfl), (List.forall_mem_cons.mpr ⟨(List.mem_of_getElem? (i := 69) rfl), (List.forall_mem_cons.mpr ⟨(List.mem_of_getElem? (i := 70) rfl), (List.forall_mem_cons.mpr ⟨(List.mem_of_getElem? (i := 66) rfl), (List.forall_mem_cons.mpr ⟨(List.mem_of_getElem? (i := 80) rfl), (List.forall_mem_cons.mpr ⟨(List.mem_of_getElem? (i := 81) rfl), (List.forall_mem_cons.mpr ⟨(List.mem_of_getElem? (i := 82) rfl), (List.forall_mem_cons.mpr ⟨(List.mem_of_getElem? (i := 83) rfl), (fun _ h => absurd h List.not_mem_nil)⟩)⟩)⟩)⟩)⟩)⟩)⟩)⟩)⟩))⟩)⟩), (fun _ h => (List.mem_cons_of_mem _ (List.mem_append_right _ h)))⟩)⟩) (by decide +kernel)
set_option maxRecDepth 20000 in
theorem gX7_readAny_X7_readCount : GoodIn wsX7_readAny (wsV RX7 252 RX7 yX7_readCount wsX7_readCount) := goodIn_app (goodIn_sub (List.forall_mem_cons.mpr ⟨(List.mem_of_getElem? (i := 71) rfl), (List.forall_mem_cons.mpr ⟨(List.mem_of_getElem? (i := 72) rfl), (List.forall_mem_cons.mpr ⟨(List.mem_of_getElem? (i := 73) rfl), (List.forall_mem_cons.mpr ⟨(List.mem_of_getElem? (i := 10) rfl), (fun _ h => absurd h List.not_mem_nil)⟩)⟩)⟩)⟩) (by decide +kernel)) ggX7_readAny_X7_readCount
set_option maxRecDepth 100000 in
theorem daX7_readAny : ∀ q ∈ ([(0, .iconst 0, 1), (1, .istore_n 1, 1), (2, .aload_n 0, 1), (3, .getfield 113, 3), (6, .iconst 0, 1), (7, .bipush (-4), 2), (9, .iastore, 1), (10, .aload_n 0, 1), (11, .getfield 110, 3), (14, .iconst 0, 1), (15, .aload_n 0, 1), (16, .iconst 1, 1), (17, .aload_n 0, 1), (18, .iconst 0, 1), (19, .bipush (-4), 2), (21, .invokevirtual 246, 3), (24, .invokevirtual 246, 3), (27, .iastore, 1), (28, .iconst 1, 1), (29, .istore_n 2, 1), (30, .iload_n 2, 1), (31, .ifCond .eq 241, 3), (34, .aload_n 0, 1), (35, .getfield 177, 3), (38, .ifCond .ne 234, 3), (41, .aload_n 0, 1), (42, .bipush 40, 2), (44, .invokevirtual 228, 3), (47, .ifCond .eq 67, 3), (50, .iload_n 1, 1), (51, .bipush 6, 2), (53, .if_icmp .ne 15, 3), (56, .aload_n 0, 1), (57, .iconst 4, 1), (58, .aload_n 0, 1), (59, .getfield 186, 3), (62, .invokevirtual 207, 3), (65, .goto (-35), 3), (68, .aload_n 0, 1), (69, .iconst 2, 1), (70, .aload_n 0, 1), (71, .getfield 110, 3), (74, .iload_n 1, 1), (75, .iaload, 1), (76, .invokevirtual 246, 3), (79, .istore_n 3, 1), (80, .iinc 1 1, 3), (83, .aload_n 0, 1), (84, .getfield 113, 3), (87, .iload_n 1, 1), (88, .iload_n 3, 1), (89, .iastore, 1), (90, .aload_n 0, 1), (91, .getfield 110, 3), (94, .iload_n 1, 1), (95, .aload_n 0, 1), (96, .iconst 1, 1), (97, .aload_n 0, 1), (98, .iconst 0, 1), (99, .iload_n 3, 1), (100, .invokevirtual 246, 3), (103, .invokevirtual 246, 3), (106, .iastore, 1), (107, .aload_n 0, 1), (108, .invokevirtual 225, 3), (111, .goto (-81), 3), (114, .aload_n 0, 1), (115, .getfield 177, 3), (118, .ifCond .ne 142, 3), (121, .aload_n 0, 1), (122, .getfield 193, 3), (125, .iconst 2, 1), (126, .if_icmp .ne 134, 3), (129, .aload_n 0, 1), (130, .iconst 2, 1), (131, .aload_n 0, 1), (132, .getfield 110, 3), (135, .iload_n 1, 1), (136, .iaload, 1), (137, .invokevirtual 246, 3), (140, .istore_n 3, 1), (141, .aload_n 0, 1), (142, .iload_n 3, 1), (143, .invokevirtual 249, 3), (146, .aload_n 0, 1), (147, .iload_n 3, 1), (148, .invokevirtual 252, 3), (151, .aload_n 0, 1), (152, .bipush 41, 2), (154, .invokevirtual 228, 3), (157, .ifCond .eq 31, 3), (160, .iload_n 1, 1), (161, .ifCond .le 27, 3), (164, .aload_n 0, 1), (165, .getfield 113, 3), (168, .iload_n 1, 1), (169, .iaload, 1), (170, .istore 4, 2), (172, .iinc 1 (-1), 3), (175, .aload_n 0, 1), (176, .invokevirtual 225, 3), (179, .aload_n 0, 1), (180, .iload 4, 2), (182, .invokevirtual 252, 3), (185, .goto (-34), 3), (188, .aload_n 0, 1), (189, .bipush 44, 2), (191, .invokevirtual 228, 3), (194, .ifCond .eq 10, 3), (197, .aload_n 0, 1), (198, .invokevirtual 225, 3), (201, .goto 56, 3), (204, .aload_n 0, 1), (205, .bipush 124, 2), (207, .invokevirtual 228, 3), (210, .ifCond .eq 32, 3), (213, .aload_n 0, 1), (214, .getfield 110, 3), (217, .iload_n 1, 1), (218, .aload_n 0, 1), (219, .iconst 1, 1), (220, .aload_n 0, 1), (221, .getfield 95, 3), (224, .aload_n 0, 1), (225, .getfield 110, 3), (228, .iload_n 1, 1), (229, .iaload, 1), (230, .iaload, 1), (231, .invokevirtual 246, 3), (234, .iastore, 1), (235, .aload_n 0, 1), (236, .invokevirtual 225, 3), (239, .goto 18, 3), (242, .iconst 0, 1), (243, .istore_n 2, 1), (244, .iload_n 1, 1), (245, .ifCond .le 12, 3), (248, .aload_n 0, 1), (249, .iconst 2, 1), (250, .aload_n 0, 1), (251, .getfield 186, 3), (254, .invokevirtual 207, 3), (257, .goto (-227), 3), (260, .aload_n 0, 1), (261, .iconst 2, 1), (262, .aload_n 0, 1), (263, .getfield 186, 3), (266, .invokevirtual 207, 3), (269, .goto (-239), 3), (272, .return_, 1)] : List (Nat × Instr × Nat)), decode cX7_readAny q.1 = .ok q.2 := by decide +kernel
theorem dX7_readAny_0 : decode cX7_readAny 0 = .ok (.iconst 0, 1) := daX7_readAny (0, .iconst 0, 1) (List.mem_of_getElem? (i := 0) rfl)
theorem dX7_readAny_1 : decode cX7_readAny 1 = .ok (.istore_n 1, 1) := daX7_readAny (1, .istore_n 1, 1) (List.mem_of_getElem? (i := 1) rfl)
theorem dX7_readAny_2 : decode cX7_readAny 2 = .ok (.aload_n 0, 1) := daX7_readAny (2, .aload_n 0, 1) (List.mem_of_getElem? (i := 2) rfl)
theorem dX7_readAny_3 : decode cX7_readAny 3 = .ok (.getfield 113, 3) := daX7_readAny (3, .getfield 113, 3) (List.mem_of_getElem? (i := 3) rfl)
theorem dX7_readAny_6 : decode cX7_readAny 6 = .ok (.iconst 0, 1) := daX7_readAny (6, .iconst 0, 1) (List.mem_of_getElem? (i := 4) rfl)
theorem dX7_readAny_7 : decode cX7_readAny 7 = .ok (.bipush (-4), 2) := daX7_readAny (7, .bipush (-4), 2) (List.mem_of_getElem? (i := 5) rfl)
theorem dX7_readAny_9 : decode cX7_readAny 9 = .ok (.iastore, 1) := daX7_readAny (9, .iastore, 1) (List.mem_of_getElem? (i := 6) rfl)
theorem dX7_readAny_10 : decode cX7_readAny 10 = .ok (.aload_n 0, 1) := daX7_readAny (10, .aload_n 0, 1) (List.mem_of_getElem? (i := 7) rfl)
theorem dX7_readAny_11 : decode cX7_readAny 11 = .ok (.getfield 110, 3) := daX7_readAny (11, .getfield 110, 3) (List.mem_of_getElem? (i := 8) rfl)
theorem dX7_readAny_14 : decode cX7_readAny 14 = .ok (.iconst 0, 1) := daX7_readAny (14, .iconst 0, 1) (List.mem_of_getElem? (i := 9) rfl)
theorem dX7_readAny_15 : decode cX7_readAny 15 = .ok (.aload_n 0, 1) := daX7_readAny (15, .aload_n 0, 1) (List.mem_of_getElem? (i := 10) rfl)
theorem dX7_readAny_16 : decode cX7_readAny 16 = .ok (.iconst 1, 1) := daX7_readAny (16, .iconst 1, 1) (List.mem_of_getElem? (i := 11) rfl)
theorem dX7_readAny_17 : decode cX7_readAny 17 = .ok (.aload_n 0, 1) := daX7_readAny (17, .aload_n 0, 1) (List.mem_of_getElem? (i := 12) rfl)
theorem dX7_readAny_18 : decode cX7_readAny 18 = .ok (.iconst 0, 1) := daX7_readAny (18, .iconst 0, 1) (List.mem_of_getElem? (i := 13) rfl)
theorem dX7_readAny_19 : decode cX7_readAny 19 = .ok (.bipush (-4), 2) := daX7_readAny (19, .bipush (-4), 2) (List.mem_of_getElem? (i := 14) rfl)
theorem dX7_readAny_21 : decode cX7_readAny 21 = .ok (.invokevirtual 246, 3) := daX7_readAny (21, .invokevirtual 246, 3) (List.mem_of_getElem? (i := 15) rfl)
theorem dX7_readAny_24 : decode cX7_readAny 24 = .ok (.invokevirtual 246, 3) := daX7_readAny (24, .invokevirtual 246, 3) (List.mem_of_getElem? (i := 16) rfl)
theorem dX7_readAny_27 : decode cX7_readAny 27 = .ok (.iastore, 1) := daX7_readAny (27, .iastore, 1) (List.mem_of_getElem? (i := 17) rfl)
theorem dX7_readAny_28 : decode cX7_readAny 28 = .ok (.iconst 1, 1) := daX7_readAny (28, .iconst 1, 1) (List.mem_of_getElem? (i := 18) rfl)
theorem dX7_readAny_29 : decode cX7_readAny 29 = .ok (.istore_n 2, 1) := daX7_readAny (29, .istore_n 2, 1) (List.mem_of_getElem? (i := 19) rfl)
theorem dX7_readAny_30 : decode cX7_readAny 30 = .ok (.iload_n 2, 1) := daX7_readAny (30, .iload_n 2, 1) (List.mem_of_getElem? (i := 20) rfl)
theorem dX7_readAny_31 : decode cX7_readAny 31 = .ok (.ifCond .eq 241, 3) := daX7_readAny (31, .ifCond .eq 241, 3) (List.mem_of_getElem? (i := 21) rfl)
theorem dX7_readAny_34 : decode cX7_readAny 34 = .ok (.aload_n 0, 1) := daX7_readAny (34, .aload_n 0, 1) (List.mem_of_getElem? (i := 22) rfl)
theorem dX7_readAny_35 : decode cX7_readAny 35 = .ok (.getfield 177, 3) := daX7_readAny (35, .getfield 177, 3) (List.mem_of_getElem? (i := 23) rfl)
theorem dX7_readAny_38 : decode cX7_readAny 38 = .ok (.ifCond .ne 234, 3) := daX7_readAny (38, .ifCond .ne 234, 3) (List.mem_of_getElem? (i := 24) rfl)
theorem dX7_readAny_41 : decode cX7_readAny 41 = .ok (.aload_n 0, 1) := daX7_readAny (41, .aload_n 0, 1) (List.mem_of_getElem? (i := 25) rfl)
theorem dX7_readAny_42 : decode cX7_readAny 42 = .ok (.bipush 40, 2) := daX7_readAny (42, .bipush 40, 2) (List.mem_of_getElem? (i := 26) rfl)
theorem dX7_readAny_44 : decode cX7_readAny 44 = .ok (.invokevirtual 228, 3) := daX7_readAny (44, .invokevirtual 228, 3) (List.mem_of_getElem? (i := 27) rfl)
theorem dX7_readAny_47 : decode cX7_readAny 47 = .ok (.ifCond .eq 67, 3) := daX7_readAny (47, .ifCond .eq 67, 3) (List.mem_of_getElem? (i := 28) rfl)
theorem dX7_readAny_50 : decode cX7_readAny 50 = .ok (.iload_n 1, 1) := daX7_readAny (50, .iload_n 1, 1) (List.mem_of_getElem? (i := 29) rfl)
theorem dX7_readAny_51 : decode cX7_readAny 51 = .ok (.bipush 6, 2) := daX7_readAny (51, .bipush 6, 2) (List.mem_of_getElem? (i := 30) rfl)
theorem dX7_readAny_53 : decode cX7_readAny 53 = .ok (.if_icmp .ne 15, 3) := daX7_readAny (53, .if_icmp .ne 15, 3) (List.mem_of_getElem? (i := 31) rfl)
theorem dX7_readAny_56 : decode cX7_readAny 56 = .ok (.aload_n 0, 1) := daX7_readAny (56, .aload_n 0, 1) (List.mem_of_getElem? (i := 32) rfl)
theorem dX7_readAny_57 : decode cX7_readAny 57 = .ok (.iconst 4, 1) := daX7_readAny (57, .iconst 4, 1) (List.mem_of_getElem? (i := 33) rfl)
theorem dX7_readAny_58 : decode cX7_readAny 58 = .ok (.aload_n 0, 1) := daX7_readAny (58, .aload_n 0, 1) (List.mem_of_getElem? (i := 34) rfl)
theorem dX7_readAny_59 : decode cX7_readAny 59 = .ok (.getfield 186, 3) := daX7_readAny (59, .getfield 186, 3) (List.mem_of_getElem? (i := 35) rfl)
theorem dX7_readAny_62 : decode cX7_readAny 62 = .ok (.invokevirtual 207, 3) := daX7_readAny (62, .invokevirtual 207, 3) (List.mem_of_getElem? (i := 36) rfl)
theorem dX7_readAny_65 : decode cX7_readAny 65 = .ok (.goto (-35), 3) := daX7_readAny (65, .goto (-35), 3) (List.mem_of_getElem? (i := 37) rfl)
theorem dX7_readAny_68 : decode cX7_readAny 68 = .ok (.aload_n 0, 1) := daX7_readAny (68, .aload_n 0, 1) (List.mem_of_getElem? (i := 38) rfl)
theorem dX7_readAny_69 : decode cX7_readAny 69 = .ok (.iconst 2, 1) := daX7_readAny (69, .iconst 2, 1) (List.mem_of_getElem? (i := 39) rfl)
theorem dX7_readAny_70 : decode cX7_readAny 70 = .ok (.aload_n 0, 1) := daX7_readAny (70, .aload_n 0, 1) (List.mem_of_getElem? (i := 40) rfl)
theorem dX7_readAny_71 : decode cX7_readAny 71 = .ok (.getfield 110, 3) := daX7_readAny (71, .getfield 110, 3) (List.mem_of_getElem? (i := 41) rfl)
theorem dX7_readAny_74 : decode cX7_readAny 74 = .ok (.iload_n 1, 1) := daX7_readAny (74, .iload_n 1, 1) (List.mem_of_getElem? (i := 42) rfl)
theorem dX7_readAny_75 : decode cX7_readAny 75 = .ok (.iaload, 1) := daX7_readAny (75, .iaload, 1) (List.mem_of_getElem? (i := 43) rfl)
theorem dX7_readAny_76 : decode cX7_readAny 76 = .ok (.invokevirtual 246, 3) := daX7_readAny (76, .invokevirtual 246, 3) (List.mem_of_getElem? (i := 44) rfl)
theorem dX7_readAny_79 : decode cX7_readAny 79 = .ok (.istore_n 3, 1) := daX7_readAny (79, .istore_n 3, 1) (List.mem_of_getElem? (i := 45) rfl)
theorem dX7_readAny_80 : decode cX7_readAny 80 = .ok (.iinc 1 1, 3) := daX7_readAny (80, .iinc 1 1, 3) (List.mem_of_getElem? (i := 46) rfl)
theorem dX7_readAny_83 : decode cX7_readAny 83 = .ok (.aload_n 0, 1) := daX7_readAny (83, .aload_n 0, 1) (List.mem_of_getElem? (i := 47) rfl)
theorem dX7_readAny_84 : decode cX7_readAny 84 = .ok (.getfield 113, 3) := daX7_readAny (84, .getfield 113, 3) (List.mem_of_getElem? (i := 48) rfl)
theorem dX7_readAny_87 : decode cX7_readAny 87 = .ok (.iload_n 1, 1) := daX7_readAny (87, .iload_n 1, 1) (List.mem_of_getElem? (i := 49) rfl)
theorem dX7_readAny_88 : decode cX7_readAny 88 = .ok (.iload_n 3, 1) := daX7_readAny (88, .iload_n 3, 1) (List.mem_of_getElem? (i := 50) rfl)
theorem dX7_readAny_89 : decode cX7_readAny 89 = .ok (.iastore, 1) := daX7_readAny (89, .iastore, 1) (List.mem_of_getElem? (i := 51) rfl)
theorem dX7_readAny_90 : decode cX7_readAny 90 = .ok (.aload_n 0, 1) := daX7_readAny (90, .aload_n 0, 1) (List.mem_of_getElem? (i := 52) rfl)
theorem dX7_readAny_91 : decode cX7_readAny 91 = .ok (.getfield 110, 3) := daX7_readAny (91, .getfield 110, 3) (List.mem_of_getElem? (i := 53) rfl)
theorem dX7_readAny_94 : decode cX7_readAny 94 = .ok (.iload_n 1, 1) := daX7_readAny (94, .iload_n 1, 1) (List.mem_of_getElem? (i := 54) rfl)
theorem dX7_readAny_95 : decode cX7_readAny 95 = .ok (.aload_n 0, 1) := daX7_readAny (95, .aload_n 0, 1) (List.mem_of_getElem? (i := 55) rfl)
theorem dX7_readAny_96 : decode cX7_readAny 96 = .ok (.iconst 1, 1) := daX7_readAny (96, .iconst 1, 1) (List.mem_of_getElem? (i := 56) rfl)
theorem dX7_readAny_97 : decode cX7_readAny 97 = .ok (.aload_n 0, 1) := daX7_readAny (97, .aload_n 0, 1) (List.mem_of_getElem? (i := 57) rfl)
theorem dX7_readAny_98 : decode cX7_readAny 98 = .ok (.iconst 0, 1) := daX7_readAny (98, .iconst 0, 1) (List.mem_of_getElem? (i := 58) rfl)
theorem dX7_readAny_99 : decode cX7_readAny 99 = .ok (.iload_n 3, 1) := daX7_readAny (99, .iload_n 3, 1) (List.mem_of_getElem? (i := 59) rfl)
theorem dX7_readAny_100 : decode cX7_readAny 100 = .ok (.invokevirtual 246, 3) := daX7_readAny (100, .invokevirtual 246, 3) (List.mem_of_getElem? (i := 60) rfl)
theorem dX7_readAny_103 : decode cX7_readAny 103 = .ok (.invokevirtual 246, 3) := daX7_readAny (103, .invokevirtual 246, 3) (List.mem_of_getElem? (i := 61) rfl)
theorem dX7_readAny_106 : decode cX7_readAny 106 = .ok (.iastore, 1) := daX7_readAny (106, .iastore, 1) (List.mem_of_getElem? (i := 62) rfl)
theorem dX7_readAny_107 : decode cX7_readAny 107 = .ok (.aload_n 0, 1) := daX7_readAny (107, .aload_n 0, 1) (List.mem_of_getElem? (i := 63) rfl)
theorem dX7_readAny_108 : decode cX7_readAny 108 = .ok (.invokevirtual 225, 3) := daX7_readAny (108, .invokevirtual 225, 3) (List.mem_of_getElem? (i := 64) rfl)
theorem dX7_readAny_111 : decode cX7_readAny 111 = .ok (.goto (-81), 3) := daX7_readAny (111, .goto (-81), 3) (List.mem_of_getElem? (i := 65) rfl)
theorem dX7_readAny_114 : decode cX7_readAny 114 = .ok (.aload_n 0, 1) := daX7_readAny (114, .aload_n 0, 1) (List.mem_of_getElem? (i := 66) rfl)
theorem dX7_readAny_115 : decode cX7_readAny 115 = .ok (.getfield 177, 3) := daX7_readAny (115, .getfield 177, 3) (List.mem_of_getElem? (i := 67) rfl)
theorem dX7_readAny_118 : decode cX7_readAny 118 = .ok (.ifCond .ne 142, 3) := daX7_readAny (118, .ifCond .ne 142, 3) (List.mem_of_getElem? (i := 68) rfl)
theorem dX7_readAny_121 : decode cX7_readAny 121 = .ok (.aload_n 0, 1) := daX7_readAny (121, .aload_n 0, 1) (List.mem_of_getElem? (i := 69) rfl)
theorem dX7_readAny_122 : decode cX7_readAny 122 = .ok (.getfield 193, 3) := daX7_readAny (122, .getfield 193, 3) (List.mem_of_getElem? (i := 70) rfl)
theorem dX7_readAny_125 : decode cX7_readAny 125 = .ok (.iconst 2, 1) := daX7_readAny (125, .iconst 2, 1) (List.mem_of_getElem? (i := 71) rfl)
theorem dX7_readAny_126 : decode cX7_readAny 126 = .ok (.if_icmp .ne 134, 3) := daX7_readAny (126, .if_icmp .ne 134, 3) (List.mem_of_getElem? (i := 72) rfl)
theorem dX7_readAny_129 : decode cX7_readAny 129 = .ok (.aload_n 0, 1) := daX7_readAny (129, .aload_n 0, 1) (List.mem_of_getElem? (i := 73) rfl)
theorem dX7_readAny_130 : decode cX7_readAny 130 = .ok (.iconst 2, 1) := daX7_readAny (130, .iconst 2, 1) (List.mem_of_getElem? (i := 74) rfl)
theorem dX7_readAny_131 : decode cX7_readAny 131 = .ok (.aload_n 0, 1) := daX7_readAny (131, .aload_n 0, 1) (List.mem_of_getElem? (i := 75) rfl)
theorem dX7_readAny_132 : decode cX7_readAny 132 = .ok (.getfield 110, 3) := daX7_readAny (132, .getfield 110, 3) (List.mem_of_getElem? (i := 76) rfl)
theorem dX7_readAny_135 : decode cX7_readAny 135 = .ok (.iload_n 1, 1) := daX7_readAny (135, .iload_n 1, 1) (List.mem_of_getElem? (i := 77) rfl)
theorem dX7_readAny_136 : decode cX7_readAny 136 = .ok (.iaload, 1) := daX7_readAny (136, .iaload, 1) (List.mem_of_getElem? (i := 78) rfl)
theorem dX7_readAny_137 : decode cX7_readAny 137 = .ok (.invokevirtual 246, 3) := daX7_readAny (137, .invokevirtual 246, 3) (List.mem_of_getElem? (i := 79) rfl)
theorem dX7_readAny_140 : decode cX7_readAny 140 = .ok (.istore_n 3, 1) := daX7_readAny (140, .istore_n 3, 1) (List.mem_of_getElem? (i := 80) rfl)
theorem dX7_readAny_141 : decode cX7_readAny 141 = .ok (.aload_n 0, 1) := daX7_readAny (141, .aload_n 0, 1) (List.mem_of_getElem? (i := 81) rfl)
theorem dX7_readAny_142 : decode cX7_readAny 142 = .ok (.iload_n 3, 1) := daX7_readAny (142, .iload_n 3, 1) (List.mem_of_getElem? (i := 82) rfl)
theorem dX7_readAny_143 : decode cX7_readAny 143 = .ok (.invokevirtual 249, 3) := daX7_readAny (143, .invokevirtual 249, 3) (List.mem_of_getElem? (i := 83) rfl)
theorem dX7_readAny_146 : decode cX7_readAny 146 = .ok (.aload_n 0, 1) := daX7_readAny (146, .aload_n 0, 1) (List.mem_of_getElem? (i := 84) rfl)
theorem dX7_readAny_147 : decode cX7_readAny 147 = .ok (.iload_n 3, 1) := daX7_readAny (147, .iload_n 3, 1) (List.mem_of_getElem? (i := 85) rfl)
theorem dX7_readAny_148 : decode cX7_readAny 148 = .ok (.invokevirtual 252, 3) := daX7_readAny (148, .invokevirtual 252, 3) (List.mem_of_getElem? (i := 86) rfl)
theorem dX7_readAny_151 : decode cX7_readAny 151 = .ok (.aload_n 0, 1) := daX7_readAny (151, .aload_n 0, 1) (List.mem_of_getElem? (i := 87) rfl)
theorem dX7_readAny_152 : decode cX7_readAny 152 = .ok (.bipush 41, 2) := daX7_readAny (152, .bipush 41, 2) (List.mem_of_getElem? (i := 88) rfl)
theorem dX7_readAny_154 : decode cX7_readAny 154 = .ok (.invokevirtual 228, 3) := daX7_readAny (154, .invokevirtual 228, 3) (List.mem_of_getElem? (i := 89) rfl)
theorem dX7_readAny_157 : decode cX7_readAny 157 = .ok (.ifCond .eq 31, 3) := daX7_readAny (157, .ifCond .eq 31, 3) (List.mem_of_getElem? (i := 90) rfl)
theorem dX7_readAny_160 : decode cX7_readAny 160 = .ok (.iload_n 1, 1) := daX7_readAny (160, .iload_n 1, 1) (List.mem_of_getElem? (i := 91) rfl)
theorem dX7_readAny_161 : decode cX7_readAny 161 = .ok (.ifCond .le 27, 3) := daX7_readAny (161, .ifCond .le 27, 3) (List.mem_of_getElem? (i := 92) rfl)
theorem dX7_readAny_164 : decode cX7_readAny 164 = .ok (.aload_n 0, 1) := daX7_readAny (164, .aload_n 0, 1) (List.mem_of_getElem? (i := 93) rfl)
theorem dX7_readAny_165 : decode cX7_readAny 165 = .ok (.getfield 113, 3) := daX7_readAny (165, .getfield 113, 3) (List.mem_of_getElem? (i := 94) rfl)
theorem dX7_readAny_168 : decode cX7_readAny 168 = .ok (.iload_n 1, 1) := daX7_readAny (168, .iload_n 1, 1) (List.mem_of_getElem? (i := 95) rfl)
theorem dX7_readAny_169 : decode cX7_readAny 169 = .ok (.iaload, 1) := daX7_readAny (169, .iaload, 1) (List.mem_of_getElem? (i := 96) rfl)
theorem dX7_readAny_170 : decode cX7_readAny 170 = .ok (.istore 4, 2) := daX7_readAny (170, .istore 4, 2) (List.mem_of_getElem? (i := 97) rfl)
theorem dX7_readAny_172 : decode cX7_readAny 172 = .ok (.iinc 1 (-1), 3) := daX7_readAny (172, .iinc 1 (-1), 3) (List.mem_of_getElem? (i := 98) rfl)
theorem dX7_readAny_175 : decode cX7_readAny 175 = .ok (.aload_n 0, 1) := daX7_readAny (175, .aload_n 0, 1) (List.mem_of_getElem? (i := 99) rfl)
theorem dX7_readAny_176 : decode cX7_readAny 176 = .ok (.invokevirtual 225, 3) := daX7_readAny (176, .invokevirtual 225, 3) (List.mem_of_getElem? (i := 100) rfl)
theorem dX7_readAny_179 : decode cX7_readAny 179 = .ok (.aload_n 0, 1) := daX7_readAny (179, .aload_n 0, 1) (List.mem_of_getElem? (i := 101) rfl)
theorem dX7_readAny_180 : decode cX7_readAny 180 = .ok (.iload 4, 2) := daX7_readAny (180, .iload 4, 2) (List.mem_of_getElem? (i := 102) rfl)
theorem dX7_readAny_182 : decode cX7_readAny 182 = .ok (.invokevirtual 252, 3) := daX7_readAny (182, .invokevirtual 252, 3) (List.mem_of_getElem? (i := 103) rfl)
theorem dX7_readAny_185 : decode cX7_readAny 185 = .ok (.goto (-34), 3) := daX7_readAny (185, .goto (-34), 3) (List.mem_of_getElem? (i := 104) rfl)
theorem dX7_readAny_188 : decode cX7_readAny 188 = .ok (.aload_n 0, 1) := daX7_readAny (188, .aload_n 0, 1) (List.mem_of_getElem? (i := 105) rfl)
theorem dX7_readAny_189 : decode cX7_readAny 189 = .ok (.bipush 44, 2) := daX7_readAny (189, .bipush 44, 2) (List.mem_of_getElem? (i := 106) rfl)
theorem dX7_readAny_191 : decode cX7_readAny 191 = .ok (.invokevirtual 228, 3) := daX7_readAny (191, .invokevirtual 228, 3) (List.mem_of_getElem? (i := 107) rfl)
theorem dX7_readAny_194 : decode cX7_readAny 194 = .ok (.ifCond .eq 10, 3) := daX7_readAny (194, .ifCond .eq 10, 3) (List.mem_of_getElem? (i := 108) rfl)
theorem dX7_readAny_197 : decode cX7_readAny 197 = .ok (.aload_n 0, 1) := daX7_readAny (197, .aload_n 0, 1) (List.mem_of_getElem? (i := 109) rfl)
theorem dX7_readAny_198 : decode cX7_readAny 198 = .ok (.invokevirtual 225, 3) := daX7_readAny (198, .invokevirtual 225, 3) (List.mem_of_getElem? (i := 110) rfl)
theorem dX7_readAny_201 : decode cX7_readAny 201 = .ok (.goto 56, 3) := daX7_readAny (201, .goto 56, 3) (List.mem_of_getElem? (i := 111) rfl)
theorem dX7_readAny_204 : decode cX7_readAny 204 = .ok (.aload_n 0, 1) := daX7_readAny (204, .aload_n 0, 1) (List.mem_of_getElem? (i := 112) rfl)
theorem dX7_readAny_205 : decode cX7_readAny 205 = .ok (.bipush 124, 2) := daX7_readAny (205, .bipush 124, 2) (List.mem_of_getElem? (i := 113) rfl)
theorem dX7_readAny_207 : decode cX7_readAny 207 = .ok (.invokevirtual 228, 3) := daX7_readAny (207, .invokevirtual 228, 3) (List.mem_of_getElem? (i := 114) rfl)
theorem dX7_readAny_210 : decode cX7_readAny 210 = .ok (.ifCond .eq 32, 3) := daX7_readAny (210, .ifCond .eq 32, 3) (List.mem_of_getElem? (i := 115) rfl)
theorem dX7_readAny_213 : decode cX7_readAny 213 = .ok (.aload_n 0, 1) := daX7_readAny (213, .aload_n 0, 1) (List.mem_of_getElem? (i := 116) rfl)
theorem dX7_readAny_214 : decode cX7_readAny 214 = .ok (.getfield 110, 3) := daX7_readAny (214, .getfield 110, 3) (List.mem_of_getElem? (i := 117) rfl)
theorem dX7_readAny_217 : decode cX7_readAny 217 = .ok (.iload_n 1, 1) := daX7_readAny (217, .iload_n 1, 1) (List.mem_of_getElem? (i := 118) rfl)
theorem dX7_readAny_218 : decode cX7_readAny 218 = .ok (.aload_n 0, 1) := daX7_readAny (218, .aload_n 0, 1) (List.mem_of_getElem? (i := 119) rfl)
theorem dX7_readAny_219 : decode cX7_readAny 219 = .ok (.iconst 1, 1) := daX7_readAny (219, .iconst 1, 1) (List.mem_of_getElem? (i := 120) rfl)
theorem dX7_readAny_220 : decode cX7_readAny 220 = .ok (.aload_n 0, 1) := daX7_readAny (220, .aload_n 0, 1) (List.mem_of_getElem? (i := 121) rfl)
theorem dX7_readAny_221 : decode cX7_readAny 221 = .ok (.getfield 95, 3) := daX7_readAny (221, .getfield 95, 3) (List.mem_of_getElem? (i := 122) rfl)
theorem dX7_readAny_224 : decode cX7_readAny 224 = .ok (.aload_n 0, 1) := daX7_readAny (224, .aload_n 0, 1) (List.mem_of_getElem? (i := 123) rfl)
theorem dX7_readAny_225 : decode cX7_readAny 225 = .ok (.getfield 110, 3) := daX7_readAny (225, .getfield 110, 3) (List.mem_of_getElem? (i := 124) rfl)
theorem dX7_readAny_228 : decode cX7_readAny 228 = .ok (.iload_n 1, 1) := daX7_readAny (228, .iload_n 1, 1) (List.mem_of_getElem? (i := 125) rfl)
theorem dX7_readAny_229 : decode cX7_readAny 229 = .ok (.iaload, 1) := daX7_readAny (229, .iaload, 1) (List.mem_of_getElem? (i := 126) rfl)
theorem dX7_readAny_230 : decode cX7_readAny 230 = .ok (.iaload, 1) := daX7_readAny (230, .iaload, 1) (List.mem_of_getElem? (i := 127) rfl)
theorem dX7_readAny_231 : decode cX7_readAny 231 = .ok (.invokevirtual 246, 3) := daX7_readAny (231, .invokevirtual 246, 3) (List.mem_of_getElem? (i := 128) rfl)
theorem dX7_readAny_234 : decode cX7_readAny 234 = .ok (.iastore, 1) := daX7_readAny (234, .iastore, 1) (List.mem_of_getElem? (i := 129) rfl)
theorem dX7_readAny_235 : decode cX7_readAny 235 = .ok (.aload_n 0, 1) := daX7_readAny (235, .aload_n 0, 1) (List.mem_of_getElem? (i := 130) rfl)
theorem dX7_readAny_236 : decode cX7_readAny 236 = .ok (.invokevirtual 225, 3) := daX7_readAny (236, .invokevirtual 225, 3) (List.mem_of_getElem? (i := 131) rfl)
theorem dX7_readAny_239 : decode cX7_readAny 239 = .ok (.goto 18, 3) := daX7_readAny (239, .goto 18, 3) (List.mem_of_getElem? (i := 132) rfl)
theorem dX7_readAny_242 : decode cX7_readAny 242 = .ok (.iconst 0, 1) := daX7_readAny (242, .iconst 0, 1) (List.mem_of_getElem? (i := 133) rfl)
theorem dX7_readAny_243 : decode cX7_readAny 243 = .ok (.istore_n 2, 1) := daX7_readAny (243, .istore_n 2, 1) (List.mem_of_getElem? (i := 134) rfl)
theorem dX7_readAny_244 : decode cX7_readAny 244 = .ok (.iload_n 1, 1) := daX7_readAny (244, .iload_n 1, 1) (List.mem_of_getElem? (i := 135) rfl)
theorem dX7_readAny_245 : decode cX7_readAny 245 = .ok (.ifCond .le 12, 3) := daX7_readAny (245, .ifCond .le 12, 3) (List.mem_of_getElem? (i := 136) rfl)
theorem dX7_readAny_248 : decode cX7_readAny 248 = .ok (.aload_n 0, 1) := daX7_readAny (248, .aload_n 0, 1) (List.mem_of_getElem? (i := 137) rfl)
theorem dX7_readAny_249 : decode cX7_readAny 249 = .ok (.iconst 2, 1) := daX7_readAny (249, .iconst 2, 1) (List.mem_of_getElem? (i := 138) rfl)
theorem dX7_readAny_250 : decode cX7_readAny 250 = .ok (.aload_n 0, 1) := daX7_readAny (250, .aload_n 0, 1) (List.mem_of_getElem? (i := 139) rfl)
theorem dX7_readAny_251 : decode cX7_readAny 251 = .ok (.getfield 186, 3) := daX7_readAny (251, .getfield 186, 3) (List.mem_of_getElem? (i := 140) rfl)
theorem dX7_readAny_254 : decode cX7_readAny 254 = .ok (.invokevirtual 207, 3) := daX7_readAny (254, .invokevirtual 207, 3) (List.mem_of_getElem? (i := 141) rfl)
theorem dX7_readAny_257 : decode cX7_readAny 257 = .ok (.goto (-227), 3) := daX7_readAny (257, .goto (-227), 3) (List.mem_of_getElem? (i := 142) rfl)
theorem dX7_readAny_260 : decode cX7_readAny 260 = .ok (.aload_n 0, 1) := daX7_readAny (260, .aload_n 0, 1) (List.mem_of_getElem? (i := 143) rfl)
theorem dX7_readAny_261 : decode cX7_readAny 261 = .ok (.iconst 2, 1) := daX7_readAny (261, .iconst 2, 1) (List.mem_of_getElem? (i := 144) rfl)
theorem dX7_readAny_262 : decode cX7_readAny 262 = .ok (.aload_n 0, 1) := daX7_readAny (262, .aload_n 0, 1) (List.mem_of_getElem? (i := 145) rfl)
theorem dX7_readAny_263 : decode cX7_readAny 263 = .ok (.getfield 186, 3) := daX7_readAny (263, .getfield 186, 3) (List.mem_of_getElem? (i := 146) rfl)
theorem dX7_readAny_266 : decode cX7_readAny 266 = .ok (.invokevirtual 207, 3) := daX7_readAny (266, .invokevirtual 207, 3) (List.mem_of_getElem? (i := 147) rfl)
theorem dX7_readAny_269 : decode cX7_readAny 269 = .ok (.goto (-239), 3) := daX7_readAny (269, .goto (-239), 3) (List.mem_of_getElem? (i := 148) rfl)
theorem dX7_readAny_272 : decode cX7_readAny 272 = .ok (.return_, 1) := daX7_readAny (272, .return_, 1) (List.mem_of_getElem? (i := 149) rfl)
def rmX7_readAny : Room := { frames := 6, cells := 0, slots := 0, locals := 128 }
theorem zdX7_readAny : yX7_readAny.cls = RX7 ∧ yX7_readAny.cls ≠ "java/lang/invoke/MethodHandle" ∧ yX7_readAny.cls ≠ "java/lang/invoke/VarHandle" ∧ (parseMethodDescriptor yX7_readAny.desc).map (fun d => d.parameters.length) = some 0 := by decide +kernel
theorem kiX7_readAny_X7 : ∀ w ∈ wsX70, w ∈ wsX7_readAny := fun _ h => (List.mem_cons_of_mem _ (List.mem_append_right _ h))
theorem kfX7_readAny_113 : Cond.fieldLink RX7 113 "ShapeJudgeModel" "itemAt" "[I" ∈ wsX7_readAny := (List.mem_of_getElem? (i := 1) rfl)
theorem kfX7_readAny_110 : Cond.fieldLink RX7 110 "ShapeJudgeModel" "eachAt" "[I" ∈ wsX7_readAny := (List.mem_of_getElem? (i := 2) rfl)
theorem kfX7_readAny_177 : Cond.fieldLink RX7 177 "ShapeJudgeModel" "fault" "I" ∈ wsX7_readAny := (List.mem_of_getElem? (i := 3) rfl)
theorem kfX7_readAny_186 : Cond.fieldLink RX7 186 "ShapeJudgeModel" "from" "I" ∈ wsX7_readAny := (List.mem_of_getElem? (i := 4) rfl)
theorem kfX7_readAny_193 : Cond.fieldLink RX7 193 "ShapeJudgeModel" "sort" "I" ∈ wsX7_readAny := (List.mem_of_getElem? (i := 5) rfl)
theorem kfX7_readAny_95 : Cond.fieldLink RX7 95 "ShapeJudgeModel" "dAround" "[I" ∈ wsX7_readAny := (List.mem_of_getElem? (i := 6) rfl)
def t_X7_readAny_151  (i28 : Int32) (m29 : Mem) : Option ((Int32 × Mem) ⊕ (Int32 × Mem)) :=
  (s_X7_is m29 41).bind fun r31 => (if r31 = 0 then (some (.inr (i28, m29))) else ((if i28 ≤ 0 then (some (.inr (i28, m29))) else (ck (zin i28 8 = true) (bn (m29 35 (Int32.toNatClampNeg i28)) fun x33 => bn (i28 + (-1)) fun x34 => (s_X7_next m29).bind fun m36 => (s_X7_readCount m36 x33).bind fun m38 => some (.inl (x34, m38)))))))
def l_X7_readAny_151  (n : Nat) (i28 : Int32) (m29 : Mem) : Option (Int32 × Mem) := zlp n (fun a => t_X7_readAny_151  a.1 a.2) (i28, m29)
def t_X7_readAny_30  (i11 : Int32) (i12 : Int32) (m13 : Mem) : Option ((Int32 × Int32 × Mem) ⊕ (Mem)) :=
  (if i12 = 0 then (some (.inr m13)) else ((if (m13 0 42) = 0 then ((s_X7_is m13 40).bind fun r15 => (if r15 = 0 then ((if (m13 0 42) = 0 then ((if (m13 0 40) = 2 then (ck (zin i11 8 = true) (zb2 (s_X7_comes m13 2 (m13 34 (Int32.toNatClampNeg i11))) fun r22 m23 => (s_X7_readPart m23 r22).bind fun m25 => (s_X7_readCount m25 r22).bind fun m27 => (zb2 (l_X7_readAny_151  FU i11 m27) fun y41 m42 => (s_X7_is m42 44).bind fun r44 => (if r44 = 0 then ((s_X7_is m42 124).bind fun r46 => (if r46 = 0 then ((if y41 ≤ 0 then (some (.inl (y41, 0, m42))) else ((s_X7_fails m42 2 (m42 0 39)).bind fun m48 => some (.inl (y41, 0, m48))))) else (ck (zin y41 8 = true) (ck (zin (m42 34 (Int32.toNatClampNeg y41)) 960 = true) (zb2 (s_X7_comes m42 1 (m42 29 (Int32.toNatClampNeg (m42 34 (Int32.toNatClampNeg y41))))) fun r53 m54 => ck (zin y41 8 = true) (bn (sto m54 34 (Int32.toNatClampNeg y41) r53) fun m56 => (s_X7_next m56).bind fun m58 => some (.inl (y41, i12, m58)))))))) else ((s_X7_next m42).bind fun m61 => some (.inl (y41, i12, m61))))))) else ((s_X7_fails m13 2 (m13 0 39)).bind fun m19 => some (.inl (i11, i12, m19))))) else ((s_X7_fails m13 2 (m13 0 39)).bind fun m17 => some (.inl (i11, i12, m17))))) else ((if i11 = 6 then ((s_X7_fails m13 4 (m13 0 39)).bind fun m83 => some (.inl (i11, i12, m83))) else (ck (zin i11 8 = true) (zb2 (s_X7_comes m13 2 (m13 34 (Int32.toNatClampNeg i11))) fun r67 m68 => bn (i11 + 1) fun x69 => ck (zin x69 8 = true) (bn (sto m68 35 (Int32.toNatClampNeg x69) r67) fun m71 => zb2 (s_X7_comes m71 0 r67) fun r73 m74 => zb2 (s_X7_comes m74 1 r73) fun r76 m77 => ck (zin x69 8 = true) (bn (sto m77 34 (Int32.toNatClampNeg x69) r76) fun m79 => (s_X7_next m79).bind fun m81 => some (.inl (x69, i12, m81)))))))))) else (some (.inr m13)))))
def l_X7_readAny_30  (n : Nat) (i11 : Int32) (i12 : Int32) (m13 : Mem) : Option (Mem) := zlp n (fun a => t_X7_readAny_30  a.1 a.2.1 a.2.2) (i11, i12, m13)
def s_X7_readAny (m : Mem)  : Option (Mem) :=
  ck (zin 0 8 = true) (bn (sto m 35 (Int32.toNatClampNeg 0) (-4)) fun m2 => zb2 (s_X7_comes m2 0 (-4)) fun r4 m5 => zb2 (s_X7_comes m5 1 r4) fun r7 m8 => ck (zin 0 8 = true) (bn (sto m8 34 (Int32.toNatClampNeg 0) r7) fun m10 => ((l_X7_readAny_30  FU 0 1 m10).bind fun m88 => some m88)))
set_option maxRecDepth 100000 in
set_option maxHeartbeats 4000000 in
theorem w_X7_readAny_151 {K : ZK} (C : zOK MM K cX7_readAny 5 none RX7 wsX7_readAny rmX7_readAny) {i12 : Int32}  {o0 : Int32} {o1 : Mem} (hk : zGo MM K o1 [(0, .ref ((zw K).2.1 0)), (1, .int o0), (2, .int i12)] 188 []) : ∀ (n : Nat) (i28 : Int32) (m29 : Mem), l_X7_readAny_151  n i28 m29 = some (o0, o1) → zGo MM K m29 [(0, .ref ((zw K).2.1 0)), (1, .int i28), (2, .int i12)] 151 [] := by
  intro n
  induction n with
  | zero =>
    intro i28 m29 hf
    cases hf
  | succ n ih =>
    intro i28 m29 hf
    obtain ⟨z, hf, hz⟩ := zlp_el hf
    replace hf : t_X7_readAny_151  i28 m29 = some z := hf
    unfold t_X7_readAny_151 at hf
    refine z_aload_n C 0 dX7_readAny_151 rfl rfl ?_
    refine z_bipush C (v := 41) dX7_readAny_152 rfl ?_
    obtain ⟨r31, hc30, hf⟩ := zb_el hf
    refine z_cVi C (c_X7_is _ _ hc30) rfl gX7_readAny_X7_is rfl rfl zdX7_is rfl (Nat.le_of_ble_eq_true rfl) rfl rfl rfl ⟨Nat.le_of_ble_eq_true rfl, Nat.le_of_ble_eq_true rfl⟩ (Nat.le_of_ble_eq_true rfl) dX7_readAny_154 rfl ?_
    refine z_if_eq (tgt := 188) C dX7_readAny_157 (by decide) (fun c40 => ?_) (fun c40 => ?_)
    · replace hf := if_t c40 hf
      cases hf
      replace hz := zlz_r hz
      cases hz
      exact z_sub [0, 1, 2] rfl hk
    · replace hf := if_f c40 hf
      refine z_iload_n C 1 dX7_readAny_160 rfl rfl ?_
      refine z_if_le (tgt := 188) C dX7_readAny_161 (by decide) (fun c39 => ?_) (fun c39 => ?_)
      · replace hf := if_t c39 hf
        cases hf
        replace hz := zlz_r hz
        cases hz
        exact z_sub [0, 1, 2] rfl hk
      · replace hf := if_f c39 hf
        refine z_aload_n C 0 dX7_readAny_164 rfl rfl ?_
        refine z_getr C (t := 35) (Nat.le_of_ble_eq_true rfl) rfl rfl 46 (Nat.le_of_ble_eq_true rfl) rfl kiX7_readAny_X7 kfX7_readAny_113 dX7_readAny_165 ?_
        refine z_iload_n C 1 dX7_readAny_168 rfl rfl ?_
        obtain ⟨hi32, hf⟩ := ck_el hf
        refine z_iald C (k := 35) (Nat.le_of_ble_eq_true rfl) rfl hi32 dX7_readAny_169 ?_
        refine z_topi (fun x33 e_x33 => ?_)
        replace hf := bn_to e_x33 hf
        refine z_istore C (lv2 := [(0, .ref ((zw K).2.1 0)), (1, .int i28), (2, .int i12), (4, .int x33)]) [1, 2, 3, 0] dX7_readAny_170 (Nat.le_of_ble_eq_true rfl) rfl ?_
        obtain ⟨x34, e_x34⟩ : ∃ y : Int32, y = i28 + (-1) := ⟨_, rfl⟩
        replace hf := bn_to e_x34 hf
        refine z_iinc C (lv2 := [(0, .ref ((zw K).2.1 0)), (1, .int x34), (2, .int i12), (4, .int x33)]) 1 [1, 0, 2, 3] dX7_readAny_172 (by decide) rfl (Nat.le_of_ble_eq_true rfl) e_x34 rfl ?_
        refine z_aload_n C 0 dX7_readAny_175 rfl rfl ?_
        obtain ⟨m36, hc35, hf⟩ := zb_el hf
        refine z_cVv C (c_X7_next _ _ hc35) rfl gX7_readAny_X7_next rfl rfl zdX7_next rfl (Nat.le_of_ble_eq_true rfl) rfl rfl rfl ⟨Nat.le_of_ble_eq_true rfl, Nat.le_of_ble_eq_true rfl⟩ (Nat.le_of_ble_eq_true rfl) dX7_readAny_176 rfl ?_
        refine z_aload_n C 0 dX7_readAny_179 rfl rfl ?_
        refine z_iload C 3 dX7_readAny_180 rfl ?_
        obtain ⟨m38, hc37, hf⟩ := zb_el hf
        refine z_cVv C (c_X7_readCount _ _ hc37) rfl gX7_readAny_X7_readCount rfl rfl zdX7_readCount rfl (Nat.le_of_ble_eq_true rfl) rfl rfl rfl ⟨Nat.le_of_ble_eq_true rfl, Nat.le_of_ble_eq_true rfl⟩ (Nat.le_of_ble_eq_true rfl) dX7_readAny_182 rfl ?_
        refine z_goto (tgt := 151) C dX7_readAny_185 (by decide) ?_
        cases hf
        exact z_sub [0, 1, 2] rfl (ih x34 m38 hz)
set_option maxRecDepth 100000 in
set_option maxHeartbeats 4000000 in
theorem w_X7_readAny_30 {K : ZK} (C : zOK MM K cX7_readAny 5 none RX7 wsX7_readAny rmX7_readAny)   {o0 : Mem} (hk : zGo MM K o0 [] 272 []) : ∀ (n : Nat) (i11 : Int32) (i12 : Int32) (m13 : Mem), l_X7_readAny_30  n i11 i12 m13 = some o0 → zGo MM K m13 [(0, .ref ((zw K).2.1 0)), (1, .int i11), (2, .int i12)] 30 [] := by
  intro n
  induction n with
  | zero =>
    intro i11 i12 m13 hf
    cases hf
  | succ n ih =>
    intro i11 i12 m13 hf
    obtain ⟨z, hf, hz⟩ := zlp_el hf
    replace hf : t_X7_readAny_30  i11 i12 m13 = some z := hf
    unfold t_X7_readAny_30 at hf
    refine z_iload_n C 2 dX7_readAny_30 rfl rfl ?_
    refine z_if_eq (tgt := 272) C dX7_readAny_31 (by decide) (fun c87 => ?_) (fun c87 => ?_)
    · replace hf := if_t c87 hf
      cases hf
      replace hz := zlz_r hz
      cases hz
      exact z_sub [] rfl hk
    · replace hf := if_f c87 hf
      refine z_aload_n C 0 dX7_readAny_34 rfl rfl ?_
      refine z_geti C (Nat.le_of_ble_eq_true rfl) rfl rfl 42 (Nat.le_of_ble_eq_true rfl) rfl kiX7_readAny_X7 kfX7_readAny_177 dX7_readAny_35 ?_
      refine z_if_ne (tgt := 272) C dX7_readAny_38 (by decide) (fun c86 => ?_) (fun c86 => ?_)
      · replace hf := if_f c86 hf
        cases hf
        replace hz := zlz_r hz
        cases hz
        exact z_sub [] rfl hk
      · replace hf := if_t c86 hf
        refine z_aload_n C 0 dX7_readAny_41 rfl rfl ?_
        refine z_bipush C (v := 40) dX7_readAny_42 rfl ?_
        obtain ⟨r15, hc14, hf⟩ := zb_el hf
        refine z_cVi C (c_X7_is _ _ hc14) rfl gX7_readAny_X7_is rfl rfl zdX7_is rfl (Nat.le_of_ble_eq_true rfl) rfl rfl rfl ⟨Nat.le_of_ble_eq_true rfl, Nat.le_of_ble_eq_true rfl⟩ (Nat.le_of_ble_eq_true rfl) dX7_readAny_44 rfl ?_
        refine z_if_eq (tgt := 114) C dX7_readAny_47 (by decide) (fun c85 => ?_) (fun c85 => ?_)
        · replace hf := if_t c85 hf
          refine z_aload_n C 0 dX7_readAny_114 rfl rfl ?_
          refine z_geti C (Nat.le_of_ble_eq_true rfl) rfl rfl 42 (Nat.le_of_ble_eq_true rfl) rfl kiX7_readAny_X7 kfX7_readAny_177 dX7_readAny_115 ?_
          refine z_if_ne (tgt := 260) C dX7_readAny_118 (by decide) (fun c64 => ?_) (fun c64 => ?_)
          · replace hf := if_f c64 hf
            refine z_aload_n C 0 dX7_readAny_260 rfl rfl ?_
            refine z_iconst C (v := 2) dX7_readAny_261 rfl ?_
            refine z_aload_n C 0 dX7_readAny_262 rfl rfl ?_
            refine z_geti C (Nat.le_of_ble_eq_true rfl) rfl rfl 39 (Nat.le_of_ble_eq_true rfl) rfl kiX7_readAny_X7 kfX7_readAny_186 dX7_readAny_263 ?_
            obtain ⟨m17, hc16, hf⟩ := zb_el hf
            refine z_cVv C (c_X7_fails _ _ hc16) rfl gX7_readAny_X7_fails rfl rfl zdX7_fails rfl (Nat.le_of_ble_eq_true rfl) rfl rfl rfl ⟨Nat.le_of_ble_eq_true rfl, Nat.le_of_ble_eq_true rfl⟩ (Nat.le_of_ble_eq_true rfl) dX7_readAny_266 rfl ?_
            refine z_goto (tgt := 30) C dX7_readAny_269 (by decide) ?_
            cases hf
            exact z_sub [0, 1, 2] rfl (ih i11 i12 m17 hz)
          · replace hf := if_t c64 hf
            refine z_aload_n C 0 dX7_readAny_121 rfl rfl ?_
            refine z_geti C (Nat.le_of_ble_eq_true rfl) rfl rfl 40 (Nat.le_of_ble_eq_true rfl) rfl kiX7_readAny_X7 kfX7_readAny_193 dX7_readAny_122 ?_
            refine z_iconst C (v := 2) dX7_readAny_125 rfl ?_
            refine z_icmp_ne (tgt := 260) C dX7_readAny_126 (by decide) (fun c63 => ?_) (fun c63 => ?_)
            · replace hf := if_f c63 hf
              refine z_aload_n C 0 dX7_readAny_260 rfl rfl ?_
              refine z_iconst C (v := 2) dX7_readAny_261 rfl ?_
              refine z_aload_n C 0 dX7_readAny_262 rfl rfl ?_
              refine z_geti C (Nat.le_of_ble_eq_true rfl) rfl rfl 39 (Nat.le_of_ble_eq_true rfl) rfl kiX7_readAny_X7 kfX7_readAny_186 dX7_readAny_263 ?_
              obtain ⟨m19, hc18, hf⟩ := zb_el hf
              refine z_cVv C (c_X7_fails _ _ hc18) rfl gX7_readAny_X7_fails rfl rfl zdX7_fails rfl (Nat.le_of_ble_eq_true rfl) rfl rfl rfl ⟨Nat.le_of_ble_eq_true rfl, Nat.le_of_ble_eq_true rfl⟩ (Nat.le_of_ble_eq_true rfl) dX7_readAny_266 rfl ?_
              refine z_goto (tgt := 30) C dX7_readAny_269 (by decide) ?_
              cases hf
              exact z_sub [0, 1, 2] rfl (ih i11 i12 m19 hz)
            · replace hf := if_t c63 hf
              refine z_aload_n C 0 dX7_readAny_129 rfl rfl ?_
              refine z_iconst C (v := 2) dX7_readAny_130 rfl ?_
              refine z_aload_n C 0 dX7_readAny_131 rfl rfl ?_
              refine z_getr C (t := 34) (Nat.le_of_ble_eq_true rfl) rfl rfl 45 (Nat.le_of_ble_eq_true rfl) rfl kiX7_readAny_X7 kfX7_readAny_110 dX7_readAny_132 ?_
              refine z_iload_n C 1 dX7_readAny_135 rfl rfl ?_
              obtain ⟨hi20, hf⟩ := ck_el hf
              refine z_iald C (k := 34) (Nat.le_of_ble_eq_true rfl) rfl hi20 dX7_readAny_136 ?_
              obtain ⟨r22, m23, hc21, hf⟩ := zb2_el hf
              refine z_cVi C (c_X7_comes _ _ hc21) rfl gX7_readAny_X7_comes rfl rfl zdX7_comes rfl (Nat.le_of_ble_eq_true rfl) rfl rfl rfl ⟨Nat.le_of_ble_eq_true rfl, Nat.le_of_ble_eq_true rfl⟩ (Nat.le_of_ble_eq_true rfl) dX7_readAny_137 rfl ?_
              refine z_istore_n C (lv2 := [(0, .ref ((zw K).2.1 0)), (1, .int i11), (2, .int i12), (3, .int r22)]) [1, 2, 3, 0] dX7_readAny_140 rfl (Nat.le_of_ble_eq_true rfl) rfl ?_
              refine z_aload_n C 0 dX7_readAny_141 rfl rfl ?_
              refine z_iload_n C 3 dX7_readAny_142 rfl rfl ?_
              obtain ⟨m25, hc24, hf⟩ := zb_el hf
              refine z_cVv C (c_X7_readPart _ _ hc24) rfl gX7_readAny_X7_readPart rfl rfl zdX7_readPart rfl (Nat.le_of_ble_eq_true rfl) rfl rfl rfl ⟨Nat.le_of_ble_eq_true rfl, Nat.le_of_ble_eq_true rfl⟩ (Nat.le_of_ble_eq_true rfl) dX7_readAny_143 rfl ?_
              refine z_aload_n C 0 dX7_readAny_146 rfl rfl ?_
              refine z_iload_n C 3 dX7_readAny_147 rfl rfl ?_
              obtain ⟨m27, hc26, hf⟩ := zb_el hf
              refine z_cVv C (c_X7_readCount _ _ hc26) rfl gX7_readAny_X7_readCount rfl rfl zdX7_readCount rfl (Nat.le_of_ble_eq_true rfl) rfl rfl rfl ⟨Nat.le_of_ble_eq_true rfl, Nat.le_of_ble_eq_true rfl⟩ (Nat.le_of_ble_eq_true rfl) dX7_readAny_148 rfl ?_
              obtain ⟨y41, m42, hg, hf⟩ := zb2_el hf
              refine z_sub [0, 1, 2] rfl (w_X7_readAny_151 C  ?_ _ _ _ hg)
              clear hg
              refine z_aload_n C 0 dX7_readAny_188 rfl rfl ?_
              refine z_bipush C (v := 44) dX7_readAny_189 rfl ?_
              obtain ⟨r44, hc43, hf⟩ := zb_el hf
              refine z_cVi C (c_X7_is _ _ hc43) rfl gX7_readAny_X7_is rfl rfl zdX7_is rfl (Nat.le_of_ble_eq_true rfl) rfl rfl rfl ⟨Nat.le_of_ble_eq_true rfl, Nat.le_of_ble_eq_true rfl⟩ (Nat.le_of_ble_eq_true rfl) dX7_readAny_191 rfl ?_
              refine z_if_eq (tgt := 204) C dX7_readAny_194 (by decide) (fun c62 => ?_) (fun c62 => ?_)
              · replace hf := if_t c62 hf
                refine z_aload_n C 0 dX7_readAny_204 rfl rfl ?_
                refine z_bipush C (v := 124) dX7_readAny_205 rfl ?_
                obtain ⟨r46, hc45, hf⟩ := zb_el hf
                refine z_cVi C (c_X7_is _ _ hc45) rfl gX7_readAny_X7_is rfl rfl zdX7_is rfl (Nat.le_of_ble_eq_true rfl) rfl rfl rfl ⟨Nat.le_of_ble_eq_true rfl, Nat.le_of_ble_eq_true rfl⟩ (Nat.le_of_ble_eq_true rfl) dX7_readAny_207 rfl ?_
                refine z_if_eq (tgt := 242) C dX7_readAny_210 (by decide) (fun c59 => ?_) (fun c59 => ?_)
                · replace hf := if_t c59 hf
                  refine z_iconst C (v := 0) dX7_readAny_242 rfl ?_
                  refine z_istore_n C (lv2 := [(0, .ref ((zw K).2.1 0)), (1, .int y41), (2, .int 0)]) [1, 2, 0] dX7_readAny_243 rfl (Nat.le_of_ble_eq_true rfl) rfl ?_
                  refine z_iload_n C 1 dX7_readAny_244 rfl rfl ?_
                  refine z_if_le (tgt := 257) C dX7_readAny_245 (by decide) (fun c49 => ?_) (fun c49 => ?_)
                  · replace hf := if_t c49 hf
                    refine z_goto (tgt := 30) C dX7_readAny_257 (by decide) ?_
                    cases hf
                    exact z_sub [0, 1, 2] rfl (ih y41 0 m42 hz)
                  · replace hf := if_f c49 hf
                    refine z_aload_n C 0 dX7_readAny_248 rfl rfl ?_
                    refine z_iconst C (v := 2) dX7_readAny_249 rfl ?_
                    refine z_aload_n C 0 dX7_readAny_250 rfl rfl ?_
                    refine z_geti C (Nat.le_of_ble_eq_true rfl) rfl rfl 39 (Nat.le_of_ble_eq_true rfl) rfl kiX7_readAny_X7 kfX7_readAny_186 dX7_readAny_251 ?_
                    obtain ⟨m48, hc47, hf⟩ := zb_el hf
                    refine z_cVv C (c_X7_fails _ _ hc47) rfl gX7_readAny_X7_fails rfl rfl zdX7_fails rfl (Nat.le_of_ble_eq_true rfl) rfl rfl rfl ⟨Nat.le_of_ble_eq_true rfl, Nat.le_of_ble_eq_true rfl⟩ (Nat.le_of_ble_eq_true rfl) dX7_readAny_254 rfl ?_
                    refine z_goto (tgt := 30) C dX7_readAny_257 (by decide) ?_
                    cases hf
                    exact z_sub [0, 1, 2] rfl (ih y41 0 m48 hz)
                · replace hf := if_f c59 hf
                  refine z_aload_n C 0 dX7_readAny_213 rfl rfl ?_
                  refine z_getr C (t := 34) (Nat.le_of_ble_eq_true rfl) rfl rfl 45 (Nat.le_of_ble_eq_true rfl) rfl kiX7_readAny_X7 kfX7_readAny_110 dX7_readAny_214 ?_
                  refine z_iload_n C 1 dX7_readAny_217 rfl rfl ?_
                  refine z_aload_n C 0 dX7_readAny_218 rfl rfl ?_
                  refine z_iconst C (v := 1) dX7_readAny_219 rfl ?_
                  refine z_aload_n C 0 dX7_readAny_220 rfl rfl ?_
                  refine z_getr C (t := 29) (Nat.le_of_ble_eq_true rfl) rfl rfl 32 (Nat.le_of_ble_eq_true rfl) rfl kiX7_readAny_X7 kfX7_readAny_95 dX7_readAny_221 ?_
                  refine z_aload_n C 0 dX7_readAny_224 rfl rfl ?_
                  refine z_getr C (t := 34) (Nat.le_of_ble_eq_true rfl) rfl rfl 45 (Nat.le_of_ble_eq_true rfl) rfl kiX7_readAny_X7 kfX7_readAny_110 dX7_readAny_225 ?_
                  refine z_iload_n C 1 dX7_readAny_228 rfl rfl ?_
                  obtain ⟨hi50, hf⟩ := ck_el hf
                  refine z_iald C (k := 34) (Nat.le_of_ble_eq_true rfl) rfl hi50 dX7_readAny_229 ?_
                  obtain ⟨hi51, hf⟩ := ck_el hf
                  refine z_iald C (k := 29) (Nat.le_of_ble_eq_true rfl) rfl hi51 dX7_readAny_230 ?_
                  obtain ⟨r53, m54, hc52, hf⟩ := zb2_el hf
                  refine z_cVi C (c_X7_comes _ _ hc52) rfl gX7_readAny_X7_comes rfl rfl zdX7_comes rfl (Nat.le_of_ble_eq_true rfl) rfl rfl rfl ⟨Nat.le_of_ble_eq_true rfl, Nat.le_of_ble_eq_true rfl⟩ (Nat.le_of_ble_eq_true rfl) dX7_readAny_231 rfl ?_
                  obtain ⟨hi55, hf⟩ := ck_el hf
                  refine z_iast C (k := 34) (Nat.le_of_ble_eq_true rfl) rfl hi55 dX7_readAny_234 ?_
                  refine z_nm (fun m56 e_m56 => ?_)
                  replace hf := bn_to e_m56 hf
                  refine z_aload_n C 0 dX7_readAny_235 rfl rfl ?_
                  obtain ⟨m58, hc57, hf⟩ := zb_el hf
                  refine z_cVv C (c_X7_next _ _ hc57) rfl gX7_readAny_X7_next rfl rfl zdX7_next rfl (Nat.le_of_ble_eq_true rfl) rfl rfl rfl ⟨Nat.le_of_ble_eq_true rfl, Nat.le_of_ble_eq_true rfl⟩ (Nat.le_of_ble_eq_true rfl) dX7_readAny_236 rfl ?_
                  refine z_goto (tgt := 257) C dX7_readAny_239 (by decide) ?_
                  refine z_goto (tgt := 30) C dX7_readAny_257 (by decide) ?_
                  cases hf
                  exact z_sub [0, 1, 2] rfl (ih y41 i12 m58 hz)
              · replace hf := if_f c62 hf
                refine z_aload_n C 0 dX7_readAny_197 rfl rfl ?_
                obtain ⟨m61, hc60, hf⟩ := zb_el hf
                refine z_cVv C (c_X7_next _ _ hc60) rfl gX7_readAny_X7_next rfl rfl zdX7_next rfl (Nat.le_of_ble_eq_true rfl) rfl rfl rfl ⟨Nat.le_of_ble_eq_true rfl, Nat.le_of_ble_eq_true rfl⟩ (Nat.le_of_ble_eq_true rfl) dX7_readAny_198 rfl ?_
                refine z_goto (tgt := 257) C dX7_readAny_201 (by decide) ?_
                refine z_goto (tgt := 30) C dX7_readAny_257 (by decide) ?_
                cases hf
                exact z_sub [0, 1, 2] rfl (ih y41 i12 m61 hz)
        · replace hf := if_f c85 hf
          refine z_iload_n C 1 dX7_readAny_50 rfl rfl ?_
          refine z_bipush C (v := 6) dX7_readAny_51 rfl ?_
          refine z_icmp_ne (tgt := 68) C dX7_readAny_53 (by decide) (fun c84 => ?_) (fun c84 => ?_)
          · replace hf := if_f c84 hf
            refine z_aload_n C 0 dX7_readAny_68 rfl rfl ?_
            refine z_iconst C (v := 2) dX7_readAny_69 rfl ?_
            refine z_aload_n C 0 dX7_readAny_70 rfl rfl ?_
            refine z_getr C (t := 34) (Nat.le_of_ble_eq_true rfl) rfl rfl 45 (Nat.le_of_ble_eq_true rfl) rfl kiX7_readAny_X7 kfX7_readAny_110 dX7_readAny_71 ?_
            refine z_iload_n C 1 dX7_readAny_74 rfl rfl ?_
            obtain ⟨hi65, hf⟩ := ck_el hf
            refine z_iald C (k := 34) (Nat.le_of_ble_eq_true rfl) rfl hi65 dX7_readAny_75 ?_
            obtain ⟨r67, m68, hc66, hf⟩ := zb2_el hf
            refine z_cVi C (c_X7_comes _ _ hc66) rfl gX7_readAny_X7_comes rfl rfl zdX7_comes rfl (Nat.le_of_ble_eq_true rfl) rfl rfl rfl ⟨Nat.le_of_ble_eq_true rfl, Nat.le_of_ble_eq_true rfl⟩ (Nat.le_of_ble_eq_true rfl) dX7_readAny_76 rfl ?_
            refine z_istore_n C (lv2 := [(0, .ref ((zw K).2.1 0)), (1, .int i11), (2, .int i12), (3, .int r67)]) [1, 2, 3, 0] dX7_readAny_79 rfl (Nat.le_of_ble_eq_true rfl) rfl ?_
            obtain ⟨x69, e_x69⟩ : ∃ y : Int32, y = i11 + 1 := ⟨_, rfl⟩
            replace hf := bn_to e_x69 hf
            refine z_iinc C (lv2 := [(0, .ref ((zw K).2.1 0)), (1, .int x69), (2, .int i12), (3, .int r67)]) 1 [1, 0, 2, 3] dX7_readAny_80 rfl rfl (Nat.le_of_ble_eq_true rfl) e_x69 rfl ?_
            refine z_aload_n C 0 dX7_readAny_83 rfl rfl ?_
            refine z_getr C (t := 35) (Nat.le_of_ble_eq_true rfl) rfl rfl 46 (Nat.le_of_ble_eq_true rfl) rfl kiX7_readAny_X7 kfX7_readAny_113 dX7_readAny_84 ?_
            refine z_iload_n C 1 dX7_readAny_87 rfl rfl ?_
            refine z_iload_n C 3 dX7_readAny_88 rfl rfl ?_
            obtain ⟨hi70, hf⟩ := ck_el hf
            refine z_iast C (k := 35) (Nat.le_of_ble_eq_true rfl) rfl hi70 dX7_readAny_89 ?_
            refine z_nm (fun m71 e_m71 => ?_)
            replace hf := bn_to e_m71 hf
            refine z_aload_n C 0 dX7_readAny_90 rfl rfl ?_
            refine z_getr C (t := 34) (Nat.le_of_ble_eq_true rfl) rfl rfl 45 (Nat.le_of_ble_eq_true rfl) rfl kiX7_readAny_X7 kfX7_readAny_110 dX7_readAny_91 ?_
            refine z_iload_n C 1 dX7_readAny_94 rfl rfl ?_
            refine z_aload_n C 0 dX7_readAny_95 rfl rfl ?_
            refine z_iconst C (v := 1) dX7_readAny_96 rfl ?_
            refine z_aload_n C 0 dX7_readAny_97 rfl rfl ?_
            refine z_iconst C (v := 0) dX7_readAny_98 rfl ?_
            refine z_iload_n C 3 dX7_readAny_99 rfl rfl ?_
            obtain ⟨r73, m74, hc72, hf⟩ := zb2_el hf
            refine z_cVi C (c_X7_comes _ _ hc72) rfl gX7_readAny_X7_comes rfl rfl zdX7_comes rfl (Nat.le_of_ble_eq_true rfl) rfl rfl rfl ⟨Nat.le_of_ble_eq_true rfl, Nat.le_of_ble_eq_true rfl⟩ (Nat.le_of_ble_eq_true rfl) dX7_readAny_100 rfl ?_
            obtain ⟨r76, m77, hc75, hf⟩ := zb2_el hf
            refine z_cVi C (c_X7_comes _ _ hc75) rfl gX7_readAny_X7_comes rfl rfl zdX7_comes rfl (Nat.le_of_ble_eq_true rfl) rfl rfl rfl ⟨Nat.le_of_ble_eq_true rfl, Nat.le_of_ble_eq_true rfl⟩ (Nat.le_of_ble_eq_true rfl) dX7_readAny_103 rfl ?_
            obtain ⟨hi78, hf⟩ := ck_el hf
            refine z_iast C (k := 34) (Nat.le_of_ble_eq_true rfl) rfl hi78 dX7_readAny_106 ?_
            refine z_nm (fun m79 e_m79 => ?_)
            replace hf := bn_to e_m79 hf
            refine z_aload_n C 0 dX7_readAny_107 rfl rfl ?_
            obtain ⟨m81, hc80, hf⟩ := zb_el hf
            refine z_cVv C (c_X7_next _ _ hc80) rfl gX7_readAny_X7_next rfl rfl zdX7_next rfl (Nat.le_of_ble_eq_true rfl) rfl rfl rfl ⟨Nat.le_of_ble_eq_true rfl, Nat.le_of_ble_eq_true rfl⟩ (Nat.le_of_ble_eq_true rfl) dX7_readAny_108 rfl ?_
            refine z_goto (tgt := 30) C dX7_readAny_111 (by decide) ?_
            cases hf
            exact z_sub [0, 1, 2] rfl (ih x69 i12 m81 hz)
          · replace hf := if_t c84 hf
            refine z_aload_n C 0 dX7_readAny_56 rfl rfl ?_
            refine z_iconst C (v := 4) dX7_readAny_57 rfl ?_
            refine z_aload_n C 0 dX7_readAny_58 rfl rfl ?_
            refine z_geti C (Nat.le_of_ble_eq_true rfl) rfl rfl 39 (Nat.le_of_ble_eq_true rfl) rfl kiX7_readAny_X7 kfX7_readAny_186 dX7_readAny_59 ?_
            obtain ⟨m83, hc82, hf⟩ := zb_el hf
            refine z_cVv C (c_X7_fails _ _ hc82) rfl gX7_readAny_X7_fails rfl rfl zdX7_fails rfl (Nat.le_of_ble_eq_true rfl) rfl rfl rfl ⟨Nat.le_of_ble_eq_true rfl, Nat.le_of_ble_eq_true rfl⟩ (Nat.le_of_ble_eq_true rfl) dX7_readAny_62 rfl ?_
            refine z_goto (tgt := 30) C dX7_readAny_65 (by decide) ?_
            cases hf
            exact z_sub [0, 1, 2] rfl (ih i11 i12 m83 hz)
set_option maxRecDepth 100000 in
set_option maxHeartbeats 4000000 in
theorem c_X7_readAny (l : Launch) (w : ZW) {m : Mem}  {m9 : Mem}  (hf : s_X7_readAny m  = some m9) : zCv MM l w yX7_readAny wsX7_readAny rmX7_readAny [.ref (w.2.1 0)] m m9 := by
  refine z_met_v MM_ok (own := RX7) (by decide +kernel) rfl rfl (Nat.le_of_ble_eq_true rfl) ?_
  intro K C hKw hKl hret
  subst hKw
  subst hKl
  unfold s_X7_readAny at hf
  show zGo MM K m [(0, .ref ((zw K).2.1 0))] 0 []
  refine z_iconst C (v := 0) dX7_readAny_0 rfl ?_
  refine z_istore_n C (lv2 := [(0, .ref ((zw K).2.1 0)), (1, .int 0)]) [1, 0] dX7_readAny_1 rfl (Nat.le_of_ble_eq_true rfl) rfl ?_
  refine z_aload_n C 0 dX7_readAny_2 rfl rfl ?_
  refine z_getr C (t := 35) (Nat.le_of_ble_eq_true rfl) rfl rfl 46 (Nat.le_of_ble_eq_true rfl) rfl kiX7_readAny_X7 kfX7_readAny_113 dX7_readAny_3 ?_
  refine z_iconst C (v := 0) dX7_readAny_6 rfl ?_
  refine z_bipush C (v := (-4)) dX7_readAny_7 (by decide) ?_
  obtain ⟨hi1, hf⟩ := ck_el hf
  refine z_iast C (k := 35) (Nat.le_of_ble_eq_true rfl) rfl hi1 dX7_readAny_9 ?_
  refine z_nm (fun m2 e_m2 => ?_)
  replace hf := bn_to e_m2 hf
  refine z_aload_n C 0 dX7_readAny_10 rfl rfl ?_
  refine z_getr C (t := 34) (Nat.le_of_ble_eq_true rfl) rfl rfl 45 (Nat.le_of_ble_eq_true rfl) rfl kiX7_readAny_X7 kfX7_readAny_110 dX7_readAny_11 ?_
  refine z_iconst C (v := 0) dX7_readAny_14 rfl ?_
  refine z_aload_n C 0 dX7_readAny_15 rfl rfl ?_
  refine z_iconst C (v := 1) dX7_readAny_16 rfl ?_
  refine z_aload_n C 0 dX7_readAny_17 rfl rfl ?_
  refine z_iconst C (v := 0) dX7_readAny_18 rfl ?_
  refine z_bipush C (v := (-4)) dX7_readAny_19 (by decide) ?_
  obtain ⟨r4, m5, hc3, hf⟩ := zb2_el hf
  refine z_cVi C (c_X7_comes _ _ hc3) rfl gX7_readAny_X7_comes rfl rfl zdX7_comes rfl (Nat.le_of_ble_eq_true rfl) rfl rfl rfl ⟨Nat.le_of_ble_eq_true rfl, Nat.le_of_ble_eq_true rfl⟩ (Nat.le_of_ble_eq_true rfl) dX7_readAny_21 rfl ?_
  obtain ⟨r7, m8, hc6, hf⟩ := zb2_el hf
  refine z_cVi C (c_X7_comes _ _ hc6) rfl gX7_readAny_X7_comes rfl rfl zdX7_comes rfl (Nat.le_of_ble_eq_true rfl) rfl rfl rfl ⟨Nat.le_of_ble_eq_true rfl, Nat.le_of_ble_eq_true rfl⟩ (Nat.le_of_ble_eq_true rfl) dX7_readAny_24 rfl ?_
  obtain ⟨hi9, hf⟩ := ck_el hf
  refine z_iast C (k := 34) (Nat.le_of_ble_eq_true rfl) rfl hi9 dX7_readAny_27 ?_
  refine z_nm (fun m10 e_m10 => ?_)
  replace hf := bn_to e_m10 hf
  refine z_iconst C (v := 1) dX7_readAny_28 rfl ?_
  refine z_istore_n C (lv2 := [(0, .ref ((zw K).2.1 0)), (1, .int 0), (2, .int 1)]) [1, 2, 0] dX7_readAny_29 rfl (Nat.le_of_ble_eq_true rfl) rfl ?_
  obtain ⟨m88, hg, hf⟩ := zb_el hf
  refine z_sub [0, 1, 2] rfl (w_X7_readAny_30 C  ?_ _ _ _ _ hg)
  clear hg
  have e1 := Option.some.inj hf
  subst e1
  exact hret _ _ dX7_readAny_272
set_option maxRecDepth 20000 in
theorem ggX7_readShape_X7_fails : GoodIn wsX7_readShape wsX7_fails := goodIn_sub (List.forall_mem_cons.mpr ⟨(List.mem_of_getElem? (i := 14) rfl), (List.forall_mem_append.mpr ⟨(List.forall_mem_cons.mpr ⟨(List.mem_of_getElem? (i := 1) rfl), (List.forall_mem_cons.mpr ⟨(List.mem_of_getElem? (i := 15) rfl), (fun _ h => absurd h List.not_mem_nil)⟩)⟩), (fun _ h => (List.mem_cons_of_mem _ (List.mem_append_right _ h)))⟩)⟩) (by decide +kernel)
set_option maxRecDepth 20000 in
theorem gX7_readShape_X7_fails : GoodIn wsX7_readShape (wsV RX7 207 RX7 yX7_fails wsX7_fails) := goodIn_app (goodIn_sub (List.forall_mem_cons.mpr ⟨(List.mem_of_getElem? (i := 10) rfl), (List.forall_mem_cons.mpr ⟨(List.mem_of_getElem? (i := 11) rfl), (List.forall_mem_cons.mpr ⟨(List.mem_of_getElem? (i := 12) rfl), (List.forall_mem_cons.mpr ⟨(List.mem_of_getElem? (i := 13) rfl), (fun _ h => absurd h List.not_mem_nil)⟩)⟩)⟩)⟩) (by decide +kernel)) ggX7_readShape_X7_fails
set_option maxRecDepth 20000 in
theorem ggX7_readShape_X7_taken : GoodIn wsX7_readShape wsX7_taken := goodIn_sub (List.forall_mem_cons.mpr ⟨(List.mem_of_getElem? (i := 19) rfl), (List.forall_mem_append.mpr ⟨(List.forall_mem_append.mpr ⟨(show ∀ w ∈ wsX7_taken_r1, w ∈ wsX7_readShape from (List.forall_mem_cons.mpr ⟨(List.mem_of_getElem? (i := 1) rfl), (List.forall_mem_cons.mpr ⟨(List.mem_of_getElem? (i := 2) rfl), (List.forall_mem_cons.mpr ⟨(List.mem_of_getElem? (i := 3) rfl), (List.forall_mem_cons.mpr ⟨(List.mem_of_getElem? (i := 6) rfl), (List.forall_mem_cons.mpr ⟨(List.mem_of_getElem? (i := 20) rfl), (List.forall_mem_cons.mpr ⟨(List.mem_of_getElem? (i := 10) rfl), (List.forall_mem_cons.mpr ⟨(List.mem_of_getElem? (i := 11) rfl), (List.forall_mem_cons.mpr ⟨(List.mem_of_getElem? (i := 12) rfl), (List.forall_mem_cons.mpr ⟨(List.mem_of_getElem? (i := 13) rfl), (List.forall_mem_cons.mpr ⟨(List.mem_of_getElem? (i := 14) rfl), (List.forall_mem_cons.mpr ⟨(List.mem_of_getElem? (i := 15) rfl), (List.forall_mem_cons.mpr ⟨(List.mem_of_getElem? (i := 21) rfl), (List.forall_mem_cons.mpr ⟨(List.mem_of_getElem? (i := 22) rfl), (List.forall_mem_cons.mpr ⟨(List.mem_of_getElem? (i := 23) rfl), (List.forall_mem_cons.mpr ⟨(List.mem_of_getElem? (i := 24) rfl), (List.forall_mem_cons.mpr ⟨(List.mem_of_getElem? (i := 25) rfl), (List.forall_mem_cons.mpr ⟨(List.mem_of_getElem? (i := 26) rfl), (List.forall_mem_cons.mpr ⟨(List.mem_of_getElem? (i := 27) rfl), (List.forall_mem_cons.mpr ⟨(List.mem_of_getElem? (i := 28) rfl), (List.forall_mem_cons.mpr ⟨(List.mem_of_getElem? (i := 29) rfl), (List.forall_mem_cons.mpr ⟨(List.mem_of_getElem? (i := 30) rfl), (List.forall_mem_cons.mpr ⟨(List.mem_of_getElem? (i := 31) rfl), (List.forall_mem_cons.mpr ⟨(List.mem_of_getElem? (i := 32) rfl), (List.forall_mem_cons.mpr ⟨(List.mem_of_getElem? (i := 33) rfl), (fun _ h => absurd h List.not_mem_nil)⟩)⟩)⟩)⟩)⟩)⟩)⟩)⟩)⟩)⟩)⟩)⟩)⟩)⟩)⟩)⟩)⟩)⟩)⟩)⟩)⟩)⟩)⟩)⟩)), (show ∀ w ∈ wsX7_taken_r2, w ∈ wsX7_readShape from (List.forall_mem_cons.mpr ⟨(List.mem_of_getElem? (i := 34) rfl), (List.forall_mem_cons.mpr ⟨(List.mem_of_getElem? (i := 35) rfl), (List.forall_mem_cons.mpr ⟨(List.mem_of_getElem? (i := 36) rfl), (List.forall_mem_cons.mpr ⟨(List.mem_of_getElem? (i := 37) rfl), (List.forall_mem_cons.mpr ⟨(List.mem_of_getElem? (i := 38) rfl), (List.forall_mem_cons.mpr ⟨(List.mem_of_getElem? (i := 39) rfl), (List.forall_mem_cons.mpr ⟨(List.mem_of_getElem? (i := 40) rfl), (List.forall_mem_cons.mpr ⟨(List.mem_of_getElem? (i := 41) rfl), (List.forall_mem_cons.mpr ⟨(List.mem_of_getElem? (i := 42) rfl), (List.forall_mem_cons.mpr ⟨(List.mem_of_getElem? (i := 43) rfl), (List.forall_mem_cons.mpr ⟨(List.mem_of_getElem? (i := 44) rfl), (List.forall_mem_cons.mpr ⟨(List.mem_of_getElem? (i := 45) rfl), (List.forall_mem_cons.mpr ⟨(List.mem_of_getElem? (i := 46) rfl), (List.forall_mem_cons.mpr ⟨(List.mem_of_getElem? (i := 47) rfl), (fun _ h => absurd h List.not_mem_nil)⟩)⟩)⟩)⟩)⟩)⟩)⟩)⟩)⟩)⟩)⟩)⟩)⟩)⟩))⟩), (fun _ h => (List.mem_cons_of_mem _ (List.mem_append_right _ h)))⟩)⟩) (by decide +kernel)
set_option maxRecDepth 20000 in
theorem gX7_readShape_X7_taken : GoodIn wsX7_readShape (wsV RX7 231 RX7 yX7_taken wsX7_taken) := goodIn_app (goodIn_sub (List.forall_mem_cons.mpr ⟨(List.mem_of_getElem? (i := 16) rfl), (List.forall_mem_cons.mpr ⟨(List.mem_of_getElem? (i := 17) rfl), (List.forall_mem_cons.mpr ⟨(List.mem_of_getElem? (i := 18) rfl), (List.forall_mem_cons.mpr ⟨(List.mem_of_getElem? (i := 13) rfl), (fun _ h => absurd h List.not_mem_nil)⟩)⟩)⟩)⟩) (by decide +kernel)) ggX7_readShape_X7_taken
set_option maxRecDepth 20000 in
theorem ggX7_readShape_X7_taken2 : GoodIn wsX7_readShape wsX7_taken2 := goodIn_sub (List.forall_mem_cons.mpr ⟨(List.mem_of_getElem? (i := 51) rfl), (List.forall_mem_append.mpr ⟨(List.forall_mem_append.mpr ⟨(show ∀ w ∈ wsX7_taken2_r1, w ∈ wsX7_readShape from (List.forall_mem_cons.mpr ⟨(List.mem_of_getElem? (i := 1) rfl), (List.forall_mem_cons.mpr ⟨(List.mem_of_getElem? (i := 3) rfl), (List.forall_mem_cons.mpr ⟨(List.mem_of_getElem? (i := 52) rfl), (List.forall_mem_cons.mpr ⟨(List.mem_of_getElem? (i := 53) rfl), (List.forall_mem_cons.mpr ⟨(List.mem_of_getElem? (i := 54) rfl), (List.forall_mem_cons.mpr ⟨(List.mem_of_getElem? (i := 13) rfl), (List.forall_mem_cons.mpr ⟨(List.mem_of_getElem? (i := 55) rfl), (List.forall_mem_cons.mpr ⟨(List.mem_of_getElem? (i := 2) rfl), (List.forall_mem_cons.mpr ⟨(List.mem_of_getElem? (i := 6) rfl), (List.forall_mem_cons.mpr ⟨(List.mem_of_getElem? (i := 10) rfl), (List.forall_mem_cons.mpr ⟨(List.mem_of_getElem? (i := 11) rfl), (List.forall_mem_cons.mpr ⟨(List.mem_of_getElem? (i := 12) rfl), (List.forall_mem_cons.mpr ⟨(List.mem_of_getElem? (i := 14) rfl), (List.forall_mem_cons.mpr ⟨(List.mem_of_getElem? (i := 15) rfl), (List.forall_mem_cons.mpr ⟨(List.mem_of_getElem? (i := 21) rfl), (List.forall_mem_cons.mpr ⟨(List.mem_of_getElem? (i := 22) rfl), (List.forall_mem_cons.mpr ⟨(List.mem_of_getElem? (i := 23) rfl), (List.forall_mem_cons.mpr ⟨(List.mem_of_getElem? (i := 24) rfl), (List.forall_mem_cons.mpr ⟨(List.mem_of_getElem? (i := 25) rfl), (List.forall_mem_cons.mpr ⟨(List.mem_of_getElem? (i := 26) rfl), (List.forall_mem_cons.mpr ⟨(List.mem_of_getElem? (i := 27) rfl), (List.forall_mem_cons.mpr ⟨(List.mem_of_getElem? (i := 28) rfl), (List.forall_mem_cons.mpr ⟨(List.mem_of_getElem? (i := 29) rfl), (List.forall_mem_cons.mpr ⟨(List.mem_of_getElem? (i := 30) rfl), (fun _ h => absurd h List.not_mem_nil)⟩)⟩)⟩)⟩)⟩)⟩)⟩)⟩)⟩)⟩)⟩)⟩)⟩)⟩)⟩)⟩)⟩)⟩)⟩)⟩)⟩)⟩)⟩)⟩)), (show ∀ w ∈ wsX7_taken2_r2, w ∈ wsX7_readShape from (List.forall_mem_cons.mpr ⟨(List.mem_of_getElem? (i := 31) rfl), (List.forall_mem_cons.mpr ⟨(List.mem_of_getElem? (i := 32) rfl), (List.forall_mem_cons.mpr ⟨(List.mem_of_getElem? (i := 33) rfl), (List.forall_mem_cons.mpr ⟨(List.mem_of_getElem? (i := 34) rfl), (List.forall_mem_cons.mpr ⟨(List.mem_of_getElem? (i := 35) rfl), (List.forall_mem_cons.mpr ⟨(List.mem_of_getElem? (i := 36) rfl), (List.forall_mem_cons.mpr ⟨(List.mem_of_getElem? (i := 37) rfl), (List.forall_mem_cons.mpr ⟨(List.mem_of_getElem? (i := 38) rfl), (List.forall_mem_cons.mpr ⟨(List.mem_of_getElem? (i := 39) rfl), (List.forall_mem_cons.mpr ⟨(List.mem_of_getElem? (i := 40) rfl), (List.forall_mem_cons.mpr ⟨(List.mem_of_getElem? (i := 41) rfl), (List.forall_mem_cons.mpr ⟨(List.mem_of_getElem? (i := 42) rfl), (List.forall_mem_cons.mpr ⟨(List.mem_of_getElem? (i := 43) rfl), (List.forall_mem_cons.mpr ⟨(List.mem_of_getElem? (i := 44) rfl), (List.forall_mem_cons.mpr ⟨(List.mem_of_getElem? (i := 45) rfl), (List.forall_mem_cons.mpr ⟨(List.mem_of_getElem? (i := 46) rfl), (List.forall_mem_cons.mpr ⟨(List.mem_of_getElem? (i := 47) rfl), (fun _ h => absurd h List.not_mem_nil)⟩)⟩)⟩)⟩)⟩)⟩)⟩)⟩)⟩)⟩)⟩)⟩)⟩)⟩)⟩)⟩)⟩))⟩), (fun _ h => (List.mem_cons_of_mem _ (List.mem_append_right _ h)))⟩)⟩) (by decide +kernel)
set_option maxRecDepth 20000 in
theorem gX7_readShape_X7_taken2 : GoodIn wsX7_readShape (wsV RX7 243 RX7 yX7_taken2 wsX7_taken2) := goodIn_app (goodIn_sub (List.forall_mem_cons.mpr ⟨(List.mem_of_getElem? (i := 48) rfl), (List.forall_mem_cons.mpr ⟨(List.mem_of_getElem? (i := 49) rfl), (List.forall_mem_cons.mpr ⟨(List.mem_of_getElem? (i := 50) rfl), (List.forall_mem_cons.mpr ⟨(List.mem_of_getElem? (i := 13) rfl), (fun _ h => absurd h List.not_mem_nil)⟩)⟩)⟩)⟩) (by decide +kernel)) ggX7_readShape_X7_taken2
set_option maxRecDepth 20000 in
theorem ggX7_readShape_X7_is : GoodIn wsX7_readShape wsX7_is := goodIn_sub (List.forall_mem_cons.mpr ⟨(List.mem_of_getElem? (i := 55) rfl), (List.forall_mem_append.mpr ⟨(List.forall_mem_cons.mpr ⟨(List.mem_of_getElem? (i := 1) rfl), (List.forall_mem_cons.mpr ⟨(List.mem_of_getElem? (i := 2) rfl), (List.forall_mem_cons.mpr ⟨(List.mem_of_getElem? (i := 6) rfl), (fun _ h => absurd h List.not_mem_nil)⟩)⟩)⟩), (fun _ h => (List.mem_cons_of_mem _ (List.mem_append_right _ h)))⟩)⟩) (by decide +kernel)
set_option maxRecDepth 20000 in
theorem gX7_readShape_X7_is : GoodIn wsX7_readShape (wsV RX7 228 RX7 yX7_is wsX7_is) := goodIn_app (goodIn_sub (List.forall_mem_cons.mpr ⟨(List.mem_of_getElem? (i := 52) rfl), (List.forall_mem_cons.mpr ⟨(List.mem_of_getElem? (i := 53) rfl), (List.forall_mem_cons.mpr ⟨(List.mem_of_getElem? (i := 54) rfl), (List.forall_mem_cons.mpr ⟨(List.mem_of_getElem? (i := 13) rfl), (fun _ h => absurd h List.not_mem_nil)⟩)⟩)⟩)⟩) (by decide +kernel)) ggX7_readShape_X7_is
set_option maxRecDepth 20000 in
theorem ggX7_readShape_X7_readAny : GoodIn wsX7_readShape wsX7_readAny := goodIn_sub (List.forall_mem_cons.mpr ⟨(List.mem_of_getElem? (i := 59) rfl), (List.forall_mem_append.mpr ⟨(List.forall_mem_append.mpr ⟨(show ∀ w ∈ wsX7_readAny_r1, w ∈ wsX7_readShape from (List.forall_mem_cons.mpr ⟨(List.mem_of_getElem? (i := 60) rfl), (List.forall_mem_cons.mpr ⟨(List.mem_of_getElem? (i := 61) rfl), (List.forall_mem_cons.mpr ⟨(List.mem_of_getElem? (i := 1) rfl), (List.forall_mem_cons.mpr ⟨(List.mem_of_getElem? (i := 3) rfl), (List.forall_mem_cons.mpr ⟨(List.mem_of_getElem? (i := 2) rfl), (List.forall_mem_cons.mpr ⟨(List.mem_of_getElem? (i := 62) rfl), (List.forall_mem_cons.mpr ⟨(List.mem_of_getElem? (i := 63) rfl), (List.forall_mem_cons.mpr ⟨(List.mem_of_getElem? (i := 64) rfl), (List.forall_mem_cons.mpr ⟨(List.mem_of_getElem? (i := 65) rfl), (List.forall_mem_cons.mpr ⟨(List.mem_of_getElem? (i := 13) rfl), (List.forall_mem_cons.mpr ⟨(List.mem_of_getElem? (i := 66) rfl), (List.forall_mem_cons.mpr ⟨(List.mem_of_getElem? (i := 4) rfl), (List.forall_mem_cons.mpr ⟨(List.mem_of_getElem? (i := 7) rfl), (List.forall_mem_cons.mpr ⟨(List.mem_of_getElem? (i := 67) rfl), (List.forall_mem_cons.mpr ⟨(List.mem_of_getElem? (i := 68) rfl), (List.forall_mem_cons.mpr ⟨(List.mem_of_getElem? (i := 69) rfl), (List.forall_mem_cons.mpr ⟨(List.mem_of_getElem? (i := 70) rfl), (List.forall_mem_cons.mpr ⟨(List.mem_of_getElem? (i := 52) rfl), (List.forall_mem_cons.mpr ⟨(List.mem_of_getElem? (i := 53) rfl), (List.forall_mem_cons.mpr ⟨(List.mem_of_getElem? (i := 54) rfl), (List.forall_mem_cons.mpr ⟨(List.mem_of_getElem? (i := 55) rfl), (List.forall_mem_cons.mpr ⟨(List.mem_of_getElem? (i := 6) rfl), (List.forall_mem_cons.mpr ⟨(List.mem_of_getElem? (i := 10) rfl), (List.forall_mem_cons.mpr ⟨(List.mem_of_getElem? (i := 11) rfl), (fun _ h => absurd h List.not_mem_nil)⟩)⟩)⟩)⟩)⟩)⟩)⟩)⟩)⟩)⟩)⟩)⟩)⟩)⟩)⟩)⟩)⟩)⟩)⟩)⟩)⟩)⟩)⟩)⟩)), (List.forall_mem_append.mpr ⟨(show ∀ w ∈ wsX7_readAny_r2, w ∈ wsX7_readShape from (List.forall_mem_cons.mpr ⟨(List.mem_of_getElem? (i := 12) rfl), (List.forall_mem_cons.mpr ⟨(List.mem_of_getElem? (i := 14) rfl), (List.forall_mem_cons.mpr ⟨(List.mem_of_getElem? (i := 15) rfl), (List.forall_mem_cons.mpr ⟨(List.mem_of_getElem? (i := 21) rfl), (List.forall_mem_cons.mpr ⟨(List.mem_of_getElem? (i := 22) rfl), (List.forall_mem_cons.mpr ⟨(List.mem_of_getElem? (i := 23) rfl), (List.forall_mem_cons.mpr ⟨(List.mem_of_getElem? (i := 24) rfl), (List.forall_mem_cons.mpr ⟨(List.mem_of_getElem? (i := 25) rfl), (List.forall_mem_cons.mpr ⟨(List.mem_of_getElem? (i := 26) rfl), (List.forall_mem_cons.mpr ⟨(List.mem_of_getElem? (i := 27) rfl), (List.forall_mem_cons.mpr ⟨(List.mem_of_getElem? (i := 28) rfl), (List.forall_mem_cons.mpr ⟨(List.mem_of_getElem? (i := 29) rfl), (List.forall_mem_cons.mpr ⟨(List.mem_of_getElem? (i := 30) rfl), (List.forall_mem_cons.mpr ⟨(List.mem_of_getElem? (i := 31) rfl), (List.forall_mem_cons.mpr ⟨(List.mem_of_getElem? (i := 32) rfl), (List.forall_mem_cons.mpr ⟨(List.mem_of_getElem? (i := 33) rfl), (List.forall_mem_cons.mpr ⟨(List.mem_of_getElem? (i := 34) rfl), (List.forall_mem_cons.mpr ⟨(List.mem_of_getElem? (i := 35) rfl), (List.forall_mem_cons.mpr ⟨(List.mem_of_getElem? (i := 36) rfl), (List.forall_mem_cons.mpr ⟨(List.mem_of_getElem? (i := 37) rfl), (List.forall_mem_cons.mpr ⟨(List.mem_of_getElem? (i := 38) rfl), (List.forall_mem_cons.mpr ⟨(List.mem_of_getElem? (i := 39) rfl), (List.forall_mem_cons.mpr ⟨(List.mem_of_getElem? (i := 40) rfl), (List.forall_mem_cons.mpr ⟨(List.mem_of_getElem? (i := 41) rfl), (fun _ h => absurd h List.not_mem_nil)⟩)⟩)⟩)⟩)⟩)⟩)⟩)⟩)⟩)⟩)⟩)⟩)⟩)⟩)⟩)⟩)⟩)⟩)⟩)⟩)⟩)⟩)⟩)⟩)), (List.forall_mem_append.mpr ⟨(show ∀ w ∈ wsX7_readAny_r3, w ∈ wsX7_readShape from (List.forall_mem_cons.mpr ⟨(List.mem_of_getElem? (i := 42) rfl), (List.forall_mem_cons.mpr ⟨(List.mem_of_getElem? (i := 43) rfl), (List.forall_mem_cons.mpr ⟨(List.mem_of_getElem? (i := 44) rfl), (List.forall_mem_cons.mpr ⟨(List.mem_of_getElem? (i := 45) rfl), (List.forall_mem_cons.mpr ⟨(List.mem_of_getElem? (i := 46) rfl), (List.forall_mem_cons.mpr ⟨(List.mem_of_getElem? (i := 47) rfl), (List.forall_mem_cons.mpr ⟨(List.mem_of_getElem? (i := 71) rfl), (List.forall_mem_cons.mpr ⟨(List.mem_of_getElem? (i := 72) rfl), (List.forall_mem_cons.mpr ⟨(List.mem_of_getElem? (i := 73) rfl), (List.forall_mem_cons.mpr ⟨(List.mem_of_getElem? (i := 74) rfl), (List.forall_mem_cons.mpr ⟨(List.mem_of_getElem? (i := 75) rfl), (List.forall_mem_cons.mpr ⟨(List.mem_of_getElem? (i := 8) rfl), (List.forall_mem_cons.mpr ⟨(List.mem_of_getElem? (i := 76) rfl), (List.forall_mem_cons.mpr ⟨(List.mem_of_getElem? (i := 77) rfl), (List.forall_mem_cons.mpr ⟨(List.mem_of_getElem? (i := 78) rfl), (List.forall_mem_cons.mpr ⟨(List.mem_of_getElem? (i := 79) rfl), (List.forall_mem_cons.mpr ⟨(List.mem_of_getElem? (i := 80) rfl), (List.forall_mem_cons.mpr ⟨(List.mem_of_getElem? (i := 20) rfl), (List.forall_mem_cons.mpr ⟨(List.mem_of_getElem? (i := 16) rfl), (List.forall_mem_cons.mpr ⟨(List.mem_of_getElem? (i := 17) rfl), (List.forall_mem_cons.mpr ⟨(List.mem_of_getElem? (i := 18) rfl), (List.forall_mem_cons.mpr ⟨(List.mem_of_getElem? (i := 19) rfl), (List.forall_mem_cons.mpr ⟨(List.mem_of_getElem? (i := 81) rfl), (List.forall_mem_cons.mpr ⟨(List.mem_of_getElem? (i := 82) rfl), (fun _ h => absurd h List.not_mem_nil)⟩)⟩)⟩)⟩)⟩)⟩)⟩)⟩)⟩)⟩)⟩)⟩)⟩)⟩)⟩)⟩)⟩)⟩)⟩)⟩)⟩)⟩)⟩)⟩)), (show ∀ w ∈ wsX7_readAny_r4, w ∈ wsX7_readShape from (List.forall_mem_cons.mpr ⟨(List.mem_of_getElem? (i := 83) rfl), (List.forall_mem_cons.mpr ⟨(List.mem_of_getElem? (i := 84) rfl), (List.forall_mem_cons.mpr ⟨(List.mem_of_getElem? (i := 85) rfl), (List.forall_mem_cons.mpr ⟨(List.mem_of_getElem? (i := 86) rfl), (List.forall_mem_cons.mpr ⟨(List.mem_of_getElem? (i := 87) rfl), (List.forall_mem_cons.mpr ⟨(List.mem_of_getElem? (i := 88) rfl), (List.forall_mem_cons.mpr ⟨(List.mem_of_getElem? (i := 89) rfl), (List.forall_mem_cons.mpr ⟨(List.mem_of_getElem? (i := 48) rfl), (List.forall_mem_cons.mpr ⟨(List.mem_of_getElem? (i := 49) rfl), (List.forall_mem_cons.mpr ⟨(List.mem_of_getElem? (i := 50) rfl), (List.forall_mem_cons.mpr ⟨(List.mem_of_getElem? (i := 51) rfl), (fun _ h => absurd h List.not_mem_nil)⟩)⟩)⟩)⟩)⟩)⟩)⟩)⟩)⟩)⟩)⟩))⟩)⟩)⟩), (fun _ h => (List.mem_cons_of_mem _ (List.mem_append_right _ h)))⟩)⟩) (by decide +kernel)
set_option maxRecDepth 20000 in
theorem gX7_readShape_X7_readAny : GoodIn wsX7_readShape (wsV RX7 255 RX7 yX7_readAny wsX7_readAny) := goodIn_app (goodIn_sub (List.forall_mem_cons.mpr ⟨(List.mem_of_getElem? (i := 56) rfl), (List.forall_mem_cons.mpr ⟨(List.mem_of_getElem? (i := 57) rfl), (List.forall_mem_cons.mpr ⟨(List.mem_of_getElem? (i := 58) rfl), (List.forall_mem_cons.mpr ⟨(List.mem_of_getElem? (i := 13) rfl), (fun _ h => absurd h List.not_mem_nil)⟩)⟩)⟩)⟩) (by decide +kernel)) ggX7_readShape_X7_readAny
set_option maxRecDepth 20000 in
theorem ggX7_readShape_X7_next : GoodIn wsX7_readShape wsX7_next := goodIn_sub (List.forall_mem_cons.mpr ⟨(List.mem_of_getElem? (i := 24) rfl), (List.forall_mem_append.mpr ⟨(List.forall_mem_append.mpr ⟨(show ∀ w ∈ wsX7_next_r1, w ∈ wsX7_readShape from (List.forall_mem_cons.mpr ⟨(List.mem_of_getElem? (i := 25) rfl), (List.forall_mem_cons.mpr ⟨(List.mem_of_getElem? (i := 3) rfl), (List.forall_mem_cons.mpr ⟨(List.mem_of_getElem? (i := 2) rfl), (List.forall_mem_cons.mpr ⟨(List.mem_of_getElem? (i := 26) rfl), (List.forall_mem_cons.mpr ⟨(List.mem_of_getElem? (i := 27) rfl), (List.forall_mem_cons.mpr ⟨(List.mem_of_getElem? (i := 6) rfl), (List.forall_mem_cons.mpr ⟨(List.mem_of_getElem? (i := 28) rfl), (List.forall_mem_cons.mpr ⟨(List.mem_of_getElem? (i := 29) rfl), (List.forall_mem_cons.mpr ⟨(List.mem_of_getElem? (i := 30) rfl), (List.forall_mem_cons.mpr ⟨(List.mem_of_getElem? (i := 31) rfl), (List.forall_mem_cons.mpr ⟨(List.mem_of_getElem? (i := 32) rfl), (List.forall_mem_cons.mpr ⟨(List.mem_of_getElem? (i := 33) rfl), (List.forall_mem_cons.mpr ⟨(List.mem_of_getElem? (i := 34) rfl), (List.forall_mem_cons.mpr ⟨(List.mem_of_getElem? (i := 13) rfl), (List.forall_mem_cons.mpr ⟨(List.mem_of_getElem? (i := 35) rfl), (List.forall_mem_cons.mpr ⟨(List.mem_of_getElem? (i := 36) rfl), (List.forall_mem_cons.mpr ⟨(List.mem_of_getElem? (i := 37) rfl), (List.forall_mem_cons.mpr ⟨(List.mem_of_getElem? (i := 38) rfl), (List.forall_mem_cons.mpr ⟨(List.mem_of_getElem? (i := 39) rfl), (List.forall_mem_cons.mpr ⟨(List.mem_of_getElem? (i := 40) rfl), (List.forall_mem_cons.mpr ⟨(List.mem_of_getElem? (i := 10) rfl), (List.forall_mem_cons.mpr ⟨(List.mem_of_getElem? (i := 11) rfl), (List.forall_mem_cons.mpr ⟨(List.mem_of_getElem? (i := 12) rfl), (List.forall_mem_cons.mpr ⟨(List.mem_of_getElem? (i := 14) rfl), (fun _ h => absurd h List.not_mem_nil)⟩)⟩)⟩)⟩)⟩)⟩)⟩)⟩)⟩)⟩)⟩)⟩)⟩)⟩)⟩)⟩)⟩)⟩)⟩)⟩)⟩)⟩)⟩)⟩)), (show ∀ w ∈ wsX7_next_r2, w ∈ wsX7_readShape from (List.forall_mem_cons.mpr ⟨(List.mem_of_getElem? (i := 1) rfl), (List.forall_mem_cons.mpr ⟨(List.mem_of_getElem? (i := 15) rfl), (List.forall_mem_cons.mpr ⟨(List.mem_of_getElem? (i := 41) rfl), (List.forall_mem_cons.mpr ⟨(List.mem_of_getElem? (i := 42) rfl), (List.forall_mem_cons.mpr ⟨(List.mem_of_getElem? (i := 43) rfl), (List.forall_mem_cons.mpr ⟨(List.mem_of_getElem? (i := 44) rfl), (List.forall_mem_cons.mpr ⟨(List.mem_of_getElem? (i := 45) rfl), (List.forall_mem_cons.mpr ⟨(List.mem_of_getElem? (i := 46) rfl), (List.forall_mem_cons.mpr ⟨(List.mem_of_getElem? (i := 47) rfl), (fun _ h => absurd h List.not_mem_nil)⟩)⟩)⟩)⟩)⟩)⟩)⟩)⟩)⟩))⟩), (fun _ h => (List.mem_cons_of_mem _ (List.mem_append_right _ h)))⟩)⟩) (by decide +kernel)
set_option maxRecDepth 20000 in
theorem gX7_readShape_X7_next : GoodIn wsX7_readShape (wsV RX7 225 RX7 yX7_next wsX7_next) := goodIn_app (goodIn_sub (List.forall_mem_cons.mpr ⟨(List.mem_of_getElem? (i := 21) rfl), (List.forall_mem_cons.mpr ⟨(List.mem_of_getElem? (i := 22) rfl), (List.forall_mem_cons.mpr ⟨(List.mem_of_getElem? (i := 23) rfl), (List.forall_mem_cons.mpr ⟨(List.mem_of_getElem? (i := 13) rfl), (fun _ h => absurd h List.not_mem_nil)⟩)⟩)⟩)⟩) (by decide +kernel)) ggX7_readShape_X7_next
set_option maxRecDepth 100000 in
theorem daX7_readShape : ∀ q ∈ ([(0, .aload_n 0, 1), (1, .getfield 177, 3), (4, .ifCond .ne 20, 3), (7, .aload_n 0, 1), (8, .getfield 193, 3), (11, .iconst 1, 1), (12, .if_icmp .eq 12, 3), (15, .aload_n 0, 1), (16, .iconst 2, 1), (17, .aload_n 0, 1), (18, .getfield 186, 3), (21, .invokevirtual 207, 3), (24, .aload_n 0, 1), (25, .getfield 177, 3), (28, .ifCond .ne 21, 3), (31, .aload_n 0, 1), (32, .getfield 234, 3), (35, .bipush 6, 2), (37, .if_icmp .ne 12, 3), (40, .aload_n 0, 1), (41, .iconst 4, 1), (42, .aload_n 0, 1), (43, .getfield 186, 3), (46, .invokevirtual 207, 3), (49, .iconst 0, 1), (50, .istore_n 1, 1), (51, .iload_n 1, 1), (52, .aload_n 0, 1), (53, .getfield 234, 3), (56, .if_icmp .ge 38, 3), (59, .aload_n 0, 1), (60, .getfield 177, 3), (63, .ifCond .ne 31, 3), (66, .aload_n 0, 1), (67, .getfield 65, 3), (70, .iload_n 1, 1), (71, .iaload, 1), (72, .aload_n 0, 1), (73, .getfield 200, 3), (76, .if_icmp .ne 12, 3), (79, .aload_n 0, 1), (80, .iconst 5, 1), (81, .aload_n 0, 1), (82, .getfield 186, 3), (85, .invokevirtual 207, 3), (88, .iinc 1 1, 3), (91, .goto (-40), 3), (94, .aload_n 0, 1), (95, .getfield 177, 3), (98, .ifCond .le 4, 3), (101, .return_, 1), (102, .aload_n 0, 1), (103, .getfield 65, 3), (106, .aload_n 0, 1), (107, .getfield 234, 3), (110, .aload_n 0, 1), (111, .iconst 1, 1), (112, .invokevirtual 231, 3), (115, .iastore, 1), (116, .aload_n 0, 1), (117, .getfield 89, 3), (120, .aload_n 0, 1), (121, .getfield 234, 3), (124, .iconst 0, 1), (125, .iastore, 1), (126, .aload_n 0, 1), (127, .getfield 71, 3), (130, .aload_n 0, 1), (131, .getfield 234, 3), (134, .iconst 0, 1), (135, .iastore, 1), (136, .aload_n 0, 1), (137, .getfield 68, 3), (140, .aload_n 0, 1), (141, .getfield 234, 3), (144, .iconst 0, 1), (145, .bastore, 1), (146, .aload_n 0, 1), (147, .bipush 61, 2), (149, .invokevirtual 243, 3), (152, .aload_n 0, 1), (153, .getfield 177, 3), (156, .ifCond .ne 24, 3), (159, .aload_n 0, 1), (160, .bipush 40, 2), (162, .invokevirtual 228, 3), (165, .ifCond .ne 11, 3), (168, .aload_n 0, 1), (169, .getfield 193, 3), (172, .iconst 2, 1), (173, .if_icmp .ne 7, 3), (176, .aload_n 0, 1), (177, .invokevirtual 255, 3), (180, .aload_n 0, 1), (181, .getfield 177, 3), (184, .ifCond .ne 25, 3), (187, .aload_n 0, 1), (188, .getfield 193, 3), (191, .iconst 3, 1), (192, .if_icmp .ne 17, 3), (195, .aload_n 0, 1), (196, .getfield 68, 3), (199, .aload_n 0, 1), (200, .getfield 234, 3), (203, .iconst 1, 1), (204, .bastore, 1), (205, .aload_n 0, 1), (206, .invokevirtual 225, 3), (209, .aload_n 0, 1), (210, .bipush 59, 2), (212, .invokevirtual 243, 3), (215, .aload_n 0, 1), (216, .dup, 1), (217, .getfield 234, 3), (220, .iconst 1, 1), (221, .iadd, 1), (222, .putfield 234, 3), (225, .return_, 1)] : List (Nat × Instr × Nat)), decode cX7_readShape q.1 = .ok q.2 := by decide +kernel
theorem dX7_readShape_0 : decode cX7_readShape 0 = .ok (.aload_n 0, 1) := daX7_readShape (0, .aload_n 0, 1) (List.mem_of_getElem? (i := 0) rfl)
theorem dX7_readShape_1 : decode cX7_readShape 1 = .ok (.getfield 177, 3) := daX7_readShape (1, .getfield 177, 3) (List.mem_of_getElem? (i := 1) rfl)
theorem dX7_readShape_4 : decode cX7_readShape 4 = .ok (.ifCond .ne 20, 3) := daX7_readShape (4, .ifCond .ne 20, 3) (List.mem_of_getElem? (i := 2) rfl)
theorem dX7_readShape_7 : decode cX7_readShape 7 = .ok (.aload_n 0, 1) := daX7_readShape (7, .aload_n 0, 1) (List.mem_of_getElem? (i := 3) rfl)
theorem dX7_readShape_8 : decode cX7_readShape 8 = .ok (.getfield 193, 3) := daX7_readShape (8, .getfield 193, 3) (List.mem_of_getElem? (i := 4) rfl)
theorem dX7_readShape_11 : decode cX7_readShape 11 = .ok (.iconst 1, 1) := daX7_readShape (11, .iconst 1, 1) (List.mem_of_getElem? (i := 5) rfl)
theorem dX7_readShape_12 : decode cX7_readShape 12 = .ok (.if_icmp .eq 12, 3) := daX7_readShape (12, .if_icmp .eq 12, 3) (List.mem_of_getElem? (i := 6) rfl)
theorem dX7_readShape_15 : decode cX7_readShape 15 = .ok (.aload_n 0, 1) := daX7_readShape (15, .aload_n 0, 1) (List.mem_of_getElem? (i := 7) rfl)
theorem dX7_readShape_16 : decode cX7_readShape 16 = .ok (.iconst 2, 1) := daX7_readShape (16, .iconst 2, 1) (List.mem_of_getElem? (i := 8) rfl)
theorem dX7_readShape_17 : decode cX7_readShape 17 = .ok (.aload_n 0, 1) := daX7_readShape (17, .aload_n 0, 1) (List.mem_of_getElem? (i := 9) rfl)
theorem dX7_readShape_18 : decode cX7_readShape 18 = .ok (.getfield 186, 3) := daX7_readShape (18, .getfield 186, 3) (List.mem_of_getElem? (i := 10) rfl)
theorem dX7_readShape_21 : decode cX7_readShape 21 = .ok (.invokevirtual 207, 3) := daX7_readShape (21, .invokevirtual 207, 3) (List.mem_of_getElem? (i := 11) rfl)
theorem dX7_readShape_24 : decode cX7_readShape 24 = .ok (.aload_n 0, 1) := daX7_readShape (24, .aload_n 0, 1) (List.mem_of_getElem? (i := 12) rfl)
theorem dX7_readShape_25 : decode cX7_readShape 25 = .ok (.getfield 177, 3) := daX7_readShape (25, .getfield 177, 3) (List.mem_of_getElem? (i := 13) rfl)
theorem dX7_readShape_28 : decode cX7_readShape 28 = .ok (.ifCond .ne 21, 3) := daX7_readShape (28, .ifCond .ne 21, 3) (List.mem_of_getElem? (i := 14) rfl)
theorem dX7_readShape_31 : decode cX7_readShape 31 = .ok (.aload_n 0, 1) := daX7_readShape (31, .aload_n 0, 1) (List.mem_of_getElem? (i := 15) rfl)
theorem dX7_readShape_32 : decode cX7_readShape 32 = .ok (.getfield 234, 3) := daX7_readShape (32, .getfield 234, 3) (List.mem_of_getElem? (i := 16) rfl)
theorem dX7_readShape_35 : decode cX7_readShape 35 = .ok (.bipush 6, 2) := daX7_readShape (35, .bipush 6, 2) (List.mem_of_getElem? (i := 17) rfl)
theorem dX7_readShape_37 : decode cX7_readShape 37 = .ok (.if_icmp .ne 12, 3) := daX7_readShape (37, .if_icmp .ne 12, 3) (List.mem_of_getElem? (i := 18) rfl)
theorem dX7_readShape_40 : decode cX7_readShape 40 = .ok (.aload_n 0, 1) := daX7_readShape (40, .aload_n 0, 1) (List.mem_of_getElem? (i := 19) rfl)
theorem dX7_readShape_41 : decode cX7_readShape 41 = .ok (.iconst 4, 1) := daX7_readShape (41, .iconst 4, 1) (List.mem_of_getElem? (i := 20) rfl)
theorem dX7_readShape_42 : decode cX7_readShape 42 = .ok (.aload_n 0, 1) := daX7_readShape (42, .aload_n 0, 1) (List.mem_of_getElem? (i := 21) rfl)
theorem dX7_readShape_43 : decode cX7_readShape 43 = .ok (.getfield 186, 3) := daX7_readShape (43, .getfield 186, 3) (List.mem_of_getElem? (i := 22) rfl)
theorem dX7_readShape_46 : decode cX7_readShape 46 = .ok (.invokevirtual 207, 3) := daX7_readShape (46, .invokevirtual 207, 3) (List.mem_of_getElem? (i := 23) rfl)
theorem dX7_readShape_49 : decode cX7_readShape 49 = .ok (.iconst 0, 1) := daX7_readShape (49, .iconst 0, 1) (List.mem_of_getElem? (i := 24) rfl)
theorem dX7_readShape_50 : decode cX7_readShape 50 = .ok (.istore_n 1, 1) := daX7_readShape (50, .istore_n 1, 1) (List.mem_of_getElem? (i := 25) rfl)
theorem dX7_readShape_51 : decode cX7_readShape 51 = .ok (.iload_n 1, 1) := daX7_readShape (51, .iload_n 1, 1) (List.mem_of_getElem? (i := 26) rfl)
theorem dX7_readShape_52 : decode cX7_readShape 52 = .ok (.aload_n 0, 1) := daX7_readShape (52, .aload_n 0, 1) (List.mem_of_getElem? (i := 27) rfl)
theorem dX7_readShape_53 : decode cX7_readShape 53 = .ok (.getfield 234, 3) := daX7_readShape (53, .getfield 234, 3) (List.mem_of_getElem? (i := 28) rfl)
theorem dX7_readShape_56 : decode cX7_readShape 56 = .ok (.if_icmp .ge 38, 3) := daX7_readShape (56, .if_icmp .ge 38, 3) (List.mem_of_getElem? (i := 29) rfl)
theorem dX7_readShape_59 : decode cX7_readShape 59 = .ok (.aload_n 0, 1) := daX7_readShape (59, .aload_n 0, 1) (List.mem_of_getElem? (i := 30) rfl)
theorem dX7_readShape_60 : decode cX7_readShape 60 = .ok (.getfield 177, 3) := daX7_readShape (60, .getfield 177, 3) (List.mem_of_getElem? (i := 31) rfl)
theorem dX7_readShape_63 : decode cX7_readShape 63 = .ok (.ifCond .ne 31, 3) := daX7_readShape (63, .ifCond .ne 31, 3) (List.mem_of_getElem? (i := 32) rfl)
theorem dX7_readShape_66 : decode cX7_readShape 66 = .ok (.aload_n 0, 1) := daX7_readShape (66, .aload_n 0, 1) (List.mem_of_getElem? (i := 33) rfl)
theorem dX7_readShape_67 : decode cX7_readShape 67 = .ok (.getfield 65, 3) := daX7_readShape (67, .getfield 65, 3) (List.mem_of_getElem? (i := 34) rfl)
theorem dX7_readShape_70 : decode cX7_readShape 70 = .ok (.iload_n 1, 1) := daX7_readShape (70, .iload_n 1, 1) (List.mem_of_getElem? (i := 35) rfl)
theorem dX7_readShape_71 : decode cX7_readShape 71 = .ok (.iaload, 1) := daX7_readShape (71, .iaload, 1) (List.mem_of_getElem? (i := 36) rfl)
theorem dX7_readShape_72 : decode cX7_readShape 72 = .ok (.aload_n 0, 1) := daX7_readShape (72, .aload_n 0, 1) (List.mem_of_getElem? (i := 37) rfl)
theorem dX7_readShape_73 : decode cX7_readShape 73 = .ok (.getfield 200, 3) := daX7_readShape (73, .getfield 200, 3) (List.mem_of_getElem? (i := 38) rfl)
theorem dX7_readShape_76 : decode cX7_readShape 76 = .ok (.if_icmp .ne 12, 3) := daX7_readShape (76, .if_icmp .ne 12, 3) (List.mem_of_getElem? (i := 39) rfl)
theorem dX7_readShape_79 : decode cX7_readShape 79 = .ok (.aload_n 0, 1) := daX7_readShape (79, .aload_n 0, 1) (List.mem_of_getElem? (i := 40) rfl)
theorem dX7_readShape_80 : decode cX7_readShape 80 = .ok (.iconst 5, 1) := daX7_readShape (80, .iconst 5, 1) (List.mem_of_getElem? (i := 41) rfl)
theorem dX7_readShape_81 : decode cX7_readShape 81 = .ok (.aload_n 0, 1) := daX7_readShape (81, .aload_n 0, 1) (List.mem_of_getElem? (i := 42) rfl)
theorem dX7_readShape_82 : decode cX7_readShape 82 = .ok (.getfield 186, 3) := daX7_readShape (82, .getfield 186, 3) (List.mem_of_getElem? (i := 43) rfl)
theorem dX7_readShape_85 : decode cX7_readShape 85 = .ok (.invokevirtual 207, 3) := daX7_readShape (85, .invokevirtual 207, 3) (List.mem_of_getElem? (i := 44) rfl)
theorem dX7_readShape_88 : decode cX7_readShape 88 = .ok (.iinc 1 1, 3) := daX7_readShape (88, .iinc 1 1, 3) (List.mem_of_getElem? (i := 45) rfl)
theorem dX7_readShape_91 : decode cX7_readShape 91 = .ok (.goto (-40), 3) := daX7_readShape (91, .goto (-40), 3) (List.mem_of_getElem? (i := 46) rfl)
theorem dX7_readShape_94 : decode cX7_readShape 94 = .ok (.aload_n 0, 1) := daX7_readShape (94, .aload_n 0, 1) (List.mem_of_getElem? (i := 47) rfl)
theorem dX7_readShape_95 : decode cX7_readShape 95 = .ok (.getfield 177, 3) := daX7_readShape (95, .getfield 177, 3) (List.mem_of_getElem? (i := 48) rfl)
theorem dX7_readShape_98 : decode cX7_readShape 98 = .ok (.ifCond .le 4, 3) := daX7_readShape (98, .ifCond .le 4, 3) (List.mem_of_getElem? (i := 49) rfl)
theorem dX7_readShape_101 : decode cX7_readShape 101 = .ok (.return_, 1) := daX7_readShape (101, .return_, 1) (List.mem_of_getElem? (i := 50) rfl)
theorem dX7_readShape_102 : decode cX7_readShape 102 = .ok (.aload_n 0, 1) := daX7_readShape (102, .aload_n 0, 1) (List.mem_of_getElem? (i := 51) rfl)
theorem dX7_readShape_103 : decode cX7_readShape 103 = .ok (.getfield 65, 3) := daX7_readShape (103, .getfield 65, 3) (List.mem_of_getElem? (i := 52) rfl)
theorem dX7_readShape_106 : decode cX7_readShape 106 = .ok (.aload_n 0, 1) := daX7_readShape (106, .aload_n 0, 1) (List.mem_of_getElem? (i := 53) rfl)
theorem dX7_readShape_107 : decode cX7_readShape 107 = .ok (.getfield 234, 3) := daX7_readShape (107, .getfield 234, 3) (List.mem_of_getElem? (i := 54) rfl)
theorem dX7_readShape_110 : decode cX7_readShape 110 = .ok (.aload_n 0, 1) := daX7_readShape (110, .aload_n 0, 1) (List.mem_of_getElem? (i := 55) rfl)
theorem dX7_readShape_111 : decode cX7_readShape 111 = .ok (.iconst 1, 1) := daX7_readShape (111, .iconst 1, 1) (List.mem_of_getElem? (i := 56) rfl)
theorem dX7_readShape_112 : decode cX7_readShape 112 = .ok (.invokevirtual 231, 3) := daX7_readShape (112, .invokevirtual 231, 3) (List.mem_of_getElem? (i := 57) rfl)
theorem dX7_readShape_115 : decode cX7_readShape 115 = .ok (.iastore, 1) := daX7_readShape (115, .iastore, 1) (List.mem_of_getElem? (i := 58) rfl)
theorem dX7_readShape_116 : decode cX7_readShape 116 = .ok (.aload_n 0, 1) := daX7_readShape (116, .aload_n 0, 1) (List.mem_of_getElem? (i := 59) rfl)
theorem dX7_readShape_117 : decode cX7_readShape 117 = .ok (.getfield 89, 3) := daX7_readShape (117, .getfield 89, 3) (List.mem_of_getElem? (i := 60) rfl)
theorem dX7_readShape_120 : decode cX7_readShape 120 = .ok (.aload_n 0, 1) := daX7_readShape (120, .aload_n 0, 1) (List.mem_of_getElem? (i := 61) rfl)
theorem dX7_readShape_121 : decode cX7_readShape 121 = .ok (.getfield 234, 3) := daX7_readShape (121, .getfield 234, 3) (List.mem_of_getElem? (i := 62) rfl)
theorem dX7_readShape_124 : decode cX7_readShape 124 = .ok (.iconst 0, 1) := daX7_readShape (124, .iconst 0, 1) (List.mem_of_getElem? (i := 63) rfl)
theorem dX7_readShape_125 : decode cX7_readShape 125 = .ok (.iastore, 1) := daX7_readShape (125, .iastore, 1) (List.mem_of_getElem? (i := 64) rfl)
theorem dX7_readShape_126 : decode cX7_readShape 126 = .ok (.aload_n 0, 1) := daX7_readShape (126, .aload_n 0, 1) (List.mem_of_getElem? (i := 65) rfl)
theorem dX7_readShape_127 : decode cX7_readShape 127 = .ok (.getfield 71, 3) := daX7_readShape (127, .getfield 71, 3) (List.mem_of_getElem? (i := 66) rfl)
theorem dX7_readShape_130 : decode cX7_readShape 130 = .ok (.aload_n 0, 1) := daX7_readShape (130, .aload_n 0, 1) (List.mem_of_getElem? (i := 67) rfl)
theorem dX7_readShape_131 : decode cX7_readShape 131 = .ok (.getfield 234, 3) := daX7_readShape (131, .getfield 234, 3) (List.mem_of_getElem? (i := 68) rfl)
theorem dX7_readShape_134 : decode cX7_readShape 134 = .ok (.iconst 0, 1) := daX7_readShape (134, .iconst 0, 1) (List.mem_of_getElem? (i := 69) rfl)
theorem dX7_readShape_135 : decode cX7_readShape 135 = .ok (.iastore, 1) := daX7_readShape (135, .iastore, 1) (List.mem_of_getElem? (i := 70) rfl)
theorem dX7_readShape_136 : decode cX7_readShape 136 = .ok (.aload_n 0, 1) := daX7_readShape (136, .aload_n 0, 1) (List.mem_of_getElem? (i := 71) rfl)
theorem dX7_readShape_137 : decode cX7_readShape 137 = .ok (.getfield 68, 3) := daX7_readShape (137, .getfield 68, 3) (List.mem_of_getElem? (i := 72) rfl)
theorem dX7_readShape_140 : decode cX7_readShape 140 = .ok (.aload_n 0, 1) := daX7_readShape (140, .aload_n 0, 1) (List.mem_of_getElem? (i := 73) rfl)
theorem dX7_readShape_141 : decode cX7_readShape 141 = .ok (.getfield 234, 3) := daX7_readShape (141, .getfield 234, 3) (List.mem_of_getElem? (i := 74) rfl)
theorem dX7_readShape_144 : decode cX7_readShape 144 = .ok (.iconst 0, 1) := daX7_readShape (144, .iconst 0, 1) (List.mem_of_getElem? (i := 75) rfl)
theorem dX7_readShape_145 : decode cX7_readShape 145 = .ok (.bastore, 1) := daX7_readShape (145, .bastore, 1) (List.mem_of_getElem? (i := 76) rfl)
theorem dX7_readShape_146 : decode cX7_readShape 146 = .ok (.aload_n 0, 1) := daX7_readShape (146, .aload_n 0, 1) (List.mem_of_getElem? (i := 77) rfl)
theorem dX7_readShape_147 : decode cX7_readShape 147 = .ok (.bipush 61, 2) := daX7_readShape (147, .bipush 61, 2) (List.mem_of_getElem? (i := 78) rfl)
theorem dX7_readShape_149 : decode cX7_readShape 149 = .ok (.invokevirtual 243, 3) := daX7_readShape (149, .invokevirtual 243, 3) (List.mem_of_getElem? (i := 79) rfl)
theorem dX7_readShape_152 : decode cX7_readShape 152 = .ok (.aload_n 0, 1) := daX7_readShape (152, .aload_n 0, 1) (List.mem_of_getElem? (i := 80) rfl)
theorem dX7_readShape_153 : decode cX7_readShape 153 = .ok (.getfield 177, 3) := daX7_readShape (153, .getfield 177, 3) (List.mem_of_getElem? (i := 81) rfl)
theorem dX7_readShape_156 : decode cX7_readShape 156 = .ok (.ifCond .ne 24, 3) := daX7_readShape (156, .ifCond .ne 24, 3) (List.mem_of_getElem? (i := 82) rfl)
theorem dX7_readShape_159 : decode cX7_readShape 159 = .ok (.aload_n 0, 1) := daX7_readShape (159, .aload_n 0, 1) (List.mem_of_getElem? (i := 83) rfl)
theorem dX7_readShape_160 : decode cX7_readShape 160 = .ok (.bipush 40, 2) := daX7_readShape (160, .bipush 40, 2) (List.mem_of_getElem? (i := 84) rfl)
theorem dX7_readShape_162 : decode cX7_readShape 162 = .ok (.invokevirtual 228, 3) := daX7_readShape (162, .invokevirtual 228, 3) (List.mem_of_getElem? (i := 85) rfl)
theorem dX7_readShape_165 : decode cX7_readShape 165 = .ok (.ifCond .ne 11, 3) := daX7_readShape (165, .ifCond .ne 11, 3) (List.mem_of_getElem? (i := 86) rfl)
theorem dX7_readShape_168 : decode cX7_readShape 168 = .ok (.aload_n 0, 1) := daX7_readShape (168, .aload_n 0, 1) (List.mem_of_getElem? (i := 87) rfl)
theorem dX7_readShape_169 : decode cX7_readShape 169 = .ok (.getfield 193, 3) := daX7_readShape (169, .getfield 193, 3) (List.mem_of_getElem? (i := 88) rfl)
theorem dX7_readShape_172 : decode cX7_readShape 172 = .ok (.iconst 2, 1) := daX7_readShape (172, .iconst 2, 1) (List.mem_of_getElem? (i := 89) rfl)
theorem dX7_readShape_173 : decode cX7_readShape 173 = .ok (.if_icmp .ne 7, 3) := daX7_readShape (173, .if_icmp .ne 7, 3) (List.mem_of_getElem? (i := 90) rfl)
theorem dX7_readShape_176 : decode cX7_readShape 176 = .ok (.aload_n 0, 1) := daX7_readShape (176, .aload_n 0, 1) (List.mem_of_getElem? (i := 91) rfl)
theorem dX7_readShape_177 : decode cX7_readShape 177 = .ok (.invokevirtual 255, 3) := daX7_readShape (177, .invokevirtual 255, 3) (List.mem_of_getElem? (i := 92) rfl)
theorem dX7_readShape_180 : decode cX7_readShape 180 = .ok (.aload_n 0, 1) := daX7_readShape (180, .aload_n 0, 1) (List.mem_of_getElem? (i := 93) rfl)
theorem dX7_readShape_181 : decode cX7_readShape 181 = .ok (.getfield 177, 3) := daX7_readShape (181, .getfield 177, 3) (List.mem_of_getElem? (i := 94) rfl)
theorem dX7_readShape_184 : decode cX7_readShape 184 = .ok (.ifCond .ne 25, 3) := daX7_readShape (184, .ifCond .ne 25, 3) (List.mem_of_getElem? (i := 95) rfl)
theorem dX7_readShape_187 : decode cX7_readShape 187 = .ok (.aload_n 0, 1) := daX7_readShape (187, .aload_n 0, 1) (List.mem_of_getElem? (i := 96) rfl)
theorem dX7_readShape_188 : decode cX7_readShape 188 = .ok (.getfield 193, 3) := daX7_readShape (188, .getfield 193, 3) (List.mem_of_getElem? (i := 97) rfl)
theorem dX7_readShape_191 : decode cX7_readShape 191 = .ok (.iconst 3, 1) := daX7_readShape (191, .iconst 3, 1) (List.mem_of_getElem? (i := 98) rfl)
theorem dX7_readShape_192 : decode cX7_readShape 192 = .ok (.if_icmp .ne 17, 3) := daX7_readShape (192, .if_icmp .ne 17, 3) (List.mem_of_getElem? (i := 99) rfl)
theorem dX7_readShape_195 : decode cX7_readShape 195 = .ok (.aload_n 0, 1) := daX7_readShape (195, .aload_n 0, 1) (List.mem_of_getElem? (i := 100) rfl)
theorem dX7_readShape_196 : decode cX7_readShape 196 = .ok (.getfield 68, 3) := daX7_readShape (196, .getfield 68, 3) (List.mem_of_getElem? (i := 101) rfl)
theorem dX7_readShape_199 : decode cX7_readShape 199 = .ok (.aload_n 0, 1) := daX7_readShape (199, .aload_n 0, 1) (List.mem_of_getElem? (i := 102) rfl)
theorem dX7_readShape_200 : decode cX7_readShape 200 = .ok (.getfield 234, 3) := daX7_readShape (200, .getfield 234, 3) (List.mem_of_getElem? (i := 103) rfl)
theorem dX7_readShape_203 : decode cX7_readShape 203 = .ok (.iconst 1, 1) := daX7_readShape (203, .iconst 1, 1) (List.mem_of_getElem? (i := 104) rfl)
theorem dX7_readShape_204 : decode cX7_readShape 204 = .ok (.bastore, 1) := daX7_readShape (204, .bastore, 1) (List.mem_of_getElem? (i := 105) rfl)
theorem dX7_readShape_205 : decode cX7_readShape 205 = .ok (.aload_n 0, 1) := daX7_readShape (205, .aload_n 0, 1) (List.mem_of_getElem? (i := 106) rfl)
theorem dX7_readShape_206 : decode cX7_readShape 206 = .ok (.invokevirtual 225, 3) := daX7_readShape (206, .invokevirtual 225, 3) (List.mem_of_getElem? (i := 107) rfl)
theorem dX7_readShape_209 : decode cX7_readShape 209 = .ok (.aload_n 0, 1) := daX7_readShape (209, .aload_n 0, 1) (List.mem_of_getElem? (i := 108) rfl)
theorem dX7_readShape_210 : decode cX7_readShape 210 = .ok (.bipush 59, 2) := daX7_readShape (210, .bipush 59, 2) (List.mem_of_getElem? (i := 109) rfl)
theorem dX7_readShape_212 : decode cX7_readShape 212 = .ok (.invokevirtual 243, 3) := daX7_readShape (212, .invokevirtual 243, 3) (List.mem_of_getElem? (i := 110) rfl)
theorem dX7_readShape_215 : decode cX7_readShape 215 = .ok (.aload_n 0, 1) := daX7_readShape (215, .aload_n 0, 1) (List.mem_of_getElem? (i := 111) rfl)
theorem dX7_readShape_216 : decode cX7_readShape 216 = .ok (.dup, 1) := daX7_readShape (216, .dup, 1) (List.mem_of_getElem? (i := 112) rfl)
theorem dX7_readShape_217 : decode cX7_readShape 217 = .ok (.getfield 234, 3) := daX7_readShape (217, .getfield 234, 3) (List.mem_of_getElem? (i := 113) rfl)
theorem dX7_readShape_220 : decode cX7_readShape 220 = .ok (.iconst 1, 1) := daX7_readShape (220, .iconst 1, 1) (List.mem_of_getElem? (i := 114) rfl)
theorem dX7_readShape_221 : decode cX7_readShape 221 = .ok (.iadd, 1) := daX7_readShape (221, .iadd, 1) (List.mem_of_getElem? (i := 115) rfl)
theorem dX7_readShape_222 : decode cX7_readShape 222 = .ok (.putfield 234, 3) := daX7_readShape (222, .putfield 234, 3) (List.mem_of_getElem? (i := 116) rfl)
theorem dX7_readShape_225 : decode cX7_readShape 225 = .ok (.return_, 1) := daX7_readShape (225, .return_, 1) (List.mem_of_getElem? (i := 117) rfl)
def rmX7_readShape : Room := { frames := 7, cells := 0, slots := 0, locals := 152 }
theorem zdX7_readShape : yX7_readShape.cls = RX7 ∧ yX7_readShape.cls ≠ "java/lang/invoke/MethodHandle" ∧ yX7_readShape.cls ≠ "java/lang/invoke/VarHandle" ∧ (parseMethodDescriptor yX7_readShape.desc).map (fun d => d.parameters.length) = some 0 := by decide +kernel
theorem kiX7_readShape_X7 : ∀ w ∈ wsX70, w ∈ wsX7_readShape := fun _ h => (List.mem_cons_of_mem _ (List.mem_append_right _ h))
theorem kfX7_readShape_177 : Cond.fieldLink RX7 177 "ShapeJudgeModel" "fault" "I" ∈ wsX7_readShape := (List.mem_of_getElem? (i := 1) rfl)
theorem kfX7_readShape_234 : Cond.fieldLink RX7 234 "ShapeJudgeModel" "dShapes" "I" ∈ wsX7_readShape := (List.mem_of_getElem? (i := 4) rfl)
theorem kfX7_readShape_65 : Cond.fieldLink RX7 65 "ShapeJudgeModel" "dWords" "[I" ∈ wsX7_readShape := (List.mem_of_getElem? (i := 5) rfl)
theorem kfX7_readShape_200 : Cond.fieldLink RX7 200 "ShapeJudgeModel" "value" "I" ∈ wsX7_readShape := (List.mem_of_getElem? (i := 6) rfl)
theorem kfX7_readShape_186 : Cond.fieldLink RX7 186 "ShapeJudgeModel" "from" "I" ∈ wsX7_readShape := (List.mem_of_getElem? (i := 3) rfl)
theorem kfX7_readShape_89 : Cond.fieldLink RX7 89 "ShapeJudgeModel" "dSize" "[I" ∈ wsX7_readShape := (List.mem_of_getElem? (i := 7) rfl)
theorem kfX7_readShape_71 : Cond.fieldLink RX7 71 "ShapeJudgeModel" "dParts" "[I" ∈ wsX7_readShape := (List.mem_of_getElem? (i := 8) rfl)
theorem kfX7_readShape_68 : Cond.fieldLink RX7 68 "ShapeJudgeModel" "dClosed" "[Z" ∈ wsX7_readShape := (List.mem_of_getElem? (i := 9) rfl)
theorem kfX7_readShape_193 : Cond.fieldLink RX7 193 "ShapeJudgeModel" "sort" "I" ∈ wsX7_readShape := (List.mem_of_getElem? (i := 2) rfl)
def t_X7_readShape_51  (i3 : Int32) (m4 : Mem) : Option ((Int32 × Mem) ⊕ (Mem)) :=
  (if (m4 0 21) ≤ i3 then (some (.inr m4)) else ((if (m4 0 42) = 0 then (ck (zin i3 6 = true) ((if (m4 19 (Int32.toNatClampNeg i3)) = (m4 0 41) then ((s_X7_fails m4 5 (m4 0 39)).bind fun m8 => bn (i3 + 1) fun x9 => some (.inl (x9, m8))) else (bn (i3 + 1) fun x6 => some (.inl (x6, m4)))))) else (some (.inr m4)))))
def l_X7_readShape_51  (n : Nat) (i3 : Int32) (m4 : Mem) : Option (Mem) := zlp n (fun a => t_X7_readShape_51  a.1 a.2) (i3, m4)
def s_X7_readShape (m : Mem)  : Option (Mem) :=
  (((if (m 0 42) = 0 then ((if (m 0 40) = 1 then (some m) else ((s_X7_fails m 2 (m 0 39)).bind fun m58 => some m58))) else (some m)) : Option (Mem)).bind fun m1 => (((if (m1 0 42) = 0 then ((if (m1 0 21) = 6 then ((s_X7_fails m1 4 (m1 0 39)).bind fun m54 => some m54) else (some m1))) else (some m1)) : Option (Mem)).bind fun m2 => ((l_X7_readShape_51  FU 0 m2).bind fun m13 => (if (m13 0 42) ≤ 0 then (zb2 (s_X7_taken m13 1) fun r15 m16 => ck (zin (m13 0 21) 6 = true) (bn (sto m16 19 (Int32.toNatClampNeg (m13 0 21)) r15) fun m18 => ck (zin (m18 0 21) 6 = true) (bn (sto m18 27 (Int32.toNatClampNeg (m18 0 21)) 0) fun m20 => ck (zin (m20 0 21) 6 = true) (bn (sto m20 21 (Int32.toNatClampNeg (m20 0 21)) 0) fun m22 => ck (zin (m22 0 21) 6 = true) (bn (sto m22 20 (Int32.toNatClampNeg (m22 0 21)) (vp_nar .boolean 0)) fun m24 => (s_X7_taken2 m24 61).bind fun m26 => (((if (m26 0 42) = 0 then ((s_X7_is m26 40).bind fun r44 => (if r44 = 0 then ((if (m26 0 40) = 2 then ((s_X7_readAny m26).bind fun m48 => some m48) else (some m26))) else ((s_X7_readAny m26).bind fun m46 => some m46))) else (some m26)) : Option (Mem)).bind fun m27 => (if (m27 0 42) = 0 then ((if (m27 0 40) = 3 then (ck (zin (m27 0 21) 6 = true) (bn (sto m27 20 (Int32.toNatClampNeg (m27 0 21)) (vp_nar .boolean 1)) fun m35 => (s_X7_next m35).bind fun m37 => (s_X7_taken2 m37 59).bind fun m39 => bn (sto m39 0 21 ((m39 0 21) + 1)) fun m40 => some m40)) else ((s_X7_taken2 m27 59).bind fun m32 => bn (sto m32 0 21 ((m32 0 21) + 1)) fun m33 => some m33))) else ((s_X7_taken2 m27 59).bind fun m29 => bn (sto m29 0 21 ((m29 0 21) + 1)) fun m30 => some m30)))))))) else (some m13)))))
set_option maxRecDepth 100000 in
set_option maxHeartbeats 4000000 in
theorem w_X7_readShape_51 {K : ZK} (C : zOK MM K cX7_readShape 2 none RX7 wsX7_readShape rmX7_readShape)   {o0 : Mem} (hk : zGo MM K o0 [(0, .ref ((zw K).2.1 0))] 94 []) : ∀ (n : Nat) (i3 : Int32) (m4 : Mem), l_X7_readShape_51  n i3 m4 = some o0 → zGo MM K m4 [(0, .ref ((zw K).2.1 0)), (1, .int i3)] 51 [] := by
  intro n
  induction n with
  | zero =>
    intro i3 m4 hf
    cases hf
  | succ n ih =>
    intro i3 m4 hf
    obtain ⟨z, hf, hz⟩ := zlp_el hf
    replace hf : t_X7_readShape_51  i3 m4 = some z := hf
    unfold t_X7_readShape_51 at hf
    refine z_iload_n C 1 dX7_readShape_51 rfl rfl ?_
    refine z_aload_n C 0 dX7_readShape_52 rfl rfl ?_
    refine z_geti C (Nat.le_of_ble_eq_true rfl) rfl rfl 21 (Nat.le_of_ble_eq_true rfl) rfl kiX7_readShape_X7 kfX7_readShape_234 dX7_readShape_53 ?_
    refine z_icmp_ge (tgt := 94) C dX7_readShape_56 (by decide) (fun c12 => ?_) (fun c12 => ?_)
    · replace hf := if_t c12 hf
      cases hf
      replace hz := zlz_r hz
      cases hz
      exact z_sub [0] rfl hk
    · replace hf := if_f c12 hf
      refine z_aload_n C 0 dX7_readShape_59 rfl rfl ?_
      refine z_geti C (Nat.le_of_ble_eq_true rfl) rfl rfl 42 (Nat.le_of_ble_eq_true rfl) rfl kiX7_readShape_X7 kfX7_readShape_177 dX7_readShape_60 ?_
      refine z_if_ne (tgt := 94) C dX7_readShape_63 (by decide) (fun c11 => ?_) (fun c11 => ?_)
      · replace hf := if_f c11 hf
        cases hf
        replace hz := zlz_r hz
        cases hz
        exact z_sub [0] rfl hk
      · replace hf := if_t c11 hf
        refine z_aload_n C 0 dX7_readShape_66 rfl rfl ?_
        refine z_getr C (t := 19) (Nat.le_of_ble_eq_true rfl) rfl rfl 22 (Nat.le_of_ble_eq_true rfl) rfl kiX7_readShape_X7 kfX7_readShape_65 dX7_readShape_67 ?_
        refine z_iload_n C 1 dX7_readShape_70 rfl rfl ?_
        obtain ⟨hi5, hf⟩ := ck_el hf
        refine z_iald C (k := 19) (Nat.le_of_ble_eq_true rfl) rfl hi5 dX7_readShape_71 ?_
        refine z_aload_n C 0 dX7_readShape_72 rfl rfl ?_
        refine z_geti C (Nat.le_of_ble_eq_true rfl) rfl rfl 41 (Nat.le_of_ble_eq_true rfl) rfl kiX7_readShape_X7 kfX7_readShape_200 dX7_readShape_73 ?_
        refine z_icmp_ne (tgt := 88) C dX7_readShape_76 (by decide) (fun c10 => ?_) (fun c10 => ?_)
        · replace hf := if_f c10 hf
          obtain ⟨x6, e_x6⟩ : ∃ y : Int32, y = i3 + 1 := ⟨_, rfl⟩
          replace hf := bn_to e_x6 hf
          refine z_iinc C (lv2 := [(0, .ref ((zw K).2.1 0)), (1, .int x6)]) 1 [1, 0] dX7_readShape_88 rfl rfl (Nat.le_of_ble_eq_true rfl) e_x6 rfl ?_
          refine z_goto (tgt := 51) C dX7_readShape_91 (by decide) ?_
          cases hf
          exact z_sub [0, 1] rfl (ih x6 m4 hz)
        · replace hf := if_t c10 hf
          refine z_aload_n C 0 dX7_readShape_79 rfl rfl ?_
          refine z_iconst C (v := 5) dX7_readShape_80 rfl ?_
          refine z_aload_n C 0 dX7_readShape_81 rfl rfl ?_
          refine z_geti C (Nat.le_of_ble_eq_true rfl) rfl rfl 39 (Nat.le_of_ble_eq_true rfl) rfl kiX7_readShape_X7 kfX7_readShape_186 dX7_readShape_82 ?_
          obtain ⟨m8, hc7, hf⟩ := zb_el hf
          refine z_cVv C (c_X7_fails _ _ hc7) rfl gX7_readShape_X7_fails rfl rfl zdX7_fails rfl (Nat.le_of_ble_eq_true rfl) rfl rfl rfl ⟨Nat.le_of_ble_eq_true rfl, Nat.le_of_ble_eq_true rfl⟩ (Nat.le_of_ble_eq_true rfl) dX7_readShape_85 rfl ?_
          obtain ⟨x9, e_x9⟩ : ∃ y : Int32, y = i3 + 1 := ⟨_, rfl⟩
          replace hf := bn_to e_x9 hf
          refine z_iinc C (lv2 := [(0, .ref ((zw K).2.1 0)), (1, .int x9)]) 1 [1, 0] dX7_readShape_88 rfl rfl (Nat.le_of_ble_eq_true rfl) e_x9 rfl ?_
          refine z_goto (tgt := 51) C dX7_readShape_91 (by decide) ?_
          cases hf
          exact z_sub [0, 1] rfl (ih x9 m8 hz)
set_option maxRecDepth 100000 in
set_option maxHeartbeats 4000000 in
theorem c_X7_readShape (l : Launch) (w : ZW) {m : Mem}  {m9 : Mem}  (hf : s_X7_readShape m  = some m9) : zCv MM l w yX7_readShape wsX7_readShape rmX7_readShape [.ref (w.2.1 0)] m m9 := by
  refine z_met_v MM_ok (own := RX7) (by decide +kernel) rfl rfl (Nat.le_of_ble_eq_true rfl) ?_
  intro K C hKw hKl hret
  subst hKw
  subst hKl
  unfold s_X7_readShape at hf
  show zGo MM K m [(0, .ref ((zw K).2.1 0))] 0 []
  refine z_aload_n C 0 dX7_readShape_0 rfl rfl ?_
  refine z_geti C (Nat.le_of_ble_eq_true rfl) rfl rfl 42 (Nat.le_of_ble_eq_true rfl) rfl kiX7_readShape_X7 kfX7_readShape_177 dX7_readShape_1 ?_
  obtain ⟨m1, hg, hf⟩ := zb_el hf
  have hj : zGo MM K m1 [(0, .ref ((zw K).2.1 0))] 24 [] := by
    refine z_aload_n C 0 dX7_readShape_24 rfl rfl ?_
    refine z_geti C (Nat.le_of_ble_eq_true rfl) rfl rfl 42 (Nat.le_of_ble_eq_true rfl) rfl kiX7_readShape_X7 kfX7_readShape_177 dX7_readShape_25 ?_
    obtain ⟨m2, hg, hf⟩ := zb_el hf
    have hj : zGo MM K m2 [(0, .ref ((zw K).2.1 0))] 49 [] := by
      refine z_iconst C (v := 0) dX7_readShape_49 rfl ?_
      refine z_istore_n C (lv2 := [(0, .ref ((zw K).2.1 0)), (1, .int 0)]) [1, 0] dX7_readShape_50 rfl (Nat.le_of_ble_eq_true rfl) rfl ?_
      obtain ⟨m13, hg, hf⟩ := zb_el hf
      refine z_sub [0, 1] rfl (w_X7_readShape_51 C  ?_ _ _ _ hg)
      clear hg
      refine z_aload_n C 0 dX7_readShape_94 rfl rfl ?_
      refine z_geti C (Nat.le_of_ble_eq_true rfl) rfl rfl 42 (Nat.le_of_ble_eq_true rfl) rfl kiX7_readShape_X7 kfX7_readShape_177 dX7_readShape_95 ?_
      refine z_if_le (tgt := 102) C dX7_readShape_98 (by decide) (fun c52 => ?_) (fun c52 => ?_)
      · replace hf := if_t c52 hf
        refine z_aload_n C 0 dX7_readShape_102 rfl rfl ?_
        refine z_getr C (t := 19) (Nat.le_of_ble_eq_true rfl) rfl rfl 22 (Nat.le_of_ble_eq_true rfl) rfl kiX7_readShape_X7 kfX7_readShape_65 dX7_readShape_103 ?_
        refine z_aload_n C 0 dX7_readShape_106 rfl rfl ?_
        refine z_geti C (Nat.le_of_ble_eq_true rfl) rfl rfl 21 (Nat.le_of_ble_eq_true rfl) rfl kiX7_readShape_X7 kfX7_readShape_234 dX7_readShape_107 ?_
        refine z_aload_n C 0 dX7_readShape_110 rfl rfl ?_
        refine z_iconst C (v := 1) dX7_readShape_111 rfl ?_
        obtain ⟨r15, m16, hc14, hf⟩ := zb2_el hf
        refine z_cVi C (c_X7_taken _ _ hc14) rfl gX7_readShape_X7_taken rfl rfl zdX7_taken rfl (Nat.le_of_ble_eq_true rfl) rfl rfl rfl ⟨Nat.le_of_ble_eq_true rfl, Nat.le_of_ble_eq_true rfl⟩ (Nat.le_of_ble_eq_true rfl) dX7_readShape_112 rfl ?_
        obtain ⟨hi17, hf⟩ := ck_el hf
        refine z_iast C (k := 19) (Nat.le_of_ble_eq_true rfl) rfl hi17 dX7_readShape_115 ?_
        refine z_nm (fun m18 e_m18 => ?_)
        replace hf := bn_to e_m18 hf
        refine z_aload_n C 0 dX7_readShape_116 rfl rfl ?_
        refine z_getr C (t := 27) (Nat.le_of_ble_eq_true rfl) rfl rfl 30 (Nat.le_of_ble_eq_true rfl) rfl kiX7_readShape_X7 kfX7_readShape_89 dX7_readShape_117 ?_
        refine z_aload_n C 0 dX7_readShape_120 rfl rfl ?_
        refine z_geti C (Nat.le_of_ble_eq_true rfl) rfl rfl 21 (Nat.le_of_ble_eq_true rfl) rfl kiX7_readShape_X7 kfX7_readShape_234 dX7_readShape_121 ?_
        refine z_iconst C (v := 0) dX7_readShape_124 rfl ?_
        obtain ⟨hi19, hf⟩ := ck_el hf
        refine z_iast C (k := 27) (Nat.le_of_ble_eq_true rfl) rfl hi19 dX7_readShape_125 ?_
        refine z_nm (fun m20 e_m20 => ?_)
        replace hf := bn_to e_m20 hf
        refine z_aload_n C 0 dX7_readShape_126 rfl rfl ?_
        refine z_getr C (t := 21) (Nat.le_of_ble_eq_true rfl) rfl rfl 24 (Nat.le_of_ble_eq_true rfl) rfl kiX7_readShape_X7 kfX7_readShape_71 dX7_readShape_127 ?_
        refine z_aload_n C 0 dX7_readShape_130 rfl rfl ?_
        refine z_geti C (Nat.le_of_ble_eq_true rfl) rfl rfl 21 (Nat.le_of_ble_eq_true rfl) rfl kiX7_readShape_X7 kfX7_readShape_234 dX7_readShape_131 ?_
        refine z_iconst C (v := 0) dX7_readShape_134 rfl ?_
        obtain ⟨hi21, hf⟩ := ck_el hf
        refine z_iast C (k := 21) (Nat.le_of_ble_eq_true rfl) rfl hi21 dX7_readShape_135 ?_
        refine z_nm (fun m22 e_m22 => ?_)
        replace hf := bn_to e_m22 hf
        refine z_aload_n C 0 dX7_readShape_136 rfl rfl ?_
        refine z_getr C (t := 20) (Nat.le_of_ble_eq_true rfl) rfl rfl 23 (Nat.le_of_ble_eq_true rfl) rfl kiX7_readShape_X7 kfX7_readShape_68 dX7_readShape_137 ?_
        refine z_aload_n C 0 dX7_readShape_140 rfl rfl ?_
        refine z_geti C (Nat.le_of_ble_eq_true rfl) rfl rfl 21 (Nat.le_of_ble_eq_true rfl) rfl kiX7_readShape_X7 kfX7_readShape_234 dX7_readShape_141 ?_
        refine z_iconst C (v := 0) dX7_readShape_144 rfl ?_
        obtain ⟨hi23, hf⟩ := ck_el hf
        refine z_zast C (k := 20) (Nat.le_of_ble_eq_true rfl) rfl hi23 dX7_readShape_145 ?_
        refine z_nm (fun m24 e_m24 => ?_)
        replace hf := bn_to e_m24 hf
        refine z_aload_n C 0 dX7_readShape_146 rfl rfl ?_
        refine z_bipush C (v := 61) dX7_readShape_147 rfl ?_
        obtain ⟨m26, hc25, hf⟩ := zb_el hf
        refine z_cVv C (c_X7_taken2 _ _ hc25) rfl gX7_readShape_X7_taken2 rfl rfl zdX7_taken2 rfl (Nat.le_of_ble_eq_true rfl) rfl rfl rfl ⟨Nat.le_of_ble_eq_true rfl, Nat.le_of_ble_eq_true rfl⟩ (Nat.le_of_ble_eq_true rfl) dX7_readShape_149 rfl ?_
        refine z_aload_n C 0 dX7_readShape_152 rfl rfl ?_
        refine z_geti C (Nat.le_of_ble_eq_true rfl) rfl rfl 42 (Nat.le_of_ble_eq_true rfl) rfl kiX7_readShape_X7 kfX7_readShape_177 dX7_readShape_153 ?_
        obtain ⟨m27, hg, hf⟩ := zb_el hf
        have hj : zGo MM K m27 [(0, .ref ((zw K).2.1 0))] 180 [] := by
          refine z_aload_n C 0 dX7_readShape_180 rfl rfl ?_
          refine z_geti C (Nat.le_of_ble_eq_true rfl) rfl rfl 42 (Nat.le_of_ble_eq_true rfl) rfl kiX7_readShape_X7 kfX7_readShape_177 dX7_readShape_181 ?_
          refine z_if_ne (tgt := 209) C dX7_readShape_184 (by decide) (fun c42 => ?_) (fun c42 => ?_)
          · replace hf := if_f c42 hf
            refine z_aload_n C 0 dX7_readShape_209 rfl rfl ?_
            refine z_bipush C (v := 59) dX7_readShape_210 rfl ?_
            obtain ⟨m29, hc28, hf⟩ := zb_el hf
            refine z_cVv C (c_X7_taken2 _ _ hc28) rfl gX7_readShape_X7_taken2 rfl rfl zdX7_taken2 rfl (Nat.le_of_ble_eq_true rfl) rfl rfl rfl ⟨Nat.le_of_ble_eq_true rfl, Nat.le_of_ble_eq_true rfl⟩ (Nat.le_of_ble_eq_true rfl) dX7_readShape_212 rfl ?_
            refine z_aload_n C 0 dX7_readShape_215 rfl rfl ?_
            refine z_dup_a C dX7_readShape_216 ?_
            refine z_geti C (Nat.le_of_ble_eq_true rfl) rfl rfl 21 (Nat.le_of_ble_eq_true rfl) rfl kiX7_readShape_X7 kfX7_readShape_234 dX7_readShape_217 ?_
            refine z_iconst C (v := 1) dX7_readShape_220 rfl ?_
            refine z_iadd C dX7_readShape_221 ?_
            refine z_puti C (Nat.le_of_ble_eq_true rfl) rfl rfl 21 (Nat.le_of_ble_eq_true rfl) rfl kiX7_readShape_X7 kfX7_readShape_234 tyX7 tyX7_ok nmX7 rfl rfl dX7_readShape_222 ?_
            refine z_nm (fun m30 e_m30 => ?_)
            replace hf := bn_to e_m30 hf
            have e1 := Option.some.inj hf
            subst e1
            exact hret _ _ dX7_readShape_225
          · replace hf := if_t c42 hf
            refine z_aload_n C 0 dX7_readShape_187 rfl rfl ?_
            refine z_geti C (Nat.le_of_ble_eq_true rfl) rfl rfl 40 (Nat.le_of_ble_eq_true rfl) rfl kiX7_readShape_X7 kfX7_readShape_193 dX7_readShape_188 ?_
            refine z_iconst C (v := 3) dX7_readShape_191 rfl ?_
            refine z_icmp_ne (tgt := 209) C dX7_readShape_192 (by decide) (fun c41 => ?_) (fun c41 => ?_)
            · replace hf := if_f c41 hf
              refine z_aload_n C 0 dX7_readShape_209 rfl rfl ?_
              refine z_bipush C (v := 59) dX7_readShape_210 rfl ?_
              obtain ⟨m32, hc31, hf⟩ := zb_el hf
              refine z_cVv C (c_X7_taken2 _ _ hc31) rfl gX7_readShape_X7_taken2 rfl rfl zdX7_taken2 rfl (Nat.le_of_ble_eq_true rfl) rfl rfl rfl ⟨Nat.le_of_ble_eq_true rfl, Nat.le_of_ble_eq_true rfl⟩ (Nat.le_of_ble_eq_true rfl) dX7_readShape_212 rfl ?_
              refine z_aload_n C 0 dX7_readShape_215 rfl rfl ?_
              refine z_dup_a C dX7_readShape_216 ?_
              refine z_geti C (Nat.le_of_ble_eq_true rfl) rfl rfl 21 (Nat.le_of_ble_eq_true rfl) rfl kiX7_readShape_X7 kfX7_readShape_234 dX7_readShape_217 ?_
              refine z_iconst C (v := 1) dX7_readShape_220 rfl ?_
              refine z_iadd C dX7_readShape_221 ?_
              refine z_puti C (Nat.le_of_ble_eq_true rfl) rfl rfl 21 (Nat.le_of_ble_eq_true rfl) rfl kiX7_readShape_X7 kfX7_readShape_234 tyX7 tyX7_ok nmX7 rfl rfl dX7_readShape_222 ?_
              refine z_nm (fun m33 e_m33 => ?_)
              replace hf := bn_to e_m33 hf
              have e1 := Option.some.inj hf
              subst e1
              exact hret _ _ dX7_readShape_225
            · replace hf := if_t c41 hf
              refine z_aload_n C 0 dX7_readShape_195 rfl rfl ?_
              refine z_getr C (t := 20) (Nat.le_of_ble_eq_true rfl) rfl rfl 23 (Nat.le_of_ble_eq_true rfl) rfl kiX7_readShape_X7 kfX7_readShape_68 dX7_readShape_196 ?_
              refine z_aload_n C 0 dX7_readShape_199 rfl rfl ?_
              refine z_geti C (Nat.le_of_ble_eq_true rfl) rfl rfl 21 (Nat.le_of_ble_eq_true rfl) rfl kiX7_readShape_X7 kfX7_readShape_234 dX7_readShape_200 ?_
              refine z_iconst C (v := 1) dX7_readShape_203 rfl ?_
              obtain ⟨hi34, hf⟩ := ck_el hf
              refine z_zast C (k := 20) (Nat.le_of_ble_eq_true rfl) rfl hi34 dX7_readShape_204 ?_
              refine z_nm (fun m35 e_m35 => ?_)
              replace hf := bn_to e_m35 hf
              refine z_aload_n C 0 dX7_readShape_205 rfl rfl ?_
              obtain ⟨m37, hc36, hf⟩ := zb_el hf
              refine z_cVv C (c_X7_next _ _ hc36) rfl gX7_readShape_X7_next rfl rfl zdX7_next rfl (Nat.le_of_ble_eq_true rfl) rfl rfl rfl ⟨Nat.le_of_ble_eq_true rfl, Nat.le_of_ble_eq_true rfl⟩ (Nat.le_of_ble_eq_true rfl) dX7_readShape_206 rfl ?_
              refine z_aload_n C 0 dX7_readShape_209 rfl rfl ?_
              refine z_bipush C (v := 59) dX7_readShape_210 rfl ?_
              obtain ⟨m39, hc38, hf⟩ := zb_el hf
              refine z_cVv C (c_X7_taken2 _ _ hc38) rfl gX7_readShape_X7_taken2 rfl rfl zdX7_taken2 rfl (Nat.le_of_ble_eq_true rfl) rfl rfl rfl ⟨Nat.le_of_ble_eq_true rfl, Nat.le_of_ble_eq_true rfl⟩ (Nat.le_of_ble_eq_true rfl) dX7_readShape_212 rfl ?_
              refine z_aload_n C 0 dX7_readShape_215 rfl rfl ?_
              refine z_dup_a C dX7_readShape_216 ?_
              refine z_geti C (Nat.le_of_ble_eq_true rfl) rfl rfl 21 (Nat.le_of_ble_eq_true rfl) rfl kiX7_readShape_X7 kfX7_readShape_234 dX7_readShape_217 ?_
              refine z_iconst C (v := 1) dX7_readShape_220 rfl ?_
              refine z_iadd C dX7_readShape_221 ?_
              refine z_puti C (Nat.le_of_ble_eq_true rfl) rfl rfl 21 (Nat.le_of_ble_eq_true rfl) rfl kiX7_readShape_X7 kfX7_readShape_234 tyX7 tyX7_ok nmX7 rfl rfl dX7_readShape_222 ?_
              refine z_nm (fun m40 e_m40 => ?_)
              replace hf := bn_to e_m40 hf
              have e1 := Option.some.inj hf
              subst e1
              exact hret _ _ dX7_readShape_225
        replace hf := hg
        clear hg
        refine z_if_ne (tgt := 180) C dX7_readShape_156 (by decide) (fun c51 => ?_) (fun c51 => ?_)
        · replace hf := if_f c51 hf
          cases hf
          exact z_sub [0] rfl hj
        · replace hf := if_t c51 hf
          refine z_aload_n C 0 dX7_readShape_159 rfl rfl ?_
          refine z_bipush C (v := 40) dX7_readShape_160 rfl ?_
          obtain ⟨r44, hc43, hf⟩ := zb_el hf
          refine z_cVi C (c_X7_is _ _ hc43) rfl gX7_readShape_X7_is rfl rfl zdX7_is rfl (Nat.le_of_ble_eq_true rfl) rfl rfl rfl ⟨Nat.le_of_ble_eq_true rfl, Nat.le_of_ble_eq_true rfl⟩ (Nat.le_of_ble_eq_true rfl) dX7_readShape_162 rfl ?_
          refine z_if_ne (tgt := 176) C dX7_readShape_165 (by decide) (fun c50 => ?_) (fun c50 => ?_)
          · replace hf := if_f c50 hf
            refine z_aload_n C 0 dX7_readShape_176 rfl rfl ?_
            obtain ⟨m46, hc45, hf⟩ := zb_el hf
            refine z_cVv C (c_X7_readAny _ _ hc45) rfl gX7_readShape_X7_readAny rfl rfl zdX7_readAny rfl (Nat.le_of_ble_eq_true rfl) rfl rfl rfl ⟨Nat.le_of_ble_eq_true rfl, Nat.le_of_ble_eq_true rfl⟩ (Nat.le_of_ble_eq_true rfl) dX7_readShape_177 rfl ?_
            cases hf
            exact z_sub [0] rfl hj
          · replace hf := if_t c50 hf
            refine z_aload_n C 0 dX7_readShape_168 rfl rfl ?_
            refine z_geti C (Nat.le_of_ble_eq_true rfl) rfl rfl 40 (Nat.le_of_ble_eq_true rfl) rfl kiX7_readShape_X7 kfX7_readShape_193 dX7_readShape_169 ?_
            refine z_iconst C (v := 2) dX7_readShape_172 rfl ?_
            refine z_icmp_ne (tgt := 180) C dX7_readShape_173 (by decide) (fun c49 => ?_) (fun c49 => ?_)
            · replace hf := if_f c49 hf
              cases hf
              exact z_sub [0] rfl hj
            · replace hf := if_t c49 hf
              refine z_aload_n C 0 dX7_readShape_176 rfl rfl ?_
              obtain ⟨m48, hc47, hf⟩ := zb_el hf
              refine z_cVv C (c_X7_readAny _ _ hc47) rfl gX7_readShape_X7_readAny rfl rfl zdX7_readAny rfl (Nat.le_of_ble_eq_true rfl) rfl rfl rfl ⟨Nat.le_of_ble_eq_true rfl, Nat.le_of_ble_eq_true rfl⟩ (Nat.le_of_ble_eq_true rfl) dX7_readShape_177 rfl ?_
              cases hf
              exact z_sub [0] rfl hj
      · replace hf := if_f c52 hf
        have e1 := Option.some.inj hf
        subst e1
        exact hret _ _ dX7_readShape_101
    replace hf := hg
    clear hg
    refine z_if_ne (tgt := 49) C dX7_readShape_28 (by decide) (fun c56 => ?_) (fun c56 => ?_)
    · replace hf := if_f c56 hf
      cases hf
      exact z_sub [0] rfl hj
    · replace hf := if_t c56 hf
      refine z_aload_n C 0 dX7_readShape_31 rfl rfl ?_
      refine z_geti C (Nat.le_of_ble_eq_true rfl) rfl rfl 21 (Nat.le_of_ble_eq_true rfl) rfl kiX7_readShape_X7 kfX7_readShape_234 dX7_readShape_32 ?_
      refine z_bipush C (v := 6) dX7_readShape_35 rfl ?_
      refine z_icmp_ne (tgt := 49) C dX7_readShape_37 (by decide) (fun c55 => ?_) (fun c55 => ?_)
      · replace hf := if_f c55 hf
        cases hf
        exact z_sub [0] rfl hj
      · replace hf := if_t c55 hf
        refine z_aload_n C 0 dX7_readShape_40 rfl rfl ?_
        refine z_iconst C (v := 4) dX7_readShape_41 rfl ?_
        refine z_aload_n C 0 dX7_readShape_42 rfl rfl ?_
        refine z_geti C (Nat.le_of_ble_eq_true rfl) rfl rfl 39 (Nat.le_of_ble_eq_true rfl) rfl kiX7_readShape_X7 kfX7_readShape_186 dX7_readShape_43 ?_
        obtain ⟨m54, hc53, hf⟩ := zb_el hf
        refine z_cVv C (c_X7_fails _ _ hc53) rfl gX7_readShape_X7_fails rfl rfl zdX7_fails rfl (Nat.le_of_ble_eq_true rfl) rfl rfl rfl ⟨Nat.le_of_ble_eq_true rfl, Nat.le_of_ble_eq_true rfl⟩ (Nat.le_of_ble_eq_true rfl) dX7_readShape_46 rfl ?_
        cases hf
        exact z_sub [0] rfl hj
  replace hf := hg
  clear hg
  refine z_if_ne (tgt := 24) C dX7_readShape_4 (by decide) (fun c60 => ?_) (fun c60 => ?_)
  · replace hf := if_f c60 hf
    cases hf
    exact z_sub [0] rfl hj
  · replace hf := if_t c60 hf
    refine z_aload_n C 0 dX7_readShape_7 rfl rfl ?_
    refine z_geti C (Nat.le_of_ble_eq_true rfl) rfl rfl 40 (Nat.le_of_ble_eq_true rfl) rfl kiX7_readShape_X7 kfX7_readShape_193 dX7_readShape_8 ?_
    refine z_iconst C (v := 1) dX7_readShape_11 rfl ?_
    refine z_icmp_eq (tgt := 24) C dX7_readShape_12 (by decide) (fun c59 => ?_) (fun c59 => ?_)
    · replace hf := if_t c59 hf
      cases hf
      exact z_sub [0] rfl hj
    · replace hf := if_f c59 hf
      refine z_aload_n C 0 dX7_readShape_15 rfl rfl ?_
      refine z_iconst C (v := 2) dX7_readShape_16 rfl ?_
      refine z_aload_n C 0 dX7_readShape_17 rfl rfl ?_
      refine z_geti C (Nat.le_of_ble_eq_true rfl) rfl rfl 39 (Nat.le_of_ble_eq_true rfl) rfl kiX7_readShape_X7 kfX7_readShape_186 dX7_readShape_18 ?_
      obtain ⟨m58, hc57, hf⟩ := zb_el hf
      refine z_cVv C (c_X7_fails _ _ hc57) rfl gX7_readShape_X7_fails rfl rfl zdX7_fails rfl (Nat.le_of_ble_eq_true rfl) rfl rfl rfl ⟨Nat.le_of_ble_eq_true rfl, Nat.le_of_ble_eq_true rfl⟩ (Nat.le_of_ble_eq_true rfl) dX7_readShape_21 rfl ?_
      cases hf
      exact z_sub [0] rfl hj
theorem dX7_reset_0 : decode cX7_reset 0 = .ok (.aload_n 0, 1) := by decide +kernel
theorem dX7_reset_1 : decode cX7_reset 1 = .ok (.getfield 140, 3) := by decide +kernel
theorem dX7_reset_4 : decode cX7_reset 4 = .ok (.istore_n 1, 1) := by decide +kernel
theorem dX7_reset_5 : decode cX7_reset 5 = .ok (.aload_n 0, 1) := by decide +kernel
theorem dX7_reset_6 : decode cX7_reset 6 = .ok (.iconst 0, 1) := by decide +kernel
theorem dX7_reset_7 : decode cX7_reset 7 = .ok (.putfield 140, 3) := by decide +kernel
theorem dX7_reset_10 : decode cX7_reset 10 = .ok (.aload_n 0, 1) := by decide +kernel
theorem dX7_reset_11 : decode cX7_reset 11 = .ok (.iconst 0, 1) := by decide +kernel
theorem dX7_reset_12 : decode cX7_reset 12 = .ok (.putfield 148, 3) := by decide +kernel
theorem dX7_reset_15 : decode cX7_reset 15 = .ok (.iload_n 1, 1) := by decide +kernel
theorem dX7_reset_16 : decode cX7_reset 16 = .ok (.ireturn, 1) := by decide +kernel
def rmX7_reset : Room := { frames := 0, cells := 0, slots := 0, locals := 0 }
theorem zdX7_reset : yX7_reset.cls = RX7 ∧ yX7_reset.cls ≠ "java/lang/invoke/MethodHandle" ∧ yX7_reset.cls ≠ "java/lang/invoke/VarHandle" ∧ (parseMethodDescriptor yX7_reset.desc).map (fun d => d.parameters.length) = some 0 := by decide +kernel
theorem kiX7_reset_X7 : ∀ w ∈ wsX70, w ∈ wsX7_reset := fun _ h => (List.mem_cons_of_mem _ (List.mem_append_right _ h))
theorem kfX7_reset_140 : Cond.fieldLink RX7 140 "ShapeJudgeModel" "nodes" "I" ∈ wsX7_reset := (List.mem_of_getElem? (i := 1) rfl)
theorem kfX7_reset_148 : Cond.fieldLink RX7 148 "ShapeJudgeModel" "isRead" "Z" ∈ wsX7_reset := (List.mem_of_getElem? (i := 2) rfl)
def s_X7_reset (m : Mem)  : Option (Int32 × Mem) :=
  bn (m 0 0) fun x1 => bn (sto m 0 0 0) fun m2 => bn (sto m2 0 6 0) fun m3 => some (x1, m3)
set_option maxRecDepth 100000 in
set_option maxHeartbeats 4000000 in
theorem c_X7_reset (l : Launch) (w : ZW) {m : Mem}  {r9 : Int32} {m9 : Mem}  (hf : s_X7_reset m  = some (r9, m9)) : zCi MM l w yX7_reset wsX7_reset rmX7_reset [.ref (w.2.1 0)] m m9 r9 := by
  refine z_met_i MM_ok (own := RX7) (by decide +kernel) rfl rfl (Nat.le_of_ble_eq_true rfl) ?_
  intro K C hKw hKl hret
  subst hKw
  subst hKl
  unfold s_X7_reset at hf
  show zGo MM K m [(0, .ref ((zw K).2.1 0))] 0 []
  refine z_aload_n C 0 dX7_reset_0 rfl rfl ?_
  refine z_geti C (Nat.le_of_ble_eq_true rfl) rfl rfl 0 (Nat.le_of_ble_eq_true rfl) rfl kiX7_reset_X7 kfX7_reset_140 dX7_reset_1 ?_
  refine z_topi (fun x1 e_x1 => ?_)
  replace hf := bn_to e_x1 hf
  refine z_istore_n C (lv2 := [(0, .ref ((zw K).2.1 0)), (1, .int x1)]) [1, 0] dX7_reset_4 rfl (Nat.le_of_ble_eq_true rfl) rfl ?_
  refine z_aload_n C 0 dX7_reset_5 rfl rfl ?_
  refine z_iconst C (v := 0) dX7_reset_6 rfl ?_
  refine z_puti C (Nat.le_of_ble_eq_true rfl) rfl rfl 0 (Nat.le_of_ble_eq_true rfl) rfl kiX7_reset_X7 kfX7_reset_140 tyX7 tyX7_ok nmX7 rfl rfl dX7_reset_7 ?_
  refine z_nm (fun m2 e_m2 => ?_)
  replace hf := bn_to e_m2 hf
  refine z_aload_n C 0 dX7_reset_10 rfl rfl ?_
  refine z_iconst C (v := 0) dX7_reset_11 rfl ?_
  refine z_putz C (Nat.le_of_ble_eq_true rfl) rfl rfl 6 (Nat.le_of_ble_eq_true rfl) rfl kiX7_reset_X7 kfX7_reset_148 tyX7 tyX7_ok nmX7 rfl rfl (Or.inl rfl) dX7_reset_12 ?_
  refine z_nm (fun m3 e_m3 => ?_)
  replace hf := bn_to e_m3 hf
  refine z_iload_n C 1 dX7_reset_15 rfl rfl ?_
  obtain ⟨e1, e2⟩ := sp_el hf
  subst e1
  subst e2
  exact hret _ _ dX7_reset_16
