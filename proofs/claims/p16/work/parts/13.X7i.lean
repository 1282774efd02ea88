theorem dX7_wordAt_0 : decode cX7_wordAt 0 = .ok (.iconst 0, 1) := by decide +kernel
theorem dX7_wordAt_1 : decode cX7_wordAt 1 = .ok (.istore_n 2, 1) := by decide +kernel
theorem dX7_wordAt_2 : decode cX7_wordAt 2 = .ok (.iload_n 2, 1) := by decide +kernel
theorem dX7_wordAt_3 : decode cX7_wordAt 3 = .ok (.aload_n 0, 1) := by decide +kernel
theorem dX7_wordAt_4 : decode cX7_wordAt 4 = .ok (.getfield 234, 3) := by decide +kernel
theorem dX7_wordAt_7 : decode cX7_wordAt 7 = .ok (.if_icmp .ge 21, 3) := by decide +kernel
theorem dX7_wordAt_10 : decode cX7_wordAt 10 = .ok (.aload_n 0, 1) := by decide +kernel
theorem dX7_wordAt_11 : decode cX7_wordAt 11 = .ok (.getfield 65, 3) := by decide +kernel
theorem dX7_wordAt_14 : decode cX7_wordAt 14 = .ok (.iload_n 2, 1) := by decide +kernel
theorem dX7_wordAt_15 : decode cX7_wordAt 15 = .ok (.iaload, 1) := by decide +kernel
theorem dX7_wordAt_16 : decode cX7_wordAt 16 = .ok (.iload_n 1, 1) := by decide +kernel
theorem dX7_wordAt_17 : decode cX7_wordAt 17 = .ok (.if_icmp .ne 5, 3) := by decide +kernel
theorem dX7_wordAt_20 : decode cX7_wordAt 20 = .ok (.iload_n 2, 1) := by decide +kernel
theorem dX7_wordAt_21 : decode cX7_wordAt 21 = .ok (.ireturn, 1) := by decide +kernel
theorem dX7_wordAt_22 : decode cX7_wordAt 22 = .ok (.iinc 2 1, 3) := by decide +kernel
theorem dX7_wordAt_25 : decode cX7_wordAt 25 = .ok (.goto (-23), 3) := by decide +kernel
theorem dX7_wordAt_28 : decode cX7_wordAt 28 = .ok (.bipush (-4), 2) := by decide +kernel
theorem dX7_wordAt_30 : decode cX7_wordAt 30 = .ok (.ireturn, 1) := by decide +kernel
def rmX7_wordAt : Room := { frames := 0, cells := 0, slots := 0, locals := 0 }
theorem zdX7_wordAt : yX7_wordAt.cls = RX7 ∧ yX7_wordAt.cls ≠ "java/lang/invoke/MethodHandle" ∧ yX7_wordAt.cls ≠ "java/lang/invoke/VarHandle" ∧ (parseMethodDescriptor yX7_wordAt.desc).map (fun d => d.parameters.length) = some 1 := by decide +kernel
theorem kiX7_wordAt_X7 : ∀ w ∈ wsX70, w ∈ wsX7_wordAt := fun _ h => (List.mem_cons_of_mem _ (List.mem_append_right _ h))
theorem kfX7_wordAt_234 : Cond.fieldLink RX7 234 "ShapeJudgeModel" "dShapes" "I" ∈ wsX7_wordAt := (List.mem_of_getElem? (i := 1) rfl)
theorem kfX7_wordAt_65 : Cond.fieldLink RX7 65 "ShapeJudgeModel" "dWords" "[I" ∈ wsX7_wordAt := (List.mem_of_getElem? (i := 2) rfl)
def t_X7_wordAt_2 (m : Mem) (a1 : Int32) (i1 : Int32) : Option ((Int32) ⊕ (Int32)) :=
  (if (m 0 21) ≤ i1 then (some (.inr (-4))) else (ck (zin i1 6 = true) ((if (m 19 (Int32.toNatClampNeg i1)) = a1 then (some (.inr i1)) else (bn (i1 + 1) fun x3 => some (.inl x3))))))
def l_X7_wordAt_2 (m : Mem) (a1 : Int32) (n : Nat) (i1 : Int32) : Option (Int32) := zlp n (fun a => t_X7_wordAt_2 m a1 a) i1
def s_X7_wordAt (m : Mem) (a1 : Int32) : Option (Int32) :=
  l_X7_wordAt_2 m a1 FU 0
set_option maxRecDepth 100000 in
set_option maxHeartbeats 4000000 in
theorem w_X7_wordAt_2 {K : ZK} (C : zOK MM K cX7_wordAt 3 (some .int) RX7 wsX7_wordAt rmX7_wordAt) {m : Mem} {a1 : Int32}  {r9 : Int32} (hret : zRi MM K cX7_wordAt m r9) : ∀ (n : Nat) (i1 : Int32), l_X7_wordAt_2 m a1 n i1 = some r9 → zGo MM K m [(0, .ref ((zw K).2.1 0)), (1, .int a1), (2, .int i1)] 2 [] := by
  intro n
  induction n with
  | zero =>
    intro i1 hf
    cases hf
  | succ n ih =>
    intro i1 hf
    obtain ⟨z, hf, hz⟩ := zlp_el hf
    replace hf : t_X7_wordAt_2 m a1 i1 = some z := hf
    unfold t_X7_wordAt_2 at hf
    refine z_iload_n C 2 dX7_wordAt_2 rfl rfl ?_
    refine z_aload_n C 0 dX7_wordAt_3 rfl rfl ?_
    refine z_geti C (Nat.le_of_ble_eq_true rfl) rfl rfl 21 (Nat.le_of_ble_eq_true rfl) rfl kiX7_wordAt_X7 kfX7_wordAt_234 dX7_wordAt_4 ?_
    refine z_icmp_ge (tgt := 28) C dX7_wordAt_7 (by decide) (fun c5 => ?_) (fun c5 => ?_)
    · replace hf := if_t c5 hf
      refine z_bipush C (v := (-4)) dX7_wordAt_28 (by decide) ?_
      cases hf
      replace hz := zlz_r hz
      cases hz
      exact hret _ _ dX7_wordAt_30
    · replace hf := if_f c5 hf
      refine z_aload_n C 0 dX7_wordAt_10 rfl rfl ?_
      refine z_getr C (t := 19) (Nat.le_of_ble_eq_true rfl) rfl rfl 22 (Nat.le_of_ble_eq_true rfl) rfl kiX7_wordAt_X7 kfX7_wordAt_65 dX7_wordAt_11 ?_
      refine z_iload_n C 2 dX7_wordAt_14 rfl rfl ?_
      obtain ⟨hi2, hf⟩ := ck_el hf
      refine z_iald C (k := 19) (Nat.le_of_ble_eq_true rfl) rfl hi2 dX7_wordAt_15 ?_
      refine z_iload_n C 1 dX7_wordAt_16 rfl rfl ?_
      refine z_icmp_ne (tgt := 22) C dX7_wordAt_17 (by decide) (fun c4 => ?_) (fun c4 => ?_)
      · replace hf := if_f c4 hf
        obtain ⟨x3, e_x3⟩ : ∃ y : Int32, y = i1 + 1 := ⟨_, rfl⟩
        replace hf := bn_to e_x3 hf
        refine z_iinc C (lv2 := [(0, .ref ((zw K).2.1 0)), (1, .int a1), (2, .int x3)]) 2 [1, 2, 0] dX7_wordAt_22 rfl rfl (Nat.le_of_ble_eq_true rfl) e_x3 rfl ?_
        refine z_goto (tgt := 2) C dX7_wordAt_25 (by decide) ?_
        cases hf
        exact z_sub [0, 1, 2] rfl (ih x3 hz)
      · replace hf := if_t c4 hf
        refine z_iload_n C 2 dX7_wordAt_20 rfl rfl ?_
        cases hf
        replace hz := zlz_r hz
        cases hz
        exact hret _ _ dX7_wordAt_21
set_option maxRecDepth 100000 in
set_option maxHeartbeats 4000000 in
theorem c_X7_wordAt (l : Launch) (w : ZW) {m : Mem} {a1 : Int32} {r9 : Int32}  (hf : s_X7_wordAt m a1 = some r9) : zCi MM l w yX7_wordAt wsX7_wordAt rmX7_wordAt [.ref (w.2.1 0), .int a1] m m r9 := by
  refine z_met_i MM_ok (own := RX7) (by decide +kernel) rfl rfl (Nat.le_of_ble_eq_true rfl) ?_
  intro K C hKw hKl hret
  subst hKw
  subst hKl
  unfold s_X7_wordAt at hf
  show zGo MM K m [(0, .ref ((zw K).2.1 0)), (1, .int a1)] 0 []
  refine z_iconst C (v := 0) dX7_wordAt_0 rfl ?_
  refine z_istore_n C (lv2 := [(0, .ref ((zw K).2.1 0)), (1, .int a1), (2, .int 0)]) [1, 2, 0] dX7_wordAt_1 rfl (Nat.le_of_ble_eq_true rfl) rfl ?_
  exact z_sub [0, 1, 2] rfl (w_X7_wordAt_2 C  hret _ _ hf)
set_option maxRecDepth 20000 in
theorem ggX7_settleWords_X7_wordAt : GoodIn wsX7_settleWords wsX7_wordAt := goodIn_sub (List.forall_mem_cons.mpr ⟨(List.mem_of_getElem? (i := 12) rfl), (List.forall_mem_append.mpr ⟨(List.forall_mem_cons.mpr ⟨(List.mem_of_getElem? (i := 1) rfl), (List.forall_mem_cons.mpr ⟨(List.mem_of_getElem? (i := 13) rfl), (fun _ h => absurd h List.not_mem_nil)⟩)⟩), (fun _ h => (List.mem_cons_of_mem _ (List.mem_append_right _ h)))⟩)⟩) (by decide +kernel)
set_option maxRecDepth 20000 in
theorem gX7_settleWords_X7_wordAt : GoodIn wsX7_settleWords (wsV RX7 261 RX7 yX7_wordAt wsX7_wordAt) := goodIn_app (goodIn_sub (List.forall_mem_cons.mpr ⟨(List.mem_of_getElem? (i := 8) rfl), (List.forall_mem_cons.mpr ⟨(List.mem_of_getElem? (i := 9) rfl), (List.forall_mem_cons.mpr ⟨(List.mem_of_getElem? (i := 10) rfl), (List.forall_mem_cons.mpr ⟨(List.mem_of_getElem? (i := 11) rfl), (fun _ h => absurd h List.not_mem_nil)⟩)⟩)⟩)⟩) (by decide +kernel)) ggX7_settleWords_X7_wordAt
set_option maxRecDepth 20000 in
theorem ggX7_settleWords_X7_fails : GoodIn wsX7_settleWords wsX7_fails := goodIn_sub (List.forall_mem_cons.mpr ⟨(List.mem_of_getElem? (i := 17) rfl), (List.forall_mem_append.mpr ⟨(List.forall_mem_cons.mpr ⟨(List.mem_of_getElem? (i := 2) rfl), (List.forall_mem_cons.mpr ⟨(List.mem_of_getElem? (i := 18) rfl), (fun _ h => absurd h List.not_mem_nil)⟩)⟩), (fun _ h => (List.mem_cons_of_mem _ (List.mem_append_right _ h)))⟩)⟩) (by decide +kernel)
set_option maxRecDepth 20000 in
theorem gX7_settleWords_X7_fails : GoodIn wsX7_settleWords (wsV RX7 207 RX7 yX7_fails wsX7_fails) := goodIn_app (goodIn_sub (List.forall_mem_cons.mpr ⟨(List.mem_of_getElem? (i := 14) rfl), (List.forall_mem_cons.mpr ⟨(List.mem_of_getElem? (i := 15) rfl), (List.forall_mem_cons.mpr ⟨(List.mem_of_getElem? (i := 16) rfl), (List.forall_mem_cons.mpr ⟨(List.mem_of_getElem? (i := 11) rfl), (fun _ h => absurd h List.not_mem_nil)⟩)⟩)⟩)⟩) (by decide +kernel)) ggX7_settleWords_X7_fails
set_option maxRecDepth 20000 in
theorem ggX7_settleWords_X7_findLeads : GoodIn wsX7_settleWords wsX7_findLeads := goodIn_sub (List.forall_mem_cons.mpr ⟨(List.mem_of_getElem? (i := 22) rfl), (List.forall_mem_append.mpr ⟨(List.forall_mem_cons.mpr ⟨(List.mem_of_getElem? (i := 1) rfl), (List.forall_mem_cons.mpr ⟨(List.mem_of_getElem? (i := 23) rfl), (List.forall_mem_cons.mpr ⟨(List.mem_of_getElem? (i := 7) rfl), (List.forall_mem_cons.mpr ⟨(List.mem_of_getElem? (i := 3) rfl), (List.forall_mem_cons.mpr ⟨(List.mem_of_getElem? (i := 24) rfl), (List.forall_mem_cons.mpr ⟨(List.mem_of_getElem? (i := 4) rfl), (List.forall_mem_cons.mpr ⟨(List.mem_of_getElem? (i := 25) rfl), (List.forall_mem_cons.mpr ⟨(List.mem_of_getElem? (i := 5) rfl), (List.forall_mem_cons.mpr ⟨(List.mem_of_getElem? (i := 26) rfl), (fun _ h => absurd h List.not_mem_nil)⟩)⟩)⟩)⟩)⟩)⟩)⟩)⟩)⟩), (fun _ h => (List.mem_cons_of_mem _ (List.mem_append_right _ h)))⟩)⟩) (by decide +kernel)
set_option maxRecDepth 20000 in
theorem gX7_settleWords_X7_findLeads : GoodIn wsX7_settleWords (wsV RX7 264 RX7 yX7_findLeads wsX7_findLeads) := goodIn_app (goodIn_sub (List.forall_mem_cons.mpr ⟨(List.mem_of_getElem? (i := 19) rfl), (List.forall_mem_cons.mpr ⟨(List.mem_of_getElem? (i := 20) rfl), (List.forall_mem_cons.mpr ⟨(List.mem_of_getElem? (i := 21) rfl), (List.forall_mem_cons.mpr ⟨(List.mem_of_getElem? (i := 11) rfl), (fun _ h => absurd h List.not_mem_nil)⟩)⟩)⟩)⟩) (by decide +kernel)) ggX7_settleWords_X7_findLeads
set_option maxRecDepth 100000 in
theorem daX7_settleWords : ∀ q ∈ ([(0, .iconst 0, 1), (1, .istore_n 1, 1), (2, .iload_n 1, 1), (3, .aload_n 0, 1), (4, .getfield 234, 3), (7, .if_icmp .ge 107, 3), (10, .aload_n 0, 1), (11, .getfield 177, 3), (14, .ifCond .ne 100, 3), (17, .iconst 0, 1), (18, .istore_n 2, 1), (19, .iload_n 2, 1), (20, .aload_n 0, 1), (21, .getfield 71, 3), (24, .iload_n 1, 1), (25, .iaload, 1), (26, .if_icmp .ge 82, 3), (29, .aload_n 0, 1), (30, .getfield 177, 3), (33, .ifCond .ne 75, 3), (36, .bipush 6, 2), (38, .iload_n 1, 1), (39, .imul, 1), (40, .iload_n 2, 1), (41, .iadd, 1), (42, .istore_n 3, 1), (43, .aload_n 0, 1), (44, .getfield 77, 3), (47, .iload_n 3, 1), (48, .iaload, 1), (49, .iconst 1, 1), (50, .if_icmp .eq 13, 3), (53, .aload_n 0, 1), (54, .getfield 77, 3), (57, .iload_n 3, 1), (58, .iaload, 1), (59, .iconst 2, 1), (60, .if_icmp .ne 42, 3), (63, .aload_n 0, 1), (64, .aload_n 0, 1), (65, .getfield 80, 3), (68, .iload_n 3, 1), (69, .iaload, 1), (70, .invokevirtual 261, 3), (73, .istore 4, 2), (75, .iload 4, 2), (77, .bipush (-4), 2), (79, .if_icmp .ne 15, 3), (82, .aload_n 0, 1), (83, .bipush 6, 2), (85, .aload_n 0, 1), (86, .getfield 86, 3), (89, .iload_n 3, 1), (90, .iaload, 1), (91, .invokevirtual 207, 3), (94, .aload_n 0, 1), (95, .getfield 80, 3), (98, .iload_n 3, 1), (99, .iload 4, 2), (101, .iastore, 1), (102, .iinc 2 1, 3), (105, .goto (-86), 3), (108, .iinc 1 1, 3), (111, .goto (-109), 3), (114, .aload_n 0, 1), (115, .getfield 177, 3), (118, .ifCond .le 4, 3), (121, .return_, 1), (122, .aload_n 0, 1), (123, .iconst 1, 1), (124, .invokevirtual 264, 3), (127, .iconst 0, 1), (128, .istore_n 1, 1), (129, .iload_n 1, 1), (130, .aload_n 0, 1), (131, .getfield 234, 3), (134, .if_icmp .ge 99, 3), (137, .aload_n 0, 1), (138, .getfield 177, 3), (141, .ifCond .ne 92, 3), (144, .iconst 0, 1), (145, .istore_n 2, 1), (146, .iload_n 2, 1), (147, .aload_n 0, 1), (148, .getfield 71, 3), (151, .iload_n 1, 1), (152, .iaload, 1), (153, .if_icmp .ge 74, 3), (156, .aload_n 0, 1), (157, .getfield 177, 3), (160, .ifCond .ne 67, 3), (163, .bipush 6, 2), (165, .iload_n 1, 1), (166, .imul, 1), (167, .iload_n 2, 1), (168, .iadd, 1), (169, .istore_n 3, 1), (170, .aload_n 0, 1), (171, .getfield 77, 3), (174, .iload_n 3, 1), (175, .iaload, 1), (176, .iconst 2, 1), (177, .if_icmp .ne 44, 3), (180, .aload_n 0, 1), (181, .getfield 80, 3), (184, .iload_n 3, 1), (185, .iaload, 1), (186, .iload_n 1, 1), (187, .if_icmp .eq 22, 3), (190, .aload_n 0, 1), (191, .getfield 116, 3), (194, .bipush 6, 2), (196, .aload_n 0, 1), (197, .getfield 80, 3), (200, .iload_n 3, 1), (201, .iaload, 1), (202, .imul, 1), (203, .iload_n 1, 1), (204, .iadd, 1), (205, .baload, 1), (206, .ifCond .eq 15, 3), (209, .aload_n 0, 1), (210, .bipush 7, 2), (212, .aload_n 0, 1), (213, .getfield 86, 3), (216, .iload_n 3, 1), (217, .iaload, 1), (218, .invokevirtual 207, 3), (221, .iinc 2 1, 3), (224, .goto (-78), 3), (227, .iinc 1 1, 3), (230, .goto (-101), 3), (233, .return_, 1)] : List (Nat × Instr × Nat)), decode cX7_settleWords q.1 = .ok q.2 := by decide +kernel
theorem dX7_settleWords_0 : decode cX7_settleWords 0 = .ok (.iconst 0, 1) := daX7_settleWords (0, .iconst 0, 1) (List.mem_of_getElem? (i := 0) rfl)
theorem dX7_settleWords_1 : decode cX7_settleWords 1 = .ok (.istore_n 1, 1) := daX7_settleWords (1, .istore_n 1, 1) (List.mem_of_getElem? (i := 1) rfl)
theorem dX7_settleWords_2 : decode cX7_settleWords 2 = .ok (.iload_n 1, 1) := daX7_settleWords (2, .iload_n 1, 1) (List.mem_of_getElem? (i := 2) rfl)
theorem dX7_settleWords_3 : decode cX7_settleWords 3 = .ok (.aload_n 0, 1) := daX7_settleWords (3, .aload_n 0, 1) (List.mem_of_getElem? (i := 3) rfl)
theorem dX7_settleWords_4 : decode cX7_settleWords 4 = .ok (.getfield 234, 3) := daX7_settleWords (4, .getfield 234, 3) (List.mem_of_getElem? (i := 4) rfl)
theorem dX7_settleWords_7 : decode cX7_settleWords 7 = .ok (.if_icmp .ge 107, 3) := daX7_settleWords (7, .if_icmp .ge 107, 3) (List.mem_of_getElem? (i := 5) rfl)
theorem dX7_settleWords_10 : decode cX7_settleWords 10 = .ok (.aload_n 0, 1) := daX7_settleWords (10, .aload_n 0, 1) (List.mem_of_getElem? (i := 6) rfl)
theorem dX7_settleWords_11 : decode cX7_settleWords 11 = .ok (.getfield 177, 3) := daX7_settleWords (11, .getfield 177, 3) (List.mem_of_getElem? (i := 7) rfl)
theorem dX7_settleWords_14 : decode cX7_settleWords 14 = .ok (.ifCond .ne 100, 3) := daX7_settleWords (14, .ifCond .ne 100, 3) (List.mem_of_getElem? (i := 8) rfl)
theorem dX7_settleWords_17 : decode cX7_settleWords 17 = .ok (.iconst 0, 1) := daX7_settleWords (17, .iconst 0, 1) (List.mem_of_getElem? (i := 9) rfl)
theorem dX7_settleWords_18 : decode cX7_settleWords 18 = .ok (.istore_n 2, 1) := daX7_settleWords (18, .istore_n 2, 1) (List.mem_of_getElem? (i := 10) rfl)
theorem dX7_settleWords_19 : decode cX7_settleWords 19 = .ok (.iload_n 2, 1) := daX7_settleWords (19, .iload_n 2, 1) (List.mem_of_getElem? (i := 11) rfl)
theorem dX7_settleWords_20 : decode cX7_settleWords 20 = .ok (.aload_n 0, 1) := daX7_settleWords (20, .aload_n 0, 1) (List.mem_of_getElem? (i := 12) rfl)
theorem dX7_settleWords_21 : decode cX7_settleWords 21 = .ok (.getfield 71, 3) := daX7_settleWords (21, .getfield 71, 3) (List.mem_of_getElem? (i := 13) rfl)
theorem dX7_settleWords_24 : decode cX7_settleWords 24 = .ok (.iload_n 1, 1) := daX7_settleWords (24, .iload_n 1, 1) (List.mem_of_getElem? (i := 14) rfl)
theorem dX7_settleWords_25 : decode cX7_settleWords 25 = .ok (.iaload, 1) := daX7_settleWords (25, .iaload, 1) (List.mem_of_getElem? (i := 15) rfl)
theorem dX7_settleWords_26 : decode cX7_settleWords 26 = .ok (.if_icmp .ge 82, 3) := daX7_settleWords (26, .if_icmp .ge 82, 3) (List.mem_of_getElem? (i := 16) rfl)
theorem dX7_settleWords_29 : decode cX7_settleWords 29 = .ok (.aload_n 0, 1) := daX7_settleWords (29, .aload_n 0, 1) (List.mem_of_getElem? (i := 17) rfl)
theorem dX7_settleWords_30 : decode cX7_settleWords 30 = .ok (.getfield 177, 3) := daX7_settleWords (30, .getfield 177, 3) (List.mem_of_getElem? (i := 18) rfl)
theorem dX7_settleWords_33 : decode cX7_settleWords 33 = .ok (.ifCond .ne 75, 3) := daX7_settleWords (33, .ifCond .ne 75, 3) (List.mem_of_getElem? (i := 19) rfl)
theorem dX7_settleWords_36 : decode cX7_settleWords 36 = .ok (.bipush 6, 2) := daX7_settleWords (36, .bipush 6, 2) (List.mem_of_getElem? (i := 20) rfl)
theorem dX7_settleWords_38 : decode cX7_settleWords 38 = .ok (.iload_n 1, 1) := daX7_settleWords (38, .iload_n 1, 1) (List.mem_of_getElem? (i := 21) rfl)
theorem dX7_settleWords_39 : decode cX7_settleWords 39 = .ok (.imul, 1) := daX7_settleWords (39, .imul, 1) (List.mem_of_getElem? (i := 22) rfl)
theorem dX7_settleWords_40 : decode cX7_settleWords 40 = .ok (.iload_n 2, 1) := daX7_settleWords (40, .iload_n 2, 1) (List.mem_of_getElem? (i := 23) rfl)
theorem dX7_settleWords_41 : decode cX7_settleWords 41 = .ok (.iadd, 1) := daX7_settleWords (41, .iadd, 1) (List.mem_of_getElem? (i := 24) rfl)
theorem dX7_settleWords_42 : decode cX7_settleWords 42 = .ok (.istore_n 3, 1) := daX7_settleWords (42, .istore_n 3, 1) (List.mem_of_getElem? (i := 25) rfl)
theorem dX7_settleWords_43 : decode cX7_settleWords 43 = .ok (.aload_n 0, 1) := daX7_settleWords (43, .aload_n 0, 1) (List.mem_of_getElem? (i := 26) rfl)
theorem dX7_settleWords_44 : decode cX7_settleWords 44 = .ok (.getfield 77, 3) := daX7_settleWords (44, .getfield 77, 3) (List.mem_of_getElem? (i := 27) rfl)
theorem dX7_settleWords_47 : decode cX7_settleWords 47 = .ok (.iload_n 3, 1) := daX7_settleWords (47, .iload_n 3, 1) (List.mem_of_getElem? (i := 28) rfl)
theorem dX7_settleWords_48 : decode cX7_settleWords 48 = .ok (.iaload, 1) := daX7_settleWords (48, .iaload, 1) (List.mem_of_getElem? (i := 29) rfl)
theorem dX7_settleWords_49 : decode cX7_settleWords 49 = .ok (.iconst 1, 1) := daX7_settleWords (49, .iconst 1, 1) (List.mem_of_getElem? (i := 30) rfl)
theorem dX7_settleWords_50 : decode cX7_settleWords 50 = .ok (.if_icmp .eq 13, 3) := daX7_settleWords (50, .if_icmp .eq 13, 3) (List.mem_of_getElem? (i := 31) rfl)
theorem dX7_settleWords_53 : decode cX7_settleWords 53 = .ok (.aload_n 0, 1) := daX7_settleWords (53, .aload_n 0, 1) (List.mem_of_getElem? (i := 32) rfl)
theorem dX7_settleWords_54 : decode cX7_settleWords 54 = .ok (.getfield 77, 3) := daX7_settleWords (54, .getfield 77, 3) (List.mem_of_getElem? (i := 33) rfl)
theorem dX7_settleWords_57 : decode cX7_settleWords 57 = .ok (.iload_n 3, 1) := daX7_settleWords (57, .iload_n 3, 1) (List.mem_of_getElem? (i := 34) rfl)
theorem dX7_settleWords_58 : decode cX7_settleWords 58 = .ok (.iaload, 1) := daX7_settleWords (58, .iaload, 1) (List.mem_of_getElem? (i := 35) rfl)
theorem dX7_settleWords_59 : decode cX7_settleWords 59 = .ok (.iconst 2, 1) := daX7_settleWords (59, .iconst 2, 1) (List.mem_of_getElem? (i := 36) rfl)
theorem dX7_settleWords_60 : decode cX7_settleWords 60 = .ok (.if_icmp .ne 42, 3) := daX7_settleWords (60, .if_icmp .ne 42, 3) (List.mem_of_getElem? (i := 37) rfl)
theorem dX7_settleWords_63 : decode cX7_settleWords 63 = .ok (.aload_n 0, 1) := daX7_settleWords (63, .aload_n 0, 1) (List.mem_of_getElem? (i := 38) rfl)
theorem dX7_settleWords_64 : decode cX7_settleWords 64 = .ok (.aload_n 0, 1) := daX7_settleWords (64, .aload_n 0, 1) (List.mem_of_getElem? (i := 39) rfl)
theorem dX7_settleWords_65 : decode cX7_settleWords 65 = .ok (.getfield 80, 3) := daX7_settleWords (65, .getfield 80, 3) (List.mem_of_getElem? (i := 40) rfl)
theorem dX7_settleWords_68 : decode cX7_settleWords 68 = .ok (.iload_n 3, 1) := daX7_settleWords (68, .iload_n 3, 1) (List.mem_of_getElem? (i := 41) rfl)
theorem dX7_settleWords_69 : decode cX7_settleWords 69 = .ok (.iaload, 1) := daX7_settleWords (69, .iaload, 1) (List.mem_of_getElem? (i := 42) rfl)
theorem dX7_settleWords_70 : decode cX7_settleWords 70 = .ok (.invokevirtual 261, 3) := daX7_settleWords (70, .invokevirtual 261, 3) (List.mem_of_getElem? (i := 43) rfl)
theorem dX7_settleWords_73 : decode cX7_settleWords 73 = .ok (.istore 4, 2) := daX7_settleWords (73, .istore 4, 2) (List.mem_of_getElem? (i := 44) rfl)
theorem dX7_settleWords_75 : decode cX7_settleWords 75 = .ok (.iload 4, 2) := daX7_settleWords (75, .iload 4, 2) (List.mem_of_getElem? (i := 45) rfl)
theorem dX7_settleWords_77 : decode cX7_settleWords 77 = .ok (.bipush (-4), 2) := daX7_settleWords (77, .bipush (-4), 2) (List.mem_of_getElem? (i := 46) rfl)
theorem dX7_settleWords_79 : decode cX7_settleWords 79 = .ok (.if_icmp .ne 15, 3) := daX7_settleWords (79, .if_icmp .ne 15, 3) (List.mem_of_getElem? (i := 47) rfl)
theorem dX7_settleWords_82 : decode cX7_settleWords 82 = .ok (.aload_n 0, 1) := daX7_settleWords (82, .aload_n 0, 1) (List.mem_of_getElem? (i := 48) rfl)
theorem dX7_settleWords_83 : decode cX7_settleWords 83 = .ok (.bipush 6, 2) := daX7_settleWords (83, .bipush 6, 2) (List.mem_of_getElem? (i := 49) rfl)
theorem dX7_settleWords_85 : decode cX7_settleWords 85 = .ok (.aload_n 0, 1) := daX7_settleWords (85, .aload_n 0, 1) (List.mem_of_getElem? (i := 50) rfl)
theorem dX7_settleWords_86 : decode cX7_settleWords 86 = .ok (.getfield 86, 3) := daX7_settleWords (86, .getfield 86, 3) (List.mem_of_getElem? (i := 51) rfl)
theorem dX7_settleWords_89 : decode cX7_settleWords 89 = .ok (.iload_n 3, 1) := daX7_settleWords (89, .iload_n 3, 1) (List.mem_of_getElem? (i := 52) rfl)
theorem dX7_settleWords_90 : decode cX7_settleWords 90 = .ok (.iaload, 1) := daX7_settleWords (90, .iaload, 1) (List.mem_of_getElem? (i := 53) rfl)
theorem dX7_settleWords_91 : decode cX7_settleWords 91 = .ok (.invokevirtual 207, 3) := daX7_settleWords (91, .invokevirtual 207, 3) (List.mem_of_getElem? (i := 54) rfl)
theorem dX7_settleWords_94 : decode cX7_settleWords 94 = .ok (.aload_n 0, 1) := daX7_settleWords (94, .aload_n 0, 1) (List.mem_of_getElem? (i := 55) rfl)
theorem dX7_settleWords_95 : decode cX7_settleWords 95 = .ok (.getfield 80, 3) := daX7_settleWords (95, .getfield 80, 3) (List.mem_of_getElem? (i := 56) rfl)
theorem dX7_settleWords_98 : decode cX7_settleWords 98 = .ok (.iload_n 3, 1) := daX7_settleWords (98, .iload_n 3, 1) (List.mem_of_getElem? (i := 57) rfl)
theorem dX7_settleWords_99 : decode cX7_settleWords 99 = .ok (.iload 4, 2) := daX7_settleWords (99, .iload 4, 2) (List.mem_of_getElem? (i := 58) rfl)
theorem dX7_settleWords_101 : decode cX7_settleWords 101 = .ok (.iastore, 1) := daX7_settleWords (101, .iastore, 1) (List.mem_of_getElem? (i := 59) rfl)
theorem dX7_settleWords_102 : decode cX7_settleWords 102 = .ok (.iinc 2 1, 3) := daX7_settleWords (102, .iinc 2 1, 3) (List.mem_of_getElem? (i := 60) rfl)
theorem dX7_settleWords_105 : decode cX7_settleWords 105 = .ok (.goto (-86), 3) := daX7_settleWords (105, .goto (-86), 3) (List.mem_of_getElem? (i := 61) rfl)
theorem dX7_settleWords_108 : decode cX7_settleWords 108 = .ok (.iinc 1 1, 3) := daX7_settleWords (108, .iinc 1 1, 3) (List.mem_of_getElem? (i := 62) rfl)
theorem dX7_settleWords_111 : decode cX7_settleWords 111 = .ok (.goto (-109), 3) := daX7_settleWords (111, .goto (-109), 3) (List.mem_of_getElem? (i := 63) rfl)
theorem dX7_settleWords_114 : decode cX7_settleWords 114 = .ok (.aload_n 0, 1) := daX7_settleWords (114, .aload_n 0, 1) (List.mem_of_getElem? (i := 64) rfl)
theorem dX7_settleWords_115 : decode cX7_settleWords 115 = .ok (.getfield 177, 3) := daX7_settleWords (115, .getfield 177, 3) (List.mem_of_getElem? (i := 65) rfl)
theorem dX7_settleWords_118 : decode cX7_settleWords 118 = .ok (.ifCond .le 4, 3) := daX7_settleWords (118, .ifCond .le 4, 3) (List.mem_of_getElem? (i := 66) rfl)
theorem dX7_settleWords_121 : decode cX7_settleWords 121 = .ok (.return_, 1) := daX7_settleWords (121, .return_, 1) (List.mem_of_getElem? (i := 67) rfl)
theorem dX7_settleWords_122 : decode cX7_settleWords 122 = .ok (.aload_n 0, 1) := daX7_settleWords (122, .aload_n 0, 1) (List.mem_of_getElem? (i := 68) rfl)
theorem dX7_settleWords_123 : decode cX7_settleWords 123 = .ok (.iconst 1, 1) := daX7_settleWords (123, .iconst 1, 1) (List.mem_of_getElem? (i := 69) rfl)
theorem dX7_settleWords_124 : decode cX7_settleWords 124 = .ok (.invokevirtual 264, 3) := daX7_settleWords (124, .invokevirtual 264, 3) (List.mem_of_getElem? (i := 70) rfl)
theorem dX7_settleWords_127 : decode cX7_settleWords 127 = .ok (.iconst 0, 1) := daX7_settleWords (127, .iconst 0, 1) (List.mem_of_getElem? (i := 71) rfl)
theorem dX7_settleWords_128 : decode cX7_settleWords 128 = .ok (.istore_n 1, 1) := daX7_settleWords (128, .istore_n 1, 1) (List.mem_of_getElem? (i := 72) rfl)
theorem dX7_settleWords_129 : decode cX7_settleWords 129 = .ok (.iload_n 1, 1) := daX7_settleWords (129, .iload_n 1, 1) (List.mem_of_getElem? (i := 73) rfl)
theorem dX7_settleWords_130 : decode cX7_settleWords 130 = .ok (.aload_n 0, 1) := daX7_settleWords (130, .aload_n 0, 1) (List.mem_of_getElem? (i := 74) rfl)
theorem dX7_settleWords_131 : decode cX7_settleWords 131 = .ok (.getfield 234, 3) := daX7_settleWords (131, .getfield 234, 3) (List.mem_of_getElem? (i := 75) rfl)
theorem dX7_settleWords_134 : decode cX7_settleWords 134 = .ok (.if_icmp .ge 99, 3) := daX7_settleWords (134, .if_icmp .ge 99, 3) (List.mem_of_getElem? (i := 76) rfl)
theorem dX7_settleWords_137 : decode cX7_settleWords 137 = .ok (.aload_n 0, 1) := daX7_settleWords (137, .aload_n 0, 1) (List.mem_of_getElem? (i := 77) rfl)
theorem dX7_settleWords_138 : decode cX7_settleWords 138 = .ok (.getfield 177, 3) := daX7_settleWords (138, .getfield 177, 3) (List.mem_of_getElem? (i := 78) rfl)
theorem dX7_settleWords_141 : decode cX7_settleWords 141 = .ok (.ifCond .ne 92, 3) := daX7_settleWords (141, .ifCond .ne 92, 3) (List.mem_of_getElem? (i := 79) rfl)
theorem dX7_settleWords_144 : decode cX7_settleWords 144 = .ok (.iconst 0, 1) := daX7_settleWords (144, .iconst 0, 1) (List.mem_of_getElem? (i := 80) rfl)
theorem dX7_settleWords_145 : decode cX7_settleWords 145 = .ok (.istore_n 2, 1) := daX7_settleWords (145, .istore_n 2, 1) (List.mem_of_getElem? (i := 81) rfl)
theorem dX7_settleWords_146 : decode cX7_settleWords 146 = .ok (.iload_n 2, 1) := daX7_settleWords (146, .iload_n 2, 1) (List.mem_of_getElem? (i := 82) rfl)
theorem dX7_settleWords_147 : decode cX7_settleWords 147 = .ok (.aload_n 0, 1) := daX7_settleWords (147, .aload_n 0, 1) (List.mem_of_getElem? (i := 83) rfl)
theorem dX7_settleWords_148 : decode cX7_settleWords 148 = .ok (.getfield 71, 3) := daX7_settleWords (148, .getfield 71, 3) (List.mem_of_getElem? (i := 84) rfl)
theorem dX7_settleWords_151 : decode cX7_settleWords 151 = .ok (.iload_n 1, 1) := daX7_settleWords (151, .iload_n 1, 1) (List.mem_of_getElem? (i := 85) rfl)
theorem dX7_settleWords_152 : decode cX7_settleWords 152 = .ok (.iaload, 1) := daX7_settleWords (152, .iaload, 1) (List.mem_of_getElem? (i := 86) rfl)
theorem dX7_settleWords_153 : decode cX7_settleWords 153 = .ok (.if_icmp .ge 74, 3) := daX7_settleWords (153, .if_icmp .ge 74, 3) (List.mem_of_getElem? (i := 87) rfl)
theorem dX7_settleWords_156 : decode cX7_settleWords 156 = .ok (.aload_n 0, 1) := daX7_settleWords (156, .aload_n 0, 1) (List.mem_of_getElem? (i := 88) rfl)
theorem dX7_settleWords_157 : decode cX7_settleWords 157 = .ok (.getfield 177, 3) := daX7_settleWords (157, .getfield 177, 3) (List.mem_of_getElem? (i := 89) rfl)
theorem dX7_settleWords_160 : decode cX7_settleWords 160 = .ok (.ifCond .ne 67, 3) := daX7_settleWords (160, .ifCond .ne 67, 3) (List.mem_of_getElem? (i := 90) rfl)
theorem dX7_settleWords_163 : decode cX7_settleWords 163 = .ok (.bipush 6, 2) := daX7_settleWords (163, .bipush 6, 2) (List.mem_of_getElem? (i := 91) rfl)
theorem dX7_settleWords_165 : decode cX7_settleWords 165 = .ok (.iload_n 1, 1) := daX7_settleWords (165, .iload_n 1, 1) (List.mem_of_getElem? (i := 92) rfl)
theorem dX7_settleWords_166 : decode cX7_settleWords 166 = .ok (.imul, 1) := daX7_settleWords (166, .imul, 1) (List.mem_of_getElem? (i := 93) rfl)
theorem dX7_settleWords_167 : decode cX7_settleWords 167 = .ok (.iload_n 2, 1) := daX7_settleWords (167, .iload_n 2, 1) (List.mem_of_getElem? (i := 94) rfl)
theorem dX7_settleWords_168 : decode cX7_settleWords 168 = .ok (.iadd, 1) := daX7_settleWords (168, .iadd, 1) (List.mem_of_getElem? (i := 95) rfl)
theorem dX7_settleWords_169 : decode cX7_settleWords 169 = .ok (.istore_n 3, 1) := daX7_settleWords (169, .istore_n 3, 1) (List.mem_of_getElem? (i := 96) rfl)
theorem dX7_settleWords_170 : decode cX7_settleWords 170 = .ok (.aload_n 0, 1) := daX7_settleWords (170, .aload_n 0, 1) (List.mem_of_getElem? (i := 97) rfl)
theorem dX7_settleWords_171 : decode cX7_settleWords 171 = .ok (.getfield 77, 3) := daX7_settleWords (171, .getfield 77, 3) (List.mem_of_getElem? (i := 98) rfl)
theorem dX7_settleWords_174 : decode cX7_settleWords 174 = .ok (.iload_n 3, 1) := daX7_settleWords (174, .iload_n 3, 1) (List.mem_of_getElem? (i := 99) rfl)
theorem dX7_settleWords_175 : decode cX7_settleWords 175 = .ok (.iaload, 1) := daX7_settleWords (175, .iaload, 1) (List.mem_of_getElem? (i := 100) rfl)
theorem dX7_settleWords_176 : decode cX7_settleWords 176 = .ok (.iconst 2, 1) := daX7_settleWords (176, .iconst 2, 1) (List.mem_of_getElem? (i := 101) rfl)
theorem dX7_settleWords_177 : decode cX7_settleWords 177 = .ok (.if_icmp .ne 44, 3) := daX7_settleWords (177, .if_icmp .ne 44, 3) (List.mem_of_getElem? (i := 102) rfl)
theorem dX7_settleWords_180 : decode cX7_settleWords 180 = .ok (.aload_n 0, 1) := daX7_settleWords (180, .aload_n 0, 1) (List.mem_of_getElem? (i := 103) rfl)
theorem dX7_settleWords_181 : decode cX7_settleWords 181 = .ok (.getfield 80, 3) := daX7_settleWords (181, .getfield 80, 3) (List.mem_of_getElem? (i := 104) rfl)
theorem dX7_settleWords_184 : decode cX7_settleWords 184 = .ok (.iload_n 3, 1) := daX7_settleWords (184, .iload_n 3, 1) (List.mem_of_getElem? (i := 105) rfl)
theorem dX7_settleWords_185 : decode cX7_settleWords 185 = .ok (.iaload, 1) := daX7_settleWords (185, .iaload, 1) (List.mem_of_getElem? (i := 106) rfl)
theorem dX7_settleWords_186 : decode cX7_settleWords 186 = .ok (.iload_n 1, 1) := daX7_settleWords (186, .iload_n 1, 1) (List.mem_of_getElem? (i := 107) rfl)
theorem dX7_settleWords_187 : decode cX7_settleWords 187 = .ok (.if_icmp .eq 22, 3) := daX7_settleWords (187, .if_icmp .eq 22, 3) (List.mem_of_getElem? (i := 108) rfl)
theorem dX7_settleWords_190 : decode cX7_settleWords 190 = .ok (.aload_n 0, 1) := daX7_settleWords (190, .aload_n 0, 1) (List.mem_of_getElem? (i := 109) rfl)
theorem dX7_settleWords_191 : decode cX7_settleWords 191 = .ok (.getfield 116, 3) := daX7_settleWords (191, .getfield 116, 3) (List.mem_of_getElem? (i := 110) rfl)
theorem dX7_settleWords_194 : decode cX7_settleWords 194 = .ok (.bipush 6, 2) := daX7_settleWords (194, .bipush 6, 2) (List.mem_of_getElem? (i := 111) rfl)
theorem dX7_settleWords_196 : decode cX7_settleWords 196 = .ok (.aload_n 0, 1) := daX7_settleWords (196, .aload_n 0, 1) (List.mem_of_getElem? (i := 112) rfl)
theorem dX7_settleWords_197 : decode cX7_settleWords 197 = .ok (.getfield 80, 3) := daX7_settleWords (197, .getfield 80, 3) (List.mem_of_getElem? (i := 113) rfl)
theorem dX7_settleWords_200 : decode cX7_settleWords 200 = .ok (.iload_n 3, 1) := daX7_settleWords (200, .iload_n 3, 1) (List.mem_of_getElem? (i := 114) rfl)
theorem dX7_settleWords_201 : decode cX7_settleWords 201 = .ok (.iaload, 1) := daX7_settleWords (201, .iaload, 1) (List.mem_of_getElem? (i := 115) rfl)
theorem dX7_settleWords_202 : decode cX7_settleWords 202 = .ok (.imul, 1) := daX7_settleWords (202, .imul, 1) (List.mem_of_getElem? (i := 116) rfl)
theorem dX7_settleWords_203 : decode cX7_settleWords 203 = .ok (.iload_n 1, 1) := daX7_settleWords (203, .iload_n 1, 1) (List.mem_of_getElem? (i := 117) rfl)
theorem dX7_settleWords_204 : decode cX7_settleWords 204 = .ok (.iadd, 1) := daX7_settleWords (204, .iadd, 1) (List.mem_of_getElem? (i := 118) rfl)
theorem dX7_settleWords_205 : decode cX7_settleWords 205 = .ok (.baload, 1) := daX7_settleWords (205, .baload, 1) (List.mem_of_getElem? (i := 119) rfl)
theorem dX7_settleWords_206 : decode cX7_settleWords 206 = .ok (.ifCond .eq 15, 3) := daX7_settleWords (206, .ifCond .eq 15, 3) (List.mem_of_getElem? (i := 120) rfl)
theorem dX7_settleWords_209 : decode cX7_settleWords 209 = .ok (.aload_n 0, 1) := daX7_settleWords (209, .aload_n 0, 1) (List.mem_of_getElem? (i := 121) rfl)
theorem dX7_settleWords_210 : decode cX7_settleWords 210 = .ok (.bipush 7, 2) := daX7_settleWords (210, .bipush 7, 2) (List.mem_of_getElem? (i := 122) rfl)
theorem dX7_settleWords_212 : decode cX7_settleWords 212 = .ok (.aload_n 0, 1) := daX7_settleWords (212, .aload_n 0, 1) (List.mem_of_getElem? (i := 123) rfl)
theorem dX7_settleWords_213 : decode cX7_settleWords 213 = .ok (.getfield 86, 3) := daX7_settleWords (213, .getfield 86, 3) (List.mem_of_getElem? (i := 124) rfl)
theorem dX7_settleWords_216 : decode cX7_settleWords 216 = .ok (.iload_n 3, 1) := daX7_settleWords (216, .iload_n 3, 1) (List.mem_of_getElem? (i := 125) rfl)
theorem dX7_settleWords_217 : decode cX7_settleWords 217 = .ok (.iaload, 1) := daX7_settleWords (217, .iaload, 1) (List.mem_of_getElem? (i := 126) rfl)
theorem dX7_settleWords_218 : decode cX7_settleWords 218 = .ok (.invokevirtual 207, 3) := daX7_settleWords (218, .invokevirtual 207, 3) (List.mem_of_getElem? (i := 127) rfl)
theorem dX7_settleWords_221 : decode cX7_settleWords 221 = .ok (.iinc 2 1, 3) := daX7_settleWords (221, .iinc 2 1, 3) (List.mem_of_getElem? (i := 128) rfl)
theorem dX7_settleWords_224 : decode cX7_settleWords 224 = .ok (.goto (-78), 3) := daX7_settleWords (224, .goto (-78), 3) (List.mem_of_getElem? (i := 129) rfl)
theorem dX7_settleWords_227 : decode cX7_settleWords 227 = .ok (.iinc 1 1, 3) := daX7_settleWords (227, .iinc 1 1, 3) (List.mem_of_getElem? (i := 130) rfl)
theorem dX7_settleWords_230 : decode cX7_settleWords 230 = .ok (.goto (-101), 3) := daX7_settleWords (230, .goto (-101), 3) (List.mem_of_getElem? (i := 131) rfl)
theorem dX7_settleWords_233 : decode cX7_settleWords 233 = .ok (.return_, 1) := daX7_settleWords (233, .return_, 1) (List.mem_of_getElem? (i := 132) rfl)
def rmX7_settleWords : Room := { frames := 1, cells := 0, slots := 0, locals := 26 }
theorem zdX7_settleWords : yX7_settleWords.cls = RX7 ∧ yX7_settleWords.cls ≠ "java/lang/invoke/MethodHandle" ∧ yX7_settleWords.cls ≠ "java/lang/invoke/VarHandle" ∧ (parseMethodDescriptor yX7_settleWords.desc).map (fun d => d.parameters.length) = some 0 := by decide +kernel
theorem kiX7_settleWords_X7 : ∀ w ∈ wsX70, w ∈ wsX7_settleWords := fun _ h => (List.mem_cons_of_mem _ (List.mem_append_right _ h))
theorem kfX7_settleWords_234 : Cond.fieldLink RX7 234 "ShapeJudgeModel" "dShapes" "I" ∈ wsX7_settleWords := (List.mem_of_getElem? (i := 1) rfl)
theorem kfX7_settleWords_177 : Cond.fieldLink RX7 177 "ShapeJudgeModel" "fault" "I" ∈ wsX7_settleWords := (List.mem_of_getElem? (i := 2) rfl)
theorem kfX7_settleWords_71 : Cond.fieldLink RX7 71 "ShapeJudgeModel" "dParts" "[I" ∈ wsX7_settleWords := (List.mem_of_getElem? (i := 3) rfl)
theorem kfX7_settleWords_77 : Cond.fieldLink RX7 77 "ShapeJudgeModel" "dTest" "[I" ∈ wsX7_settleWords := (List.mem_of_getElem? (i := 4) rfl)
theorem kfX7_settleWords_80 : Cond.fieldLink RX7 80 "ShapeJudgeModel" "dFirst" "[I" ∈ wsX7_settleWords := (List.mem_of_getElem? (i := 5) rfl)
theorem kfX7_settleWords_86 : Cond.fieldLink RX7 86 "ShapeJudgeModel" "dPlace" "[I" ∈ wsX7_settleWords := (List.mem_of_getElem? (i := 6) rfl)
theorem kfX7_settleWords_116 : Cond.fieldLink RX7 116 "ShapeJudgeModel" "leads" "[Z" ∈ wsX7_settleWords := (List.mem_of_getElem? (i := 7) rfl)
def t_X7_settleWords_19 (i1 : Int32) (i3 : Int32) (m4 : Mem) : Option ((Int32 × Mem) ⊕ (Mem)) :=
  ck (zin i1 6 = true) ((if (m4 21 (Int32.toNatClampNeg i1)) ≤ i3 then (some (.inr m4)) else ((if (m4 0 42) = 0 then (bn (((6 : Int32) * i1) + i3) fun x6 => ck (zin x6 36 = true) ((if (m4 23 (Int32.toNatClampNeg x6)) = 1 then (ck (zin x6 36 = true) ((s_X7_wordAt m4 (m4 24 (Int32.toNatClampNeg x6))).bind fun r10 => (if r10 = (-4) then (ck (zin x6 36 = true) ((s_X7_fails m4 6 (m4 26 (Int32.toNatClampNeg x6))).bind fun m16 => ck (zin x6 36 = true) (bn (sto m16 24 (Int32.toNatClampNeg x6) r10) fun m18 => bn (i3 + 1) fun x19 => some (.inl (x19, m18))))) else (ck (zin x6 36 = true) (bn (sto m4 24 (Int32.toNatClampNeg x6) r10) fun m12 => bn (i3 + 1) fun x13 => some (.inl (x13, m12))))))) else (ck (zin x6 36 = true) ((if (m4 23 (Int32.toNatClampNeg x6)) = 2 then (ck (zin x6 36 = true) ((s_X7_wordAt m4 (m4 24 (Int32.toNatClampNeg x6))).bind fun r25 => (if r25 = (-4) then (ck (zin x6 36 = true) ((s_X7_fails m4 6 (m4 26 (Int32.toNatClampNeg x6))).bind fun m31 => ck (zin x6 36 = true) (bn (sto m31 24 (Int32.toNatClampNeg x6) r25) fun m33 => bn (i3 + 1) fun x34 => some (.inl (x34, m33))))) else (ck (zin x6 36 = true) (bn (sto m4 24 (Int32.toNatClampNeg x6) r25) fun m27 => bn (i3 + 1) fun x28 => some (.inl (x28, m27))))))) else (bn (i3 + 1) fun x22 => some (.inl (x22, m4))))))))) else (some (.inr m4))))))
def l_X7_settleWords_19 (i1 : Int32) (n : Nat) (i3 : Int32) (m4 : Mem) : Option (Mem) := zlp n (fun a => t_X7_settleWords_19 i1 a.1 a.2) (i3, m4)
def t_X7_settleWords_2  (i1 : Int32) (m2 : Mem) : Option ((Int32 × Mem) ⊕ (Mem)) :=
  (if (m2 0 21) ≤ i1 then (some (.inr m2)) else ((if (m2 0 42) = 0 then (((l_X7_settleWords_19 i1 FU 0 m2).bind fun m40 => bn (i1 + 1) fun x41 => some (.inl (x41, m40)))) else (some (.inr m2)))))
def l_X7_settleWords_2  (n : Nat) (i1 : Int32) (m2 : Mem) : Option (Mem) := zlp n (fun a => t_X7_settleWords_2  a.1 a.2) (i1, m2)
def t_X7_settleWords_146 (i47 : Int32) (i49 : Int32) (m50 : Mem) : Option ((Int32 × Mem) ⊕ (Mem)) :=
  ck (zin i47 6 = true) ((if (m50 21 (Int32.toNatClampNeg i47)) ≤ i49 then (some (.inr m50)) else ((if (m50 0 42) = 0 then (bn (((6 : Int32) * i47) + i49) fun x52 => ck (zin x52 36 = true) ((if (m50 23 (Int32.toNatClampNeg x52)) = 2 then (ck (zin x52 36 = true) ((if (m50 24 (Int32.toNatClampNeg x52)) = i47 then (ck (zin x52 36 = true) ((s_X7_fails m50 7 (m50 26 (Int32.toNatClampNeg x52))).bind fun m58 => bn (i49 + 1) fun x59 => some (.inl (x59, m58)))) else (ck (zin x52 36 = true) (ck (zin (((6 : Int32) * (m50 24 (Int32.toNatClampNeg x52))) + i47) 36 = true) ((if (m50 36 (Int32.toNatClampNeg (((6 : Int32) * (m50 24 (Int32.toNatClampNeg x52))) + i47))) = 0 then (bn (i49 + 1) fun x62 => some (.inl (x62, m50))) else (ck (zin x52 36 = true) ((s_X7_fails m50 7 (m50 26 (Int32.toNatClampNeg x52))).bind fun m65 => bn (i49 + 1) fun x66 => some (.inl (x66, m65))))))))))) else (bn (i49 + 1) fun x54 => some (.inl (x54, m50)))))) else (some (.inr m50))))))
def l_X7_settleWords_146 (i47 : Int32) (n : Nat) (i49 : Int32) (m50 : Mem) : Option (Mem) := zlp n (fun a => t_X7_settleWords_146 i47 a.1 a.2) (i49, m50)
def t_X7_settleWords_129  (i47 : Int32) (m48 : Mem) : Option ((Int32 × Mem) ⊕ (Mem)) :=
  (if (m48 0 21) ≤ i47 then (some (.inr m48)) else ((if (m48 0 42) = 0 then (((l_X7_settleWords_146 i47 FU 0 m48).bind fun m72 => bn (i47 + 1) fun x73 => some (.inl (x73, m72)))) else (some (.inr m48)))))
def l_X7_settleWords_129  (n : Nat) (i47 : Int32) (m48 : Mem) : Option (Mem) := zlp n (fun a => t_X7_settleWords_129  a.1 a.2) (i47, m48)
def s_X7_settleWords (m : Mem)  : Option (Mem) :=
  ((l_X7_settleWords_2  FU 0 m).bind fun m44 => (if (m44 0 42) ≤ 0 then ((s_X7_findLeads m44 1).bind fun m46 => ((l_X7_settleWords_129  FU 0 m46).bind fun m76 => some m76)) else (some m44)))
set_option maxRecDepth 100000 in
set_option maxHeartbeats 4000000 in
theorem w_X7_settleWords_19 {K : ZK} (C : zOK MM K cX7_settleWords 5 none RX7 wsX7_settleWords rmX7_settleWords) {i1 : Int32}  {o0 : Mem} (hk : zGo MM K o0 [(0, .ref ((zw K).2.1 0)), (1, .int i1)] 108 []) : ∀ (n : Nat) (i3 : Int32) (m4 : Mem), l_X7_settleWords_19 i1 n i3 m4 = some o0 → zGo MM K m4 [(0, .ref ((zw K).2.1 0)), (1, .int i1), (2, .int i3)] 19 [] := by
  intro n
  induction n with
  | zero =>
    intro i3 m4 hf
    cases hf
  | succ n ih =>
    intro i3 m4 hf
    obtain ⟨z, hf, hz⟩ := zlp_el hf
    replace hf : t_X7_settleWords_19 i1 i3 m4 = some z := hf
    unfold t_X7_settleWords_19 at hf
    refine z_iload_n C 2 dX7_settleWords_19 rfl rfl ?_
    refine z_aload_n C 0 dX7_settleWords_20 rfl rfl ?_
    refine z_getr C (t := 21) (Nat.le_of_ble_eq_true rfl) rfl rfl 24 (Nat.le_of_ble_eq_true rfl) rfl kiX7_settleWords_X7 kfX7_settleWords_71 dX7_settleWords_21 ?_
    refine z_iload_n C 1 dX7_settleWords_24 rfl rfl ?_
    obtain ⟨hi5, hf⟩ := ck_el hf
    refine z_iald C (k := 21) (Nat.le_of_ble_eq_true rfl) rfl hi5 dX7_settleWords_25 ?_
    refine z_icmp_ge (tgt := 108) C dX7_settleWords_26 (by decide) (fun c39 => ?_) (fun c39 => ?_)
    · replace hf := if_t c39 hf
      cases hf
      replace hz := zlz_r hz
      cases hz
      exact z_sub [0, 1] rfl hk
    · replace hf := if_f c39 hf
      refine z_aload_n C 0 dX7_settleWords_29 rfl rfl ?_
      refine z_geti C (Nat.le_of_ble_eq_true rfl) rfl rfl 42 (Nat.le_of_ble_eq_true rfl) rfl kiX7_settleWords_X7 kfX7_settleWords_177 dX7_settleWords_30 ?_
      refine z_if_ne (tgt := 108) C dX7_settleWords_33 (by decide) (fun c38 => ?_) (fun c38 => ?_)
      · replace hf := if_f c38 hf
        cases hf
        replace hz := zlz_r hz
        cases hz
        exact z_sub [0, 1] rfl hk
      · replace hf := if_t c38 hf
        refine z_bipush C (v := 6) dX7_settleWords_36 rfl ?_
        refine z_iload_n C 1 dX7_settleWords_38 rfl rfl ?_
        refine z_imul C dX7_settleWords_39 ?_
        refine z_iload_n C 2 dX7_settleWords_40 rfl rfl ?_
        refine z_iadd C dX7_settleWords_41 ?_
        refine z_topi (fun x6 e_x6 => ?_)
        replace hf := bn_to e_x6 hf
        refine z_istore_n C (lv2 := [(0, .ref ((zw K).2.1 0)), (1, .int i1), (2, .int i3), (3, .int x6)]) [1, 2, 3, 0] dX7_settleWords_42 rfl (Nat.le_of_ble_eq_true rfl) rfl ?_
        refine z_aload_n C 0 dX7_settleWords_43 rfl rfl ?_
        refine z_getr C (t := 23) (Nat.le_of_ble_eq_true rfl) rfl rfl 26 (Nat.le_of_ble_eq_true rfl) rfl kiX7_settleWords_X7 kfX7_settleWords_77 dX7_settleWords_44 ?_
        refine z_iload_n C 3 dX7_settleWords_47 rfl rfl ?_
        obtain ⟨hi7, hf⟩ := ck_el hf
        refine z_iald C (k := 23) (Nat.le_of_ble_eq_true rfl) rfl hi7 dX7_settleWords_48 ?_
        refine z_iconst C (v := 1) dX7_settleWords_49 rfl ?_
        refine z_icmp_eq (tgt := 63) C dX7_settleWords_50 (by decide) (fun c37 => ?_) (fun c37 => ?_)
        · replace hf := if_t c37 hf
          refine z_aload_n C 0 dX7_settleWords_63 rfl rfl ?_
          refine z_aload_n C 0 dX7_settleWords_64 rfl rfl ?_
          refine z_getr C (t := 24) (Nat.le_of_ble_eq_true rfl) rfl rfl 27 (Nat.le_of_ble_eq_true rfl) rfl kiX7_settleWords_X7 kfX7_settleWords_80 dX7_settleWords_65 ?_
          refine z_iload_n C 3 dX7_settleWords_68 rfl rfl ?_
          obtain ⟨hi8, hf⟩ := ck_el hf
          refine z_iald C (k := 24) (Nat.le_of_ble_eq_true rfl) rfl hi8 dX7_settleWords_69 ?_
          obtain ⟨r10, hc9, hf⟩ := zb_el hf
          refine z_cVi C (c_X7_wordAt _ _ hc9) rfl gX7_settleWords_X7_wordAt rfl rfl zdX7_wordAt rfl (Nat.le_of_ble_eq_true rfl) rfl rfl rfl ⟨Nat.le_of_ble_eq_true rfl, Nat.le_of_ble_eq_true rfl⟩ (Nat.le_of_ble_eq_true rfl) dX7_settleWords_70 rfl ?_
          refine z_istore C (lv2 := [(0, .ref ((zw K).2.1 0)), (1, .int i1), (2, .int i3), (3, .int x6), (4, .int r10)]) [1, 2, 3, 4, 0] dX7_settleWords_73 (Nat.le_of_ble_eq_true rfl) rfl ?_
          refine z_iload C 4 dX7_settleWords_75 rfl ?_
          refine z_bipush C (v := (-4)) dX7_settleWords_77 (by decide) ?_
          refine z_icmp_ne (tgt := 94) C dX7_settleWords_79 (by decide) (fun c20 => ?_) (fun c20 => ?_)
          · replace hf := if_f c20 hf
            refine z_aload_n C 0 dX7_settleWords_94 rfl rfl ?_
            refine z_getr C (t := 24) (Nat.le_of_ble_eq_true rfl) rfl rfl 27 (Nat.le_of_ble_eq_true rfl) rfl kiX7_settleWords_X7 kfX7_settleWords_80 dX7_settleWords_95 ?_
            refine z_iload_n C 3 dX7_settleWords_98 rfl rfl ?_
            refine z_iload C 4 dX7_settleWords_99 rfl ?_
            obtain ⟨hi11, hf⟩ := ck_el hf
            refine z_iast C (k := 24) (Nat.le_of_ble_eq_true rfl) rfl hi11 dX7_settleWords_101 ?_
            refine z_nm (fun m12 e_m12 => ?_)
            replace hf := bn_to e_m12 hf
            obtain ⟨x13, e_x13⟩ : ∃ y : Int32, y = i3 + 1 := ⟨_, rfl⟩
            replace hf := bn_to e_x13 hf
            refine z_iinc C (lv2 := [(0, .ref ((zw K).2.1 0)), (1, .int i1), (2, .int x13), (3, .int x6), (4, .int r10)]) 2 [1, 2, 0, 3, 4] dX7_settleWords_102 rfl rfl (Nat.le_of_ble_eq_true rfl) e_x13 rfl ?_
            refine z_goto (tgt := 19) C dX7_settleWords_105 (by decide) ?_
            cases hf
            exact z_sub [0, 1, 2] rfl (ih x13 m12 hz)
          · replace hf := if_t c20 hf
            refine z_aload_n C 0 dX7_settleWords_82 rfl rfl ?_
            refine z_bipush C (v := 6) dX7_settleWords_83 rfl ?_
            refine z_aload_n C 0 dX7_settleWords_85 rfl rfl ?_
            refine z_getr C (t := 26) (Nat.le_of_ble_eq_true rfl) rfl rfl 29 (Nat.le_of_ble_eq_true rfl) rfl kiX7_settleWords_X7 kfX7_settleWords_86 dX7_settleWords_86 ?_
            refine z_iload_n C 3 dX7_settleWords_89 rfl rfl ?_
            obtain ⟨hi14, hf⟩ := ck_el hf
            refine z_iald C (k := 26) (Nat.le_of_ble_eq_true rfl) rfl hi14 dX7_settleWords_90 ?_
            obtain ⟨m16, hc15, hf⟩ := zb_el hf
            refine z_cVv C (c_X7_fails _ _ hc15) rfl gX7_settleWords_X7_fails rfl rfl zdX7_fails rfl (Nat.le_of_ble_eq_true rfl) rfl rfl rfl ⟨Nat.le_of_ble_eq_true rfl, Nat.le_of_ble_eq_true rfl⟩ (Nat.le_of_ble_eq_true rfl) dX7_settleWords_91 rfl ?_
            refine z_aload_n C 0 dX7_settleWords_94 rfl rfl ?_
            refine z_getr C (t := 24) (Nat.le_of_ble_eq_true rfl) rfl rfl 27 (Nat.le_of_ble_eq_true rfl) rfl kiX7_settleWords_X7 kfX7_settleWords_80 dX7_settleWords_95 ?_
            refine z_iload_n C 3 dX7_settleWords_98 rfl rfl ?_
            refine z_iload C 4 dX7_settleWords_99 rfl ?_
            obtain ⟨hi17, hf⟩ := ck_el hf
            refine z_iast C (k := 24) (Nat.le_of_ble_eq_true rfl) rfl hi17 dX7_settleWords_101 ?_
            refine z_nm (fun m18 e_m18 => ?_)
            replace hf := bn_to e_m18 hf
            obtain ⟨x19, e_x19⟩ : ∃ y : Int32, y = i3 + 1 := ⟨_, rfl⟩
            replace hf := bn_to e_x19 hf
            refine z_iinc C (lv2 := [(0, .ref ((zw K).2.1 0)), (1, .int i1), (2, .int x19), (3, .int x6), (4, .int r10)]) 2 [1, 2, 0, 3, 4] dX7_settleWords_102 rfl rfl (Nat.le_of_ble_eq_true rfl) e_x19 rfl ?_
            refine z_goto (tgt := 19) C dX7_settleWords_105 (by decide) ?_
            cases hf
            exact z_sub [0, 1, 2] rfl (ih x19 m18 hz)
        · replace hf := if_f c37 hf
          refine z_aload_n C 0 dX7_settleWords_53 rfl rfl ?_
          refine z_getr C (t := 23) (Nat.le_of_ble_eq_true rfl) rfl rfl 26 (Nat.le_of_ble_eq_true rfl) rfl kiX7_settleWords_X7 kfX7_settleWords_77 dX7_settleWords_54 ?_
          refine z_iload_n C 3 dX7_settleWords_57 rfl rfl ?_
          obtain ⟨hi21, hf⟩ := ck_el hf
          refine z_iald C (k := 23) (Nat.le_of_ble_eq_true rfl) rfl hi21 dX7_settleWords_58 ?_
          refine z_iconst C (v := 2) dX7_settleWords_59 rfl ?_
          refine z_icmp_ne (tgt := 102) C dX7_settleWords_60 (by decide) (fun c36 => ?_) (fun c36 => ?_)
          · replace hf := if_f c36 hf
            obtain ⟨x22, e_x22⟩ : ∃ y : Int32, y = i3 + 1 := ⟨_, rfl⟩
            replace hf := bn_to e_x22 hf
            refine z_iinc C (lv2 := [(0, .ref ((zw K).2.1 0)), (1, .int i1), (2, .int x22), (3, .int x6)]) 2 [1, 2, 0, 3] dX7_settleWords_102 rfl rfl (Nat.le_of_ble_eq_true rfl) e_x22 rfl ?_
            refine z_goto (tgt := 19) C dX7_settleWords_105 (by decide) ?_
            cases hf
            exact z_sub [0, 1, 2] rfl (ih x22 m4 hz)
          · replace hf := if_t c36 hf
            refine z_aload_n C 0 dX7_settleWords_63 rfl rfl ?_
            refine z_aload_n C 0 dX7_settleWords_64 rfl rfl ?_
            refine z_getr C (t := 24) (Nat.le_of_ble_eq_true rfl) rfl rfl 27 (Nat.le_of_ble_eq_true rfl) rfl kiX7_settleWords_X7 kfX7_settleWords_80 dX7_settleWords_65 ?_
            refine z_iload_n C 3 dX7_settleWords_68 rfl rfl ?_
            obtain ⟨hi23, hf⟩ := ck_el hf
            refine z_iald C (k := 24) (Nat.le_of_ble_eq_true rfl) rfl hi23 dX7_settleWords_69 ?_
            obtain ⟨r25, hc24, hf⟩ := zb_el hf
            refine z_cVi C (c_X7_wordAt _ _ hc24) rfl gX7_settleWords_X7_wordAt rfl rfl zdX7_wordAt rfl (Nat.le_of_ble_eq_true rfl) rfl rfl rfl ⟨Nat.le_of_ble_eq_true rfl, Nat.le_of_ble_eq_true rfl⟩ (Nat.le_of_ble_eq_true rfl) dX7_settleWords_70 rfl ?_
            refine z_istore C (lv2 := [(0, .ref ((zw K).2.1 0)), (1, .int i1), (2, .int i3), (3, .int x6), (4, .int r25)]) [1, 2, 3, 4, 0] dX7_settleWords_73 (Nat.le_of_ble_eq_true rfl) rfl ?_
            refine z_iload C 4 dX7_settleWords_75 rfl ?_
            refine z_bipush C (v := (-4)) dX7_settleWords_77 (by decide) ?_
            refine z_icmp_ne (tgt := 94) C dX7_settleWords_79 (by decide) (fun c35 => ?_) (fun c35 => ?_)
            · replace hf := if_f c35 hf
              refine z_aload_n C 0 dX7_settleWords_94 rfl rfl ?_
              refine z_getr C (t := 24) (Nat.le_of_ble_eq_true rfl) rfl rfl 27 (Nat.le_of_ble_eq_true rfl) rfl kiX7_settleWords_X7 kfX7_settleWords_80 dX7_settleWords_95 ?_
              refine z_iload_n C 3 dX7_settleWords_98 rfl rfl ?_
              refine z_iload C 4 dX7_settleWords_99 rfl ?_
              obtain ⟨hi26, hf⟩ := ck_el hf
              refine z_iast C (k := 24) (Nat.le_of_ble_eq_true rfl) rfl hi26 dX7_settleWords_101 ?_
              refine z_nm (fun m27 e_m27 => ?_)
              replace hf := bn_to e_m27 hf
              obtain ⟨x28, e_x28⟩ : ∃ y : Int32, y = i3 + 1 := ⟨_, rfl⟩
              replace hf := bn_to e_x28 hf
              refine z_iinc C (lv2 := [(0, .ref ((zw K).2.1 0)), (1, .int i1), (2, .int x28), (3, .int x6), (4, .int r25)]) 2 [1, 2, 0, 3, 4] dX7_settleWords_102 rfl rfl (Nat.le_of_ble_eq_true rfl) e_x28 rfl ?_
              refine z_goto (tgt := 19) C dX7_settleWords_105 (by decide) ?_
              cases hf
              exact z_sub [0, 1, 2] rfl (ih x28 m27 hz)
            · replace hf := if_t c35 hf
              refine z_aload_n C 0 dX7_settleWords_82 rfl rfl ?_
              refine z_bipush C (v := 6) dX7_settleWords_83 rfl ?_
              refine z_aload_n C 0 dX7_settleWords_85 rfl rfl ?_
              refine z_getr C (t := 26) (Nat.le_of_ble_eq_true rfl) rfl rfl 29 (Nat.le_of_ble_eq_true rfl) rfl kiX7_settleWords_X7 kfX7_settleWords_86 dX7_settleWords_86 ?_
              refine z_iload_n C 3 dX7_settleWords_89 rfl rfl ?_
              obtain ⟨hi29, hf⟩ := ck_el hf
              refine z_iald C (k := 26) (Nat.le_of_ble_eq_true rfl) rfl hi29 dX7_settleWords_90 ?_
              obtain ⟨m31, hc30, hf⟩ := zb_el hf
              refine z_cVv C (c_X7_fails _ _ hc30) rfl gX7_settleWords_X7_fails rfl rfl zdX7_fails rfl (Nat.le_of_ble_eq_true rfl) rfl rfl rfl ⟨Nat.le_of_ble_eq_true rfl, Nat.le_of_ble_eq_true rfl⟩ (Nat.le_of_ble_eq_true rfl) dX7_settleWords_91 rfl ?_
              refine z_aload_n C 0 dX7_settleWords_94 rfl rfl ?_
              refine z_getr C (t := 24) (Nat.le_of_ble_eq_true rfl) rfl rfl 27 (Nat.le_of_ble_eq_true rfl) rfl kiX7_settleWords_X7 kfX7_settleWords_80 dX7_settleWords_95 ?_
              refine z_iload_n C 3 dX7_settleWords_98 rfl rfl ?_
              refine z_iload C 4 dX7_settleWords_99 rfl ?_
              obtain ⟨hi32, hf⟩ := ck_el hf
              refine z_iast C (k := 24) (Nat.le_of_ble_eq_true rfl) rfl hi32 dX7_settleWords_101 ?_
              refine z_nm (fun m33 e_m33 => ?_)
              replace hf := bn_to e_m33 hf
              obtain ⟨x34, e_x34⟩ : ∃ y : Int32, y = i3 + 1 := ⟨_, rfl⟩
              replace hf := bn_to e_x34 hf
              refine z_iinc C (lv2 := [(0, .ref ((zw K).2.1 0)), (1, .int i1), (2, .int x34), (3, .int x6), (4, .int r25)]) 2 [1, 2, 0, 3, 4] dX7_settleWords_102 rfl rfl (Nat.le_of_ble_eq_true rfl) e_x34 rfl ?_
              refine z_goto (tgt := 19) C dX7_settleWords_105 (by decide) ?_
              cases hf
              exact z_sub [0, 1, 2] rfl (ih x34 m33 hz)
set_option maxRecDepth 100000 in
set_option maxHeartbeats 4000000 in
theorem w_X7_settleWords_2 {K : ZK} (C : zOK MM K cX7_settleWords 5 none RX7 wsX7_settleWords rmX7_settleWords)   {o0 : Mem} (hk : zGo MM K o0 [(0, .ref ((zw K).2.1 0))] 114 []) : ∀ (n : Nat) (i1 : Int32) (m2 : Mem), l_X7_settleWords_2  n i1 m2 = some o0 → zGo MM K m2 [(0, .ref ((zw K).2.1 0)), (1, .int i1)] 2 [] := by
  intro n
  induction n with
  | zero =>
    intro i1 m2 hf
    cases hf
  | succ n ih =>
    intro i1 m2 hf
    obtain ⟨z, hf, hz⟩ := zlp_el hf
    replace hf : t_X7_settleWords_2  i1 m2 = some z := hf
    unfold t_X7_settleWords_2 at hf
    refine z_iload_n C 1 dX7_settleWords_2 rfl rfl ?_
    refine z_aload_n C 0 dX7_settleWords_3 rfl rfl ?_
    refine z_geti C (Nat.le_of_ble_eq_true rfl) rfl rfl 21 (Nat.le_of_ble_eq_true rfl) rfl kiX7_settleWords_X7 kfX7_settleWords_234 dX7_settleWords_4 ?_
    refine z_icmp_ge (tgt := 114) C dX7_settleWords_7 (by decide) (fun c43 => ?_) (fun c43 => ?_)
    · replace hf := if_t c43 hf
      cases hf
      replace hz := zlz_r hz
      cases hz
      exact z_sub [0] rfl hk
    · replace hf := if_f c43 hf
      refine z_aload_n C 0 dX7_settleWords_10 rfl rfl ?_
      refine z_geti C (Nat.le_of_ble_eq_true rfl) rfl rfl 42 (Nat.le_of_ble_eq_true rfl) rfl kiX7_settleWords_X7 kfX7_settleWords_177 dX7_settleWords_11 ?_
      refine z_if_ne (tgt := 114) C dX7_settleWords_14 (by decide) (fun c42 => ?_) (fun c42 => ?_)
      · replace hf := if_f c42 hf
        cases hf
        replace hz := zlz_r hz
        cases hz
        exact z_sub [0] rfl hk
      · replace hf := if_t c42 hf
        refine z_iconst C (v := 0) dX7_settleWords_17 rfl ?_
        refine z_istore_n C (lv2 := [(0, .ref ((zw K).2.1 0)), (1, .int i1), (2, .int 0)]) [1, 2, 0] dX7_settleWords_18 rfl (Nat.le_of_ble_eq_true rfl) rfl ?_
        obtain ⟨m40, hg, hf⟩ := zb_el hf
        refine z_sub [0, 1, 2] rfl (w_X7_settleWords_19 C  ?_ _ _ _ hg)
        clear hg
        obtain ⟨x41, e_x41⟩ : ∃ y : Int32, y = i1 + 1 := ⟨_, rfl⟩
        replace hf := bn_to e_x41 hf
        refine z_iinc C (lv2 := [(0, .ref ((zw K).2.1 0)), (1, .int x41)]) 1 [1, 0] dX7_settleWords_108 rfl rfl (Nat.le_of_ble_eq_true rfl) e_x41 rfl ?_
        refine z_goto (tgt := 2) C dX7_settleWords_111 (by decide) ?_
        cases hf
        exact z_sub [0, 1] rfl (ih x41 m40 hz)
set_option maxRecDepth 100000 in
set_option maxHeartbeats 4000000 in
theorem w_X7_settleWords_146 {K : ZK} (C : zOK MM K cX7_settleWords 5 none RX7 wsX7_settleWords rmX7_settleWords) {i47 : Int32}  {o0 : Mem} (hk : zGo MM K o0 [(0, .ref ((zw K).2.1 0)), (1, .int i47)] 227 []) : ∀ (n : Nat) (i49 : Int32) (m50 : Mem), l_X7_settleWords_146 i47 n i49 m50 = some o0 → zGo MM K m50 [(0, .ref ((zw K).2.1 0)), (1, .int i47), (2, .int i49)] 146 [] := by
  intro n
  induction n with
  | zero =>
    intro i49 m50 hf
    cases hf
  | succ n ih =>
    intro i49 m50 hf
    obtain ⟨z, hf, hz⟩ := zlp_el hf
    replace hf : t_X7_settleWords_146 i47 i49 m50 = some z := hf
    unfold t_X7_settleWords_146 at hf
    refine z_iload_n C 2 dX7_settleWords_146 rfl rfl ?_
    refine z_aload_n C 0 dX7_settleWords_147 rfl rfl ?_
    refine z_getr C (t := 21) (Nat.le_of_ble_eq_true rfl) rfl rfl 24 (Nat.le_of_ble_eq_true rfl) rfl kiX7_settleWords_X7 kfX7_settleWords_71 dX7_settleWords_148 ?_
    refine z_iload_n C 1 dX7_settleWords_151 rfl rfl ?_
    obtain ⟨hi51, hf⟩ := ck_el hf
    refine z_iald C (k := 21) (Nat.le_of_ble_eq_true rfl) rfl hi51 dX7_settleWords_152 ?_
    refine z_icmp_ge (tgt := 227) C dX7_settleWords_153 (by decide) (fun c71 => ?_) (fun c71 => ?_)
    · replace hf := if_t c71 hf
      cases hf
      replace hz := zlz_r hz
      cases hz
      exact z_sub [0, 1] rfl hk
    · replace hf := if_f c71 hf
      refine z_aload_n C 0 dX7_settleWords_156 rfl rfl ?_
      refine z_geti C (Nat.le_of_ble_eq_true rfl) rfl rfl 42 (Nat.le_of_ble_eq_true rfl) rfl kiX7_settleWords_X7 kfX7_settleWords_177 dX7_settleWords_157 ?_
      refine z_if_ne (tgt := 227) C dX7_settleWords_160 (by decide) (fun c70 => ?_) (fun c70 => ?_)
      · replace hf := if_f c70 hf
        cases hf
        replace hz := zlz_r hz
        cases hz
        exact z_sub [0, 1] rfl hk
      · replace hf := if_t c70 hf
        refine z_bipush C (v := 6) dX7_settleWords_163 rfl ?_
        refine z_iload_n C 1 dX7_settleWords_165 rfl rfl ?_
        refine z_imul C dX7_settleWords_166 ?_
        refine z_iload_n C 2 dX7_settleWords_167 rfl rfl ?_
        refine z_iadd C dX7_settleWords_168 ?_
        refine z_topi (fun x52 e_x52 => ?_)
        replace hf := bn_to e_x52 hf
        refine z_istore_n C (lv2 := [(0, .ref ((zw K).2.1 0)), (1, .int i47), (2, .int i49), (3, .int x52)]) [1, 2, 3, 0] dX7_settleWords_169 rfl (Nat.le_of_ble_eq_true rfl) rfl ?_
        refine z_aload_n C 0 dX7_settleWords_170 rfl rfl ?_
        refine z_getr C (t := 23) (Nat.le_of_ble_eq_true rfl) rfl rfl 26 (Nat.le_of_ble_eq_true rfl) rfl kiX7_settleWords_X7 kfX7_settleWords_77 dX7_settleWords_171 ?_
        refine z_iload_n C 3 dX7_settleWords_174 rfl rfl ?_
        obtain ⟨hi53, hf⟩ := ck_el hf
        refine z_iald C (k := 23) (Nat.le_of_ble_eq_true rfl) rfl hi53 dX7_settleWords_175 ?_
        refine z_iconst C (v := 2) dX7_settleWords_176 rfl ?_
        refine z_icmp_ne (tgt := 221) C dX7_settleWords_177 (by decide) (fun c69 => ?_) (fun c69 => ?_)
        · replace hf := if_f c69 hf
          obtain ⟨x54, e_x54⟩ : ∃ y : Int32, y = i49 + 1 := ⟨_, rfl⟩
          replace hf := bn_to e_x54 hf
          refine z_iinc C (lv2 := [(0, .ref ((zw K).2.1 0)), (1, .int i47), (2, .int x54), (3, .int x52)]) 2 [1, 2, 0, 3] dX7_settleWords_221 rfl rfl (Nat.le_of_ble_eq_true rfl) e_x54 rfl ?_
          refine z_goto (tgt := 146) C dX7_settleWords_224 (by decide) ?_
          cases hf
          exact z_sub [0, 1, 2] rfl (ih x54 m50 hz)
        · replace hf := if_t c69 hf
          refine z_aload_n C 0 dX7_settleWords_180 rfl rfl ?_
          refine z_getr C (t := 24) (Nat.le_of_ble_eq_true rfl) rfl rfl 27 (Nat.le_of_ble_eq_true rfl) rfl kiX7_settleWords_X7 kfX7_settleWords_80 dX7_settleWords_181 ?_
          refine z_iload_n C 3 dX7_settleWords_184 rfl rfl ?_
          obtain ⟨hi55, hf⟩ := ck_el hf
          refine z_iald C (k := 24) (Nat.le_of_ble_eq_true rfl) rfl hi55 dX7_settleWords_185 ?_
          refine z_iload_n C 1 dX7_settleWords_186 rfl rfl ?_
          refine z_icmp_eq (tgt := 209) C dX7_settleWords_187 (by decide) (fun c68 => ?_) (fun c68 => ?_)
          · replace hf := if_t c68 hf
            refine z_aload_n C 0 dX7_settleWords_209 rfl rfl ?_
            refine z_bipush C (v := 7) dX7_settleWords_210 rfl ?_
            refine z_aload_n C 0 dX7_settleWords_212 rfl rfl ?_
            refine z_getr C (t := 26) (Nat.le_of_ble_eq_true rfl) rfl rfl 29 (Nat.le_of_ble_eq_true rfl) rfl kiX7_settleWords_X7 kfX7_settleWords_86 dX7_settleWords_213 ?_
            refine z_iload_n C 3 dX7_settleWords_216 rfl rfl ?_
            obtain ⟨hi56, hf⟩ := ck_el hf
            refine z_iald C (k := 26) (Nat.le_of_ble_eq_true rfl) rfl hi56 dX7_settleWords_217 ?_
            obtain ⟨m58, hc57, hf⟩ := zb_el hf
            refine z_cVv C (c_X7_fails _ _ hc57) rfl gX7_settleWords_X7_fails rfl rfl zdX7_fails rfl (Nat.le_of_ble_eq_true rfl) rfl rfl rfl ⟨Nat.le_of_ble_eq_true rfl, Nat.le_of_ble_eq_true rfl⟩ (Nat.le_of_ble_eq_true rfl) dX7_settleWords_218 rfl ?_
            obtain ⟨x59, e_x59⟩ : ∃ y : Int32, y = i49 + 1 := ⟨_, rfl⟩
            replace hf := bn_to e_x59 hf
            refine z_iinc C (lv2 := [(0, .ref ((zw K).2.1 0)), (1, .int i47), (2, .int x59), (3, .int x52)]) 2 [1, 2, 0, 3] dX7_settleWords_221 rfl rfl (Nat.le_of_ble_eq_true rfl) e_x59 rfl ?_
            refine z_goto (tgt := 146) C dX7_settleWords_224 (by decide) ?_
            cases hf
            exact z_sub [0, 1, 2] rfl (ih x59 m58 hz)
          · replace hf := if_f c68 hf
            refine z_aload_n C 0 dX7_settleWords_190 rfl rfl ?_
            refine z_getr C (t := 36) (Nat.le_of_ble_eq_true rfl) rfl rfl 47 (Nat.le_of_ble_eq_true rfl) rfl kiX7_settleWords_X7 kfX7_settleWords_116 dX7_settleWords_191 ?_
            refine z_bipush C (v := 6) dX7_settleWords_194 rfl ?_
            refine z_aload_n C 0 dX7_settleWords_196 rfl rfl ?_
            refine z_getr C (t := 24) (Nat.le_of_ble_eq_true rfl) rfl rfl 27 (Nat.le_of_ble_eq_true rfl) rfl kiX7_settleWords_X7 kfX7_settleWords_80 dX7_settleWords_197 ?_
            refine z_iload_n C 3 dX7_settleWords_200 rfl rfl ?_
            obtain ⟨hi60, hf⟩ := ck_el hf
            refine z_iald C (k := 24) (Nat.le_of_ble_eq_true rfl) rfl hi60 dX7_settleWords_201 ?_
            refine z_imul C dX7_settleWords_202 ?_
            refine z_iload_n C 1 dX7_settleWords_203 rfl rfl ?_
            refine z_iadd C dX7_settleWords_204 ?_
            obtain ⟨hi61, hf⟩ := ck_el hf
            refine z_zald C (k := 36) (Nat.le_of_ble_eq_true rfl) rfl hi61 dX7_settleWords_205 ?_
            refine z_if_eq (tgt := 221) C dX7_settleWords_206 (by decide) (fun c67 => ?_) (fun c67 => ?_)
            · replace hf := if_t c67 hf
              obtain ⟨x62, e_x62⟩ : ∃ y : Int32, y = i49 + 1 := ⟨_, rfl⟩
              replace hf := bn_to e_x62 hf
              refine z_iinc C (lv2 := [(0, .ref ((zw K).2.1 0)), (1, .int i47), (2, .int x62), (3, .int x52)]) 2 [1, 2, 0, 3] dX7_settleWords_221 rfl rfl (Nat.le_of_ble_eq_true rfl) e_x62 rfl ?_
              refine z_goto (tgt := 146) C dX7_settleWords_224 (by decide) ?_
              cases hf
              exact z_sub [0, 1, 2] rfl (ih x62 m50 hz)
            · replace hf := if_f c67 hf
              refine z_aload_n C 0 dX7_settleWords_209 rfl rfl ?_
              refine z_bipush C (v := 7) dX7_settleWords_210 rfl ?_
              refine z_aload_n C 0 dX7_settleWords_212 rfl rfl ?_
              refine z_getr C (t := 26) (Nat.le_of_ble_eq_true rfl) rfl rfl 29 (Nat.le_of_ble_eq_true rfl) rfl kiX7_settleWords_X7 kfX7_settleWords_86 dX7_settleWords_213 ?_
              refine z_iload_n C 3 dX7_settleWords_216 rfl rfl ?_
              obtain ⟨hi63, hf⟩ := ck_el hf
              refine z_iald C (k := 26) (Nat.le_of_ble_eq_true rfl) rfl hi63 dX7_settleWords_217 ?_
              obtain ⟨m65, hc64, hf⟩ := zb_el hf
              refine z_cVv C (c_X7_fails _ _ hc64) rfl gX7_settleWords_X7_fails rfl rfl zdX7_fails rfl (Nat.le_of_ble_eq_true rfl) rfl rfl rfl ⟨Nat.le_of_ble_eq_true rfl, Nat.le_of_ble_eq_true rfl⟩ (Nat.le_of_ble_eq_true rfl) dX7_settleWords_218 rfl ?_
              obtain ⟨x66, e_x66⟩ : ∃ y : Int32, y = i49 + 1 := ⟨_, rfl⟩
              replace hf := bn_to e_x66 hf
              refine z_iinc C (lv2 := [(0, .ref ((zw K).2.1 0)), (1, .int i47), (2, .int x66), (3, .int x52)]) 2 [1, 2, 0, 3] dX7_settleWords_221 rfl rfl (Nat.le_of_ble_eq_true rfl) e_x66 rfl ?_
              refine z_goto (tgt := 146) C dX7_settleWords_224 (by decide) ?_
              cases hf
              exact z_sub [0, 1, 2] rfl (ih x66 m65 hz)
set_option maxRecDepth 100000 in
set_option maxHeartbeats 4000000 in
theorem w_X7_settleWords_129 {K : ZK} (C : zOK MM K cX7_settleWords 5 none RX7 wsX7_settleWords rmX7_settleWords)   {o0 : Mem} (hk : zGo MM K o0 [] 233 []) : ∀ (n : Nat) (i47 : Int32) (m48 : Mem), l_X7_settleWords_129  n i47 m48 = some o0 → zGo MM K m48 [(0, .ref ((zw K).2.1 0)), (1, .int i47)] 129 [] := by
  intro n
  induction n with
  | zero =>
    intro i47 m48 hf
    cases hf
  | succ n ih =>
    intro i47 m48 hf
    obtain ⟨z, hf, hz⟩ := zlp_el hf
    replace hf : t_X7_settleWords_129  i47 m48 = some z := hf
    unfold t_X7_settleWords_129 at hf
    refine z_iload_n C 1 dX7_settleWords_129 rfl rfl ?_
    refine z_aload_n C 0 dX7_settleWords_130 rfl rfl ?_
    refine z_geti C (Nat.le_of_ble_eq_true rfl) rfl rfl 21 (Nat.le_of_ble_eq_true rfl) rfl kiX7_settleWords_X7 kfX7_settleWords_234 dX7_settleWords_131 ?_
    refine z_icmp_ge (tgt := 233) C dX7_settleWords_134 (by decide) (fun c75 => ?_) (fun c75 => ?_)
    · replace hf := if_t c75 hf
      cases hf
      replace hz := zlz_r hz
      cases hz
      exact z_sub [] rfl hk
    · replace hf := if_f c75 hf
      refine z_aload_n C 0 dX7_settleWords_137 rfl rfl ?_
      refine z_geti C (Nat.le_of_ble_eq_true rfl) rfl rfl 42 (Nat.le_of_ble_eq_true rfl) rfl kiX7_settleWords_X7 kfX7_settleWords_177 dX7_settleWords_138 ?_
      refine z_if_ne (tgt := 233) C dX7_settleWords_141 (by decide) (fun c74 => ?_) (fun c74 => ?_)
      · replace hf := if_f c74 hf
        cases hf
        replace hz := zlz_r hz
        cases hz
        exact z_sub [] rfl hk
      · replace hf := if_t c74 hf
        refine z_iconst C (v := 0) dX7_settleWords_144 rfl ?_
        refine z_istore_n C (lv2 := [(0, .ref ((zw K).2.1 0)), (1, .int i47), (2, .int 0)]) [1, 2, 0] dX7_settleWords_145 rfl (Nat.le_of_ble_eq_true rfl) rfl ?_
        obtain ⟨m72, hg, hf⟩ := zb_el hf
        refine z_sub [0, 1, 2] rfl (w_X7_settleWords_146 C  ?_ _ _ _ hg)
        clear hg
        obtain ⟨x73, e_x73⟩ : ∃ y : Int32, y = i47 + 1 := ⟨_, rfl⟩
        replace hf := bn_to e_x73 hf
        refine z_iinc C (lv2 := [(0, .ref ((zw K).2.1 0)), (1, .int x73)]) 1 [1, 0] dX7_settleWords_227 rfl rfl (Nat.le_of_ble_eq_true rfl) e_x73 rfl ?_
        refine z_goto (tgt := 129) C dX7_settleWords_230 (by decide) ?_
        cases hf
        exact z_sub [0, 1] rfl (ih x73 m72 hz)
set_option maxRecDepth 100000 in
set_option maxHeartbeats 4000000 in
theorem c_X7_settleWords (l : Launch) (w : ZW) {m : Mem}  {m9 : Mem}  (hf : s_X7_settleWords m  = some m9) : zCv MM l w yX7_settleWords wsX7_settleWords rmX7_settleWords [.ref (w.2.1 0)] m m9 := by
  refine z_met_v MM_ok (own := RX7) (by decide +kernel) rfl rfl (Nat.le_of_ble_eq_true rfl) ?_
  intro K C hKw hKl hret
  subst hKw
  subst hKl
  unfold s_X7_settleWords at hf
  show zGo MM K m [(0, .ref ((zw K).2.1 0))] 0 []
  refine z_iconst C (v := 0) dX7_settleWords_0 rfl ?_
  refine z_istore_n C (lv2 := [(0, .ref ((zw K).2.1 0)), (1, .int 0)]) [1, 0] dX7_settleWords_1 rfl (Nat.le_of_ble_eq_true rfl) rfl ?_
  obtain ⟨m44, hg, hf⟩ := zb_el hf
  refine z_sub [0, 1] rfl (w_X7_settleWords_2 C  ?_ _ _ _ hg)
  clear hg
  refine z_aload_n C 0 dX7_settleWords_114 rfl rfl ?_
  refine z_geti C (Nat.le_of_ble_eq_true rfl) rfl rfl 42 (Nat.le_of_ble_eq_true rfl) rfl kiX7_settleWords_X7 kfX7_settleWords_177 dX7_settleWords_115 ?_
  refine z_if_le (tgt := 122) C dX7_settleWords_118 (by decide) (fun c77 => ?_) (fun c77 => ?_)
  · replace hf := if_t c77 hf
    refine z_aload_n C 0 dX7_settleWords_122 rfl rfl ?_
    refine z_iconst C (v := 1) dX7_settleWords_123 rfl ?_
    obtain ⟨m46, hc45, hf⟩ := zb_el hf
    refine z_cVv C (c_X7_findLeads _ _ hc45) rfl gX7_settleWords_X7_findLeads rfl rfl zdX7_findLeads rfl (Nat.le_of_ble_eq_true rfl) rfl rfl rfl ⟨Nat.le_of_ble_eq_true rfl, Nat.le_of_ble_eq_true rfl⟩ (Nat.le_of_ble_eq_true rfl) dX7_settleWords_124 rfl ?_
    refine z_iconst C (v := 0) dX7_settleWords_127 rfl ?_
    refine z_istore_n C (lv2 := [(0, .ref ((zw K).2.1 0)), (1, .int 0)]) [1, 0] dX7_settleWords_128 rfl (Nat.le_of_ble_eq_true rfl) rfl ?_
    obtain ⟨m76, hg, hf⟩ := zb_el hf
    refine z_sub [0, 1] rfl (w_X7_settleWords_129 C  ?_ _ _ _ hg)
    clear hg
    have e1 := Option.some.inj hf
    subst e1
    exact hret _ _ dX7_settleWords_233
  · replace hf := if_f c77 hf
    have e1 := Option.some.inj hf
    subst e1
    exact hret _ _ dX7_settleWords_121
set_option maxRecDepth 20000 in
theorem ggX7_shapes_X7_next : GoodIn wsX7_shapes wsX7_next := goodIn_sub (List.forall_mem_cons.mpr ⟨(List.mem_of_getElem? (i := 39) rfl), (List.forall_mem_append.mpr ⟨(List.forall_mem_append.mpr ⟨(show ∀ w ∈ wsX7_next_r1, w ∈ wsX7_shapes from (List.forall_mem_cons.mpr ⟨(List.mem_of_getElem? (i := 2) rfl), (List.forall_mem_cons.mpr ⟨(List.mem_of_getElem? (i := 40) rfl), (List.forall_mem_cons.mpr ⟨(List.mem_of_getElem? (i := 4) rfl), (List.forall_mem_cons.mpr ⟨(List.mem_of_getElem? (i := 41) rfl), (List.forall_mem_cons.mpr ⟨(List.mem_of_getElem? (i := 42) rfl), (List.forall_mem_cons.mpr ⟨(List.mem_of_getElem? (i := 43) rfl), (List.forall_mem_cons.mpr ⟨(List.mem_of_getElem? (i := 44) rfl), (List.forall_mem_cons.mpr ⟨(List.mem_of_getElem? (i := 45) rfl), (List.forall_mem_cons.mpr ⟨(List.mem_of_getElem? (i := 46) rfl), (List.forall_mem_cons.mpr ⟨(List.mem_of_getElem? (i := 47) rfl), (List.forall_mem_cons.mpr ⟨(List.mem_of_getElem? (i := 48) rfl), (List.forall_mem_cons.mpr ⟨(List.mem_of_getElem? (i := 49) rfl), (List.forall_mem_cons.mpr ⟨(List.mem_of_getElem? (i := 50) rfl), (List.forall_mem_cons.mpr ⟨(List.mem_of_getElem? (i := 38) rfl), (List.forall_mem_cons.mpr ⟨(List.mem_of_getElem? (i := 51) rfl), (List.forall_mem_cons.mpr ⟨(List.mem_of_getElem? (i := 5) rfl), (List.forall_mem_cons.mpr ⟨(List.mem_of_getElem? (i := 52) rfl), (List.forall_mem_cons.mpr ⟨(List.mem_of_getElem? (i := 53) rfl), (List.forall_mem_cons.mpr ⟨(List.mem_of_getElem? (i := 54) rfl), (List.forall_mem_cons.mpr ⟨(List.mem_of_getElem? (i := 55) rfl), (List.forall_mem_cons.mpr ⟨(List.mem_of_getElem? (i := 56) rfl), (List.forall_mem_cons.mpr ⟨(List.mem_of_getElem? (i := 57) rfl), (List.forall_mem_cons.mpr ⟨(List.mem_of_getElem? (i := 58) rfl), (List.forall_mem_cons.mpr ⟨(List.mem_of_getElem? (i := 59) rfl), (fun _ h => absurd h List.not_mem_nil)⟩)⟩)⟩)⟩)⟩)⟩)⟩)⟩)⟩)⟩)⟩)⟩)⟩)⟩)⟩)⟩)⟩)⟩)⟩)⟩)⟩)⟩)⟩)⟩)), (show ∀ w ∈ wsX7_next_r2, w ∈ wsX7_shapes from (List.forall_mem_cons.mpr ⟨(List.mem_of_getElem? (i := 1) rfl), (List.forall_mem_cons.mpr ⟨(List.mem_of_getElem? (i := 6) rfl), (List.forall_mem_cons.mpr ⟨(List.mem_of_getElem? (i := 60) rfl), (List.forall_mem_cons.mpr ⟨(List.mem_of_getElem? (i := 61) rfl), (List.forall_mem_cons.mpr ⟨(List.mem_of_getElem? (i := 62) rfl), (List.forall_mem_cons.mpr ⟨(List.mem_of_getElem? (i := 63) rfl), (List.forall_mem_cons.mpr ⟨(List.mem_of_getElem? (i := 64) rfl), (List.forall_mem_cons.mpr ⟨(List.mem_of_getElem? (i := 65) rfl), (List.forall_mem_cons.mpr ⟨(List.mem_of_getElem? (i := 66) rfl), (fun _ h => absurd h List.not_mem_nil)⟩)⟩)⟩)⟩)⟩)⟩)⟩)⟩)⟩))⟩), (fun _ h => (List.mem_cons_of_mem _ (List.mem_append_right _ h)))⟩)⟩) (by decide +kernel)
set_option maxRecDepth 20000 in
theorem gX7_shapes_X7_next : GoodIn wsX7_shapes (wsV RX7 225 RX7 yX7_next wsX7_next) := goodIn_app (goodIn_sub (List.forall_mem_cons.mpr ⟨(List.mem_of_getElem? (i := 35) rfl), (List.forall_mem_cons.mpr ⟨(List.mem_of_getElem? (i := 36) rfl), (List.forall_mem_cons.mpr ⟨(List.mem_of_getElem? (i := 37) rfl), (List.forall_mem_cons.mpr ⟨(List.mem_of_getElem? (i := 38) rfl), (fun _ h => absurd h List.not_mem_nil)⟩)⟩)⟩)⟩) (by decide +kernel)) ggX7_shapes_X7_next
set_option maxRecDepth 20000 in
theorem ggX7_shapes_X7_readShape : GoodIn wsX7_shapes wsX7_readShape := goodIn_sub (List.forall_mem_cons.mpr ⟨(List.mem_of_getElem? (i := 70) rfl), (List.forall_mem_append.mpr ⟨(List.forall_mem_append.mpr ⟨(show ∀ w ∈ wsX7_readShape_r1, w ∈ wsX7_shapes from (List.forall_mem_cons.mpr ⟨(List.mem_of_getElem? (i := 1) rfl), (List.forall_mem_cons.mpr ⟨(List.mem_of_getElem? (i := 4) rfl), (List.forall_mem_cons.mpr ⟨(List.mem_of_getElem? (i := 40) rfl), (List.forall_mem_cons.mpr ⟨(List.mem_of_getElem? (i := 3) rfl), (List.forall_mem_cons.mpr ⟨(List.mem_of_getElem? (i := 9) rfl), (List.forall_mem_cons.mpr ⟨(List.mem_of_getElem? (i := 43) rfl), (List.forall_mem_cons.mpr ⟨(List.mem_of_getElem? (i := 15) rfl), (List.forall_mem_cons.mpr ⟨(List.mem_of_getElem? (i := 13) rfl), (List.forall_mem_cons.mpr ⟨(List.mem_of_getElem? (i := 11) rfl), (List.forall_mem_cons.mpr ⟨(List.mem_of_getElem? (i := 56) rfl), (List.forall_mem_cons.mpr ⟨(List.mem_of_getElem? (i := 57) rfl), (List.forall_mem_cons.mpr ⟨(List.mem_of_getElem? (i := 58) rfl), (List.forall_mem_cons.mpr ⟨(List.mem_of_getElem? (i := 38) rfl), (List.forall_mem_cons.mpr ⟨(List.mem_of_getElem? (i := 59) rfl), (List.forall_mem_cons.mpr ⟨(List.mem_of_getElem? (i := 6) rfl), (List.forall_mem_cons.mpr ⟨(List.mem_of_getElem? (i := 71) rfl), (List.forall_mem_cons.mpr ⟨(List.mem_of_getElem? (i := 72) rfl), (List.forall_mem_cons.mpr ⟨(List.mem_of_getElem? (i := 73) rfl), (List.forall_mem_cons.mpr ⟨(List.mem_of_getElem? (i := 74) rfl), (List.forall_mem_cons.mpr ⟨(List.mem_of_getElem? (i := 75) rfl), (List.forall_mem_cons.mpr ⟨(List.mem_of_getElem? (i := 35) rfl), (List.forall_mem_cons.mpr ⟨(List.mem_of_getElem? (i := 36) rfl), (List.forall_mem_cons.mpr ⟨(List.mem_of_getElem? (i := 37) rfl), (List.forall_mem_cons.mpr ⟨(List.mem_of_getElem? (i := 39) rfl), (fun _ h => absurd h List.not_mem_nil)⟩)⟩)⟩)⟩)⟩)⟩)⟩)⟩)⟩)⟩)⟩)⟩)⟩)⟩)⟩)⟩)⟩)⟩)⟩)⟩)⟩)⟩)⟩)⟩)), (List.forall_mem_append.mpr ⟨(show ∀ w ∈ wsX7_readShape_r2, w ∈ wsX7_shapes from (List.forall_mem_cons.mpr ⟨(List.mem_of_getElem? (i := 2) rfl), (List.forall_mem_cons.mpr ⟨(List.mem_of_getElem? (i := 41) rfl), (List.forall_mem_cons.mpr ⟨(List.mem_of_getElem? (i := 42) rfl), (List.forall_mem_cons.mpr ⟨(List.mem_of_getElem? (i := 44) rfl), (List.forall_mem_cons.mpr ⟨(List.mem_of_getElem? (i := 45) rfl), (List.forall_mem_cons.mpr ⟨(List.mem_of_getElem? (i := 46) rfl), (List.forall_mem_cons.mpr ⟨(List.mem_of_getElem? (i := 47) rfl), (List.forall_mem_cons.mpr ⟨(List.mem_of_getElem? (i := 48) rfl), (List.forall_mem_cons.mpr ⟨(List.mem_of_getElem? (i := 49) rfl), (List.forall_mem_cons.mpr ⟨(List.mem_of_getElem? (i := 50) rfl), (List.forall_mem_cons.mpr ⟨(List.mem_of_getElem? (i := 51) rfl), (List.forall_mem_cons.mpr ⟨(List.mem_of_getElem? (i := 5) rfl), (List.forall_mem_cons.mpr ⟨(List.mem_of_getElem? (i := 52) rfl), (List.forall_mem_cons.mpr ⟨(List.mem_of_getElem? (i := 53) rfl), (List.forall_mem_cons.mpr ⟨(List.mem_of_getElem? (i := 54) rfl), (List.forall_mem_cons.mpr ⟨(List.mem_of_getElem? (i := 55) rfl), (List.forall_mem_cons.mpr ⟨(List.mem_of_getElem? (i := 60) rfl), (List.forall_mem_cons.mpr ⟨(List.mem_of_getElem? (i := 61) rfl), (List.forall_mem_cons.mpr ⟨(List.mem_of_getElem? (i := 62) rfl), (List.forall_mem_cons.mpr ⟨(List.mem_of_getElem? (i := 63) rfl), (List.forall_mem_cons.mpr ⟨(List.mem_of_getElem? (i := 64) rfl), (List.forall_mem_cons.mpr ⟨(List.mem_of_getElem? (i := 65) rfl), (List.forall_mem_cons.mpr ⟨(List.mem_of_getElem? (i := 66) rfl), (List.forall_mem_cons.mpr ⟨(List.mem_of_getElem? (i := 76) rfl), (fun _ h => absurd h List.not_mem_nil)⟩)⟩)⟩)⟩)⟩)⟩)⟩)⟩)⟩)⟩)⟩)⟩)⟩)⟩)⟩)⟩)⟩)⟩)⟩)⟩)⟩)⟩)⟩)⟩)), (List.forall_mem_append.mpr ⟨(show ∀ w ∈ wsX7_readShape_r3, w ∈ wsX7_shapes from (List.forall_mem_cons.mpr ⟨(List.mem_of_getElem? (i := 77) rfl), (List.forall_mem_cons.mpr ⟨(List.mem_of_getElem? (i := 78) rfl), (List.forall_mem_cons.mpr ⟨(List.mem_of_getElem? (i := 79) rfl), (List.forall_mem_cons.mpr ⟨(List.mem_of_getElem? (i := 80) rfl), (List.forall_mem_cons.mpr ⟨(List.mem_of_getElem? (i := 81) rfl), (List.forall_mem_cons.mpr ⟨(List.mem_of_getElem? (i := 82) rfl), (List.forall_mem_cons.mpr ⟨(List.mem_of_getElem? (i := 83) rfl), (List.forall_mem_cons.mpr ⟨(List.mem_of_getElem? (i := 84) rfl), (List.forall_mem_cons.mpr ⟨(List.mem_of_getElem? (i := 85) rfl), (List.forall_mem_cons.mpr ⟨(List.mem_of_getElem? (i := 86) rfl), (List.forall_mem_cons.mpr ⟨(List.mem_of_getElem? (i := 87) rfl), (List.forall_mem_cons.mpr ⟨(List.mem_of_getElem? (i := 88) rfl), (List.forall_mem_cons.mpr ⟨(List.mem_of_getElem? (i := 89) rfl), (List.forall_mem_cons.mpr ⟨(List.mem_of_getElem? (i := 27) rfl), (List.forall_mem_cons.mpr ⟨(List.mem_of_getElem? (i := 90) rfl), (List.forall_mem_cons.mpr ⟨(List.mem_of_getElem? (i := 91) rfl), (List.forall_mem_cons.mpr ⟨(List.mem_of_getElem? (i := 92) rfl), (List.forall_mem_cons.mpr ⟨(List.mem_of_getElem? (i := 93) rfl), (List.forall_mem_cons.mpr ⟨(List.mem_of_getElem? (i := 25) rfl), (List.forall_mem_cons.mpr ⟨(List.mem_of_getElem? (i := 29) rfl), (List.forall_mem_cons.mpr ⟨(List.mem_of_getElem? (i := 31) rfl), (List.forall_mem_cons.mpr ⟨(List.mem_of_getElem? (i := 33) rfl), (List.forall_mem_cons.mpr ⟨(List.mem_of_getElem? (i := 94) rfl), (List.forall_mem_cons.mpr ⟨(List.mem_of_getElem? (i := 95) rfl), (fun _ h => absurd h List.not_mem_nil)⟩)⟩)⟩)⟩)⟩)⟩)⟩)⟩)⟩)⟩)⟩)⟩)⟩)⟩)⟩)⟩)⟩)⟩)⟩)⟩)⟩)⟩)⟩)⟩)), (show ∀ w ∈ wsX7_readShape_r4, w ∈ wsX7_shapes from (List.forall_mem_cons.mpr ⟨(List.mem_of_getElem? (i := 96) rfl), (List.forall_mem_cons.mpr ⟨(List.mem_of_getElem? (i := 97) rfl), (List.forall_mem_cons.mpr ⟨(List.mem_of_getElem? (i := 98) rfl), (List.forall_mem_cons.mpr ⟨(List.mem_of_getElem? (i := 17) rfl), (List.forall_mem_cons.mpr ⟨(List.mem_of_getElem? (i := 21) rfl), (List.forall_mem_cons.mpr ⟨(List.mem_of_getElem? (i := 23) rfl), (List.forall_mem_cons.mpr ⟨(List.mem_of_getElem? (i := 99) rfl), (List.forall_mem_cons.mpr ⟨(List.mem_of_getElem? (i := 19) rfl), (List.forall_mem_cons.mpr ⟨(List.mem_of_getElem? (i := 100) rfl), (List.forall_mem_cons.mpr ⟨(List.mem_of_getElem? (i := 101) rfl), (List.forall_mem_cons.mpr ⟨(List.mem_of_getElem? (i := 102) rfl), (List.forall_mem_cons.mpr ⟨(List.mem_of_getElem? (i := 103) rfl), (List.forall_mem_cons.mpr ⟨(List.mem_of_getElem? (i := 104) rfl), (List.forall_mem_cons.mpr ⟨(List.mem_of_getElem? (i := 105) rfl), (List.forall_mem_cons.mpr ⟨(List.mem_of_getElem? (i := 106) rfl), (List.forall_mem_cons.mpr ⟨(List.mem_of_getElem? (i := 107) rfl), (List.forall_mem_cons.mpr ⟨(List.mem_of_getElem? (i := 108) rfl), (fun _ h => absurd h List.not_mem_nil)⟩)⟩)⟩)⟩)⟩)⟩)⟩)⟩)⟩)⟩)⟩)⟩)⟩)⟩)⟩)⟩)⟩))⟩)⟩)⟩), (fun _ h => (List.mem_cons_of_mem _ (List.mem_append_right _ h)))⟩)⟩) (by decide +kernel)
set_option maxRecDepth 20000 in
theorem gX7_shapes_X7_readShape : GoodIn wsX7_shapes (wsV RX7 268 RX7 yX7_readShape wsX7_readShape) := goodIn_app (goodIn_sub (List.forall_mem_cons.mpr ⟨(List.mem_of_getElem? (i := 67) rfl), (List.forall_mem_cons.mpr ⟨(List.mem_of_getElem? (i := 68) rfl), (List.forall_mem_cons.mpr ⟨(List.mem_of_getElem? (i := 69) rfl), (List.forall_mem_cons.mpr ⟨(List.mem_of_getElem? (i := 38) rfl), (fun _ h => absurd h List.not_mem_nil)⟩)⟩)⟩)⟩) (by decide +kernel)) ggX7_shapes_X7_readShape
set_option maxRecDepth 20000 in
theorem ggX7_shapes_X7_settleWords : GoodIn wsX7_shapes wsX7_settleWords := goodIn_sub (List.forall_mem_cons.mpr ⟨(List.mem_of_getElem? (i := 112) rfl), (List.forall_mem_append.mpr ⟨(List.forall_mem_append.mpr ⟨(show ∀ w ∈ wsX7_settleWords_r1, w ∈ wsX7_shapes from (List.forall_mem_cons.mpr ⟨(List.mem_of_getElem? (i := 3) rfl), (List.forall_mem_cons.mpr ⟨(List.mem_of_getElem? (i := 1) rfl), (List.forall_mem_cons.mpr ⟨(List.mem_of_getElem? (i := 13) rfl), (List.forall_mem_cons.mpr ⟨(List.mem_of_getElem? (i := 19) rfl), (List.forall_mem_cons.mpr ⟨(List.mem_of_getElem? (i := 21) rfl), (List.forall_mem_cons.mpr ⟨(List.mem_of_getElem? (i := 99) rfl), (List.forall_mem_cons.mpr ⟨(List.mem_of_getElem? (i := 113) rfl), (List.forall_mem_cons.mpr ⟨(List.mem_of_getElem? (i := 114) rfl), (List.forall_mem_cons.mpr ⟨(List.mem_of_getElem? (i := 115) rfl), (List.forall_mem_cons.mpr ⟨(List.mem_of_getElem? (i := 116) rfl), (List.forall_mem_cons.mpr ⟨(List.mem_of_getElem? (i := 38) rfl), (List.forall_mem_cons.mpr ⟨(List.mem_of_getElem? (i := 117) rfl), (List.forall_mem_cons.mpr ⟨(List.mem_of_getElem? (i := 9) rfl), (List.forall_mem_cons.mpr ⟨(List.mem_of_getElem? (i := 56) rfl), (List.forall_mem_cons.mpr ⟨(List.mem_of_getElem? (i := 57) rfl), (List.forall_mem_cons.mpr ⟨(List.mem_of_getElem? (i := 58) rfl), (List.forall_mem_cons.mpr ⟨(List.mem_of_getElem? (i := 59) rfl), (List.forall_mem_cons.mpr ⟨(List.mem_of_getElem? (i := 6) rfl), (List.forall_mem_cons.mpr ⟨(List.mem_of_getElem? (i := 118) rfl), (List.forall_mem_cons.mpr ⟨(List.mem_of_getElem? (i := 119) rfl), (List.forall_mem_cons.mpr ⟨(List.mem_of_getElem? (i := 120) rfl), (List.forall_mem_cons.mpr ⟨(List.mem_of_getElem? (i := 121) rfl), (List.forall_mem_cons.mpr ⟨(List.mem_of_getElem? (i := 7) rfl), (List.forall_mem_cons.mpr ⟨(List.mem_of_getElem? (i := 12) rfl), (fun _ h => absurd h List.not_mem_nil)⟩)⟩)⟩)⟩)⟩)⟩)⟩)⟩)⟩)⟩)⟩)⟩)⟩)⟩)⟩)⟩)⟩)⟩)⟩)⟩)⟩)⟩)⟩)⟩)), (show ∀ w ∈ wsX7_settleWords_r2, w ∈ wsX7_shapes from (List.forall_mem_cons.mpr ⟨(List.mem_of_getElem? (i := 18) rfl), (List.forall_mem_cons.mpr ⟨(List.mem_of_getElem? (i := 20) rfl), (fun _ h => absurd h List.not_mem_nil)⟩)⟩))⟩), (fun _ h => (List.mem_cons_of_mem _ (List.mem_append_right _ h)))⟩)⟩) (by decide +kernel)
set_option maxRecDepth 20000 in
theorem gX7_shapes_X7_settleWords : GoodIn wsX7_shapes (wsV RX7 271 RX7 yX7_settleWords wsX7_settleWords) := goodIn_app (goodIn_sub (List.forall_mem_cons.mpr ⟨(List.mem_of_getElem? (i := 109) rfl), (List.forall_mem_cons.mpr ⟨(List.mem_of_getElem? (i := 110) rfl), (List.forall_mem_cons.mpr ⟨(List.mem_of_getElem? (i := 111) rfl), (List.forall_mem_cons.mpr ⟨(List.mem_of_getElem? (i := 38) rfl), (fun _ h => absurd h List.not_mem_nil)⟩)⟩)⟩)⟩) (by decide +kernel)) ggX7_shapes_X7_settleWords
set_option maxRecDepth 100000 in
theorem daX7_shapes : ∀ q ∈ ([(0, .aload_n 0, 1), (1, .iconst 0, 1), (2, .putfield 177, 3), (5, .aload_n 0, 1), (6, .iconst 0, 1), (7, .putfield 183, 3), (10, .aload_n 0, 1), (11, .iconst 0, 1), (12, .putfield 234, 3), (15, .aload_n 0, 1), (16, .invokevirtual 225, 3), (19, .iconst 1, 1), (20, .istore_n 1, 1), (21, .iload_n 1, 1), (22, .ifCond .eq 30, 3), (25, .aload_n 0, 1), (26, .getfield 177, 3), (29, .ifCond .ne 23, 3), (32, .aload_n 0, 1), (33, .invokevirtual 268, 3), (36, .aload_n 0, 1), (37, .getfield 193, 3), (40, .ifCond .eq 7, 3), (43, .iconst 1, 1), (44, .goto 4, 3), (47, .iconst 0, 1), (48, .istore_n 1, 1), (49, .goto (-28), 3), (52, .aload_n 0, 1), (53, .getfield 177, 3), (56, .ifCond .ne 7, 3), (59, .aload_n 0, 1), (60, .invokevirtual 271, 3), (63, .aload_n 0, 1), (64, .iconst 0, 1), (65, .putfield 170, 3), (68, .aload_n 0, 1), (69, .getfield 177, 3), (72, .ifCond .le 11, 3), (75, .bipush (-10), 2), (77, .aload_n 0, 1), (78, .getfield 180, 3), (81, .isub, 1), (82, .ireturn, 1), (83, .aload_n 0, 1), (84, .aload_n 0, 1), (85, .getfield 234, 3), (88, .putfield 258, 3), (91, .iconst 0, 1), (92, .istore_n 2, 1), (93, .iload_n 2, 1), (94, .aload_n 0, 1), (95, .getfield 258, 3), (98, .if_icmp .ge 57, 3), (101, .aload_n 0, 1), (102, .getfield 26, 3), (105, .iload_n 2, 1), (106, .aload_n 0, 1), (107, .getfield 65, 3), (110, .iload_n 2, 1), (111, .iaload, 1), (112, .iastore, 1), (113, .aload_n 0, 1), (114, .getfield 29, 3), (117, .iload_n 2, 1), (118, .aload_n 0, 1), (119, .getfield 68, 3), (122, .iload_n 2, 1), (123, .baload, 1), (124, .bastore, 1), (125, .aload_n 0, 1), (126, .getfield 32, 3), (129, .iload_n 2, 1), (130, .aload_n 0, 1), (131, .getfield 71, 3), (134, .iload_n 2, 1), (135, .iaload, 1), (136, .iastore, 1), (137, .aload_n 0, 1), (138, .getfield 47, 3), (141, .iload_n 2, 1), (142, .aload_n 0, 1), (143, .getfield 89, 3), (146, .iload_n 2, 1), (147, .iaload, 1), (148, .iastore, 1), (149, .iinc 2 1, 3), (152, .goto (-59), 3), (155, .iconst 0, 1), (156, .istore_n 2, 1), (157, .iload_n 2, 1), (158, .bipush 36, 2), (160, .if_icmp .ge 57, 3), (163, .aload_n 0, 1), (164, .getfield 35, 3), (167, .iload_n 2, 1), (168, .aload_n 0, 1), (169, .getfield 74, 3), (172, .iload_n 2, 1), (173, .iaload, 1), (174, .iastore, 1), (175, .aload_n 0, 1), (176, .getfield 38, 3), (179, .iload_n 2, 1), (180, .aload_n 0, 1), (181, .getfield 77, 3), (184, .iload_n 2, 1), (185, .iaload, 1), (186, .iastore, 1), (187, .aload_n 0, 1), (188, .getfield 41, 3), (191, .iload_n 2, 1), (192, .aload_n 0, 1), (193, .getfield 80, 3), (196, .iload_n 2, 1), (197, .iaload, 1), (198, .iastore, 1), (199, .aload_n 0, 1), (200, .getfield 44, 3), (203, .iload_n 2, 1), (204, .aload_n 0, 1), (205, .getfield 83, 3), (208, .iload_n 2, 1), (209, .iaload, 1), (210, .iastore, 1), (211, .iinc 2 1, 3), (214, .goto (-57), 3), (217, .iconst 0, 1), (218, .istore_n 2, 1), (219, .iload_n 2, 1), (220, .sipush 960, 3), (223, .if_icmp .ge 69, 3), (226, .aload_n 0, 1), (227, .getfield 50, 3), (230, .iload_n 2, 1), (231, .aload_n 0, 1), (232, .getfield 92, 3), (235, .iload_n 2, 1), (236, .iaload, 1), (237, .iastore, 1), (238, .aload_n 0, 1), (239, .getfield 53, 3), (242, .iload_n 2, 1), (243, .aload_n 0, 1), (244, .getfield 95, 3), (247, .iload_n 2, 1), (248, .iaload, 1), (249, .iastore, 1), (250, .aload_n 0, 1), (251, .getfield 56, 3), (254, .iload_n 2, 1), (255, .aload_n 0, 1), (256, .getfield 98, 3), (259, .iload_n 2, 1), (260, .iaload, 1), (261, .iastore, 1), (262, .aload_n 0, 1), (263, .getfield 59, 3), (266, .iload_n 2, 1), (267, .aload_n 0, 1), (268, .getfield 101, 3), (271, .iload_n 2, 1), (272, .iaload, 1), (273, .iastore, 1), (274, .aload_n 0, 1), (275, .getfield 62, 3), (278, .iload_n 2, 1), (279, .aload_n 0, 1), (280, .getfield 104, 3), (283, .iload_n 2, 1), (284, .iaload, 1), (285, .iastore, 1), (286, .iinc 2 1, 3), (289, .goto (-70), 3), (292, .aload_n 0, 1), (293, .iconst 0, 1), (294, .putfield 148, 3), (297, .aload_n 0, 1), (298, .getfield 258, 3), (301, .ireturn, 1)] : List (Nat × Instr × Nat)), decode cX7_shapes q.1 = .ok q.2 := by decide +kernel
theorem dX7_shapes_0 : decode cX7_shapes 0 = .ok (.aload_n 0, 1) := daX7_shapes (0, .aload_n 0, 1) (List.mem_of_getElem? (i := 0) rfl)
theorem dX7_shapes_1 : decode cX7_shapes 1 = .ok (.iconst 0, 1) := daX7_shapes (1, .iconst 0, 1) (List.mem_of_getElem? (i := 1) rfl)
theorem dX7_shapes_2 : decode cX7_shapes 2 = .ok (.putfield 177, 3) := daX7_shapes (2, .putfield 177, 3) (List.mem_of_getElem? (i := 2) rfl)
theorem dX7_shapes_5 : decode cX7_shapes 5 = .ok (.aload_n 0, 1) := daX7_shapes (5, .aload_n 0, 1) (List.mem_of_getElem? (i := 3) rfl)
theorem dX7_shapes_6 : decode cX7_shapes 6 = .ok (.iconst 0, 1) := daX7_shapes (6, .iconst 0, 1) (List.mem_of_getElem? (i := 4) rfl)
theorem dX7_shapes_7 : decode cX7_shapes 7 = .ok (.putfield 183, 3) := daX7_shapes (7, .putfield 183, 3) (List.mem_of_getElem? (i := 5) rfl)
theorem dX7_shapes_10 : decode cX7_shapes 10 = .ok (.aload_n 0, 1) := daX7_shapes (10, .aload_n 0, 1) (List.mem_of_getElem? (i := 6) rfl)
theorem dX7_shapes_11 : decode cX7_shapes 11 = .ok (.iconst 0, 1) := daX7_shapes (11, .iconst 0, 1) (List.mem_of_getElem? (i := 7) rfl)
theorem dX7_shapes_12 : decode cX7_shapes 12 = .ok (.putfield 234, 3) := daX7_shapes (12, .putfield 234, 3) (List.mem_of_getElem? (i := 8) rfl)
theorem dX7_shapes_15 : decode cX7_shapes 15 = .ok (.aload_n 0, 1) := daX7_shapes (15, .aload_n 0, 1) (List.mem_of_getElem? (i := 9) rfl)
theorem dX7_shapes_16 : decode cX7_shapes 16 = .ok (.invokevirtual 225, 3) := daX7_shapes (16, .invokevirtual 225, 3) (List.mem_of_getElem? (i := 10) rfl)
theorem dX7_shapes_19 : decode cX7_shapes 19 = .ok (.iconst 1, 1) := daX7_shapes (19, .iconst 1, 1) (List.mem_of_getElem? (i := 11) rfl)
theorem dX7_shapes_20 : decode cX7_shapes 20 = .ok (.istore_n 1, 1) := daX7_shapes (20, .istore_n 1, 1) (List.mem_of_getElem? (i := 12) rfl)
theorem dX7_shapes_21 : decode cX7_shapes 21 = .ok (.iload_n 1, 1) := daX7_shapes (21, .iload_n 1, 1) (List.mem_of_getElem? (i := 13) rfl)
theorem dX7_shapes_22 : decode cX7_shapes 22 = .ok (.ifCond .eq 30, 3) := daX7_shapes (22, .ifCond .eq 30, 3) (List.mem_of_getElem? (i := 14) rfl)
theorem dX7_shapes_25 : decode cX7_shapes 25 = .ok (.aload_n 0, 1) := daX7_shapes (25, .aload_n 0, 1) (List.mem_of_getElem? (i := 15) rfl)
theorem dX7_shapes_26 : decode cX7_shapes 26 = .ok (.getfield 177, 3) := daX7_shapes (26, .getfield 177, 3) (List.mem_of_getElem? (i := 16) rfl)
theorem dX7_shapes_29 : decode cX7_shapes 29 = .ok (.ifCond .ne 23, 3) := daX7_shapes (29, .ifCond .ne 23, 3) (List.mem_of_getElem? (i := 17) rfl)
theorem dX7_shapes_32 : decode cX7_shapes 32 = .ok (.aload_n 0, 1) := daX7_shapes (32, .aload_n 0, 1) (List.mem_of_getElem? (i := 18) rfl)
theorem dX7_shapes_33 : decode cX7_shapes 33 = .ok (.invokevirtual 268, 3) := daX7_shapes (33, .invokevirtual 268, 3) (List.mem_of_getElem? (i := 19) rfl)
theorem dX7_shapes_36 : decode cX7_shapes 36 = .ok (.aload_n 0, 1) := daX7_shapes (36, .aload_n 0, 1) (List.mem_of_getElem? (i := 20) rfl)
theorem dX7_shapes_37 : decode cX7_shapes 37 = .ok (.getfield 193, 3) := daX7_shapes (37, .getfield 193, 3) (List.mem_of_getElem? (i := 21) rfl)
theorem dX7_shapes_40 : decode cX7_shapes 40 = .ok (.ifCond .eq 7, 3) := daX7_shapes (40, .ifCond .eq 7, 3) (List.mem_of_getElem? (i := 22) rfl)
theorem dX7_shapes_43 : decode cX7_shapes 43 = .ok (.iconst 1, 1) := daX7_shapes (43, .iconst 1, 1) (List.mem_of_getElem? (i := 23) rfl)
theorem dX7_shapes_44 : decode cX7_shapes 44 = .ok (.goto 4, 3) := daX7_shapes (44, .goto 4, 3) (List.mem_of_getElem? (i := 24) rfl)
theorem dX7_shapes_47 : decode cX7_shapes 47 = .ok (.iconst 0, 1) := daX7_shapes (47, .iconst 0, 1) (List.mem_of_getElem? (i := 25) rfl)
theorem dX7_shapes_48 : decode cX7_shapes 48 = .ok (.istore_n 1, 1) := daX7_shapes (48, .istore_n 1, 1) (List.mem_of_getElem? (i := 26) rfl)
theorem dX7_shapes_49 : decode cX7_shapes 49 = .ok (.goto (-28), 3) := daX7_shapes (49, .goto (-28), 3) (List.mem_of_getElem? (i := 27) rfl)
theorem dX7_shapes_52 : decode cX7_shapes 52 = .ok (.aload_n 0, 1) := daX7_shapes (52, .aload_n 0, 1) (List.mem_of_getElem? (i := 28) rfl)
theorem dX7_shapes_53 : decode cX7_shapes 53 = .ok (.getfield 177, 3) := daX7_shapes (53, .getfield 177, 3) (List.mem_of_getElem? (i := 29) rfl)
theorem dX7_shapes_56 : decode cX7_shapes 56 = .ok (.ifCond .ne 7, 3) := daX7_shapes (56, .ifCond .ne 7, 3) (List.mem_of_getElem? (i := 30) rfl)
theorem dX7_shapes_59 : decode cX7_shapes 59 = .ok (.aload_n 0, 1) := daX7_shapes (59, .aload_n 0, 1) (List.mem_of_getElem? (i := 31) rfl)
theorem dX7_shapes_60 : decode cX7_shapes 60 = .ok (.invokevirtual 271, 3) := daX7_shapes (60, .invokevirtual 271, 3) (List.mem_of_getElem? (i := 32) rfl)
theorem dX7_shapes_63 : decode cX7_shapes 63 = .ok (.aload_n 0, 1) := daX7_shapes (63, .aload_n 0, 1) (List.mem_of_getElem? (i := 33) rfl)
theorem dX7_shapes_64 : decode cX7_shapes 64 = .ok (.iconst 0, 1) := daX7_shapes (64, .iconst 0, 1) (List.mem_of_getElem? (i := 34) rfl)
theorem dX7_shapes_65 : decode cX7_shapes 65 = .ok (.putfield 170, 3) := daX7_shapes (65, .putfield 170, 3) (List.mem_of_getElem? (i := 35) rfl)
theorem dX7_shapes_68 : decode cX7_shapes 68 = .ok (.aload_n 0, 1) := daX7_shapes (68, .aload_n 0, 1) (List.mem_of_getElem? (i := 36) rfl)
theorem dX7_shapes_69 : decode cX7_shapes 69 = .ok (.getfield 177, 3) := daX7_shapes (69, .getfield 177, 3) (List.mem_of_getElem? (i := 37) rfl)
theorem dX7_shapes_72 : decode cX7_shapes 72 = .ok (.ifCond .le 11, 3) := daX7_shapes (72, .ifCond .le 11, 3) (List.mem_of_getElem? (i := 38) rfl)
theorem dX7_shapes_75 : decode cX7_shapes 75 = .ok (.bipush (-10), 2) := daX7_shapes (75, .bipush (-10), 2) (List.mem_of_getElem? (i := 39) rfl)
theorem dX7_shapes_77 : decode cX7_shapes 77 = .ok (.aload_n 0, 1) := daX7_shapes (77, .aload_n 0, 1) (List.mem_of_getElem? (i := 40) rfl)
theorem dX7_shapes_78 : decode cX7_shapes 78 = .ok (.getfield 180, 3) := daX7_shapes (78, .getfield 180, 3) (List.mem_of_getElem? (i := 41) rfl)
theorem dX7_shapes_81 : decode cX7_shapes 81 = .ok (.isub, 1) := daX7_shapes (81, .isub, 1) (List.mem_of_getElem? (i := 42) rfl)
theorem dX7_shapes_82 : decode cX7_shapes 82 = .ok (.ireturn, 1) := daX7_shapes (82, .ireturn, 1) (List.mem_of_getElem? (i := 43) rfl)
theorem dX7_shapes_83 : decode cX7_shapes 83 = .ok (.aload_n 0, 1) := daX7_shapes (83, .aload_n 0, 1) (List.mem_of_getElem? (i := 44) rfl)
theorem dX7_shapes_84 : decode cX7_shapes 84 = .ok (.aload_n 0, 1) := daX7_shapes (84, .aload_n 0, 1) (List.mem_of_getElem? (i := 45) rfl)
theorem dX7_shapes_85 : decode cX7_shapes 85 = .ok (.getfield 234, 3) := daX7_shapes (85, .getfield 234, 3) (List.mem_of_getElem? (i := 46) rfl)
theorem dX7_shapes_88 : decode cX7_shapes 88 = .ok (.putfield 258, 3) := daX7_shapes (88, .putfield 258, 3) (List.mem_of_getElem? (i := 47) rfl)
theorem dX7_shapes_91 : decode cX7_shapes 91 = .ok (.iconst 0, 1) := daX7_shapes (91, .iconst 0, 1) (List.mem_of_getElem? (i := 48) rfl)
theorem dX7_shapes_92 : decode cX7_shapes 92 = .ok (.istore_n 2, 1) := daX7_shapes (92, .istore_n 2, 1) (List.mem_of_getElem? (i := 49) rfl)
theorem dX7_shapes_93 : decode cX7_shapes 93 = .ok (.iload_n 2, 1) := daX7_shapes (93, .iload_n 2, 1) (List.mem_of_getElem? (i := 50) rfl)
theorem dX7_shapes_94 : decode cX7_shapes 94 = .ok (.aload_n 0, 1) := daX7_shapes (94, .aload_n 0, 1) (List.mem_of_getElem? (i := 51) rfl)
theorem dX7_shapes_95 : decode cX7_shapes 95 = .ok (.getfield 258, 3) := daX7_shapes (95, .getfield 258, 3) (List.mem_of_getElem? (i := 52) rfl)
theorem dX7_shapes_98 : decode cX7_shapes 98 = .ok (.if_icmp .ge 57, 3) := daX7_shapes (98, .if_icmp .ge 57, 3) (List.mem_of_getElem? (i := 53) rfl)
theorem dX7_shapes_101 : decode cX7_shapes 101 = .ok (.aload_n 0, 1) := daX7_shapes (101, .aload_n 0, 1) (List.mem_of_getElem? (i := 54) rfl)
theorem dX7_shapes_102 : decode cX7_shapes 102 = .ok (.getfield 26, 3) := daX7_shapes (102, .getfield 26, 3) (List.mem_of_getElem? (i := 55) rfl)
theorem dX7_shapes_105 : decode cX7_shapes 105 = .ok (.iload_n 2, 1) := daX7_shapes (105, .iload_n 2, 1) (List.mem_of_getElem? (i := 56) rfl)
theorem dX7_shapes_106 : decode cX7_shapes 106 = .ok (.aload_n 0, 1) := daX7_shapes (106, .aload_n 0, 1) (List.mem_of_getElem? (i := 57) rfl)
theorem dX7_shapes_107 : decode cX7_shapes 107 = .ok (.getfield 65, 3) := daX7_shapes (107, .getfield 65, 3) (List.mem_of_getElem? (i := 58) rfl)
theorem dX7_shapes_110 : decode cX7_shapes 110 = .ok (.iload_n 2, 1) := daX7_shapes (110, .iload_n 2, 1) (List.mem_of_getElem? (i := 59) rfl)
theorem dX7_shapes_111 : decode cX7_shapes 111 = .ok (.iaload, 1) := daX7_shapes (111, .iaload, 1) (List.mem_of_getElem? (i := 60) rfl)
theorem dX7_shapes_112 : decode cX7_shapes 112 = .ok (.iastore, 1) := daX7_shapes (112, .iastore, 1) (List.mem_of_getElem? (i := 61) rfl)
theorem dX7_shapes_113 : decode cX7_shapes 113 = .ok (.aload_n 0, 1) := daX7_shapes (113, .aload_n 0, 1) (List.mem_of_getElem? (i := 62) rfl)
theorem dX7_shapes_114 : decode cX7_shapes 114 = .ok (.getfield 29, 3) := daX7_shapes (114, .getfield 29, 3) (List.mem_of_getElem? (i := 63) rfl)
theorem dX7_shapes_117 : decode cX7_shapes 117 = .ok (.iload_n 2, 1) := daX7_shapes (117, .iload_n 2, 1) (List.mem_of_getElem? (i := 64) rfl)
theorem dX7_shapes_118 : decode cX7_shapes 118 = .ok (.aload_n 0, 1) := daX7_shapes (118, .aload_n 0, 1) (List.mem_of_getElem? (i := 65) rfl)
theorem dX7_shapes_119 : decode cX7_shapes 119 = .ok (.getfield 68, 3) := daX7_shapes (119, .getfield 68, 3) (List.mem_of_getElem? (i := 66) rfl)
theorem dX7_shapes_122 : decode cX7_shapes 122 = .ok (.iload_n 2, 1) := daX7_shapes (122, .iload_n 2, 1) (List.mem_of_getElem? (i := 67) rfl)
theorem dX7_shapes_123 : decode cX7_shapes 123 = .ok (.baload, 1) := daX7_shapes (123, .baload, 1) (List.mem_of_getElem? (i := 68) rfl)
theorem dX7_shapes_124 : decode cX7_shapes 124 = .ok (.bastore, 1) := daX7_shapes (124, .bastore, 1) (List.mem_of_getElem? (i := 69) rfl)
theorem dX7_shapes_125 : decode cX7_shapes 125 = .ok (.aload_n 0, 1) := daX7_shapes (125, .aload_n 0, 1) (List.mem_of_getElem? (i := 70) rfl)
theorem dX7_shapes_126 : decode cX7_shapes 126 = .ok (.getfield 32, 3) := daX7_shapes (126, .getfield 32, 3) (List.mem_of_getElem? (i := 71) rfl)
theorem dX7_shapes_129 : decode cX7_shapes 129 = .ok (.iload_n 2, 1) := daX7_shapes (129, .iload_n 2, 1) (List.mem_of_getElem? (i := 72) rfl)
theorem dX7_shapes_130 : decode cX7_shapes 130 = .ok (.aload_n 0, 1) := daX7_shapes (130, .aload_n 0, 1) (List.mem_of_getElem? (i := 73) rfl)
theorem dX7_shapes_131 : decode cX7_shapes 131 = .ok (.getfield 71, 3) := daX7_shapes (131, .getfield 71, 3) (List.mem_of_getElem? (i := 74) rfl)
theorem dX7_shapes_134 : decode cX7_shapes 134 = .ok (.iload_n 2, 1) := daX7_shapes (134, .iload_n 2, 1) (List.mem_of_getElem? (i := 75) rfl)
theorem dX7_shapes_135 : decode cX7_shapes 135 = .ok (.iaload, 1) := daX7_shapes (135, .iaload, 1) (List.mem_of_getElem? (i := 76) rfl)
theorem dX7_shapes_136 : decode cX7_shapes 136 = .ok (.iastore, 1) := daX7_shapes (136, .iastore, 1) (List.mem_of_getElem? (i := 77) rfl)
theorem dX7_shapes_137 : decode cX7_shapes 137 = .ok (.aload_n 0, 1) := daX7_shapes (137, .aload_n 0, 1) (List.mem_of_getElem? (i := 78) rfl)
theorem dX7_shapes_138 : decode cX7_shapes 138 = .ok (.getfield 47, 3) := daX7_shapes (138, .getfield 47, 3) (List.mem_of_getElem? (i := 79) rfl)
theorem dX7_shapes_141 : decode cX7_shapes 141 = .ok (.iload_n 2, 1) := daX7_shapes (141, .iload_n 2, 1) (List.mem_of_getElem? (i := 80) rfl)
theorem dX7_shapes_142 : decode cX7_shapes 142 = .ok (.aload_n 0, 1) := daX7_shapes (142, .aload_n 0, 1) (List.mem_of_getElem? (i := 81) rfl)
theorem dX7_shapes_143 : decode cX7_shapes 143 = .ok (.getfield 89, 3) := daX7_shapes (143, .getfield 89, 3) (List.mem_of_getElem? (i := 82) rfl)
theorem dX7_shapes_146 : decode cX7_shapes 146 = .ok (.iload_n 2, 1) := daX7_shapes (146, .iload_n 2, 1) (List.mem_of_getElem? (i := 83) rfl)
theorem dX7_shapes_147 : decode cX7_shapes 147 = .ok (.iaload, 1) := daX7_shapes (147, .iaload, 1) (List.mem_of_getElem? (i := 84) rfl)
theorem dX7_shapes_148 : decode cX7_shapes 148 = .ok (.iastore, 1) := daX7_shapes (148, .iastore, 1) (List.mem_of_getElem? (i := 85) rfl)
theorem dX7_shapes_149 : decode cX7_shapes 149 = .ok (.iinc 2 1, 3) := daX7_shapes (149, .iinc 2 1, 3) (List.mem_of_getElem? (i := 86) rfl)
theorem dX7_shapes_152 : decode cX7_shapes 152 = .ok (.goto (-59), 3) := daX7_shapes (152, .goto (-59), 3) (List.mem_of_getElem? (i := 87) rfl)
theorem dX7_shapes_155 : decode cX7_shapes 155 = .ok (.iconst 0, 1) := daX7_shapes (155, .iconst 0, 1) (List.mem_of_getElem? (i := 88) rfl)
theorem dX7_shapes_156 : decode cX7_shapes 156 = .ok (.istore_n 2, 1) := daX7_shapes (156, .istore_n 2, 1) (List.mem_of_getElem? (i := 89) rfl)
theorem dX7_shapes_157 : decode cX7_shapes 157 = .ok (.iload_n 2, 1) := daX7_shapes (157, .iload_n 2, 1) (List.mem_of_getElem? (i := 90) rfl)
theorem dX7_shapes_158 : decode cX7_shapes 158 = .ok (.bipush 36, 2) := daX7_shapes (158, .bipush 36, 2) (List.mem_of_getElem? (i := 91) rfl)
theorem dX7_shapes_160 : decode cX7_shapes 160 = .ok (.if_icmp .ge 57, 3) := daX7_shapes (160, .if_icmp .ge 57, 3) (List.mem_of_getElem? (i := 92) rfl)
theorem dX7_shapes_163 : decode cX7_shapes 163 = .ok (.aload_n 0, 1) := daX7_shapes (163, .aload_n 0, 1) (List.mem_of_getElem? (i := 93) rfl)
theorem dX7_shapes_164 : decode cX7_shapes 164 = .ok (.getfield 35, 3) := daX7_shapes (164, .getfield 35, 3) (List.mem_of_getElem? (i := 94) rfl)
theorem dX7_shapes_167 : decode cX7_shapes 167 = .ok (.iload_n 2, 1) := daX7_shapes (167, .iload_n 2, 1) (List.mem_of_getElem? (i := 95) rfl)
theorem dX7_shapes_168 : decode cX7_shapes 168 = .ok (.aload_n 0, 1) := daX7_shapes (168, .aload_n 0, 1) (List.mem_of_getElem? (i := 96) rfl)
theorem dX7_shapes_169 : decode cX7_shapes 169 = .ok (.getfield 74, 3) := daX7_shapes (169, .getfield 74, 3) (List.mem_of_getElem? (i := 97) rfl)
theorem dX7_shapes_172 : decode cX7_shapes 172 = .ok (.iload_n 2, 1) := daX7_shapes (172, .iload_n 2, 1) (List.mem_of_getElem? (i := 98) rfl)
theorem dX7_shapes_173 : decode cX7_shapes 173 = .ok (.iaload, 1) := daX7_shapes (173, .iaload, 1) (List.mem_of_getElem? (i := 99) rfl)
theorem dX7_shapes_174 : decode cX7_shapes 174 = .ok (.iastore, 1) := daX7_shapes (174, .iastore, 1) (List.mem_of_getElem? (i := 100) rfl)
theorem dX7_shapes_175 : decode cX7_shapes 175 = .ok (.aload_n 0, 1) := daX7_shapes (175, .aload_n 0, 1) (List.mem_of_getElem? (i := 101) rfl)
theorem dX7_shapes_176 : decode cX7_shapes 176 = .ok (.getfield 38, 3) := daX7_shapes (176, .getfield 38, 3) (List.mem_of_getElem? (i := 102) rfl)
theorem dX7_shapes_179 : decode cX7_shapes 179 = .ok (.iload_n 2, 1) := daX7_shapes (179, .iload_n 2, 1) (List.mem_of_getElem? (i := 103) rfl)
theorem dX7_shapes_180 : decode cX7_shapes 180 = .ok (.aload_n 0, 1) := daX7_shapes (180, .aload_n 0, 1) (List.mem_of_getElem? (i := 104) rfl)
theorem dX7_shapes_181 : decode cX7_shapes 181 = .ok (.getfield 77, 3) := daX7_shapes (181, .getfield 77, 3) (List.mem_of_getElem? (i := 105) rfl)
theorem dX7_shapes_184 : decode cX7_shapes 184 = .ok (.iload_n 2, 1) := daX7_shapes (184, .iload_n 2, 1) (List.mem_of_getElem? (i := 106) rfl)
theorem dX7_shapes_185 : decode cX7_shapes 185 = .ok (.iaload, 1) := daX7_shapes (185, .iaload, 1) (List.mem_of_getElem? (i := 107) rfl)
theorem dX7_shapes_186 : decode cX7_shapes 186 = .ok (.iastore, 1) := daX7_shapes (186, .iastore, 1) (List.mem_of_getElem? (i := 108) rfl)
theorem dX7_shapes_187 : decode cX7_shapes 187 = .ok (.aload_n 0, 1) := daX7_shapes (187, .aload_n 0, 1) (List.mem_of_getElem? (i := 109) rfl)
theorem dX7_shapes_188 : decode cX7_shapes 188 = .ok (.getfield 41, 3) := daX7_shapes (188, .getfield 41, 3) (List.mem_of_getElem? (i := 110) rfl)
theorem dX7_shapes_191 : decode cX7_shapes 191 = .ok (.iload_n 2, 1) := daX7_shapes (191, .iload_n 2, 1) (List.mem_of_getElem? (i := 111) rfl)
theorem dX7_shapes_192 : decode cX7_shapes 192 = .ok (.aload_n 0, 1) := daX7_shapes (192, .aload_n 0, 1) (List.mem_of_getElem? (i := 112) rfl)
theorem dX7_shapes_193 : decode cX7_shapes 193 = .ok (.getfield 80, 3) := daX7_shapes (193, .getfield 80, 3) (List.mem_of_getElem? (i := 113) rfl)
theorem dX7_shapes_196 : decode cX7_shapes 196 = .ok (.iload_n 2, 1) := daX7_shapes (196, .iload_n 2, 1) (List.mem_of_getElem? (i := 114) rfl)
theorem dX7_shapes_197 : decode cX7_shapes 197 = .ok (.iaload, 1) := daX7_shapes (197, .iaload, 1) (List.mem_of_getElem? (i := 115) rfl)
theorem dX7_shapes_198 : decode cX7_shapes 198 = .ok (.iastore, 1) := daX7_shapes (198, .iastore, 1) (List.mem_of_getElem? (i := 116) rfl)
theorem dX7_shapes_199 : decode cX7_shapes 199 = .ok (.aload_n 0, 1) := daX7_shapes (199, .aload_n 0, 1) (List.mem_of_getElem? (i := 117) rfl)
theorem dX7_shapes_200 : decode cX7_shapes 200 = .ok (.getfield 44, 3) := daX7_shapes (200, .getfield 44, 3) (List.mem_of_getElem? (i := 118) rfl)
theorem dX7_shapes_203 : decode cX7_shapes 203 = .ok (.iload_n 2, 1) := daX7_shapes (203, .iload_n 2, 1) (List.mem_of_getElem? (i := 119) rfl)
theorem dX7_shapes_204 : decode cX7_shapes 204 = .ok (.aload_n 0, 1) := daX7_shapes (204, .aload_n 0, 1) (List.mem_of_getElem? (i := 120) rfl)
theorem dX7_shapes_205 : decode cX7_shapes 205 = .ok (.getfield 83, 3) := daX7_shapes (205, .getfield 83, 3) (List.mem_of_getElem? (i := 121) rfl)
theorem dX7_shapes_208 : decode cX7_shapes 208 = .ok (.iload_n 2, 1) := daX7_shapes (208, .iload_n 2, 1) (List.mem_of_getElem? (i := 122) rfl)
theorem dX7_shapes_209 : decode cX7_shapes 209 = .ok (.iaload, 1) := daX7_shapes (209, .iaload, 1) (List.mem_of_getElem? (i := 123) rfl)
theorem dX7_shapes_210 : decode cX7_shapes 210 = .ok (.iastore, 1) := daX7_shapes (210, .iastore, 1) (List.mem_of_getElem? (i := 124) rfl)
theorem dX7_shapes_211 : decode cX7_shapes 211 = .ok (.iinc 2 1, 3) := daX7_shapes (211, .iinc 2 1, 3) (List.mem_of_getElem? (i := 125) rfl)
theorem dX7_shapes_214 : decode cX7_shapes 214 = .ok (.goto (-57), 3) := daX7_shapes (214, .goto (-57), 3) (List.mem_of_getElem? (i := 126) rfl)
theorem dX7_shapes_217 : decode cX7_shapes 217 = .ok (.iconst 0, 1) := daX7_shapes (217, .iconst 0, 1) (List.mem_of_getElem? (i := 127) rfl)
theorem dX7_shapes_218 : decode cX7_shapes 218 = .ok (.istore_n 2, 1) := daX7_shapes (218, .istore_n 2, 1) (List.mem_of_getElem? (i := 128) rfl)
theorem dX7_shapes_219 : decode cX7_shapes 219 = .ok (.iload_n 2, 1) := daX7_shapes (219, .iload_n 2, 1) (List.mem_of_getElem? (i := 129) rfl)
theorem dX7_shapes_220 : decode cX7_shapes 220 = .ok (.sipush 960, 3) := daX7_shapes (220, .sipush 960, 3) (List.mem_of_getElem? (i := 130) rfl)
theorem dX7_shapes_223 : decode cX7_shapes 223 = .ok (.if_icmp .ge 69, 3) := daX7_shapes (223, .if_icmp .ge 69, 3) (List.mem_of_getElem? (i := 131) rfl)
theorem dX7_shapes_226 : decode cX7_shapes 226 = .ok (.aload_n 0, 1) := daX7_shapes (226, .aload_n 0, 1) (List.mem_of_getElem? (i := 132) rfl)
theorem dX7_shapes_227 : decode cX7_shapes 227 = .ok (.getfield 50, 3) := daX7_shapes (227, .getfield 50, 3) (List.mem_of_getElem? (i := 133) rfl)
theorem dX7_shapes_230 : decode cX7_shapes 230 = .ok (.iload_n 2, 1) := daX7_shapes (230, .iload_n 2, 1) (List.mem_of_getElem? (i := 134) rfl)
theorem dX7_shapes_231 : decode cX7_shapes 231 = .ok (.aload_n 0, 1) := daX7_shapes (231, .aload_n 0, 1) (List.mem_of_getElem? (i := 135) rfl)
theorem dX7_shapes_232 : decode cX7_shapes 232 = .ok (.getfield 92, 3) := daX7_shapes (232, .getfield 92, 3) (List.mem_of_getElem? (i := 136) rfl)
theorem dX7_shapes_235 : decode cX7_shapes 235 = .ok (.iload_n 2, 1) := daX7_shapes (235, .iload_n 2, 1) (List.mem_of_getElem? (i := 137) rfl)
theorem dX7_shapes_236 : decode cX7_shapes 236 = .ok (.iaload, 1) := daX7_shapes (236, .iaload, 1) (List.mem_of_getElem? (i := 138) rfl)
theorem dX7_shapes_237 : decode cX7_shapes 237 = .ok (.iastore, 1) := daX7_shapes (237, .iastore, 1) (List.mem_of_getElem? (i := 139) rfl)
theorem dX7_shapes_238 : decode cX7_shapes 238 = .ok (.aload_n 0, 1) := daX7_shapes (238, .aload_n 0, 1) (List.mem_of_getElem? (i := 140) rfl)
theorem dX7_shapes_239 : decode cX7_shapes 239 = .ok (.getfield 53, 3) := daX7_shapes (239, .getfield 53, 3) (List.mem_of_getElem? (i := 141) rfl)
theorem dX7_shapes_242 : decode cX7_shapes 242 = .ok (.iload_n 2, 1) := daX7_shapes (242, .iload_n 2, 1) (List.mem_of_getElem? (i := 142) rfl)
theorem dX7_shapes_243 : decode cX7_shapes 243 = .ok (.aload_n 0, 1) := daX7_shapes (243, .aload_n 0, 1) (List.mem_of_getElem? (i := 143) rfl)
theorem dX7_shapes_244 : decode cX7_shapes 244 = .ok (.getfield 95, 3) := daX7_shapes (244, .getfield 95, 3) (List.mem_of_getElem? (i := 144) rfl)
theorem dX7_shapes_247 : decode cX7_shapes 247 = .ok (.iload_n 2, 1) := daX7_shapes (247, .iload_n 2, 1) (List.mem_of_getElem? (i := 145) rfl)
theorem dX7_shapes_248 : decode cX7_shapes 248 = .ok (.iaload, 1) := daX7_shapes (248, .iaload, 1) (List.mem_of_getElem? (i := 146) rfl)
theorem dX7_shapes_249 : decode cX7_shapes 249 = .ok (.iastore, 1) := daX7_shapes (249, .iastore, 1) (List.mem_of_getElem? (i := 147) rfl)
theorem dX7_shapes_250 : decode cX7_shapes 250 = .ok (.aload_n 0, 1) := daX7_shapes (250, .aload_n 0, 1) (List.mem_of_getElem? (i := 148) rfl)
theorem dX7_shapes_251 : decode cX7_shapes 251 = .ok (.getfield 56, 3) := daX7_shapes (251, .getfield 56, 3) (List.mem_of_getElem? (i := 149) rfl)
theorem dX7_shapes_254 : decode cX7_shapes 254 = .ok (.iload_n 2, 1) := daX7_shapes (254, .iload_n 2, 1) (List.mem_of_getElem? (i := 150) rfl)
theorem dX7_shapes_255 : decode cX7_shapes 255 = .ok (.aload_n 0, 1) := daX7_shapes (255, .aload_n 0, 1) (List.mem_of_getElem? (i := 151) rfl)
theorem dX7_shapes_256 : decode cX7_shapes 256 = .ok (.getfield 98, 3) := daX7_shapes (256, .getfield 98, 3) (List.mem_of_getElem? (i := 152) rfl)
theorem dX7_shapes_259 : decode cX7_shapes 259 = .ok (.iload_n 2, 1) := daX7_shapes (259, .iload_n 2, 1) (List.mem_of_getElem? (i := 153) rfl)
theorem dX7_shapes_260 : decode cX7_shapes 260 = .ok (.iaload, 1) := daX7_shapes (260, .iaload, 1) (List.mem_of_getElem? (i := 154) rfl)
theorem dX7_shapes_261 : decode cX7_shapes 261 = .ok (.iastore, 1) := daX7_shapes (261, .iastore, 1) (List.mem_of_getElem? (i := 155) rfl)
theorem dX7_shapes_262 : decode cX7_shapes 262 = .ok (.aload_n 0, 1) := daX7_shapes (262, .aload_n 0, 1) (List.mem_of_getElem? (i := 156) rfl)
theorem dX7_shapes_263 : decode cX7_shapes 263 = .ok (.getfield 59, 3) := daX7_shapes (263, .getfield 59, 3) (List.mem_of_getElem? (i := 157) rfl)
theorem dX7_shapes_266 : decode cX7_shapes 266 = .ok (.iload_n 2, 1) := daX7_shapes (266, .iload_n 2, 1) (List.mem_of_getElem? (i := 158) rfl)
theorem dX7_shapes_267 : decode cX7_shapes 267 = .ok (.aload_n 0, 1) := daX7_shapes (267, .aload_n 0, 1) (List.mem_of_getElem? (i := 159) rfl)
theorem dX7_shapes_268 : decode cX7_shapes 268 = .ok (.getfield 101, 3) := daX7_shapes (268, .getfield 101, 3) (List.mem_of_getElem? (i := 160) rfl)
theorem dX7_shapes_271 : decode cX7_shapes 271 = .ok (.iload_n 2, 1) := daX7_shapes (271, .iload_n 2, 1) (List.mem_of_getElem? (i := 161) rfl)
theorem dX7_shapes_272 : decode cX7_shapes 272 = .ok (.iaload, 1) := daX7_shapes (272, .iaload, 1) (List.mem_of_getElem? (i := 162) rfl)
theorem dX7_shapes_273 : decode cX7_shapes 273 = .ok (.iastore, 1) := daX7_shapes (273, .iastore, 1) (List.mem_of_getElem? (i := 163) rfl)
theorem dX7_shapes_274 : decode cX7_shapes 274 = .ok (.aload_n 0, 1) := daX7_shapes (274, .aload_n 0, 1) (List.mem_of_getElem? (i := 164) rfl)
theorem dX7_shapes_275 : decode cX7_shapes 275 = .ok (.getfield 62, 3) := daX7_shapes (275, .getfield 62, 3) (List.mem_of_getElem? (i := 165) rfl)
theorem dX7_shapes_278 : decode cX7_shapes 278 = .ok (.iload_n 2, 1) := daX7_shapes (278, .iload_n 2, 1) (List.mem_of_getElem? (i := 166) rfl)
theorem dX7_shapes_279 : decode cX7_shapes 279 = .ok (.aload_n 0, 1) := daX7_shapes (279, .aload_n 0, 1) (List.mem_of_getElem? (i := 167) rfl)
theorem dX7_shapes_280 : decode cX7_shapes 280 = .ok (.getfield 104, 3) := daX7_shapes (280, .getfield 104, 3) (List.mem_of_getElem? (i := 168) rfl)
theorem dX7_shapes_283 : decode cX7_shapes 283 = .ok (.iload_n 2, 1) := daX7_shapes (283, .iload_n 2, 1) (List.mem_of_getElem? (i := 169) rfl)
theorem dX7_shapes_284 : decode cX7_shapes 284 = .ok (.iaload, 1) := daX7_shapes (284, .iaload, 1) (List.mem_of_getElem? (i := 170) rfl)
theorem dX7_shapes_285 : decode cX7_shapes 285 = .ok (.iastore, 1) := daX7_shapes (285, .iastore, 1) (List.mem_of_getElem? (i := 171) rfl)
theorem dX7_shapes_286 : decode cX7_shapes 286 = .ok (.iinc 2 1, 3) := daX7_shapes (286, .iinc 2 1, 3) (List.mem_of_getElem? (i := 172) rfl)
theorem dX7_shapes_289 : decode cX7_shapes 289 = .ok (.goto (-70), 3) := daX7_shapes (289, .goto (-70), 3) (List.mem_of_getElem? (i := 173) rfl)
theorem dX7_shapes_292 : decode cX7_shapes 292 = .ok (.aload_n 0, 1) := daX7_shapes (292, .aload_n 0, 1) (List.mem_of_getElem? (i := 174) rfl)
theorem dX7_shapes_293 : decode cX7_shapes 293 = .ok (.iconst 0, 1) := daX7_shapes (293, .iconst 0, 1) (List.mem_of_getElem? (i := 175) rfl)
theorem dX7_shapes_294 : decode cX7_shapes 294 = .ok (.putfield 148, 3) := daX7_shapes (294, .putfield 148, 3) (List.mem_of_getElem? (i := 176) rfl)
theorem dX7_shapes_297 : decode cX7_shapes 297 = .ok (.aload_n 0, 1) := daX7_shapes (297, .aload_n 0, 1) (List.mem_of_getElem? (i := 177) rfl)
theorem dX7_shapes_298 : decode cX7_shapes 298 = .ok (.getfield 258, 3) := daX7_shapes (298, .getfield 258, 3) (List.mem_of_getElem? (i := 178) rfl)
theorem dX7_shapes_301 : decode cX7_shapes 301 = .ok (.ireturn, 1) := daX7_shapes (301, .ireturn, 1) (List.mem_of_getElem? (i := 179) rfl)
def rmX7_shapes : Room := { frames := 8, cells := 0, slots := 0, locals := 173 }
theorem zdX7_shapes : yX7_shapes.cls = RX7 ∧ yX7_shapes.cls ≠ "java/lang/invoke/MethodHandle" ∧ yX7_shapes.cls ≠ "java/lang/invoke/VarHandle" ∧ (parseMethodDescriptor yX7_shapes.desc).map (fun d => d.parameters.length) = some 0 := by decide +kernel
theorem kiX7_shapes_X7 : ∀ w ∈ wsX70, w ∈ wsX7_shapes := fun _ h => (List.mem_cons_of_mem _ (List.mem_append_right _ h))
theorem kfX7_shapes_177 : Cond.fieldLink RX7 177 "ShapeJudgeModel" "fault" "I" ∈ wsX7_shapes := (List.mem_of_getElem? (i := 1) rfl)
theorem kfX7_shapes_183 : Cond.fieldLink RX7 183 "ShapeJudgeModel" "at" "I" ∈ wsX7_shapes := (List.mem_of_getElem? (i := 2) rfl)
theorem kfX7_shapes_234 : Cond.fieldLink RX7 234 "ShapeJudgeModel" "dShapes" "I" ∈ wsX7_shapes := (List.mem_of_getElem? (i := 3) rfl)
theorem kfX7_shapes_193 : Cond.fieldLink RX7 193 "ShapeJudgeModel" "sort" "I" ∈ wsX7_shapes := (List.mem_of_getElem? (i := 4) rfl)
theorem kfX7_shapes_170 : Cond.fieldLink RX7 170 "ShapeJudgeModel" "taped" "I" ∈ wsX7_shapes := (List.mem_of_getElem? (i := 5) rfl)
theorem kfX7_shapes_258 : Cond.fieldLink RX7 258 "ShapeJudgeModel" "shapes" "I" ∈ wsX7_shapes := (List.mem_of_getElem? (i := 7) rfl)
theorem kfX7_shapes_26 : Cond.fieldLink RX7 26 "ShapeJudgeModel" "words" "[I" ∈ wsX7_shapes := (List.mem_of_getElem? (i := 8) rfl)
theorem kfX7_shapes_65 : Cond.fieldLink RX7 65 "ShapeJudgeModel" "dWords" "[I" ∈ wsX7_shapes := (List.mem_of_getElem? (i := 9) rfl)
theorem kfX7_shapes_29 : Cond.fieldLink RX7 29 "ShapeJudgeModel" "closed" "[Z" ∈ wsX7_shapes := (List.mem_of_getElem? (i := 10) rfl)
theorem kfX7_shapes_68 : Cond.fieldLink RX7 68 "ShapeJudgeModel" "dClosed" "[Z" ∈ wsX7_shapes := (List.mem_of_getElem? (i := 11) rfl)
theorem kfX7_shapes_32 : Cond.fieldLink RX7 32 "ShapeJudgeModel" "parts" "[I" ∈ wsX7_shapes := (List.mem_of_getElem? (i := 12) rfl)
theorem kfX7_shapes_71 : Cond.fieldLink RX7 71 "ShapeJudgeModel" "dParts" "[I" ∈ wsX7_shapes := (List.mem_of_getElem? (i := 13) rfl)
theorem kfX7_shapes_47 : Cond.fieldLink RX7 47 "ShapeJudgeModel" "size" "[I" ∈ wsX7_shapes := (List.mem_of_getElem? (i := 14) rfl)
theorem kfX7_shapes_89 : Cond.fieldLink RX7 89 "ShapeJudgeModel" "dSize" "[I" ∈ wsX7_shapes := (List.mem_of_getElem? (i := 15) rfl)
theorem kfX7_shapes_35 : Cond.fieldLink RX7 35 "ShapeJudgeModel" "pName" "[I" ∈ wsX7_shapes := (List.mem_of_getElem? (i := 16) rfl)
theorem kfX7_shapes_74 : Cond.fieldLink RX7 74 "ShapeJudgeModel" "dName" "[I" ∈ wsX7_shapes := (List.mem_of_getElem? (i := 17) rfl)
theorem kfX7_shapes_38 : Cond.fieldLink RX7 38 "ShapeJudgeModel" "pTest" "[I" ∈ wsX7_shapes := (List.mem_of_getElem? (i := 18) rfl)
theorem kfX7_shapes_77 : Cond.fieldLink RX7 77 "ShapeJudgeModel" "dTest" "[I" ∈ wsX7_shapes := (List.mem_of_getElem? (i := 19) rfl)
theorem kfX7_shapes_41 : Cond.fieldLink RX7 41 "ShapeJudgeModel" "pFirst" "[I" ∈ wsX7_shapes := (List.mem_of_getElem? (i := 20) rfl)
theorem kfX7_shapes_80 : Cond.fieldLink RX7 80 "ShapeJudgeModel" "dFirst" "[I" ∈ wsX7_shapes := (List.mem_of_getElem? (i := 21) rfl)
theorem kfX7_shapes_44 : Cond.fieldLink RX7 44 "ShapeJudgeModel" "pSecond" "[I" ∈ wsX7_shapes := (List.mem_of_getElem? (i := 22) rfl)
theorem kfX7_shapes_83 : Cond.fieldLink RX7 83 "ShapeJudgeModel" "dSecond" "[I" ∈ wsX7_shapes := (List.mem_of_getElem? (i := 23) rfl)
theorem kfX7_shapes_50 : Cond.fieldLink RX7 50 "ShapeJudgeModel" "kind" "[I" ∈ wsX7_shapes := (List.mem_of_getElem? (i := 24) rfl)
theorem kfX7_shapes_92 : Cond.fieldLink RX7 92 "ShapeJudgeModel" "dKind" "[I" ∈ wsX7_shapes := (List.mem_of_getElem? (i := 25) rfl)
theorem kfX7_shapes_53 : Cond.fieldLink RX7 53 "ShapeJudgeModel" "around" "[I" ∈ wsX7_shapes := (List.mem_of_getElem? (i := 26) rfl)
theorem kfX7_shapes_95 : Cond.fieldLink RX7 95 "ShapeJudgeModel" "dAround" "[I" ∈ wsX7_shapes := (List.mem_of_getElem? (i := 27) rfl)
theorem kfX7_shapes_56 : Cond.fieldLink RX7 56 "ShapeJudgeModel" "least" "[I" ∈ wsX7_shapes := (List.mem_of_getElem? (i := 28) rfl)
theorem kfX7_shapes_98 : Cond.fieldLink RX7 98 "ShapeJudgeModel" "dLeast" "[I" ∈ wsX7_shapes := (List.mem_of_getElem? (i := 29) rfl)
theorem kfX7_shapes_59 : Cond.fieldLink RX7 59 "ShapeJudgeModel" "most" "[I" ∈ wsX7_shapes := (List.mem_of_getElem? (i := 30) rfl)
theorem kfX7_shapes_101 : Cond.fieldLink RX7 101 "ShapeJudgeModel" "dMost" "[I" ∈ wsX7_shapes := (List.mem_of_getElem? (i := 31) rfl)
theorem kfX7_shapes_62 : Cond.fieldLink RX7 62 "ShapeJudgeModel" "partOf" "[I" ∈ wsX7_shapes := (List.mem_of_getElem? (i := 32) rfl)
theorem kfX7_shapes_104 : Cond.fieldLink RX7 104 "ShapeJudgeModel" "dPartOf" "[I" ∈ wsX7_shapes := (List.mem_of_getElem? (i := 33) rfl)
theorem kfX7_shapes_148 : Cond.fieldLink RX7 148 "ShapeJudgeModel" "isRead" "Z" ∈ wsX7_shapes := (List.mem_of_getElem? (i := 34) rfl)
theorem kfX7_shapes_180 : Cond.fieldLink RX7 180 "ShapeJudgeModel" "wrongAt" "I" ∈ wsX7_shapes := (List.mem_of_getElem? (i := 6) rfl)
def t_X7_shapes_21  (i6 : Int32) (m7 : Mem) : Option ((Int32 × Mem) ⊕ (Mem)) :=
  (if i6 = 0 then (some (.inr m7)) else ((if (m7 0 42) = 0 then ((s_X7_readShape m7).bind fun m9 => (if (m9 0 40) = 0 then (some (.inl (0, m9))) else (some (.inl (1, m9))))) else (some (.inr m7)))))
def l_X7_shapes_21  (n : Nat) (i6 : Int32) (m7 : Mem) : Option (Mem) := zlp n (fun a => t_X7_shapes_21  a.1 a.2) (i6, m7)
def t_X7_shapes_93  (i17 : Int32) (m18 : Mem) : Option ((Int32 × Mem) ⊕ (Mem)) :=
  (if (m18 0 7) ≤ i17 then (some (.inr m18)) else (ck (zin i17 6 = true) (ck (zin i17 6 = true) (bn (sto m18 6 (Int32.toNatClampNeg i17) (m18 19 (Int32.toNatClampNeg i17))) fun m21 => ck (zin i17 6 = true) (ck (zin i17 6 = true) (bn (sto m21 7 (Int32.toNatClampNeg i17) (vp_nar .boolean (m21 20 (Int32.toNatClampNeg i17)))) fun m24 => ck (zin i17 6 = true) (ck (zin i17 6 = true) (bn (sto m24 8 (Int32.toNatClampNeg i17) (m24 21 (Int32.toNatClampNeg i17))) fun m27 => ck (zin i17 6 = true) (ck (zin i17 6 = true) (bn (sto m27 13 (Int32.toNatClampNeg i17) (m27 27 (Int32.toNatClampNeg i17))) fun m30 => bn (i17 + 1) fun x31 => some (.inl (x31, m30))))))))))))
def l_X7_shapes_93  (n : Nat) (i17 : Int32) (m18 : Mem) : Option (Mem) := zlp n (fun a => t_X7_shapes_93  a.1 a.2) (i17, m18)
def t_X7_shapes_157  (i34 : Int32) (m35 : Mem) : Option ((Int32 × Mem) ⊕ (Mem)) :=
  (if 36 ≤ i34 then (some (.inr m35)) else (ck (zin i34 36 = true) (ck (zin i34 36 = true) (bn (sto m35 9 (Int32.toNatClampNeg i34) (m35 22 (Int32.toNatClampNeg i34))) fun m38 => ck (zin i34 36 = true) (ck (zin i34 36 = true) (bn (sto m38 10 (Int32.toNatClampNeg i34) (m38 23 (Int32.toNatClampNeg i34))) fun m41 => ck (zin i34 36 = true) (ck (zin i34 36 = true) (bn (sto m41 11 (Int32.toNatClampNeg i34) (m41 24 (Int32.toNatClampNeg i34))) fun m44 => ck (zin i34 36 = true) (ck (zin i34 36 = true) (bn (sto m44 12 (Int32.toNatClampNeg i34) (m44 25 (Int32.toNatClampNeg i34))) fun m47 => bn (i34 + 1) fun x48 => some (.inl (x48, m47))))))))))))
def l_X7_shapes_157  (n : Nat) (i34 : Int32) (m35 : Mem) : Option (Mem) := zlp n (fun a => t_X7_shapes_157  a.1 a.2) (i34, m35)
def t_X7_shapes_219  (i51 : Int32) (m52 : Mem) : Option ((Int32 × Mem) ⊕ (Mem)) :=
  (if 960 ≤ i51 then (some (.inr m52)) else (ck (zin i51 960 = true) (ck (zin i51 960 = true) (bn (sto m52 14 (Int32.toNatClampNeg i51) (m52 28 (Int32.toNatClampNeg i51))) fun m55 => ck (zin i51 960 = true) (ck (zin i51 960 = true) (bn (sto m55 15 (Int32.toNatClampNeg i51) (m55 29 (Int32.toNatClampNeg i51))) fun m58 => ck (zin i51 960 = true) (ck (zin i51 960 = true) (bn (sto m58 16 (Int32.toNatClampNeg i51) (m58 30 (Int32.toNatClampNeg i51))) fun m61 => ck (zin i51 960 = true) (ck (zin i51 960 = true) (bn (sto m61 17 (Int32.toNatClampNeg i51) (m61 31 (Int32.toNatClampNeg i51))) fun m64 => ck (zin i51 960 = true) (ck (zin i51 960 = true) (bn (sto m64 18 (Int32.toNatClampNeg i51) (m64 32 (Int32.toNatClampNeg i51))) fun m67 => bn (i51 + 1) fun x68 => some (.inl (x68, m67))))))))))))))
def l_X7_shapes_219  (n : Nat) (i51 : Int32) (m52 : Mem) : Option (Mem) := zlp n (fun a => t_X7_shapes_219  a.1 a.2) (i51, m52)
def s_X7_shapes (m : Mem)  : Option (Int32 × Mem) :=
  bn (sto m 0 42 0) fun m1 => bn (sto m1 0 38 0) fun m2 => bn (sto m2 0 21 0) fun m3 => (s_X7_next m3).bind fun m5 => ((l_X7_shapes_21  FU 1 m5).bind fun m13 => (((if (m13 0 42) = 0 then ((s_X7_settleWords m13).bind fun m74 => some m74) else (some m13)) : Option (Mem)).bind fun m14 => bn (sto m14 0 37 0) fun m15 => (if (m15 0 42) ≤ 0 then (bn (sto m15 0 7 (m15 0 21)) fun m16 => ((l_X7_shapes_93  FU 0 m16).bind fun m33 => ((l_X7_shapes_157  FU 0 m33).bind fun m50 => ((l_X7_shapes_219  FU 0 m50).bind fun m70 => bn (sto m70 0 6 0) fun m71 => some ((m71 0 7), m71))))) else (some (((-10) - (m15 0 43)), m15)))))
set_option maxRecDepth 100000 in
set_option maxHeartbeats 4000000 in
theorem w_X7_shapes_21 {K : ZK} (C : zOK MM K cX7_shapes 3 (some .int) RX7 wsX7_shapes rmX7_shapes)   {o0 : Mem} (hk : zGo MM K o0 [(0, .ref ((zw K).2.1 0))] 52 []) : ∀ (n : Nat) (i6 : Int32) (m7 : Mem), l_X7_shapes_21  n i6 m7 = some o0 → zGo MM K m7 [(0, .ref ((zw K).2.1 0)), (1, .int i6)] 21 [] := by
  intro n
  induction n with
  | zero =>
    intro i6 m7 hf
    cases hf
  | succ n ih =>
    intro i6 m7 hf
    obtain ⟨z, hf, hz⟩ := zlp_el hf
    replace hf : t_X7_shapes_21  i6 m7 = some z := hf
    unfold t_X7_shapes_21 at hf
    refine z_iload_n C 1 dX7_shapes_21 rfl rfl ?_
    refine z_if_eq (tgt := 52) C dX7_shapes_22 (by decide) (fun c12 => ?_) (fun c12 => ?_)
    · replace hf := if_t c12 hf
      cases hf
      replace hz := zlz_r hz
      cases hz
      exact z_sub [0] rfl hk
    · replace hf := if_f c12 hf
      refine z_aload_n C 0 dX7_shapes_25 rfl rfl ?_
      refine z_geti C (Nat.le_of_ble_eq_true rfl) rfl rfl 42 (Nat.le_of_ble_eq_true rfl) rfl kiX7_shapes_X7 kfX7_shapes_177 dX7_shapes_26 ?_
      refine z_if_ne (tgt := 52) C dX7_shapes_29 (by decide) (fun c11 => ?_) (fun c11 => ?_)
      · replace hf := if_f c11 hf
        cases hf
        replace hz := zlz_r hz
        cases hz
        exact z_sub [0] rfl hk
      · replace hf := if_t c11 hf
        refine z_aload_n C 0 dX7_shapes_32 rfl rfl ?_
        obtain ⟨m9, hc8, hf⟩ := zb_el hf
        refine z_cVv C (c_X7_readShape _ _ hc8) rfl gX7_shapes_X7_readShape rfl rfl zdX7_readShape rfl (Nat.le_of_ble_eq_true rfl) rfl rfl rfl ⟨Nat.le_of_ble_eq_true rfl, Nat.le_of_ble_eq_true rfl⟩ (Nat.le_of_ble_eq_true rfl) dX7_shapes_33 rfl ?_
        refine z_aload_n C 0 dX7_shapes_36 rfl rfl ?_
        refine z_geti C (Nat.le_of_ble_eq_true rfl) rfl rfl 40 (Nat.le_of_ble_eq_true rfl) rfl kiX7_shapes_X7 kfX7_shapes_193 dX7_shapes_37 ?_
        refine z_if_eq (tgt := 47) C dX7_shapes_40 (by decide) (fun c10 => ?_) (fun c10 => ?_)
        · replace hf := if_t c10 hf
          refine z_iconst C (v := 0) dX7_shapes_47 rfl ?_
          refine z_istore_n C (lv2 := [(0, .ref ((zw K).2.1 0)), (1, .int 0)]) [1, 0] dX7_shapes_48 rfl (Nat.le_of_ble_eq_true rfl) rfl ?_
          refine z_goto (tgt := 21) C dX7_shapes_49 (by decide) ?_
          cases hf
          exact z_sub [0, 1] rfl (ih 0 m9 hz)
        · replace hf := if_f c10 hf
          refine z_iconst C (v := 1) dX7_shapes_43 rfl ?_
          refine z_goto (tgt := 48) C dX7_shapes_44 (by decide) ?_
          refine z_istore_n C (lv2 := [(0, .ref ((zw K).2.1 0)), (1, .int 1)]) [1, 0] dX7_shapes_48 rfl (Nat.le_of_ble_eq_true rfl) rfl ?_
          refine z_goto (tgt := 21) C dX7_shapes_49 (by decide) ?_
          cases hf
          exact z_sub [0, 1] rfl (ih 1 m9 hz)
set_option maxRecDepth 100000 in
set_option maxHeartbeats 4000000 in
theorem w_X7_shapes_93 {K : ZK} (C : zOK MM K cX7_shapes 3 (some .int) RX7 wsX7_shapes rmX7_shapes)   {o0 : Mem} (hk : zGo MM K o0 [(0, .ref ((zw K).2.1 0))] 155 []) : ∀ (n : Nat) (i17 : Int32) (m18 : Mem), l_X7_shapes_93  n i17 m18 = some o0 → zGo MM K m18 [(0, .ref ((zw K).2.1 0)), (2, .int i17)] 93 [] := by
  intro n
  induction n with
  | zero =>
    intro i17 m18 hf
    cases hf
  | succ n ih =>
    intro i17 m18 hf
    obtain ⟨z, hf, hz⟩ := zlp_el hf
    replace hf : t_X7_shapes_93  i17 m18 = some z := hf
    unfold t_X7_shapes_93 at hf
    refine z_iload_n C 1 dX7_shapes_93 rfl rfl ?_
    refine z_aload_n C 0 dX7_shapes_94 rfl rfl ?_
    refine z_geti C (Nat.le_of_ble_eq_true rfl) rfl rfl 7 (Nat.le_of_ble_eq_true rfl) rfl kiX7_shapes_X7 kfX7_shapes_258 dX7_shapes_95 ?_
    refine z_icmp_ge (tgt := 155) C dX7_shapes_98 (by decide) (fun c32 => ?_) (fun c32 => ?_)
    · replace hf := if_t c32 hf
      cases hf
      replace hz := zlz_r hz
      cases hz
      exact z_sub [0] rfl hk
    · replace hf := if_f c32 hf
      refine z_aload_n C 0 dX7_shapes_101 rfl rfl ?_
      refine z_getr C (t := 6) (Nat.le_of_ble_eq_true rfl) rfl rfl 8 (Nat.le_of_ble_eq_true rfl) rfl kiX7_shapes_X7 kfX7_shapes_26 dX7_shapes_102 ?_
      refine z_iload_n C 1 dX7_shapes_105 rfl rfl ?_
      refine z_aload_n C 0 dX7_shapes_106 rfl rfl ?_
      refine z_getr C (t := 19) (Nat.le_of_ble_eq_true rfl) rfl rfl 22 (Nat.le_of_ble_eq_true rfl) rfl kiX7_shapes_X7 kfX7_shapes_65 dX7_shapes_107 ?_
      refine z_iload_n C 1 dX7_shapes_110 rfl rfl ?_
      obtain ⟨hi19, hf⟩ := ck_el hf
      refine z_iald C (k := 19) (Nat.le_of_ble_eq_true rfl) rfl hi19 dX7_shapes_111 ?_
      obtain ⟨hi20, hf⟩ := ck_el hf
      refine z_iast C (k := 6) (Nat.le_of_ble_eq_true rfl) rfl hi20 dX7_shapes_112 ?_
      refine z_nm (fun m21 e_m21 => ?_)
      replace hf := bn_to e_m21 hf
      refine z_aload_n C 0 dX7_shapes_113 rfl rfl ?_
      refine z_getr C (t := 7) (Nat.le_of_ble_eq_true rfl) rfl rfl 9 (Nat.le_of_ble_eq_true rfl) rfl kiX7_shapes_X7 kfX7_shapes_29 dX7_shapes_114 ?_
      refine z_iload_n C 1 dX7_shapes_117 rfl rfl ?_
      refine z_aload_n C 0 dX7_shapes_118 rfl rfl ?_
      refine z_getr C (t := 20) (Nat.le_of_ble_eq_true rfl) rfl rfl 23 (Nat.le_of_ble_eq_true rfl) rfl kiX7_shapes_X7 kfX7_shapes_68 dX7_shapes_119 ?_
      refine z_iload_n C 1 dX7_shapes_122 rfl rfl ?_
      obtain ⟨hi22, hf⟩ := ck_el hf
      refine z_zald C (k := 20) (Nat.le_of_ble_eq_true rfl) rfl hi22 dX7_shapes_123 ?_
      obtain ⟨hi23, hf⟩ := ck_el hf
      refine z_zast C (k := 7) (Nat.le_of_ble_eq_true rfl) rfl hi23 dX7_shapes_124 ?_
      refine z_nm (fun m24 e_m24 => ?_)
      replace hf := bn_to e_m24 hf
      refine z_aload_n C 0 dX7_shapes_125 rfl rfl ?_
      refine z_getr C (t := 8) (Nat.le_of_ble_eq_true rfl) rfl rfl 10 (Nat.le_of_ble_eq_true rfl) rfl kiX7_shapes_X7 kfX7_shapes_32 dX7_shapes_126 ?_
      refine z_iload_n C 1 dX7_shapes_129 rfl rfl ?_
      refine z_aload_n C 0 dX7_shapes_130 rfl rfl ?_
      refine z_getr C (t := 21) (Nat.le_of_ble_eq_true rfl) rfl rfl 24 (Nat.le_of_ble_eq_true rfl) rfl kiX7_shapes_X7 kfX7_shapes_71 dX7_shapes_131 ?_
      refine z_iload_n C 1 dX7_shapes_134 rfl rfl ?_
      obtain ⟨hi25, hf⟩ := ck_el hf
      refine z_iald C (k := 21) (Nat.le_of_ble_eq_true rfl) rfl hi25 dX7_shapes_135 ?_
      obtain ⟨hi26, hf⟩ := ck_el hf
      refine z_iast C (k := 8) (Nat.le_of_ble_eq_true rfl) rfl hi26 dX7_shapes_136 ?_
      refine z_nm (fun m27 e_m27 => ?_)
      replace hf := bn_to e_m27 hf
      refine z_aload_n C 0 dX7_shapes_137 rfl rfl ?_
      refine z_getr C (t := 13) (Nat.le_of_ble_eq_true rfl) rfl rfl 15 (Nat.le_of_ble_eq_true rfl) rfl kiX7_shapes_X7 kfX7_shapes_47 dX7_shapes_138 ?_
      refine z_iload_n C 1 dX7_shapes_141 rfl rfl ?_
      refine z_aload_n C 0 dX7_shapes_142 rfl rfl ?_
      refine z_getr C (t := 27) (Nat.le_of_ble_eq_true rfl) rfl rfl 30 (Nat.le_of_ble_eq_true rfl) rfl kiX7_shapes_X7 kfX7_shapes_89 dX7_shapes_143 ?_
      refine z_iload_n C 1 dX7_shapes_146 rfl rfl ?_
      obtain ⟨hi28, hf⟩ := ck_el hf
      refine z_iald C (k := 27) (Nat.le_of_ble_eq_true rfl) rfl hi28 dX7_shapes_147 ?_
      obtain ⟨hi29, hf⟩ := ck_el hf
      refine z_iast C (k := 13) (Nat.le_of_ble_eq_true rfl) rfl hi29 dX7_shapes_148 ?_
      refine z_nm (fun m30 e_m30 => ?_)
      replace hf := bn_to e_m30 hf
      obtain ⟨x31, e_x31⟩ : ∃ y : Int32, y = i17 + 1 := ⟨_, rfl⟩
      replace hf := bn_to e_x31 hf
      refine z_iinc C (lv2 := [(0, .ref ((zw K).2.1 0)), (2, .int x31)]) 1 [1, 0] dX7_shapes_149 rfl rfl (Nat.le_of_ble_eq_true rfl) e_x31 rfl ?_
      refine z_goto (tgt := 93) C dX7_shapes_152 (by decide) ?_
      cases hf
      exact z_sub [0, 1] rfl (ih x31 m30 hz)
set_option maxRecDepth 100000 in
set_option maxHeartbeats 4000000 in
theorem w_X7_shapes_157 {K : ZK} (C : zOK MM K cX7_shapes 3 (some .int) RX7 wsX7_shapes rmX7_shapes)   {o0 : Mem} (hk : zGo MM K o0 [(0, .ref ((zw K).2.1 0))] 217 []) : ∀ (n : Nat) (i34 : Int32) (m35 : Mem), l_X7_shapes_157  n i34 m35 = some o0 → zGo MM K m35 [(0, .ref ((zw K).2.1 0)), (2, .int i34)] 157 [] := by
  intro n
  induction n with
  | zero =>
    intro i34 m35 hf
    cases hf
  | succ n ih =>
    intro i34 m35 hf
    obtain ⟨z, hf, hz⟩ := zlp_el hf
    replace hf : t_X7_shapes_157  i34 m35 = some z := hf
    unfold t_X7_shapes_157 at hf
    refine z_iload_n C 1 dX7_shapes_157 rfl rfl ?_
    refine z_bipush C (v := 36) dX7_shapes_158 rfl ?_
    refine z_icmp_ge (tgt := 217) C dX7_shapes_160 (by decide) (fun c49 => ?_) (fun c49 => ?_)
    · replace hf := if_t c49 hf
      cases hf
      replace hz := zlz_r hz
      cases hz
      exact z_sub [0] rfl hk
    · replace hf := if_f c49 hf
      refine z_aload_n C 0 dX7_shapes_163 rfl rfl ?_
      refine z_getr C (t := 9) (Nat.le_of_ble_eq_true rfl) rfl rfl 11 (Nat.le_of_ble_eq_true rfl) rfl kiX7_shapes_X7 kfX7_shapes_35 dX7_shapes_164 ?_
      refine z_iload_n C 1 dX7_shapes_167 rfl rfl ?_
      refine z_aload_n C 0 dX7_shapes_168 rfl rfl ?_
      refine z_getr C (t := 22) (Nat.le_of_ble_eq_true rfl) rfl rfl 25 (Nat.le_of_ble_eq_true rfl) rfl kiX7_shapes_X7 kfX7_shapes_74 dX7_shapes_169 ?_
      refine z_iload_n C 1 dX7_shapes_172 rfl rfl ?_
      obtain ⟨hi36, hf⟩ := ck_el hf
      refine z_iald C (k := 22) (Nat.le_of_ble_eq_true rfl) rfl hi36 dX7_shapes_173 ?_
      obtain ⟨hi37, hf⟩ := ck_el hf
      refine z_iast C (k := 9) (Nat.le_of_ble_eq_true rfl) rfl hi37 dX7_shapes_174 ?_
      refine z_nm (fun m38 e_m38 => ?_)
      replace hf := bn_to e_m38 hf
      refine z_aload_n C 0 dX7_shapes_175 rfl rfl ?_
      refine z_getr C (t := 10) (Nat.le_of_ble_eq_true rfl) rfl rfl 12 (Nat.le_of_ble_eq_true rfl) rfl kiX7_shapes_X7 kfX7_shapes_38 dX7_shapes_176 ?_
      refine z_iload_n C 1 dX7_shapes_179 rfl rfl ?_
      refine z_aload_n C 0 dX7_shapes_180 rfl rfl ?_
      refine z_getr C (t := 23) (Nat.le_of_ble_eq_true rfl) rfl rfl 26 (Nat.le_of_ble_eq_true rfl) rfl kiX7_shapes_X7 kfX7_shapes_77 dX7_shapes_181 ?_
      refine z_iload_n C 1 dX7_shapes_184 rfl rfl ?_
      obtain ⟨hi39, hf⟩ := ck_el hf
      refine z_iald C (k := 23) (Nat.le_of_ble_eq_true rfl) rfl hi39 dX7_shapes_185 ?_
      obtain ⟨hi40, hf⟩ := ck_el hf
      refine z_iast C (k := 10) (Nat.le_of_ble_eq_true rfl) rfl hi40 dX7_shapes_186 ?_
      refine z_nm (fun m41 e_m41 => ?_)
      replace hf := bn_to e_m41 hf
      refine z_aload_n C 0 dX7_shapes_187 rfl rfl ?_
      refine z_getr C (t := 11) (Nat.le_of_ble_eq_true rfl) rfl rfl 13 (Nat.le_of_ble_eq_true rfl) rfl kiX7_shapes_X7 kfX7_shapes_41 dX7_shapes_188 ?_
      refine z_iload_n C 1 dX7_shapes_191 rfl rfl ?_
      refine z_aload_n C 0 dX7_shapes_192 rfl rfl ?_
      refine z_getr C (t := 24) (Nat.le_of_ble_eq_true rfl) rfl rfl 27 (Nat.le_of_ble_eq_true rfl) rfl kiX7_shapes_X7 kfX7_shapes_80 dX7_shapes_193 ?_
      refine z_iload_n C 1 dX7_shapes_196 rfl rfl ?_
      obtain ⟨hi42, hf⟩ := ck_el hf
      refine z_iald C (k := 24) (Nat.le_of_ble_eq_true rfl) rfl hi42 dX7_shapes_197 ?_
      obtain ⟨hi43, hf⟩ := ck_el hf
      refine z_iast C (k := 11) (Nat.le_of_ble_eq_true rfl) rfl hi43 dX7_shapes_198 ?_
      refine z_nm (fun m44 e_m44 => ?_)
      replace hf := bn_to e_m44 hf
      refine z_aload_n C 0 dX7_shapes_199 rfl rfl ?_
      refine z_getr C (t := 12) (Nat.le_of_ble_eq_true rfl) rfl rfl 14 (Nat.le_of_ble_eq_true rfl) rfl kiX7_shapes_X7 kfX7_shapes_44 dX7_shapes_200 ?_
      refine z_iload_n C 1 dX7_shapes_203 rfl rfl ?_
      refine z_aload_n C 0 dX7_shapes_204 rfl rfl ?_
      refine z_getr C (t := 25) (Nat.le_of_ble_eq_true rfl) rfl rfl 28 (Nat.le_of_ble_eq_true rfl) rfl kiX7_shapes_X7 kfX7_shapes_83 dX7_shapes_205 ?_
      refine z_iload_n C 1 dX7_shapes_208 rfl rfl ?_
      obtain ⟨hi45, hf⟩ := ck_el hf
      refine z_iald C (k := 25) (Nat.le_of_ble_eq_true rfl) rfl hi45 dX7_shapes_209 ?_
      obtain ⟨hi46, hf⟩ := ck_el hf
      refine z_iast C (k := 12) (Nat.le_of_ble_eq_true rfl) rfl hi46 dX7_shapes_210 ?_
      refine z_nm (fun m47 e_m47 => ?_)
      replace hf := bn_to e_m47 hf
      obtain ⟨x48, e_x48⟩ : ∃ y : Int32, y = i34 + 1 := ⟨_, rfl⟩
      replace hf := bn_to e_x48 hf
      refine z_iinc C (lv2 := [(0, .ref ((zw K).2.1 0)), (2, .int x48)]) 1 [1, 0] dX7_shapes_211 rfl rfl (Nat.le_of_ble_eq_true rfl) e_x48 rfl ?_
      refine z_goto (tgt := 157) C dX7_shapes_214 (by decide) ?_
      cases hf
      exact z_sub [0, 1] rfl (ih x48 m47 hz)
set_option maxRecDepth 100000 in
set_option maxHeartbeats 4000000 in
theorem w_X7_shapes_219 {K : ZK} (C : zOK MM K cX7_shapes 3 (some .int) RX7 wsX7_shapes rmX7_shapes)   {o0 : Mem} (hk : zGo MM K o0 [(0, .ref ((zw K).2.1 0))] 292 []) : ∀ (n : Nat) (i51 : Int32) (m52 : Mem), l_X7_shapes_219  n i51 m52 = some o0 → zGo MM K m52 [(0, .ref ((zw K).2.1 0)), (2, .int i51)] 219 [] := by
  intro n
  induction n with
  | zero =>
    intro i51 m52 hf
    cases hf
  | succ n ih =>
    intro i51 m52 hf
    obtain ⟨z, hf, hz⟩ := zlp_el hf
    replace hf : t_X7_shapes_219  i51 m52 = some z := hf
    unfold t_X7_shapes_219 at hf
    refine z_iload_n C 1 dX7_shapes_219 rfl rfl ?_
    refine z_sipush C (v := 960) dX7_shapes_220 rfl ?_
    refine z_icmp_ge (tgt := 292) C dX7_shapes_223 (by decide) (fun c69 => ?_) (fun c69 => ?_)
    · replace hf := if_t c69 hf
      cases hf
      replace hz := zlz_r hz
      cases hz
      exact z_sub [0] rfl hk
    · replace hf := if_f c69 hf
      refine z_aload_n C 0 dX7_shapes_226 rfl rfl ?_
      refine z_getr C (t := 14) (Nat.le_of_ble_eq_true rfl) rfl rfl 16 (Nat.le_of_ble_eq_true rfl) rfl kiX7_shapes_X7 kfX7_shapes_50 dX7_shapes_227 ?_
      refine z_iload_n C 1 dX7_shapes_230 rfl rfl ?_
      refine z_aload_n C 0 dX7_shapes_231 rfl rfl ?_
      refine z_getr C (t := 28) (Nat.le_of_ble_eq_true rfl) rfl rfl 31 (Nat.le_of_ble_eq_true rfl) rfl kiX7_shapes_X7 kfX7_shapes_92 dX7_shapes_232 ?_
      refine z_iload_n C 1 dX7_shapes_235 rfl rfl ?_
      obtain ⟨hi53, hf⟩ := ck_el hf
      refine z_iald C (k := 28) (Nat.le_of_ble_eq_true rfl) rfl hi53 dX7_shapes_236 ?_
      obtain ⟨hi54, hf⟩ := ck_el hf
      refine z_iast C (k := 14) (Nat.le_of_ble_eq_true rfl) rfl hi54 dX7_shapes_237 ?_
      refine z_nm (fun m55 e_m55 => ?_)
      replace hf := bn_to e_m55 hf
      refine z_aload_n C 0 dX7_shapes_238 rfl rfl ?_
      refine z_getr C (t := 15) (Nat.le_of_ble_eq_true rfl) rfl rfl 17 (Nat.le_of_ble_eq_true rfl) rfl kiX7_shapes_X7 kfX7_shapes_53 dX7_shapes_239 ?_
      refine z_iload_n C 1 dX7_shapes_242 rfl rfl ?_
      refine z_aload_n C 0 dX7_shapes_243 rfl rfl ?_
      refine z_getr C (t := 29) (Nat.le_of_ble_eq_true rfl) rfl rfl 32 (Nat.le_of_ble_eq_true rfl) rfl kiX7_shapes_X7 kfX7_shapes_95 dX7_shapes_244 ?_
      refine z_iload_n C 1 dX7_shapes_247 rfl rfl ?_
      obtain ⟨hi56, hf⟩ := ck_el hf
      refine z_iald C (k := 29) (Nat.le_of_ble_eq_true rfl) rfl hi56 dX7_shapes_248 ?_
      obtain ⟨hi57, hf⟩ := ck_el hf
      refine z_iast C (k := 15) (Nat.le_of_ble_eq_true rfl) rfl hi57 dX7_shapes_249 ?_
      refine z_nm (fun m58 e_m58 => ?_)
      replace hf := bn_to e_m58 hf
      refine z_aload_n C 0 dX7_shapes_250 rfl rfl ?_
      refine z_getr C (t := 16) (Nat.le_of_ble_eq_true rfl) rfl rfl 18 (Nat.le_of_ble_eq_true rfl) rfl kiX7_shapes_X7 kfX7_shapes_56 dX7_shapes_251 ?_
      refine z_iload_n C 1 dX7_shapes_254 rfl rfl ?_
      refine z_aload_n C 0 dX7_shapes_255 rfl rfl ?_
      refine z_getr C (t := 30) (Nat.le_of_ble_eq_true rfl) rfl rfl 33 (Nat.le_of_ble_eq_true rfl) rfl kiX7_shapes_X7 kfX7_shapes_98 dX7_shapes_256 ?_
      refine z_iload_n C 1 dX7_shapes_259 rfl rfl ?_
      obtain ⟨hi59, hf⟩ := ck_el hf
      refine z_iald C (k := 30) (Nat.le_of_ble_eq_true rfl) rfl hi59 dX7_shapes_260 ?_
      obtain ⟨hi60, hf⟩ := ck_el hf
      refine z_iast C (k := 16) (Nat.le_of_ble_eq_true rfl) rfl hi60 dX7_shapes_261 ?_
      refine z_nm (fun m61 e_m61 => ?_)
      replace hf := bn_to e_m61 hf
      refine z_aload_n C 0 dX7_shapes_262 rfl rfl ?_
      refine z_getr C (t := 17) (Nat.le_of_ble_eq_true rfl) rfl rfl 19 (Nat.le_of_ble_eq_true rfl) rfl kiX7_shapes_X7 kfX7_shapes_59 dX7_shapes_263 ?_
      refine z_iload_n C 1 dX7_shapes_266 rfl rfl ?_
      refine z_aload_n C 0 dX7_shapes_267 rfl rfl ?_
      refine z_getr C (t := 31) (Nat.le_of_ble_eq_true rfl) rfl rfl 34 (Nat.le_of_ble_eq_true rfl) rfl kiX7_shapes_X7 kfX7_shapes_101 dX7_shapes_268 ?_
      refine z_iload_n C 1 dX7_shapes_271 rfl rfl ?_
      obtain ⟨hi62, hf⟩ := ck_el hf
      refine z_iald C (k := 31) (Nat.le_of_ble_eq_true rfl) rfl hi62 dX7_shapes_272 ?_
      obtain ⟨hi63, hf⟩ := ck_el hf
      refine z_iast C (k := 17) (Nat.le_of_ble_eq_true rfl) rfl hi63 dX7_shapes_273 ?_
      refine z_nm (fun m64 e_m64 => ?_)
      replace hf := bn_to e_m64 hf
      refine z_aload_n C 0 dX7_shapes_274 rfl rfl ?_
      refine z_getr C (t := 18) (Nat.le_of_ble_eq_true rfl) rfl rfl 20 (Nat.le_of_ble_eq_true rfl) rfl kiX7_shapes_X7 kfX7_shapes_62 dX7_shapes_275 ?_
      refine z_iload_n C 1 dX7_shapes_278 rfl rfl ?_
      refine z_aload_n C 0 dX7_shapes_279 rfl rfl ?_
      refine z_getr C (t := 32) (Nat.le_of_ble_eq_true rfl) rfl rfl 35 (Nat.le_of_ble_eq_true rfl) rfl kiX7_shapes_X7 kfX7_shapes_104 dX7_shapes_280 ?_
      refine z_iload_n C 1 dX7_shapes_283 rfl rfl ?_
      obtain ⟨hi65, hf⟩ := ck_el hf
      refine z_iald C (k := 32) (Nat.le_of_ble_eq_true rfl) rfl hi65 dX7_shapes_284 ?_
      obtain ⟨hi66, hf⟩ := ck_el hf
      refine z_iast C (k := 18) (Nat.le_of_ble_eq_true rfl) rfl hi66 dX7_shapes_285 ?_
      refine z_nm (fun m67 e_m67 => ?_)
      replace hf := bn_to e_m67 hf
      obtain ⟨x68, e_x68⟩ : ∃ y : Int32, y = i51 + 1 := ⟨_, rfl⟩
      replace hf := bn_to e_x68 hf
      refine z_iinc C (lv2 := [(0, .ref ((zw K).2.1 0)), (2, .int x68)]) 1 [1, 0] dX7_shapes_286 rfl rfl (Nat.le_of_ble_eq_true rfl) e_x68 rfl ?_
      refine z_goto (tgt := 219) C dX7_shapes_289 (by decide) ?_
      cases hf
      exact z_sub [0, 1] rfl (ih x68 m67 hz)
set_option maxRecDepth 100000 in
set_option maxHeartbeats 4000000 in
theorem c_X7_shapes (l : Launch) (w : ZW) {m : Mem}  {r9 : Int32} {m9 : Mem}  (hf : s_X7_shapes m  = some (r9, m9)) : zCi MM l w yX7_shapes wsX7_shapes rmX7_shapes [.ref (w.2.1 0)] m m9 r9 := by
  refine z_met_i MM_ok (own := RX7) (by decide +kernel) rfl rfl (Nat.le_of_ble_eq_true rfl) ?_
  intro K C hKw hKl hret
  subst hKw
  subst hKl
  unfold s_X7_shapes at hf
  show zGo MM K m [(0, .ref ((zw K).2.1 0))] 0 []
  refine z_aload_n C 0 dX7_shapes_0 rfl rfl ?_
  refine z_iconst C (v := 0) dX7_shapes_1 rfl ?_
  refine z_puti C (Nat.le_of_ble_eq_true rfl) rfl rfl 42 (Nat.le_of_ble_eq_true rfl) rfl kiX7_shapes_X7 kfX7_shapes_177 tyX7 tyX7_ok nmX7 rfl rfl dX7_shapes_2 ?_
  refine z_nm (fun m1 e_m1 => ?_)
  replace hf := bn_to e_m1 hf
  refine z_aload_n C 0 dX7_shapes_5 rfl rfl ?_
  refine z_iconst C (v := 0) dX7_shapes_6 rfl ?_
  refine z_puti C (Nat.le_of_ble_eq_true rfl) rfl rfl 38 (Nat.le_of_ble_eq_true rfl) rfl kiX7_shapes_X7 kfX7_shapes_183 tyX7 tyX7_ok nmX7 rfl rfl dX7_shapes_7 ?_
  refine z_nm (fun m2 e_m2 => ?_)
  replace hf := bn_to e_m2 hf
  refine z_aload_n C 0 dX7_shapes_10 rfl rfl ?_
  refine z_iconst C (v := 0) dX7_shapes_11 rfl ?_
  refine z_puti C (Nat.le_of_ble_eq_true rfl) rfl rfl 21 (Nat.le_of_ble_eq_true rfl) rfl kiX7_shapes_X7 kfX7_shapes_234 tyX7 tyX7_ok nmX7 rfl rfl dX7_shapes_12 ?_
  refine z_nm (fun m3 e_m3 => ?_)
  replace hf := bn_to e_m3 hf
  refine z_aload_n C 0 dX7_shapes_15 rfl rfl ?_
  obtain ⟨m5, hc4, hf⟩ := zb_el hf
  refine z_cVv C (c_X7_next _ _ hc4) rfl gX7_shapes_X7_next rfl rfl zdX7_next rfl (Nat.le_of_ble_eq_true rfl) rfl rfl rfl ⟨Nat.le_of_ble_eq_true rfl, Nat.le_of_ble_eq_true rfl⟩ (Nat.le_of_ble_eq_true rfl) dX7_shapes_16 rfl ?_
  refine z_iconst C (v := 1) dX7_shapes_19 rfl ?_
  refine z_istore_n C (lv2 := [(0, .ref ((zw K).2.1 0)), (1, .int 1)]) [1, 0] dX7_shapes_20 rfl (Nat.le_of_ble_eq_true rfl) rfl ?_
  obtain ⟨m13, hg, hf⟩ := zb_el hf
  refine z_sub [0, 1] rfl (w_X7_shapes_21 C  ?_ _ _ _ hg)
  clear hg
  refine z_aload_n C 0 dX7_shapes_52 rfl rfl ?_
  refine z_geti C (Nat.le_of_ble_eq_true rfl) rfl rfl 42 (Nat.le_of_ble_eq_true rfl) rfl kiX7_shapes_X7 kfX7_shapes_177 dX7_shapes_53 ?_
  obtain ⟨m14, hg, hf⟩ := zb_el hf
  have hj : zGo MM K m14 [(0, .ref ((zw K).2.1 0))] 63 [] := by
    refine z_aload_n C 0 dX7_shapes_63 rfl rfl ?_
    refine z_iconst C (v := 0) dX7_shapes_64 rfl ?_
    refine z_puti C (Nat.le_of_ble_eq_true rfl) rfl rfl 37 (Nat.le_of_ble_eq_true rfl) rfl kiX7_shapes_X7 kfX7_shapes_170 tyX7 tyX7_ok nmX7 rfl rfl dX7_shapes_65 ?_
    refine z_nm (fun m15 e_m15 => ?_)
    replace hf := bn_to e_m15 hf
    refine z_aload_n C 0 dX7_shapes_68 rfl rfl ?_
    refine z_geti C (Nat.le_of_ble_eq_true rfl) rfl rfl 42 (Nat.le_of_ble_eq_true rfl) rfl kiX7_shapes_X7 kfX7_shapes_177 dX7_shapes_69 ?_
    refine z_if_le (tgt := 83) C dX7_shapes_72 (by decide) (fun c72 => ?_) (fun c72 => ?_)
    · replace hf := if_t c72 hf
      refine z_aload_n C 0 dX7_shapes_83 rfl rfl ?_
      refine z_aload_n C 0 dX7_shapes_84 rfl rfl ?_
      refine z_geti C (Nat.le_of_ble_eq_true rfl) rfl rfl 21 (Nat.le_of_ble_eq_true rfl) rfl kiX7_shapes_X7 kfX7_shapes_234 dX7_shapes_85 ?_
      refine z_puti C (Nat.le_of_ble_eq_true rfl) rfl rfl 7 (Nat.le_of_ble_eq_true rfl) rfl kiX7_shapes_X7 kfX7_shapes_258 tyX7 tyX7_ok nmX7 rfl rfl dX7_shapes_88 ?_
      refine z_nm (fun m16 e_m16 => ?_)
      replace hf := bn_to e_m16 hf
      refine z_iconst C (v := 0) dX7_shapes_91 rfl ?_
      refine z_istore_n C (lv2 := [(0, .ref ((zw K).2.1 0)), (2, .int 0)]) [1, 0] dX7_shapes_92 rfl (Nat.le_of_ble_eq_true rfl) rfl ?_
      obtain ⟨m33, hg, hf⟩ := zb_el hf
      refine z_sub [0, 1] rfl (w_X7_shapes_93 C  ?_ _ _ _ hg)
      clear hg
      refine z_iconst C (v := 0) dX7_shapes_155 rfl ?_
      refine z_istore_n C (lv2 := [(0, .ref ((zw K).2.1 0)), (2, .int 0)]) [1, 0] dX7_shapes_156 rfl (Nat.le_of_ble_eq_true rfl) rfl ?_
      obtain ⟨m50, hg, hf⟩ := zb_el hf
      refine z_sub [0, 1] rfl (w_X7_shapes_157 C  ?_ _ _ _ hg)
      clear hg
      refine z_iconst C (v := 0) dX7_shapes_217 rfl ?_
      refine z_istore_n C (lv2 := [(0, .ref ((zw K).2.1 0)), (2, .int 0)]) [1, 0] dX7_shapes_218 rfl (Nat.le_of_ble_eq_true rfl) rfl ?_
      obtain ⟨m70, hg, hf⟩ := zb_el hf
      refine z_sub [0, 1] rfl (w_X7_shapes_219 C  ?_ _ _ _ hg)
      clear hg
      refine z_aload_n C 0 dX7_shapes_292 rfl rfl ?_
      refine z_iconst C (v := 0) dX7_shapes_293 rfl ?_
      refine z_putz C (Nat.le_of_ble_eq_true rfl) rfl rfl 6 (Nat.le_of_ble_eq_true rfl) rfl kiX7_shapes_X7 kfX7_shapes_148 tyX7 tyX7_ok nmX7 rfl rfl (Or.inl rfl) dX7_shapes_294 ?_
      refine z_nm (fun m71 e_m71 => ?_)
      replace hf := bn_to e_m71 hf
      refine z_aload_n C 0 dX7_shapes_297 rfl rfl ?_
      refine z_geti C (Nat.le_of_ble_eq_true rfl) rfl rfl 7 (Nat.le_of_ble_eq_true rfl) rfl kiX7_shapes_X7 kfX7_shapes_258 dX7_shapes_298 ?_
      obtain ⟨e1, e2⟩ := sp_el hf
      subst e1
      subst e2
      exact hret _ _ dX7_shapes_301
    · replace hf := if_f c72 hf
      refine z_bipush C (v := (-10)) dX7_shapes_75 (by decide) ?_
      refine z_aload_n C 0 dX7_shapes_77 rfl rfl ?_
      refine z_geti C (Nat.le_of_ble_eq_true rfl) rfl rfl 43 (Nat.le_of_ble_eq_true rfl) rfl kiX7_shapes_X7 kfX7_shapes_180 dX7_shapes_78 ?_
      refine z_isub C dX7_shapes_81 ?_
      obtain ⟨e1, e2⟩ := sp_el hf
      subst e1
      subst e2
      exact hret _ _ dX7_shapes_82
  replace hf := hg
  clear hg
  refine z_if_ne (tgt := 63) C dX7_shapes_56 (by decide) (fun c75 => ?_) (fun c75 => ?_)
  · replace hf := if_f c75 hf
    cases hf
    exact z_sub [0] rfl hj
  · replace hf := if_t c75 hf
    refine z_aload_n C 0 dX7_shapes_59 rfl rfl ?_
    obtain ⟨m74, hc73, hf⟩ := zb_el hf
    refine z_cVv C (c_X7_settleWords _ _ hc73) rfl gX7_shapes_X7_settleWords rfl rfl zdX7_settleWords rfl (Nat.le_of_ble_eq_true rfl) rfl rfl rfl ⟨Nat.le_of_ble_eq_true rfl, Nat.le_of_ble_eq_true rfl⟩ (Nat.le_of_ble_eq_true rfl) dX7_shapes_60 rfl ?_
    cases hf
    exact z_sub [0] rfl hj
