theorem dX1_isAhead_0 : decode cX1_isAhead 0 = .ok (.iload_n 1, 1) := by decide +kernel
theorem dX1_isAhead_1 : decode cX1_isAhead 1 = .ok (.aload_n 0, 1) := by decide +kernel
theorem dX1_isAhead_2 : decode cX1_isAhead 2 = .ok (.getfield 22, 3) := by decide +kernel
theorem dX1_isAhead_5 : decode cX1_isAhead 5 = .ok (.iload_n 3, 1) := by decide +kernel
theorem dX1_isAhead_6 : decode cX1_isAhead 6 = .ok (.iaload, 1) := by decide +kernel
theorem dX1_isAhead_7 : decode cX1_isAhead 7 = .ok (.if_icmp .lt 23, 3) := by decide +kernel
theorem dX1_isAhead_10 : decode cX1_isAhead 10 = .ok (.iload_n 1, 1) := by decide +kernel
theorem dX1_isAhead_11 : decode cX1_isAhead 11 = .ok (.aload_n 0, 1) := by decide +kernel
theorem dX1_isAhead_12 : decode cX1_isAhead 12 = .ok (.getfield 22, 3) := by decide +kernel
theorem dX1_isAhead_15 : decode cX1_isAhead 15 = .ok (.iload_n 3, 1) := by decide +kernel
theorem dX1_isAhead_16 : decode cX1_isAhead 16 = .ok (.iaload, 1) := by decide +kernel
theorem dX1_isAhead_17 : decode cX1_isAhead 17 = .ok (.if_icmp .ne 17, 3) := by decide +kernel
theorem dX1_isAhead_20 : decode cX1_isAhead 20 = .ok (.iload_n 2, 1) := by decide +kernel
theorem dX1_isAhead_21 : decode cX1_isAhead 21 = .ok (.aload_n 0, 1) := by decide +kernel
theorem dX1_isAhead_22 : decode cX1_isAhead 22 = .ok (.getfield 25, 3) := by decide +kernel
theorem dX1_isAhead_25 : decode cX1_isAhead 25 = .ok (.iload_n 3, 1) := by decide +kernel
theorem dX1_isAhead_26 : decode cX1_isAhead 26 = .ok (.iaload, 1) := by decide +kernel
theorem dX1_isAhead_27 : decode cX1_isAhead 27 = .ok (.if_icmp .ge 7, 3) := by decide +kernel
theorem dX1_isAhead_30 : decode cX1_isAhead 30 = .ok (.iconst 1, 1) := by decide +kernel
theorem dX1_isAhead_31 : decode cX1_isAhead 31 = .ok (.goto 4, 3) := by decide +kernel
theorem dX1_isAhead_34 : decode cX1_isAhead 34 = .ok (.iconst 0, 1) := by decide +kernel
theorem dX1_isAhead_35 : decode cX1_isAhead 35 = .ok (.ireturn, 1) := by decide +kernel
def rmX1_isAhead : Room := { frames := 0, cells := 0, slots := 0, locals := 0 }
theorem zdX1_isAhead : yX1_isAhead.cls = RX1 ∧ yX1_isAhead.cls ≠ "java/lang/invoke/MethodHandle" ∧ yX1_isAhead.cls ≠ "java/lang/invoke/VarHandle" ∧ (parseMethodDescriptor yX1_isAhead.desc).map (fun d => d.parameters.length) = some 3 := by decide +kernel
theorem kiX1_isAhead_X1 : ∀ w ∈ wsX10, w ∈ wsX1_isAhead := fun _ h => (List.mem_cons_of_mem _ (List.mem_append_right _ h))
theorem kfX1_isAhead_22 : Cond.fieldLink RX1 22 "ShapeJudge$Graph" "edgeName" "[I" ∈ wsX1_isAhead := (List.mem_of_getElem? (i := 1) rfl)
theorem kfX1_isAhead_25 : Cond.fieldLink RX1 25 "ShapeJudge$Graph" "edgeTo" "[I" ∈ wsX1_isAhead := (List.mem_of_getElem? (i := 2) rfl)
def s_X1_isAhead (m : Mem) (a1 : Int32) (a2 : Int32) (a3 : Int32) : Option (Int32) :=
  ck (zin a3 50 = true) ((if a1 < (m 5 (Int32.toNatClampNeg a3)) then (some 1) else (ck (zin a3 50 = true) ((if a1 = (m 5 (Int32.toNatClampNeg a3)) then (ck (zin a3 50 = true) ((if (m 6 (Int32.toNatClampNeg a3)) ≤ a2 then (some 0) else (some 1)))) else (some 0))))))
set_option maxRecDepth 100000 in
set_option maxHeartbeats 4000000 in
theorem c_X1_isAhead (l : Launch) (w : ZW) {m : Mem} {a1 : Int32} {a2 : Int32} {a3 : Int32} {r9 : Int32}  (hf : s_X1_isAhead m a1 a2 a3 = some r9) : zCi MX l w yX1_isAhead wsX1_isAhead rmX1_isAhead [.ref (w.2.1 1), .int a1, .int a2, .int a3] m m r9 := by
  refine z_met_z MX_ok (own := RX1) (by decide +kernel) rfl rfl (Nat.le_of_ble_eq_true rfl) ?_
  intro K C hKw hKl hret
  subst hKw
  subst hKl
  unfold s_X1_isAhead at hf
  show zGo MX K m [(0, .ref ((zw K).2.1 1)), (1, .int a1), (2, .int a2), (3, .int a3)] 0 []
  refine z_iload_n C 1 dX1_isAhead_0 rfl rfl ?_
  refine z_aload_n C 0 dX1_isAhead_1 rfl rfl ?_
  refine z_getr C (t := 5) (Nat.le_of_ble_eq_true rfl) rfl rfl 5 (Nat.le_of_ble_eq_true rfl) rfl kiX1_isAhead_X1 kfX1_isAhead_22 dX1_isAhead_2 ?_
  refine z_iload_n C 3 dX1_isAhead_5 rfl rfl ?_
  obtain ⟨hi1, hf⟩ := ck_el hf
  refine z_iald C (k := 5) (Nat.le_of_ble_eq_true rfl) rfl hi1 dX1_isAhead_6 ?_
  refine z_icmp_lt (tgt := 30) C dX1_isAhead_7 (by decide) (fun c6 => ?_) (fun c6 => ?_)
  · replace hf := if_t c6 hf
    refine z_iconst C (v := 1) dX1_isAhead_30 rfl ?_
    refine z_goto (tgt := 35) C dX1_isAhead_31 (by decide) ?_
    cases hf
    exact hret _ _ dX1_isAhead_35 (Or.inr rfl)
  · replace hf := if_f c6 hf
    refine z_iload_n C 1 dX1_isAhead_10 rfl rfl ?_
    refine z_aload_n C 0 dX1_isAhead_11 rfl rfl ?_
    refine z_getr C (t := 5) (Nat.le_of_ble_eq_true rfl) rfl rfl 5 (Nat.le_of_ble_eq_true rfl) rfl kiX1_isAhead_X1 kfX1_isAhead_22 dX1_isAhead_12 ?_
    refine z_iload_n C 3 dX1_isAhead_15 rfl rfl ?_
    obtain ⟨hi2, hf⟩ := ck_el hf
    refine z_iald C (k := 5) (Nat.le_of_ble_eq_true rfl) rfl hi2 dX1_isAhead_16 ?_
    refine z_icmp_ne (tgt := 34) C dX1_isAhead_17 (by decide) (fun c5 => ?_) (fun c5 => ?_)
    · replace hf := if_f c5 hf
      refine z_iconst C (v := 0) dX1_isAhead_34 rfl ?_
      cases hf
      exact hret _ _ dX1_isAhead_35 (Or.inl rfl)
    · replace hf := if_t c5 hf
      refine z_iload_n C 2 dX1_isAhead_20 rfl rfl ?_
      refine z_aload_n C 0 dX1_isAhead_21 rfl rfl ?_
      refine z_getr C (t := 6) (Nat.le_of_ble_eq_true rfl) rfl rfl 6 (Nat.le_of_ble_eq_true rfl) rfl kiX1_isAhead_X1 kfX1_isAhead_25 dX1_isAhead_22 ?_
      refine z_iload_n C 3 dX1_isAhead_25 rfl rfl ?_
      obtain ⟨hi3, hf⟩ := ck_el hf
      refine z_iald C (k := 6) (Nat.le_of_ble_eq_true rfl) rfl hi3 dX1_isAhead_26 ?_
      refine z_icmp_ge (tgt := 34) C dX1_isAhead_27 (by decide) (fun c4 => ?_) (fun c4 => ?_)
      · replace hf := if_t c4 hf
        refine z_iconst C (v := 0) dX1_isAhead_34 rfl ?_
        cases hf
        exact hret _ _ dX1_isAhead_35 (Or.inl rfl)
      · replace hf := if_f c4 hf
        refine z_iconst C (v := 1) dX1_isAhead_30 rfl ?_
        refine z_goto (tgt := 35) C dX1_isAhead_31 (by decide) ?_
        cases hf
        exact hret _ _ dX1_isAhead_35 (Or.inr rfl)
set_option maxRecDepth 20000 in
theorem ggX1_addEdge_X1_isAhead : GoodIn wsX1_addEdge wsX1_isAhead := goodIn_sub (List.forall_mem_cons.mpr ⟨(List.mem_of_getElem? (i := 9) rfl), (List.forall_mem_append.mpr ⟨(List.forall_mem_cons.mpr ⟨(List.mem_of_getElem? (i := 2) rfl), (List.forall_mem_cons.mpr ⟨(List.mem_of_getElem? (i := 3) rfl), (fun _ h => absurd h List.not_mem_nil)⟩)⟩), (fun _ h => (List.mem_cons_of_mem _ (List.mem_append_right _ h)))⟩)⟩) (by decide +kernel)
set_option maxRecDepth 20000 in
theorem gX1_addEdge_X1_isAhead : GoodIn wsX1_addEdge (wsV RX1 43 RX1 yX1_isAhead wsX1_isAhead) := goodIn_app (goodIn_sub (List.forall_mem_cons.mpr ⟨(List.mem_of_getElem? (i := 5) rfl), (List.forall_mem_cons.mpr ⟨(List.mem_of_getElem? (i := 6) rfl), (List.forall_mem_cons.mpr ⟨(List.mem_of_getElem? (i := 7) rfl), (List.forall_mem_cons.mpr ⟨(List.mem_of_getElem? (i := 8) rfl), (fun _ h => absurd h List.not_mem_nil)⟩)⟩)⟩)⟩) (by decide +kernel)) ggX1_addEdge_X1_isAhead
set_option maxRecDepth 100000 in
theorem daX1_addEdge : ∀ q ∈ ([(0, .iload_n 1, 1), (1, .iconst 5, 1), (2, .imul, 1), (3, .aload_n 0, 1), (4, .getfield 19, 3), (7, .iload_n 1, 1), (8, .iaload, 1), (9, .iadd, 1), (10, .istore 4, 2), (12, .iload_n 1, 1), (13, .iconst 5, 1), (14, .imul, 1), (15, .istore 5, 2), (17, .iload 4, 2), (19, .iload 5, 2), (21, .if_icmp .le 54, 3), (24, .aload_n 0, 1), (25, .iload_n 2, 1), (26, .iload_n 3, 1), (27, .iload 4, 2), (29, .iconst 1, 1), (30, .isub, 1), (31, .invokevirtual 43, 3), (34, .ifCond .eq 41, 3), (37, .aload_n 0, 1), (38, .getfield 22, 3), (41, .iload 4, 2), (43, .aload_n 0, 1), (44, .getfield 22, 3), (47, .iload 4, 2), (49, .iconst 1, 1), (50, .isub, 1), (51, .iaload, 1), (52, .iastore, 1), (53, .aload_n 0, 1), (54, .getfield 25, 3), (57, .iload 4, 2), (59, .aload_n 0, 1), (60, .getfield 25, 3), (63, .iload 4, 2), (65, .iconst 1, 1), (66, .isub, 1), (67, .iaload, 1), (68, .iastore, 1), (69, .iinc 4 (-1), 3), (72, .goto (-55), 3), (75, .aload_n 0, 1), (76, .getfield 22, 3), (79, .iload 4, 2), (81, .iload_n 2, 1), (82, .iastore, 1), (83, .aload_n 0, 1), (84, .getfield 25, 3), (87, .iload 4, 2), (89, .iload_n 3, 1), (90, .iastore, 1), (91, .aload_n 0, 1), (92, .getfield 19, 3), (95, .iload_n 1, 1), (96, .dup2, 1), (97, .iaload, 1), (98, .iconst 1, 1), (99, .iadd, 1), (100, .iastore, 1), (101, .aload_n 0, 1), (102, .dup, 1), (103, .getfield 36, 3), (106, .iconst 1, 1), (107, .iadd, 1), (108, .putfield 36, 3), (111, .return_, 1)] : List (Nat × Instr × Nat)), decode cX1_addEdge q.1 = .ok q.2 := by decide +kernel
theorem dX1_addEdge_0 : decode cX1_addEdge 0 = .ok (.iload_n 1, 1) := daX1_addEdge (0, .iload_n 1, 1) (List.mem_of_getElem? (i := 0) rfl)
theorem dX1_addEdge_1 : decode cX1_addEdge 1 = .ok (.iconst 5, 1) := daX1_addEdge (1, .iconst 5, 1) (List.mem_of_getElem? (i := 1) rfl)
theorem dX1_addEdge_2 : decode cX1_addEdge 2 = .ok (.imul, 1) := daX1_addEdge (2, .imul, 1) (List.mem_of_getElem? (i := 2) rfl)
theorem dX1_addEdge_3 : decode cX1_addEdge 3 = .ok (.aload_n 0, 1) := daX1_addEdge (3, .aload_n 0, 1) (List.mem_of_getElem? (i := 3) rfl)
theorem dX1_addEdge_4 : decode cX1_addEdge 4 = .ok (.getfield 19, 3) := daX1_addEdge (4, .getfield 19, 3) (List.mem_of_getElem? (i := 4) rfl)
theorem dX1_addEdge_7 : decode cX1_addEdge 7 = .ok (.iload_n 1, 1) := daX1_addEdge (7, .iload_n 1, 1) (List.mem_of_getElem? (i := 5) rfl)
theorem dX1_addEdge_8 : decode cX1_addEdge 8 = .ok (.iaload, 1) := daX1_addEdge (8, .iaload, 1) (List.mem_of_getElem? (i := 6) rfl)
theorem dX1_addEdge_9 : decode cX1_addEdge 9 = .ok (.iadd, 1) := daX1_addEdge (9, .iadd, 1) (List.mem_of_getElem? (i := 7) rfl)
theorem dX1_addEdge_10 : decode cX1_addEdge 10 = .ok (.istore 4, 2) := daX1_addEdge (10, .istore 4, 2) (List.mem_of_getElem? (i := 8) rfl)
theorem dX1_addEdge_12 : decode cX1_addEdge 12 = .ok (.iload_n 1, 1) := daX1_addEdge (12, .iload_n 1, 1) (List.mem_of_getElem? (i := 9) rfl)
theorem dX1_addEdge_13 : decode cX1_addEdge 13 = .ok (.iconst 5, 1) := daX1_addEdge (13, .iconst 5, 1) (List.mem_of_getElem? (i := 10) rfl)
theorem dX1_addEdge_14 : decode cX1_addEdge 14 = .ok (.imul, 1) := daX1_addEdge (14, .imul, 1) (List.mem_of_getElem? (i := 11) rfl)
theorem dX1_addEdge_15 : decode cX1_addEdge 15 = .ok (.istore 5, 2) := daX1_addEdge (15, .istore 5, 2) (List.mem_of_getElem? (i := 12) rfl)
theorem dX1_addEdge_17 : decode cX1_addEdge 17 = .ok (.iload 4, 2) := daX1_addEdge (17, .iload 4, 2) (List.mem_of_getElem? (i := 13) rfl)
theorem dX1_addEdge_19 : decode cX1_addEdge 19 = .ok (.iload 5, 2) := daX1_addEdge (19, .iload 5, 2) (List.mem_of_getElem? (i := 14) rfl)
theorem dX1_addEdge_21 : decode cX1_addEdge 21 = .ok (.if_icmp .le 54, 3) := daX1_addEdge (21, .if_icmp .le 54, 3) (List.mem_of_getElem? (i := 15) rfl)
theorem dX1_addEdge_24 : decode cX1_addEdge 24 = .ok (.aload_n 0, 1) := daX1_addEdge (24, .aload_n 0, 1) (List.mem_of_getElem? (i := 16) rfl)
theorem dX1_addEdge_25 : decode cX1_addEdge 25 = .ok (.iload_n 2, 1) := daX1_addEdge (25, .iload_n 2, 1) (List.mem_of_getElem? (i := 17) rfl)
theorem dX1_addEdge_26 : decode cX1_addEdge 26 = .ok (.iload_n 3, 1) := daX1_addEdge (26, .iload_n 3, 1) (List.mem_of_getElem? (i := 18) rfl)
theorem dX1_addEdge_27 : decode cX1_addEdge 27 = .ok (.iload 4, 2) := daX1_addEdge (27, .iload 4, 2) (List.mem_of_getElem? (i := 19) rfl)
theorem dX1_addEdge_29 : decode cX1_addEdge 29 = .ok (.iconst 1, 1) := daX1_addEdge (29, .iconst 1, 1) (List.mem_of_getElem? (i := 20) rfl)
theorem dX1_addEdge_30 : decode cX1_addEdge 30 = .ok (.isub, 1) := daX1_addEdge (30, .isub, 1) (List.mem_of_getElem? (i := 21) rfl)
theorem dX1_addEdge_31 : decode cX1_addEdge 31 = .ok (.invokevirtual 43, 3) := daX1_addEdge (31, .invokevirtual 43, 3) (List.mem_of_getElem? (i := 22) rfl)
theorem dX1_addEdge_34 : decode cX1_addEdge 34 = .ok (.ifCond .eq 41, 3) := daX1_addEdge (34, .ifCond .eq 41, 3) (List.mem_of_getElem? (i := 23) rfl)
theorem dX1_addEdge_37 : decode cX1_addEdge 37 = .ok (.aload_n 0, 1) := daX1_addEdge (37, .aload_n 0, 1) (List.mem_of_getElem? (i := 24) rfl)
theorem dX1_addEdge_38 : decode cX1_addEdge 38 = .ok (.getfield 22, 3) := daX1_addEdge (38, .getfield 22, 3) (List.mem_of_getElem? (i := 25) rfl)
theorem dX1_addEdge_41 : decode cX1_addEdge 41 = .ok (.iload 4, 2) := daX1_addEdge (41, .iload 4, 2) (List.mem_of_getElem? (i := 26) rfl)
theorem dX1_addEdge_43 : decode cX1_addEdge 43 = .ok (.aload_n 0, 1) := daX1_addEdge (43, .aload_n 0, 1) (List.mem_of_getElem? (i := 27) rfl)
theorem dX1_addEdge_44 : decode cX1_addEdge 44 = .ok (.getfield 22, 3) := daX1_addEdge (44, .getfield 22, 3) (List.mem_of_getElem? (i := 28) rfl)
theorem dX1_addEdge_47 : decode cX1_addEdge 47 = .ok (.iload 4, 2) := daX1_addEdge (47, .iload 4, 2) (List.mem_of_getElem? (i := 29) rfl)
theorem dX1_addEdge_49 : decode cX1_addEdge 49 = .ok (.iconst 1, 1) := daX1_addEdge (49, .iconst 1, 1) (List.mem_of_getElem? (i := 30) rfl)
theorem dX1_addEdge_50 : decode cX1_addEdge 50 = .ok (.isub, 1) := daX1_addEdge (50, .isub, 1) (List.mem_of_getElem? (i := 31) rfl)
theorem dX1_addEdge_51 : decode cX1_addEdge 51 = .ok (.iaload, 1) := daX1_addEdge (51, .iaload, 1) (List.mem_of_getElem? (i := 32) rfl)
theorem dX1_addEdge_52 : decode cX1_addEdge 52 = .ok (.iastore, 1) := daX1_addEdge (52, .iastore, 1) (List.mem_of_getElem? (i := 33) rfl)
theorem dX1_addEdge_53 : decode cX1_addEdge 53 = .ok (.aload_n 0, 1) := daX1_addEdge (53, .aload_n 0, 1) (List.mem_of_getElem? (i := 34) rfl)
theorem dX1_addEdge_54 : decode cX1_addEdge 54 = .ok (.getfield 25, 3) := daX1_addEdge (54, .getfield 25, 3) (List.mem_of_getElem? (i := 35) rfl)
theorem dX1_addEdge_57 : decode cX1_addEdge 57 = .ok (.iload 4, 2) := daX1_addEdge (57, .iload 4, 2) (List.mem_of_getElem? (i := 36) rfl)
theorem dX1_addEdge_59 : decode cX1_addEdge 59 = .ok (.aload_n 0, 1) := daX1_addEdge (59, .aload_n 0, 1) (List.mem_of_getElem? (i := 37) rfl)
theorem dX1_addEdge_60 : decode cX1_addEdge 60 = .ok (.getfield 25, 3) := daX1_addEdge (60, .getfield 25, 3) (List.mem_of_getElem? (i := 38) rfl)
theorem dX1_addEdge_63 : decode cX1_addEdge 63 = .ok (.iload 4, 2) := daX1_addEdge (63, .iload 4, 2) (List.mem_of_getElem? (i := 39) rfl)
theorem dX1_addEdge_65 : decode cX1_addEdge 65 = .ok (.iconst 1, 1) := daX1_addEdge (65, .iconst 1, 1) (List.mem_of_getElem? (i := 40) rfl)
theorem dX1_addEdge_66 : decode cX1_addEdge 66 = .ok (.isub, 1) := daX1_addEdge (66, .isub, 1) (List.mem_of_getElem? (i := 41) rfl)
theorem dX1_addEdge_67 : decode cX1_addEdge 67 = .ok (.iaload, 1) := daX1_addEdge (67, .iaload, 1) (List.mem_of_getElem? (i := 42) rfl)
theorem dX1_addEdge_68 : decode cX1_addEdge 68 = .ok (.iastore, 1) := daX1_addEdge (68, .iastore, 1) (List.mem_of_getElem? (i := 43) rfl)
theorem dX1_addEdge_69 : decode cX1_addEdge 69 = .ok (.iinc 4 (-1), 3) := daX1_addEdge (69, .iinc 4 (-1), 3) (List.mem_of_getElem? (i := 44) rfl)
theorem dX1_addEdge_72 : decode cX1_addEdge 72 = .ok (.goto (-55), 3) := daX1_addEdge (72, .goto (-55), 3) (List.mem_of_getElem? (i := 45) rfl)
theorem dX1_addEdge_75 : decode cX1_addEdge 75 = .ok (.aload_n 0, 1) := daX1_addEdge (75, .aload_n 0, 1) (List.mem_of_getElem? (i := 46) rfl)
theorem dX1_addEdge_76 : decode cX1_addEdge 76 = .ok (.getfield 22, 3) := daX1_addEdge (76, .getfield 22, 3) (List.mem_of_getElem? (i := 47) rfl)
theorem dX1_addEdge_79 : decode cX1_addEdge 79 = .ok (.iload 4, 2) := daX1_addEdge (79, .iload 4, 2) (List.mem_of_getElem? (i := 48) rfl)
theorem dX1_addEdge_81 : decode cX1_addEdge 81 = .ok (.iload_n 2, 1) := daX1_addEdge (81, .iload_n 2, 1) (List.mem_of_getElem? (i := 49) rfl)
theorem dX1_addEdge_82 : decode cX1_addEdge 82 = .ok (.iastore, 1) := daX1_addEdge (82, .iastore, 1) (List.mem_of_getElem? (i := 50) rfl)
theorem dX1_addEdge_83 : decode cX1_addEdge 83 = .ok (.aload_n 0, 1) := daX1_addEdge (83, .aload_n 0, 1) (List.mem_of_getElem? (i := 51) rfl)
theorem dX1_addEdge_84 : decode cX1_addEdge 84 = .ok (.getfield 25, 3) := daX1_addEdge (84, .getfield 25, 3) (List.mem_of_getElem? (i := 52) rfl)
theorem dX1_addEdge_87 : decode cX1_addEdge 87 = .ok (.iload 4, 2) := daX1_addEdge (87, .iload 4, 2) (List.mem_of_getElem? (i := 53) rfl)
theorem dX1_addEdge_89 : decode cX1_addEdge 89 = .ok (.iload_n 3, 1) := daX1_addEdge (89, .iload_n 3, 1) (List.mem_of_getElem? (i := 54) rfl)
theorem dX1_addEdge_90 : decode cX1_addEdge 90 = .ok (.iastore, 1) := daX1_addEdge (90, .iastore, 1) (List.mem_of_getElem? (i := 55) rfl)
theorem dX1_addEdge_91 : decode cX1_addEdge 91 = .ok (.aload_n 0, 1) := daX1_addEdge (91, .aload_n 0, 1) (List.mem_of_getElem? (i := 56) rfl)
theorem dX1_addEdge_92 : decode cX1_addEdge 92 = .ok (.getfield 19, 3) := daX1_addEdge (92, .getfield 19, 3) (List.mem_of_getElem? (i := 57) rfl)
theorem dX1_addEdge_95 : decode cX1_addEdge 95 = .ok (.iload_n 1, 1) := daX1_addEdge (95, .iload_n 1, 1) (List.mem_of_getElem? (i := 58) rfl)
theorem dX1_addEdge_96 : decode cX1_addEdge 96 = .ok (.dup2, 1) := daX1_addEdge (96, .dup2, 1) (List.mem_of_getElem? (i := 59) rfl)
theorem dX1_addEdge_97 : decode cX1_addEdge 97 = .ok (.iaload, 1) := daX1_addEdge (97, .iaload, 1) (List.mem_of_getElem? (i := 60) rfl)
theorem dX1_addEdge_98 : decode cX1_addEdge 98 = .ok (.iconst 1, 1) := daX1_addEdge (98, .iconst 1, 1) (List.mem_of_getElem? (i := 61) rfl)
theorem dX1_addEdge_99 : decode cX1_addEdge 99 = .ok (.iadd, 1) := daX1_addEdge (99, .iadd, 1) (List.mem_of_getElem? (i := 62) rfl)
theorem dX1_addEdge_100 : decode cX1_addEdge 100 = .ok (.iastore, 1) := daX1_addEdge (100, .iastore, 1) (List.mem_of_getElem? (i := 63) rfl)
theorem dX1_addEdge_101 : decode cX1_addEdge 101 = .ok (.aload_n 0, 1) := daX1_addEdge (101, .aload_n 0, 1) (List.mem_of_getElem? (i := 64) rfl)
theorem dX1_addEdge_102 : decode cX1_addEdge 102 = .ok (.dup, 1) := daX1_addEdge (102, .dup, 1) (List.mem_of_getElem? (i := 65) rfl)
theorem dX1_addEdge_103 : decode cX1_addEdge 103 = .ok (.getfield 36, 3) := daX1_addEdge (103, .getfield 36, 3) (List.mem_of_getElem? (i := 66) rfl)
theorem dX1_addEdge_106 : decode cX1_addEdge 106 = .ok (.iconst 1, 1) := daX1_addEdge (106, .iconst 1, 1) (List.mem_of_getElem? (i := 67) rfl)
theorem dX1_addEdge_107 : decode cX1_addEdge 107 = .ok (.iadd, 1) := daX1_addEdge (107, .iadd, 1) (List.mem_of_getElem? (i := 68) rfl)
theorem dX1_addEdge_108 : decode cX1_addEdge 108 = .ok (.putfield 36, 3) := daX1_addEdge (108, .putfield 36, 3) (List.mem_of_getElem? (i := 69) rfl)
theorem dX1_addEdge_111 : decode cX1_addEdge 111 = .ok (.return_, 1) := daX1_addEdge (111, .return_, 1) (List.mem_of_getElem? (i := 70) rfl)
def rmX1_addEdge : Room := { frames := 1, cells := 0, slots := 0, locals := 23 }
theorem zdX1_addEdge : yX1_addEdge.cls = RX1 ∧ yX1_addEdge.cls ≠ "java/lang/invoke/MethodHandle" ∧ yX1_addEdge.cls ≠ "java/lang/invoke/VarHandle" ∧ (parseMethodDescriptor yX1_addEdge.desc).map (fun d => d.parameters.length) = some 3 := by decide +kernel
theorem kiX1_addEdge_X1 : ∀ w ∈ wsX10, w ∈ wsX1_addEdge := fun _ h => (List.mem_cons_of_mem _ (List.mem_append_right _ h))
theorem kfX1_addEdge_19 : Cond.fieldLink RX1 19 "ShapeJudge$Graph" "degrees" "[I" ∈ wsX1_addEdge := (List.mem_of_getElem? (i := 1) rfl)
theorem kfX1_addEdge_22 : Cond.fieldLink RX1 22 "ShapeJudge$Graph" "edgeName" "[I" ∈ wsX1_addEdge := (List.mem_of_getElem? (i := 2) rfl)
theorem kfX1_addEdge_25 : Cond.fieldLink RX1 25 "ShapeJudge$Graph" "edgeTo" "[I" ∈ wsX1_addEdge := (List.mem_of_getElem? (i := 3) rfl)
theorem kfX1_addEdge_36 : Cond.fieldLink RX1 36 "ShapeJudge$Graph" "edges" "I" ∈ wsX1_addEdge := (List.mem_of_getElem? (i := 4) rfl)
def t_X1_addEdge_17 (a2 : Int32) (a3 : Int32) (x3 : Int32) (i4 : Int32) (m5 : Mem) : Option ((Int32 × Mem) ⊕ (Int32 × Mem)) :=
  (if i4 ≤ x3 then (some (.inr (i4, m5))) else ((s_X1_isAhead m5 a2 a3 (i4 - 1)).bind fun r7 => (if r7 = 0 then (some (.inr (i4, m5))) else (ck (zin (i4 - 1) 50 = true) (ck (zin i4 50 = true) (bn (sto m5 5 (Int32.toNatClampNeg i4) (m5 5 (Int32.toNatClampNeg (i4 - 1)))) fun m10 => ck (zin (i4 - 1) 50 = true) (ck (zin i4 50 = true) (bn (sto m10 6 (Int32.toNatClampNeg i4) (m10 6 (Int32.toNatClampNeg (i4 - 1)))) fun m13 => bn (i4 + (-1)) fun x14 => some (.inl (x14, m13))))))))))
def l_X1_addEdge_17 (a2 : Int32) (a3 : Int32) (x3 : Int32) (n : Nat) (i4 : Int32) (m5 : Mem) : Option (Int32 × Mem) := zlp n (fun a => t_X1_addEdge_17 a2 a3 x3 a.1 a.2) (i4, m5)
def s_X1_addEdge (m : Mem) (a1 : Int32) (a2 : Int32) (a3 : Int32) : Option (Mem) :=
  ck (zin a1 10 = true) (bn ((a1 * 5) + (m 4 (Int32.toNatClampNeg a1))) fun x2 => bn (a1 * 5) fun x3 => (zb2 (l_X1_addEdge_17 a2 a3 x3 FU x2 m) fun y17 m18 => ck (zin y17 50 = true) (bn (sto m18 5 (Int32.toNatClampNeg y17) a2) fun m20 => ck (zin y17 50 = true) (bn (sto m20 6 (Int32.toNatClampNeg y17) a3) fun m22 => ck (zin a1 10 = true) (ck (zin a1 10 = true) (bn (sto m22 4 (Int32.toNatClampNeg a1) ((m22 4 (Int32.toNatClampNeg a1)) + 1)) fun m25 => bn (sto m25 1 1 ((m25 1 1) + 1)) fun m26 => some m26))))))
set_option maxRecDepth 100000 in
set_option maxHeartbeats 4000000 in
theorem w_X1_addEdge_17 {K : ZK} (C : zOK MX K cX1_addEdge 6 none RX1 wsX1_addEdge rmX1_addEdge) {a1 : Int32} {a2 : Int32} {a3 : Int32} {x3 : Int32}  {o0 : Int32} {o1 : Mem} (hk : zGo MX K o1 [(0, .ref ((zw K).2.1 1)), (1, .int a1), (2, .int a2), (3, .int a3), (4, .int o0)] 75 []) : ∀ (n : Nat) (i4 : Int32) (m5 : Mem), l_X1_addEdge_17 a2 a3 x3 n i4 m5 = some (o0, o1) → zGo MX K m5 [(0, .ref ((zw K).2.1 1)), (1, .int a1), (2, .int a2), (3, .int a3), (4, .int i4), (5, .int x3)] 17 [] := by
  intro n
  induction n with
  | zero =>
    intro i4 m5 hf
    cases hf
  | succ n ih =>
    intro i4 m5 hf
    obtain ⟨z, hf, hz⟩ := zlp_el hf
    replace hf : t_X1_addEdge_17 a2 a3 x3 i4 m5 = some z := hf
    unfold t_X1_addEdge_17 at hf
    refine z_iload C 4 dX1_addEdge_17 rfl ?_
    refine z_iload C 5 dX1_addEdge_19 rfl ?_
    refine z_icmp_le (tgt := 75) C dX1_addEdge_21 (by decide) (fun c16 => ?_) (fun c16 => ?_)
    · replace hf := if_t c16 hf
      cases hf
      replace hz := zlz_r hz
      cases hz
      exact z_sub [0, 1, 2, 3, 4] rfl hk
    · replace hf := if_f c16 hf
      refine z_aload_n C 0 dX1_addEdge_24 rfl rfl ?_
      refine z_iload_n C 2 dX1_addEdge_25 rfl rfl ?_
      refine z_iload_n C 3 dX1_addEdge_26 rfl rfl ?_
      refine z_iload C 4 dX1_addEdge_27 rfl ?_
      refine z_iconst C (v := 1) dX1_addEdge_29 rfl ?_
      refine z_isub C dX1_addEdge_30 ?_
      obtain ⟨r7, hc6, hf⟩ := zb_el hf
      refine z_cVi C (c_X1_isAhead _ _ hc6) rfl gX1_addEdge_X1_isAhead rfl rfl zdX1_isAhead rfl (Nat.le_of_ble_eq_true rfl) rfl rfl rfl ⟨Nat.le_of_ble_eq_true rfl, Nat.le_of_ble_eq_true rfl⟩ (Nat.le_of_ble_eq_true rfl) dX1_addEdge_31 rfl ?_
      refine z_if_eq (tgt := 75) C dX1_addEdge_34 (by decide) (fun c15 => ?_) (fun c15 => ?_)
      · replace hf := if_t c15 hf
        cases hf
        replace hz := zlz_r hz
        cases hz
        exact z_sub [0, 1, 2, 3, 4] rfl hk
      · replace hf := if_f c15 hf
        refine z_aload_n C 0 dX1_addEdge_37 rfl rfl ?_
        refine z_getr C (t := 5) (Nat.le_of_ble_eq_true rfl) rfl rfl 5 (Nat.le_of_ble_eq_true rfl) rfl kiX1_addEdge_X1 kfX1_addEdge_22 dX1_addEdge_38 ?_
        refine z_iload C 4 dX1_addEdge_41 rfl ?_
        refine z_aload_n C 0 dX1_addEdge_43 rfl rfl ?_
        refine z_getr C (t := 5) (Nat.le_of_ble_eq_true rfl) rfl rfl 5 (Nat.le_of_ble_eq_true rfl) rfl kiX1_addEdge_X1 kfX1_addEdge_22 dX1_addEdge_44 ?_
        refine z_iload C 4 dX1_addEdge_47 rfl ?_
        refine z_iconst C (v := 1) dX1_addEdge_49 rfl ?_
        refine z_isub C dX1_addEdge_50 ?_
        obtain ⟨hi8, hf⟩ := ck_el hf
        refine z_iald C (k := 5) (Nat.le_of_ble_eq_true rfl) rfl hi8 dX1_addEdge_51 ?_
        obtain ⟨hi9, hf⟩ := ck_el hf
        refine z_iast C (k := 5) (Nat.le_of_ble_eq_true rfl) rfl hi9 dX1_addEdge_52 ?_
        refine z_nm (fun m10 e_m10 => ?_)
        replace hf := bn_to e_m10 hf
        refine z_aload_n C 0 dX1_addEdge_53 rfl rfl ?_
        refine z_getr C (t := 6) (Nat.le_of_ble_eq_true rfl) rfl rfl 6 (Nat.le_of_ble_eq_true rfl) rfl kiX1_addEdge_X1 kfX1_addEdge_25 dX1_addEdge_54 ?_
        refine z_iload C 4 dX1_addEdge_57 rfl ?_
        refine z_aload_n C 0 dX1_addEdge_59 rfl rfl ?_
        refine z_getr C (t := 6) (Nat.le_of_ble_eq_true rfl) rfl rfl 6 (Nat.le_of_ble_eq_true rfl) rfl kiX1_addEdge_X1 kfX1_addEdge_25 dX1_addEdge_60 ?_
        refine z_iload C 4 dX1_addEdge_63 rfl ?_
        refine z_iconst C (v := 1) dX1_addEdge_65 rfl ?_
        refine z_isub C dX1_addEdge_66 ?_
        obtain ⟨hi11, hf⟩ := ck_el hf
        refine z_iald C (k := 6) (Nat.le_of_ble_eq_true rfl) rfl hi11 dX1_addEdge_67 ?_
        obtain ⟨hi12, hf⟩ := ck_el hf
        refine z_iast C (k := 6) (Nat.le_of_ble_eq_true rfl) rfl hi12 dX1_addEdge_68 ?_
        refine z_nm (fun m13 e_m13 => ?_)
        replace hf := bn_to e_m13 hf
        obtain ⟨x14, e_x14⟩ : ∃ y : Int32, y = i4 + (-1) := ⟨_, rfl⟩
        replace hf := bn_to e_x14 hf
        refine z_iinc C (lv2 := [(0, .ref ((zw K).2.1 1)), (1, .int a1), (2, .int a2), (3, .int a3), (4, .int x14), (5, .int x3)]) 4 [1, 2, 3, 4, 0, 5] dX1_addEdge_69 (by decide) rfl (Nat.le_of_ble_eq_true rfl) e_x14 rfl ?_
        refine z_goto (tgt := 17) C dX1_addEdge_72 (by decide) ?_
        cases hf
        exact z_sub [0, 1, 2, 3, 4, 5] rfl (ih x14 m13 hz)
set_option maxRecDepth 100000 in
set_option maxHeartbeats 4000000 in
theorem c_X1_addEdge (l : Launch) (w : ZW) {m : Mem} {a1 : Int32} {a2 : Int32} {a3 : Int32} {m9 : Mem}  (hf : s_X1_addEdge m a1 a2 a3 = some m9) : zCv MX l w yX1_addEdge wsX1_addEdge rmX1_addEdge [.ref (w.2.1 1), .int a1, .int a2, .int a3] m m9 := by
  refine z_met_v MX_ok (own := RX1) (by decide +kernel) rfl rfl (Nat.le_of_ble_eq_true rfl) ?_
  intro K C hKw hKl hret
  subst hKw
  subst hKl
  unfold s_X1_addEdge at hf
  show zGo MX K m [(0, .ref ((zw K).2.1 1)), (1, .int a1), (2, .int a2), (3, .int a3)] 0 []
  refine z_iload_n C 1 dX1_addEdge_0 rfl rfl ?_
  refine z_iconst C (v := 5) dX1_addEdge_1 rfl ?_
  refine z_imul C dX1_addEdge_2 ?_
  refine z_aload_n C 0 dX1_addEdge_3 rfl rfl ?_
  refine z_getr C (t := 4) (Nat.le_of_ble_eq_true rfl) rfl rfl 4 (Nat.le_of_ble_eq_true rfl) rfl kiX1_addEdge_X1 kfX1_addEdge_19 dX1_addEdge_4 ?_
  refine z_iload_n C 1 dX1_addEdge_7 rfl rfl ?_
  obtain ⟨hi1, hf⟩ := ck_el hf
  refine z_iald C (k := 4) (Nat.le_of_ble_eq_true rfl) rfl hi1 dX1_addEdge_8 ?_
  refine z_iadd C dX1_addEdge_9 ?_
  refine z_topi (fun x2 e_x2 => ?_)
  replace hf := bn_to e_x2 hf
  refine z_istore C (lv2 := [(0, .ref ((zw K).2.1 1)), (1, .int a1), (2, .int a2), (3, .int a3), (4, .int x2)]) [1, 2, 3, 4, 0] dX1_addEdge_10 (Nat.le_of_ble_eq_true rfl) rfl ?_
  refine z_iload_n C 1 dX1_addEdge_12 rfl rfl ?_
  refine z_iconst C (v := 5) dX1_addEdge_13 rfl ?_
  refine z_imul C dX1_addEdge_14 ?_
  refine z_topi (fun x3 e_x3 => ?_)
  replace hf := bn_to e_x3 hf
  refine z_istore C (lv2 := [(0, .ref ((zw K).2.1 1)), (1, .int a1), (2, .int a2), (3, .int a3), (4, .int x2), (5, .int x3)]) [1, 2, 3, 4, 5, 0] dX1_addEdge_15 (Nat.le_of_ble_eq_true rfl) rfl ?_
  obtain ⟨y17, m18, hg, hf⟩ := zb2_el hf
  refine z_sub [0, 1, 2, 3, 4, 5] rfl (w_X1_addEdge_17 C  ?_ _ _ _ hg)
  clear hg
  refine z_aload_n C 0 dX1_addEdge_75 rfl rfl ?_
  refine z_getr C (t := 5) (Nat.le_of_ble_eq_true rfl) rfl rfl 5 (Nat.le_of_ble_eq_true rfl) rfl kiX1_addEdge_X1 kfX1_addEdge_22 dX1_addEdge_76 ?_
  refine z_iload C 4 dX1_addEdge_79 rfl ?_
  refine z_iload_n C 2 dX1_addEdge_81 rfl rfl ?_
  obtain ⟨hi19, hf⟩ := ck_el hf
  refine z_iast C (k := 5) (Nat.le_of_ble_eq_true rfl) rfl hi19 dX1_addEdge_82 ?_
  refine z_nm (fun m20 e_m20 => ?_)
  replace hf := bn_to e_m20 hf
  refine z_aload_n C 0 dX1_addEdge_83 rfl rfl ?_
  refine z_getr C (t := 6) (Nat.le_of_ble_eq_true rfl) rfl rfl 6 (Nat.le_of_ble_eq_true rfl) rfl kiX1_addEdge_X1 kfX1_addEdge_25 dX1_addEdge_84 ?_
  refine z_iload C 4 dX1_addEdge_87 rfl ?_
  refine z_iload_n C 3 dX1_addEdge_89 rfl rfl ?_
  obtain ⟨hi21, hf⟩ := ck_el hf
  refine z_iast C (k := 6) (Nat.le_of_ble_eq_true rfl) rfl hi21 dX1_addEdge_90 ?_
  refine z_nm (fun m22 e_m22 => ?_)
  replace hf := bn_to e_m22 hf
  refine z_aload_n C 0 dX1_addEdge_91 rfl rfl ?_
  refine z_getr C (t := 4) (Nat.le_of_ble_eq_true rfl) rfl rfl 4 (Nat.le_of_ble_eq_true rfl) rfl kiX1_addEdge_X1 kfX1_addEdge_19 dX1_addEdge_92 ?_
  refine z_iload_n C 1 dX1_addEdge_95 rfl rfl ?_
  refine z_dup2 C dX1_addEdge_96 ?_
  obtain ⟨hi23, hf⟩ := ck_el hf
  refine z_iald C (k := 4) (Nat.le_of_ble_eq_true rfl) rfl hi23 dX1_addEdge_97 ?_
  refine z_iconst C (v := 1) dX1_addEdge_98 rfl ?_
  refine z_iadd C dX1_addEdge_99 ?_
  obtain ⟨hi24, hf⟩ := ck_el hf
  refine z_iast C (k := 4) (Nat.le_of_ble_eq_true rfl) rfl hi24 dX1_addEdge_100 ?_
  refine z_nm (fun m25 e_m25 => ?_)
  replace hf := bn_to e_m25 hf
  refine z_aload_n C 0 dX1_addEdge_101 rfl rfl ?_
  refine z_dup_a C dX1_addEdge_102 ?_
  refine z_geti C (Nat.le_of_ble_eq_true rfl) rfl rfl 1 (Nat.le_of_ble_eq_true rfl) rfl kiX1_addEdge_X1 kfX1_addEdge_36 dX1_addEdge_103 ?_
  refine z_iconst C (v := 1) dX1_addEdge_106 rfl ?_
  refine z_iadd C dX1_addEdge_107 ?_
  refine z_puti C (Nat.le_of_ble_eq_true rfl) rfl rfl 1 (Nat.le_of_ble_eq_true rfl) rfl kiX1_addEdge_X1 kfX1_addEdge_36 tyX1 tyX1_ok nmX1 rfl rfl dX1_addEdge_108 ?_
  refine z_nm (fun m26 e_m26 => ?_)
  replace hf := bn_to e_m26 hf
  cases hf
  exact hret _ _ dX1_addEdge_111
theorem dX1_setValue_0 : decode cX1_setValue 0 = .ok (.aload_n 0, 1) := by decide +kernel
theorem dX1_setValue_1 : decode cX1_setValue 1 = .ok (.getfield 9, 3) := by decide +kernel
theorem dX1_setValue_4 : decode cX1_setValue 4 = .ok (.iload_n 1, 1) := by decide +kernel
theorem dX1_setValue_5 : decode cX1_setValue 5 = .ok (.iload_n 2, 1) := by decide +kernel
theorem dX1_setValue_6 : decode cX1_setValue 6 = .ok (.bastore, 1) := by decide +kernel
theorem dX1_setValue_7 : decode cX1_setValue 7 = .ok (.aload_n 0, 1) := by decide +kernel
theorem dX1_setValue_8 : decode cX1_setValue 8 = .ok (.getfield 15, 3) := by decide +kernel
theorem dX1_setValue_11 : decode cX1_setValue 11 = .ok (.iload_n 1, 1) := by decide +kernel
theorem dX1_setValue_12 : decode cX1_setValue 12 = .ok (.iload_n 3, 1) := by decide +kernel
theorem dX1_setValue_13 : decode cX1_setValue 13 = .ok (.iastore, 1) := by decide +kernel
theorem dX1_setValue_14 : decode cX1_setValue 14 = .ok (.return_, 1) := by decide +kernel
def rmX1_setValue : Room := { frames := 0, cells := 0, slots := 0, locals := 0 }
theorem zdX1_setValue : yX1_setValue.cls = RX1 ∧ yX1_setValue.cls ≠ "java/lang/invoke/MethodHandle" ∧ yX1_setValue.cls ≠ "java/lang/invoke/VarHandle" ∧ (parseMethodDescriptor yX1_setValue.desc).map (fun d => d.parameters.length) = some 3 := by decide +kernel
theorem kiX1_setValue_X1 : ∀ w ∈ wsX10, w ∈ wsX1_setValue := fun _ h => (List.mem_cons_of_mem _ (List.mem_append_right _ h))
theorem kfX1_setValue_9 : Cond.fieldLink RX1 9 "ShapeJudge$Graph" "valued" "[Z" ∈ wsX1_setValue := (List.mem_of_getElem? (i := 1) rfl)
theorem kfX1_setValue_15 : Cond.fieldLink RX1 15 "ShapeJudge$Graph" "values" "[I" ∈ wsX1_setValue := (List.mem_of_getElem? (i := 2) rfl)
def s_X1_setValue (m : Mem) (a1 : Int32) (a2 : Int32) (a3 : Int32) : Option (Mem) :=
  ck (zin a1 10 = true) (bn (sto m 2 (Int32.toNatClampNeg a1) (vp_nar .boolean a2)) fun m2 => ck (zin a1 10 = true) (bn (sto m2 3 (Int32.toNatClampNeg a1) a3) fun m4 => some m4))
set_option maxRecDepth 100000 in
set_option maxHeartbeats 4000000 in
theorem c_X1_setValue (l : Launch) (w : ZW) {m : Mem} {a1 : Int32} {a2 : Int32} {a3 : Int32} {m9 : Mem}  (hf : s_X1_setValue m a1 a2 a3 = some m9) : zCv MX l w yX1_setValue wsX1_setValue rmX1_setValue [.ref (w.2.1 1), .int a1, .int a2, .int a3] m m9 := by
  refine z_met_v MX_ok (own := RX1) (by decide +kernel) rfl rfl (Nat.le_of_ble_eq_true rfl) ?_
  intro K C hKw hKl hret
  subst hKw
  subst hKl
  unfold s_X1_setValue at hf
  show zGo MX K m [(0, .ref ((zw K).2.1 1)), (1, .int a1), (2, .int a2), (3, .int a3)] 0 []
  refine z_aload_n C 0 dX1_setValue_0 rfl rfl ?_
  refine z_getr C (t := 2) (Nat.le_of_ble_eq_true rfl) rfl rfl 2 (Nat.le_of_ble_eq_true rfl) rfl kiX1_setValue_X1 kfX1_setValue_9 dX1_setValue_1 ?_
  refine z_iload_n C 1 dX1_setValue_4 rfl rfl ?_
  refine z_iload_n C 2 dX1_setValue_5 rfl rfl ?_
  obtain ⟨hi1, hf⟩ := ck_el hf
  refine z_zast C (k := 2) (Nat.le_of_ble_eq_true rfl) rfl hi1 dX1_setValue_6 ?_
  refine z_nm (fun m2 e_m2 => ?_)
  replace hf := bn_to e_m2 hf
  refine z_aload_n C 0 dX1_setValue_7 rfl rfl ?_
  refine z_getr C (t := 3) (Nat.le_of_ble_eq_true rfl) rfl rfl 3 (Nat.le_of_ble_eq_true rfl) rfl kiX1_setValue_X1 kfX1_setValue_15 dX1_setValue_8 ?_
  refine z_iload_n C 1 dX1_setValue_11 rfl rfl ?_
  refine z_iload_n C 3 dX1_setValue_12 rfl rfl ?_
  obtain ⟨hi3, hf⟩ := ck_el hf
  refine z_iast C (k := 3) (Nat.le_of_ble_eq_true rfl) rfl hi3 dX1_setValue_13 ?_
  refine z_nm (fun m4 e_m4 => ?_)
  replace hf := bn_to e_m4 hf
  cases hf
  exact hret _ _ dX1_setValue_14
set_option maxRecDepth 20000 in
theorem ggX1_addNode_X1_setValue : GoodIn wsX1_addNode wsX1_setValue := goodIn_sub (List.forall_mem_cons.mpr ⟨(List.mem_of_getElem? (i := 7) rfl), (List.forall_mem_append.mpr ⟨(List.forall_mem_cons.mpr ⟨(List.mem_of_getElem? (i := 8) rfl), (List.forall_mem_cons.mpr ⟨(List.mem_of_getElem? (i := 9) rfl), (fun _ h => absurd h List.not_mem_nil)⟩)⟩), (fun _ h => (List.mem_cons_of_mem _ (List.mem_append_right _ h)))⟩)⟩) (by decide +kernel)
set_option maxRecDepth 20000 in
theorem gX1_addNode_X1_setValue : GoodIn wsX1_addNode (wsV RX1 39 RX1 yX1_setValue wsX1_setValue) := goodIn_app (goodIn_sub (List.forall_mem_cons.mpr ⟨(List.mem_of_getElem? (i := 3) rfl), (List.forall_mem_cons.mpr ⟨(List.mem_of_getElem? (i := 4) rfl), (List.forall_mem_cons.mpr ⟨(List.mem_of_getElem? (i := 5) rfl), (List.forall_mem_cons.mpr ⟨(List.mem_of_getElem? (i := 6) rfl), (fun _ h => absurd h List.not_mem_nil)⟩)⟩)⟩)⟩) (by decide +kernel)) ggX1_addNode_X1_setValue
theorem dX1_addNode_0 : decode cX1_addNode 0 = .ok (.aload_n 0, 1) := by decide +kernel
theorem dX1_addNode_1 : decode cX1_addNode 1 = .ok (.getfield 28, 3) := by decide +kernel
theorem dX1_addNode_4 : decode cX1_addNode 4 = .ok (.istore_n 3, 1) := by decide +kernel
theorem dX1_addNode_5 : decode cX1_addNode 5 = .ok (.aload_n 0, 1) := by decide +kernel
theorem dX1_addNode_6 : decode cX1_addNode 6 = .ok (.dup, 1) := by decide +kernel
theorem dX1_addNode_7 : decode cX1_addNode 7 = .ok (.getfield 28, 3) := by decide +kernel
theorem dX1_addNode_10 : decode cX1_addNode 10 = .ok (.iconst 1, 1) := by decide +kernel
theorem dX1_addNode_11 : decode cX1_addNode 11 = .ok (.iadd, 1) := by decide +kernel
theorem dX1_addNode_12 : decode cX1_addNode 12 = .ok (.putfield 28, 3) := by decide +kernel
theorem dX1_addNode_15 : decode cX1_addNode 15 = .ok (.aload_n 0, 1) := by decide +kernel
theorem dX1_addNode_16 : decode cX1_addNode 16 = .ok (.getfield 19, 3) := by decide +kernel
theorem dX1_addNode_19 : decode cX1_addNode 19 = .ok (.iload_n 3, 1) := by decide +kernel
theorem dX1_addNode_20 : decode cX1_addNode 20 = .ok (.iconst 0, 1) := by decide +kernel
theorem dX1_addNode_21 : decode cX1_addNode 21 = .ok (.iastore, 1) := by decide +kernel
theorem dX1_addNode_22 : decode cX1_addNode 22 = .ok (.aload_n 0, 1) := by decide +kernel
theorem dX1_addNode_23 : decode cX1_addNode 23 = .ok (.iload_n 3, 1) := by decide +kernel
theorem dX1_addNode_24 : decode cX1_addNode 24 = .ok (.iload_n 1, 1) := by decide +kernel
theorem dX1_addNode_25 : decode cX1_addNode 25 = .ok (.iload_n 2, 1) := by decide +kernel
theorem dX1_addNode_26 : decode cX1_addNode 26 = .ok (.invokevirtual 39, 3) := by decide +kernel
theorem dX1_addNode_29 : decode cX1_addNode 29 = .ok (.iload_n 3, 1) := by decide +kernel
theorem dX1_addNode_30 : decode cX1_addNode 30 = .ok (.ireturn, 1) := by decide +kernel
def rmX1_addNode : Room := { frames := 1, cells := 0, slots := 0, locals := 23 }
theorem zdX1_addNode : yX1_addNode.cls = RX1 ∧ yX1_addNode.cls ≠ "java/lang/invoke/MethodHandle" ∧ yX1_addNode.cls ≠ "java/lang/invoke/VarHandle" ∧ (parseMethodDescriptor yX1_addNode.desc).map (fun d => d.parameters.length) = some 2 := by decide +kernel
theorem kiX1_addNode_X1 : ∀ w ∈ wsX10, w ∈ wsX1_addNode := fun _ h => (List.mem_cons_of_mem _ (List.mem_append_right _ h))
theorem kfX1_addNode_28 : Cond.fieldLink RX1 28 "ShapeJudge$Graph" "nodes" "I" ∈ wsX1_addNode := (List.mem_of_getElem? (i := 1) rfl)
theorem kfX1_addNode_19 : Cond.fieldLink RX1 19 "ShapeJudge$Graph" "degrees" "[I" ∈ wsX1_addNode := (List.mem_of_getElem? (i := 2) rfl)
def s_X1_addNode (m : Mem) (a1 : Int32) (a2 : Int32) : Option (Int32 × Mem) :=
  bn (m 1 0) fun x1 => bn (sto m 1 0 ((m 1 0) + 1)) fun m2 => ck (zin x1 10 = true) (bn (sto m2 4 (Int32.toNatClampNeg x1) 0) fun m4 => (s_X1_setValue m4 x1 a1 a2).bind fun m6 => some (x1, m6))
set_option maxRecDepth 100000 in
set_option maxHeartbeats 4000000 in
theorem c_X1_addNode (l : Launch) (w : ZW) {m : Mem} {a1 : Int32} {a2 : Int32} {r9 : Int32} {m9 : Mem}  (hf : s_X1_addNode m a1 a2 = some (r9, m9)) : zCi MX l w yX1_addNode wsX1_addNode rmX1_addNode [.ref (w.2.1 1), .int a1, .int a2] m m9 r9 := by
  refine z_met_i MX_ok (own := RX1) (by decide +kernel) rfl rfl (Nat.le_of_ble_eq_true rfl) ?_
  intro K C hKw hKl hret
  subst hKw
  subst hKl
  unfold s_X1_addNode at hf
  show zGo MX K m [(0, .ref ((zw K).2.1 1)), (1, .int a1), (2, .int a2)] 0 []
  refine z_aload_n C 0 dX1_addNode_0 rfl rfl ?_
  refine z_geti C (Nat.le_of_ble_eq_true rfl) rfl rfl 0 (Nat.le_of_ble_eq_true rfl) rfl kiX1_addNode_X1 kfX1_addNode_28 dX1_addNode_1 ?_
  refine z_topi (fun x1 e_x1 => ?_)
  replace hf := bn_to e_x1 hf
  refine z_istore_n C (lv2 := [(0, .ref ((zw K).2.1 1)), (1, .int a1), (2, .int a2), (3, .int x1)]) [1, 2, 3, 0] dX1_addNode_4 rfl (Nat.le_of_ble_eq_true rfl) rfl ?_
  refine z_aload_n C 0 dX1_addNode_5 rfl rfl ?_
  refine z_dup_a C dX1_addNode_6 ?_
  refine z_geti C (Nat.le_of_ble_eq_true rfl) rfl rfl 0 (Nat.le_of_ble_eq_true rfl) rfl kiX1_addNode_X1 kfX1_addNode_28 dX1_addNode_7 ?_
  refine z_iconst C (v := 1) dX1_addNode_10 rfl ?_
  refine z_iadd C dX1_addNode_11 ?_
  refine z_puti C (Nat.le_of_ble_eq_true rfl) rfl rfl 0 (Nat.le_of_ble_eq_true rfl) rfl kiX1_addNode_X1 kfX1_addNode_28 tyX1 tyX1_ok nmX1 rfl rfl dX1_addNode_12 ?_
  refine z_nm (fun m2 e_m2 => ?_)
  replace hf := bn_to e_m2 hf
  refine z_aload_n C 0 dX1_addNode_15 rfl rfl ?_
  refine z_getr C (t := 4) (Nat.le_of_ble_eq_true rfl) rfl rfl 4 (Nat.le_of_ble_eq_true rfl) rfl kiX1_addNode_X1 kfX1_addNode_19 dX1_addNode_16 ?_
  refine z_iload_n C 3 dX1_addNode_19 rfl rfl ?_
  refine z_iconst C (v := 0) dX1_addNode_20 rfl ?_
  obtain ⟨hi3, hf⟩ := ck_el hf
  refine z_iast C (k := 4) (Nat.le_of_ble_eq_true rfl) rfl hi3 dX1_addNode_21 ?_
  refine z_nm (fun m4 e_m4 => ?_)
  replace hf := bn_to e_m4 hf
  refine z_aload_n C 0 dX1_addNode_22 rfl rfl ?_
  refine z_iload_n C 3 dX1_addNode_23 rfl rfl ?_
  refine z_iload_n C 1 dX1_addNode_24 rfl rfl ?_
  refine z_iload_n C 2 dX1_addNode_25 rfl rfl ?_
  obtain ⟨m6, hc5, hf⟩ := zb_el hf
  refine z_cVv C (c_X1_setValue _ _ hc5) rfl gX1_addNode_X1_setValue rfl rfl zdX1_setValue rfl (Nat.le_of_ble_eq_true rfl) rfl rfl rfl ⟨Nat.le_of_ble_eq_true rfl, Nat.le_of_ble_eq_true rfl⟩ (Nat.le_of_ble_eq_true rfl) dX1_addNode_26 rfl ?_
  refine z_iload_n C 3 dX1_addNode_29 rfl rfl ?_
  cases hf
  exact hret _ _ dX1_addNode_30
theorem dX1_hasNode_0 : decode cX1_hasNode 0 = .ok (.iload_n 1, 1) := by decide +kernel
theorem dX1_hasNode_1 : decode cX1_hasNode 1 = .ok (.ifCond .lt 21, 3) := by decide +kernel
theorem dX1_hasNode_4 : decode cX1_hasNode 4 = .ok (.iload_n 1, 1) := by decide +kernel
theorem dX1_hasNode_5 : decode cX1_hasNode 5 = .ok (.aload_n 0, 1) := by decide +kernel
theorem dX1_hasNode_6 : decode cX1_hasNode 6 = .ok (.getfield 28, 3) := by decide +kernel
theorem dX1_hasNode_9 : decode cX1_hasNode 9 = .ok (.if_icmp .ge 13, 3) := by decide +kernel
theorem dX1_hasNode_12 : decode cX1_hasNode 12 = .ok (.iload_n 1, 1) := by decide +kernel
theorem dX1_hasNode_13 : decode cX1_hasNode 13 = .ok (.bipush 10, 2) := by decide +kernel
theorem dX1_hasNode_15 : decode cX1_hasNode 15 = .ok (.if_icmp .ge 7, 3) := by decide +kernel
theorem dX1_hasNode_18 : decode cX1_hasNode 18 = .ok (.iconst 1, 1) := by decide +kernel
theorem dX1_hasNode_19 : decode cX1_hasNode 19 = .ok (.goto 4, 3) := by decide +kernel
theorem dX1_hasNode_22 : decode cX1_hasNode 22 = .ok (.iconst 0, 1) := by decide +kernel
theorem dX1_hasNode_23 : decode cX1_hasNode 23 = .ok (.ireturn, 1) := by decide +kernel
def rmX1_hasNode : Room := { frames := 0, cells := 0, slots := 0, locals := 0 }
theorem zdX1_hasNode : yX1_hasNode.cls = RX1 ∧ yX1_hasNode.cls ≠ "java/lang/invoke/MethodHandle" ∧ yX1_hasNode.cls ≠ "java/lang/invoke/VarHandle" ∧ (parseMethodDescriptor yX1_hasNode.desc).map (fun d => d.parameters.length) = some 1 := by decide +kernel
theorem kiX1_hasNode_X1 : ∀ w ∈ wsX10, w ∈ wsX1_hasNode := fun _ h => (List.mem_cons_of_mem _ (List.mem_append_right _ h))
theorem kfX1_hasNode_28 : Cond.fieldLink RX1 28 "ShapeJudge$Graph" "nodes" "I" ∈ wsX1_hasNode := (List.mem_of_getElem? (i := 1) rfl)
def s_X1_hasNode (m : Mem) (a1 : Int32) : Option (Int32) :=
  (if a1 < 0 then (some 0) else ((if (m 1 0) ≤ a1 then (some 0) else ((if 10 ≤ a1 then (some 0) else (some 1))))))
set_option maxRecDepth 100000 in
set_option maxHeartbeats 4000000 in
theorem c_X1_hasNode (l : Launch) (w : ZW) {m : Mem} {a1 : Int32} {r9 : Int32}  (hf : s_X1_hasNode m a1 = some r9) : zCi MX l w yX1_hasNode wsX1_hasNode rmX1_hasNode [.ref (w.2.1 1), .int a1] m m r9 := by
  refine z_met_z MX_ok (own := RX1) (by decide +kernel) rfl rfl (Nat.le_of_ble_eq_true rfl) ?_
  intro K C hKw hKl hret
  subst hKw
  subst hKl
  unfold s_X1_hasNode at hf
  show zGo MX K m [(0, .ref ((zw K).2.1 1)), (1, .int a1)] 0 []
  refine z_iload_n C 1 dX1_hasNode_0 rfl rfl ?_
  refine z_if_lt (tgt := 22) C dX1_hasNode_1 (by decide) (fun c3 => ?_) (fun c3 => ?_)
  · replace hf := if_t c3 hf
    refine z_iconst C (v := 0) dX1_hasNode_22 rfl ?_
    cases hf
    exact hret _ _ dX1_hasNode_23 (Or.inl rfl)
  · replace hf := if_f c3 hf
    refine z_iload_n C 1 dX1_hasNode_4 rfl rfl ?_
    refine z_aload_n C 0 dX1_hasNode_5 rfl rfl ?_
    refine z_geti C (Nat.le_of_ble_eq_true rfl) rfl rfl 0 (Nat.le_of_ble_eq_true rfl) rfl kiX1_hasNode_X1 kfX1_hasNode_28 dX1_hasNode_6 ?_
    refine z_icmp_ge (tgt := 22) C dX1_hasNode_9 (by decide) (fun c2 => ?_) (fun c2 => ?_)
    · replace hf := if_t c2 hf
      refine z_iconst C (v := 0) dX1_hasNode_22 rfl ?_
      cases hf
      exact hret _ _ dX1_hasNode_23 (Or.inl rfl)
    · replace hf := if_f c2 hf
      refine z_iload_n C 1 dX1_hasNode_12 rfl rfl ?_
      refine z_bipush C (v := 10) dX1_hasNode_13 rfl ?_
      refine z_icmp_ge (tgt := 22) C dX1_hasNode_15 (by decide) (fun c1 => ?_) (fun c1 => ?_)
      · replace hf := if_t c1 hf
        refine z_iconst C (v := 0) dX1_hasNode_22 rfl ?_
        cases hf
        exact hret _ _ dX1_hasNode_23 (Or.inl rfl)
      · replace hf := if_f c1 hf
        refine z_iconst C (v := 1) dX1_hasNode_18 rfl ?_
        refine z_goto (tgt := 23) C dX1_hasNode_19 (by decide) ?_
        cases hf
        exact hret _ _ dX1_hasNode_23 (Or.inr rfl)
set_option maxRecDepth 20000 in
theorem ggX1_canBeEdge_X1_hasNode : GoodIn wsX1_canBeEdge wsX1_hasNode := goodIn_sub (List.forall_mem_cons.mpr ⟨(List.mem_of_getElem? (i := 5) rfl), (List.forall_mem_append.mpr ⟨(List.forall_mem_cons.mpr ⟨(List.mem_of_getElem? (i := 6) rfl), (fun _ h => absurd h List.not_mem_nil)⟩), (fun _ h => (List.mem_cons_of_mem _ (List.mem_append_right _ h)))⟩)⟩) (by decide +kernel)
set_option maxRecDepth 20000 in
theorem gX1_canBeEdge_X1_hasNode : GoodIn wsX1_canBeEdge (wsV RX1 32 RX1 yX1_hasNode wsX1_hasNode) := goodIn_app (goodIn_sub (List.forall_mem_cons.mpr ⟨(List.mem_of_getElem? (i := 1) rfl), (List.forall_mem_cons.mpr ⟨(List.mem_of_getElem? (i := 2) rfl), (List.forall_mem_cons.mpr ⟨(List.mem_of_getElem? (i := 3) rfl), (List.forall_mem_cons.mpr ⟨(List.mem_of_getElem? (i := 4) rfl), (fun _ h => absurd h List.not_mem_nil)⟩)⟩)⟩)⟩) (by decide +kernel)) ggX1_canBeEdge_X1_hasNode
theorem dX1_canBeEdge_0 : decode cX1_canBeEdge 0 = .ok (.aload_n 0, 1) := by decide +kernel
theorem dX1_canBeEdge_1 : decode cX1_canBeEdge 1 = .ok (.iload_n 1, 1) := by decide +kernel
theorem dX1_canBeEdge_2 : decode cX1_canBeEdge 2 = .ok (.invokevirtual 32, 3) := by decide +kernel
theorem dX1_canBeEdge_5 : decode cX1_canBeEdge 5 = .ok (.ifCond .eq 25, 3) := by decide +kernel
theorem dX1_canBeEdge_8 : decode cX1_canBeEdge 8 = .ok (.iload_n 2, 1) := by decide +kernel
theorem dX1_canBeEdge_9 : decode cX1_canBeEdge 9 = .ok (.ifCond .lt 21, 3) := by decide +kernel
theorem dX1_canBeEdge_12 : decode cX1_canBeEdge 12 = .ok (.iload_n 2, 1) := by decide +kernel
theorem dX1_canBeEdge_13 : decode cX1_canBeEdge 13 = .ok (.bipush 10, 2) := by decide +kernel
theorem dX1_canBeEdge_15 : decode cX1_canBeEdge 15 = .ok (.if_icmp .ge 15, 3) := by decide +kernel
theorem dX1_canBeEdge_18 : decode cX1_canBeEdge 18 = .ok (.aload_n 0, 1) := by decide +kernel
theorem dX1_canBeEdge_19 : decode cX1_canBeEdge 19 = .ok (.iload_n 3, 1) := by decide +kernel
theorem dX1_canBeEdge_20 : decode cX1_canBeEdge 20 = .ok (.invokevirtual 32, 3) := by decide +kernel
theorem dX1_canBeEdge_23 : decode cX1_canBeEdge 23 = .ok (.ifCond .eq 7, 3) := by decide +kernel
theorem dX1_canBeEdge_26 : decode cX1_canBeEdge 26 = .ok (.iconst 1, 1) := by decide +kernel
theorem dX1_canBeEdge_27 : decode cX1_canBeEdge 27 = .ok (.goto 4, 3) := by decide +kernel
theorem dX1_canBeEdge_30 : decode cX1_canBeEdge 30 = .ok (.iconst 0, 1) := by decide +kernel
theorem dX1_canBeEdge_31 : decode cX1_canBeEdge 31 = .ok (.ireturn, 1) := by decide +kernel
def rmX1_canBeEdge : Room := { frames := 1, cells := 0, slots := 0, locals := 21 }
theorem zdX1_canBeEdge : yX1_canBeEdge.cls = RX1 ∧ yX1_canBeEdge.cls ≠ "java/lang/invoke/MethodHandle" ∧ yX1_canBeEdge.cls ≠ "java/lang/invoke/VarHandle" ∧ (parseMethodDescriptor yX1_canBeEdge.desc).map (fun d => d.parameters.length) = some 3 := by decide +kernel
def s_X1_canBeEdge (m : Mem) (a1 : Int32) (a2 : Int32) (a3 : Int32) : Option (Int32) :=
  (s_X1_hasNode m a1).bind fun r2 => (if r2 = 0 then (some 0) else ((if a2 < 0 then (some 0) else ((if 10 ≤ a2 then (some 0) else ((s_X1_hasNode m a3).bind fun r4 => (if r4 = 0 then (some 0) else (some 1))))))))
set_option maxRecDepth 100000 in
set_option maxHeartbeats 4000000 in
theorem c_X1_canBeEdge (l : Launch) (w : ZW) {m : Mem} {a1 : Int32} {a2 : Int32} {a3 : Int32} {r9 : Int32}  (hf : s_X1_canBeEdge m a1 a2 a3 = some r9) : zCi MX l w yX1_canBeEdge wsX1_canBeEdge rmX1_canBeEdge [.ref (w.2.1 1), .int a1, .int a2, .int a3] m m r9 := by
  refine z_met_z MX_ok (own := RX1) (by decide +kernel) rfl rfl (Nat.le_of_ble_eq_true rfl) ?_
  intro K C hKw hKl hret
  subst hKw
  subst hKl
  unfold s_X1_canBeEdge at hf
  show zGo MX K m [(0, .ref ((zw K).2.1 1)), (1, .int a1), (2, .int a2), (3, .int a3)] 0 []
  refine z_aload_n C 0 dX1_canBeEdge_0 rfl rfl ?_
  refine z_iload_n C 1 dX1_canBeEdge_1 rfl rfl ?_
  obtain ⟨r2, hc1, hf⟩ := zb_el hf
  refine z_cVi C (c_X1_hasNode _ _ hc1) rfl gX1_canBeEdge_X1_hasNode rfl rfl zdX1_hasNode rfl (Nat.le_of_ble_eq_true rfl) rfl rfl rfl ⟨Nat.le_of_ble_eq_true rfl, Nat.le_of_ble_eq_true rfl⟩ (Nat.le_of_ble_eq_true rfl) dX1_canBeEdge_2 rfl ?_
  refine z_if_eq (tgt := 30) C dX1_canBeEdge_5 (by decide) (fun c8 => ?_) (fun c8 => ?_)
  · replace hf := if_t c8 hf
    refine z_iconst C (v := 0) dX1_canBeEdge_30 rfl ?_
    cases hf
    exact hret _ _ dX1_canBeEdge_31 (Or.inl rfl)
  · replace hf := if_f c8 hf
    refine z_iload_n C 2 dX1_canBeEdge_8 rfl rfl ?_
    refine z_if_lt (tgt := 30) C dX1_canBeEdge_9 (by decide) (fun c7 => ?_) (fun c7 => ?_)
    · replace hf := if_t c7 hf
      refine z_iconst C (v := 0) dX1_canBeEdge_30 rfl ?_
      cases hf
      exact hret _ _ dX1_canBeEdge_31 (Or.inl rfl)
    · replace hf := if_f c7 hf
      refine z_iload_n C 2 dX1_canBeEdge_12 rfl rfl ?_
      refine z_bipush C (v := 10) dX1_canBeEdge_13 rfl ?_
      refine z_icmp_ge (tgt := 30) C dX1_canBeEdge_15 (by decide) (fun c6 => ?_) (fun c6 => ?_)
      · replace hf := if_t c6 hf
        refine z_iconst C (v := 0) dX1_canBeEdge_30 rfl ?_
        cases hf
        exact hret _ _ dX1_canBeEdge_31 (Or.inl rfl)
      · replace hf := if_f c6 hf
        refine z_aload_n C 0 dX1_canBeEdge_18 rfl rfl ?_
        refine z_iload_n C 3 dX1_canBeEdge_19 rfl rfl ?_
        obtain ⟨r4, hc3, hf⟩ := zb_el hf
        refine z_cVi C (c_X1_hasNode _ _ hc3) rfl gX1_canBeEdge_X1_hasNode rfl rfl zdX1_hasNode rfl (Nat.le_of_ble_eq_true rfl) rfl rfl rfl ⟨Nat.le_of_ble_eq_true rfl, Nat.le_of_ble_eq_true rfl⟩ (Nat.le_of_ble_eq_true rfl) dX1_canBeEdge_20 rfl ?_
        refine z_if_eq (tgt := 30) C dX1_canBeEdge_23 (by decide) (fun c5 => ?_) (fun c5 => ?_)
        · replace hf := if_t c5 hf
          refine z_iconst C (v := 0) dX1_canBeEdge_30 rfl ?_
          cases hf
          exact hret _ _ dX1_canBeEdge_31 (Or.inl rfl)
        · replace hf := if_f c5 hf
          refine z_iconst C (v := 1) dX1_canBeEdge_26 rfl ?_
          refine z_goto (tgt := 31) C dX1_canBeEdge_27 (by decide) ?_
          cases hf
          exact hret _ _ dX1_canBeEdge_31 (Or.inr rfl)
theorem dX1_clear_0 : decode cX1_clear 0 = .ok (.aload_n 0, 1) := by decide +kernel
theorem dX1_clear_1 : decode cX1_clear 1 = .ok (.iconst 0, 1) := by decide +kernel
theorem dX1_clear_2 : decode cX1_clear 2 = .ok (.putfield 28, 3) := by decide +kernel
theorem dX1_clear_5 : decode cX1_clear 5 = .ok (.aload_n 0, 1) := by decide +kernel
theorem dX1_clear_6 : decode cX1_clear 6 = .ok (.iconst 0, 1) := by decide +kernel
theorem dX1_clear_7 : decode cX1_clear 7 = .ok (.putfield 36, 3) := by decide +kernel
theorem dX1_clear_10 : decode cX1_clear 10 = .ok (.return_, 1) := by decide +kernel
def rmX1_clear : Room := { frames := 0, cells := 0, slots := 0, locals := 0 }
theorem zdX1_clear : yX1_clear.cls = RX1 ∧ yX1_clear.cls ≠ "java/lang/invoke/MethodHandle" ∧ yX1_clear.cls ≠ "java/lang/invoke/VarHandle" ∧ (parseMethodDescriptor yX1_clear.desc).map (fun d => d.parameters.length) = some 0 := by decide +kernel
theorem kiX1_clear_X1 : ∀ w ∈ wsX10, w ∈ wsX1_clear := fun _ h => (List.mem_cons_of_mem _ (List.mem_append_right _ h))
theorem kfX1_clear_28 : Cond.fieldLink RX1 28 "ShapeJudge$Graph" "nodes" "I" ∈ wsX1_clear := (List.mem_of_getElem? (i := 1) rfl)
theorem kfX1_clear_36 : Cond.fieldLink RX1 36 "ShapeJudge$Graph" "edges" "I" ∈ wsX1_clear := (List.mem_of_getElem? (i := 2) rfl)
def s_X1_clear (m : Mem)  : Option (Mem) :=
  bn (sto m 1 0 0) fun m1 => bn (sto m1 1 1 0) fun m2 => some m2
set_option maxRecDepth 100000 in
set_option maxHeartbeats 4000000 in
theorem c_X1_clear (l : Launch) (w : ZW) {m : Mem}  {m9 : Mem}  (hf : s_X1_clear m  = some m9) : zCv MX l w yX1_clear wsX1_clear rmX1_clear [.ref (w.2.1 1)] m m9 := by
  refine z_met_v MX_ok (own := RX1) (by decide +kernel) rfl rfl (Nat.le_of_ble_eq_true rfl) ?_
  intro K C hKw hKl hret
  subst hKw
  subst hKl
  unfold s_X1_clear at hf
  show zGo MX K m [(0, .ref ((zw K).2.1 1))] 0 []
  refine z_aload_n C 0 dX1_clear_0 rfl rfl ?_
  refine z_iconst C (v := 0) dX1_clear_1 rfl ?_
  refine z_puti C (Nat.le_of_ble_eq_true rfl) rfl rfl 0 (Nat.le_of_ble_eq_true rfl) rfl kiX1_clear_X1 kfX1_clear_28 tyX1 tyX1_ok nmX1 rfl rfl dX1_clear_2 ?_
  refine z_nm (fun m1 e_m1 => ?_)
  replace hf := bn_to e_m1 hf
  refine z_aload_n C 0 dX1_clear_5 rfl rfl ?_
  refine z_iconst C (v := 0) dX1_clear_6 rfl ?_
  refine z_puti C (Nat.le_of_ble_eq_true rfl) rfl rfl 1 (Nat.le_of_ble_eq_true rfl) rfl kiX1_clear_X1 kfX1_clear_36 tyX1 tyX1_ok nmX1 rfl rfl dX1_clear_7 ?_
  refine z_nm (fun m2 e_m2 => ?_)
  replace hf := bn_to e_m2 hf
  cases hf
  exact hret _ _ dX1_clear_10
theorem dX1_hasEdge_0 : decode cX1_hasEdge 0 = .ok (.iload_n 2, 1) := by decide +kernel
theorem dX1_hasEdge_1 : decode cX1_hasEdge 1 = .ok (.ifCond .lt 22, 3) := by decide +kernel
theorem dX1_hasEdge_4 : decode cX1_hasEdge 4 = .ok (.iload_n 2, 1) := by decide +kernel
theorem dX1_hasEdge_5 : decode cX1_hasEdge 5 = .ok (.aload_n 0, 1) := by decide +kernel
theorem dX1_hasEdge_6 : decode cX1_hasEdge 6 = .ok (.getfield 19, 3) := by decide +kernel
theorem dX1_hasEdge_9 : decode cX1_hasEdge 9 = .ok (.iload_n 1, 1) := by decide +kernel
theorem dX1_hasEdge_10 : decode cX1_hasEdge 10 = .ok (.iaload, 1) := by decide +kernel
theorem dX1_hasEdge_11 : decode cX1_hasEdge 11 = .ok (.if_icmp .ge 12, 3) := by decide +kernel
theorem dX1_hasEdge_14 : decode cX1_hasEdge 14 = .ok (.iload_n 2, 1) := by decide +kernel
theorem dX1_hasEdge_15 : decode cX1_hasEdge 15 = .ok (.iconst 5, 1) := by decide +kernel
theorem dX1_hasEdge_16 : decode cX1_hasEdge 16 = .ok (.if_icmp .ge 7, 3) := by decide +kernel
theorem dX1_hasEdge_19 : decode cX1_hasEdge 19 = .ok (.iconst 1, 1) := by decide +kernel
theorem dX1_hasEdge_20 : decode cX1_hasEdge 20 = .ok (.goto 4, 3) := by decide +kernel
theorem dX1_hasEdge_23 : decode cX1_hasEdge 23 = .ok (.iconst 0, 1) := by decide +kernel
theorem dX1_hasEdge_24 : decode cX1_hasEdge 24 = .ok (.ireturn, 1) := by decide +kernel
def rmX1_hasEdge : Room := { frames := 0, cells := 0, slots := 0, locals := 0 }
theorem zdX1_hasEdge : yX1_hasEdge.cls = RX1 ∧ yX1_hasEdge.cls ≠ "java/lang/invoke/MethodHandle" ∧ yX1_hasEdge.cls ≠ "java/lang/invoke/VarHandle" ∧ (parseMethodDescriptor yX1_hasEdge.desc).map (fun d => d.parameters.length) = some 2 := by decide +kernel
theorem kiX1_hasEdge_X1 : ∀ w ∈ wsX10, w ∈ wsX1_hasEdge := fun _ h => (List.mem_cons_of_mem _ (List.mem_append_right _ h))
theorem kfX1_hasEdge_19 : Cond.fieldLink RX1 19 "ShapeJudge$Graph" "degrees" "[I" ∈ wsX1_hasEdge := (List.mem_of_getElem? (i := 1) rfl)
def s_X1_hasEdge (m : Mem) (a1 : Int32) (a2 : Int32) : Option (Int32) :=
  (if a2 < 0 then (some 0) else (ck (zin a1 10 = true) ((if (m 4 (Int32.toNatClampNeg a1)) ≤ a2 then (some 0) else ((if 5 ≤ a2 then (some 0) else (some 1)))))))
set_option maxRecDepth 100000 in
set_option maxHeartbeats 4000000 in
theorem c_X1_hasEdge (l : Launch) (w : ZW) {m : Mem} {a1 : Int32} {a2 : Int32} {r9 : Int32}  (hf : s_X1_hasEdge m a1 a2 = some r9) : zCi MX l w yX1_hasEdge wsX1_hasEdge rmX1_hasEdge [.ref (w.2.1 1), .int a1, .int a2] m m r9 := by
  refine z_met_z MX_ok (own := RX1) (by decide +kernel) rfl rfl (Nat.le_of_ble_eq_true rfl) ?_
  intro K C hKw hKl hret
  subst hKw
  subst hKl
  unfold s_X1_hasEdge at hf
  show zGo MX K m [(0, .ref ((zw K).2.1 1)), (1, .int a1), (2, .int a2)] 0 []
  refine z_iload_n C 2 dX1_hasEdge_0 rfl rfl ?_
  refine z_if_lt (tgt := 23) C dX1_hasEdge_1 (by decide) (fun c4 => ?_) (fun c4 => ?_)
  · replace hf := if_t c4 hf
    refine z_iconst C (v := 0) dX1_hasEdge_23 rfl ?_
    cases hf
    exact hret _ _ dX1_hasEdge_24 (Or.inl rfl)
  · replace hf := if_f c4 hf
    refine z_iload_n C 2 dX1_hasEdge_4 rfl rfl ?_
    refine z_aload_n C 0 dX1_hasEdge_5 rfl rfl ?_
    refine z_getr C (t := 4) (Nat.le_of_ble_eq_true rfl) rfl rfl 4 (Nat.le_of_ble_eq_true rfl) rfl kiX1_hasEdge_X1 kfX1_hasEdge_19 dX1_hasEdge_6 ?_
    refine z_iload_n C 1 dX1_hasEdge_9 rfl rfl ?_
    obtain ⟨hi1, hf⟩ := ck_el hf
    refine z_iald C (k := 4) (Nat.le_of_ble_eq_true rfl) rfl hi1 dX1_hasEdge_10 ?_
    refine z_icmp_ge (tgt := 23) C dX1_hasEdge_11 (by decide) (fun c3 => ?_) (fun c3 => ?_)
    · replace hf := if_t c3 hf
      refine z_iconst C (v := 0) dX1_hasEdge_23 rfl ?_
      cases hf
      exact hret _ _ dX1_hasEdge_24 (Or.inl rfl)
    · replace hf := if_f c3 hf
      refine z_iload_n C 2 dX1_hasEdge_14 rfl rfl ?_
      refine z_iconst C (v := 5) dX1_hasEdge_15 rfl ?_
      refine z_icmp_ge (tgt := 23) C dX1_hasEdge_16 (by decide) (fun c2 => ?_) (fun c2 => ?_)
      · replace hf := if_t c2 hf
        refine z_iconst C (v := 0) dX1_hasEdge_23 rfl ?_
        cases hf
        exact hret _ _ dX1_hasEdge_24 (Or.inl rfl)
      · replace hf := if_f c2 hf
        refine z_iconst C (v := 1) dX1_hasEdge_19 rfl ?_
        refine z_goto (tgt := 24) C dX1_hasEdge_20 (by decide) ?_
        cases hf
        exact hret _ _ dX1_hasEdge_24 (Or.inr rfl)
theorem dX1_placeOf_0 : decode cX1_placeOf 0 = .ok (.iload_n 1, 1) := by decide +kernel
theorem dX1_placeOf_1 : decode cX1_placeOf 1 = .ok (.iconst 5, 1) := by decide +kernel
theorem dX1_placeOf_2 : decode cX1_placeOf 2 = .ok (.imul, 1) := by decide +kernel
theorem dX1_placeOf_3 : decode cX1_placeOf 3 = .ok (.istore 4, 2) := by decide +kernel
theorem dX1_placeOf_5 : decode cX1_placeOf 5 = .ok (.iconst 0, 1) := by decide +kernel
theorem dX1_placeOf_6 : decode cX1_placeOf 6 = .ok (.istore 5, 2) := by decide +kernel
theorem dX1_placeOf_8 : decode cX1_placeOf 8 = .ok (.iload 5, 2) := by decide +kernel
theorem dX1_placeOf_10 : decode cX1_placeOf 10 = .ok (.aload_n 0, 1) := by decide +kernel
theorem dX1_placeOf_11 : decode cX1_placeOf 11 = .ok (.getfield 19, 3) := by decide +kernel
theorem dX1_placeOf_14 : decode cX1_placeOf 14 = .ok (.iload_n 1, 1) := by decide +kernel
theorem dX1_placeOf_15 : decode cX1_placeOf 15 = .ok (.iaload, 1) := by decide +kernel
theorem dX1_placeOf_16 : decode cX1_placeOf 16 = .ok (.if_icmp .ge 40, 3) := by decide +kernel
theorem dX1_placeOf_19 : decode cX1_placeOf 19 = .ok (.aload_n 0, 1) := by decide +kernel
theorem dX1_placeOf_20 : decode cX1_placeOf 20 = .ok (.getfield 22, 3) := by decide +kernel
theorem dX1_placeOf_23 : decode cX1_placeOf 23 = .ok (.iload 4, 2) := by decide +kernel
theorem dX1_placeOf_25 : decode cX1_placeOf 25 = .ok (.iload 5, 2) := by decide +kernel
theorem dX1_placeOf_27 : decode cX1_placeOf 27 = .ok (.iadd, 1) := by decide +kernel
theorem dX1_placeOf_28 : decode cX1_placeOf 28 = .ok (.iaload, 1) := by decide +kernel
theorem dX1_placeOf_29 : decode cX1_placeOf 29 = .ok (.iload_n 2, 1) := by decide +kernel
theorem dX1_placeOf_30 : decode cX1_placeOf 30 = .ok (.if_icmp .ne 20, 3) := by decide +kernel
theorem dX1_placeOf_33 : decode cX1_placeOf 33 = .ok (.aload_n 0, 1) := by decide +kernel
theorem dX1_placeOf_34 : decode cX1_placeOf 34 = .ok (.getfield 25, 3) := by decide +kernel
theorem dX1_placeOf_37 : decode cX1_placeOf 37 = .ok (.iload 4, 2) := by decide +kernel
theorem dX1_placeOf_39 : decode cX1_placeOf 39 = .ok (.iload 5, 2) := by decide +kernel
theorem dX1_placeOf_41 : decode cX1_placeOf 41 = .ok (.iadd, 1) := by decide +kernel
theorem dX1_placeOf_42 : decode cX1_placeOf 42 = .ok (.iaload, 1) := by decide +kernel
theorem dX1_placeOf_43 : decode cX1_placeOf 43 = .ok (.iload_n 3, 1) := by decide +kernel
theorem dX1_placeOf_44 : decode cX1_placeOf 44 = .ok (.if_icmp .ne 6, 3) := by decide +kernel
theorem dX1_placeOf_47 : decode cX1_placeOf 47 = .ok (.iload 5, 2) := by decide +kernel
theorem dX1_placeOf_49 : decode cX1_placeOf 49 = .ok (.ireturn, 1) := by decide +kernel
theorem dX1_placeOf_50 : decode cX1_placeOf 50 = .ok (.iinc 5 1, 3) := by decide +kernel
theorem dX1_placeOf_53 : decode cX1_placeOf 53 = .ok (.goto (-45), 3) := by decide +kernel
theorem dX1_placeOf_56 : decode cX1_placeOf 56 = .ok (.iconst (-1), 1) := by decide +kernel
theorem dX1_placeOf_57 : decode cX1_placeOf 57 = .ok (.ireturn, 1) := by decide +kernel
def rmX1_placeOf : Room := { frames := 0, cells := 0, slots := 0, locals := 0 }
theorem zdX1_placeOf : yX1_placeOf.cls = RX1 ∧ yX1_placeOf.cls ≠ "java/lang/invoke/MethodHandle" ∧ yX1_placeOf.cls ≠ "java/lang/invoke/VarHandle" ∧ (parseMethodDescriptor yX1_placeOf.desc).map (fun d => d.parameters.length) = some 3 := by decide +kernel
theorem kiX1_placeOf_X1 : ∀ w ∈ wsX10, w ∈ wsX1_placeOf := fun _ h => (List.mem_cons_of_mem _ (List.mem_append_right _ h))
theorem kfX1_placeOf_19 : Cond.fieldLink RX1 19 "ShapeJudge$Graph" "degrees" "[I" ∈ wsX1_placeOf := (List.mem_of_getElem? (i := 1) rfl)
theorem kfX1_placeOf_22 : Cond.fieldLink RX1 22 "ShapeJudge$Graph" "edgeName" "[I" ∈ wsX1_placeOf := (List.mem_of_getElem? (i := 2) rfl)
theorem kfX1_placeOf_25 : Cond.fieldLink RX1 25 "ShapeJudge$Graph" "edgeTo" "[I" ∈ wsX1_placeOf := (List.mem_of_getElem? (i := 3) rfl)
def t_X1_placeOf_8 (m : Mem) (a1 : Int32) (a2 : Int32) (a3 : Int32) (x1 : Int32) (i2 : Int32) : Option ((Int32) ⊕ (Int32)) :=
  ck (zin a1 10 = true) ((if (m 4 (Int32.toNatClampNeg a1)) ≤ i2 then (some (.inr (-1))) else (ck (zin (x1 + i2) 50 = true) ((if (m 5 (Int32.toNatClampNeg (x1 + i2))) = a2 then (ck (zin (x1 + i2) 50 = true) ((if (m 6 (Int32.toNatClampNeg (x1 + i2))) = a3 then (some (.inr i2)) else (bn (i2 + 1) fun x7 => some (.inl x7))))) else (bn (i2 + 1) fun x5 => some (.inl x5)))))))
def l_X1_placeOf_8 (m : Mem) (a1 : Int32) (a2 : Int32) (a3 : Int32) (x1 : Int32) (n : Nat) (i2 : Int32) : Option (Int32) := zlp n (fun a => t_X1_placeOf_8 m a1 a2 a3 x1 a) i2
def s_X1_placeOf (m : Mem) (a1 : Int32) (a2 : Int32) (a3 : Int32) : Option (Int32) :=
  bn (a1 * 5) fun x1 => l_X1_placeOf_8 m a1 a2 a3 x1 FU 0
set_option maxRecDepth 100000 in
set_option maxHeartbeats 4000000 in
theorem w_X1_placeOf_8 {K : ZK} (C : zOK MX K cX1_placeOf 6 (some .int) RX1 wsX1_placeOf rmX1_placeOf) {m : Mem} {a1 : Int32} {a2 : Int32} {a3 : Int32} {x1 : Int32}  {r9 : Int32} (hret : zRi MX K cX1_placeOf m r9) : ∀ (n : Nat) (i2 : Int32), l_X1_placeOf_8 m a1 a2 a3 x1 n i2 = some r9 → zGo MX K m [(0, .ref ((zw K).2.1 1)), (1, .int a1), (2, .int a2), (3, .int a3), (4, .int x1), (5, .int i2)] 8 [] := by
  intro n
  induction n with
  | zero =>
    intro i2 hf
    cases hf
  | succ n ih =>
    intro i2 hf
    obtain ⟨z, hf, hz⟩ := zlp_el hf
    replace hf : t_X1_placeOf_8 m a1 a2 a3 x1 i2 = some z := hf
    unfold t_X1_placeOf_8 at hf
    refine z_iload C 5 dX1_placeOf_8 rfl ?_
    refine z_aload_n C 0 dX1_placeOf_10 rfl rfl ?_
    refine z_getr C (t := 4) (Nat.le_of_ble_eq_true rfl) rfl rfl 4 (Nat.le_of_ble_eq_true rfl) rfl kiX1_placeOf_X1 kfX1_placeOf_19 dX1_placeOf_11 ?_
    refine z_iload_n C 1 dX1_placeOf_14 rfl rfl ?_
    obtain ⟨hi3, hf⟩ := ck_el hf
    refine z_iald C (k := 4) (Nat.le_of_ble_eq_true rfl) rfl hi3 dX1_placeOf_15 ?_
    refine z_icmp_ge (tgt := 56) C dX1_placeOf_16 (by decide) (fun c10 => ?_) (fun c10 => ?_)
    · replace hf := if_t c10 hf
      refine z_iconst C (v := (-1)) dX1_placeOf_56 (by decide) ?_
      cases hf
      replace hz := zlz_r hz
      cases hz
      exact hret _ _ dX1_placeOf_57
    · replace hf := if_f c10 hf
      refine z_aload_n C 0 dX1_placeOf_19 rfl rfl ?_
      refine z_getr C (t := 5) (Nat.le_of_ble_eq_true rfl) rfl rfl 5 (Nat.le_of_ble_eq_true rfl) rfl kiX1_placeOf_X1 kfX1_placeOf_22 dX1_placeOf_20 ?_
      refine z_iload C 4 dX1_placeOf_23 rfl ?_
      refine z_iload C 5 dX1_placeOf_25 rfl ?_
      refine z_iadd C dX1_placeOf_27 ?_
      obtain ⟨hi4, hf⟩ := ck_el hf
      refine z_iald C (k := 5) (Nat.le_of_ble_eq_true rfl) rfl hi4 dX1_placeOf_28 ?_
      refine z_iload_n C 2 dX1_placeOf_29 rfl rfl ?_
      refine z_icmp_ne (tgt := 50) C dX1_placeOf_30 (by decide) (fun c9 => ?_) (fun c9 => ?_)
      · replace hf := if_f c9 hf
        obtain ⟨x5, e_x5⟩ : ∃ y : Int32, y = i2 + 1 := ⟨_, rfl⟩
        replace hf := bn_to e_x5 hf
        refine z_iinc C (lv2 := [(0, .ref ((zw K).2.1 1)), (1, .int a1), (2, .int a2), (3, .int a3), (4, .int x1), (5, .int x5)]) 5 [1, 2, 3, 4, 5, 0] dX1_placeOf_50 rfl rfl (Nat.le_of_ble_eq_true rfl) e_x5 rfl ?_
        refine z_goto (tgt := 8) C dX1_placeOf_53 (by decide) ?_
        cases hf
        exact z_sub [0, 1, 2, 3, 4, 5] rfl (ih x5 hz)
      · replace hf := if_t c9 hf
        refine z_aload_n C 0 dX1_placeOf_33 rfl rfl ?_
        refine z_getr C (t := 6) (Nat.le_of_ble_eq_true rfl) rfl rfl 6 (Nat.le_of_ble_eq_true rfl) rfl kiX1_placeOf_X1 kfX1_placeOf_25 dX1_placeOf_34 ?_
        refine z_iload C 4 dX1_placeOf_37 rfl ?_
        refine z_iload C 5 dX1_placeOf_39 rfl ?_
        refine z_iadd C dX1_placeOf_41 ?_
        obtain ⟨hi6, hf⟩ := ck_el hf
        refine z_iald C (k := 6) (Nat.le_of_ble_eq_true rfl) rfl hi6 dX1_placeOf_42 ?_
        refine z_iload_n C 3 dX1_placeOf_43 rfl rfl ?_
        refine z_icmp_ne (tgt := 50) C dX1_placeOf_44 (by decide) (fun c8 => ?_) (fun c8 => ?_)
        · replace hf := if_f c8 hf
          obtain ⟨x7, e_x7⟩ : ∃ y : Int32, y = i2 + 1 := ⟨_, rfl⟩
          replace hf := bn_to e_x7 hf
          refine z_iinc C (lv2 := [(0, .ref ((zw K).2.1 1)), (1, .int a1), (2, .int a2), (3, .int a3), (4, .int x1), (5, .int x7)]) 5 [1, 2, 3, 4, 5, 0] dX1_placeOf_50 rfl rfl (Nat.le_of_ble_eq_true rfl) e_x7 rfl ?_
          refine z_goto (tgt := 8) C dX1_placeOf_53 (by decide) ?_
          cases hf
          exact z_sub [0, 1, 2, 3, 4, 5] rfl (ih x7 hz)
        · replace hf := if_t c8 hf
          refine z_iload C 5 dX1_placeOf_47 rfl ?_
          cases hf
          replace hz := zlz_r hz
          cases hz
          exact hret _ _ dX1_placeOf_49
set_option maxRecDepth 100000 in
set_option maxHeartbeats 4000000 in
theorem c_X1_placeOf (l : Launch) (w : ZW) {m : Mem} {a1 : Int32} {a2 : Int32} {a3 : Int32} {r9 : Int32}  (hf : s_X1_placeOf m a1 a2 a3 = some r9) : zCi MX l w yX1_placeOf wsX1_placeOf rmX1_placeOf [.ref (w.2.1 1), .int a1, .int a2, .int a3] m m r9 := by
  refine z_met_i MX_ok (own := RX1) (by decide +kernel) rfl rfl (Nat.le_of_ble_eq_true rfl) ?_
  intro K C hKw hKl hret
  subst hKw
  subst hKl
  unfold s_X1_placeOf at hf
  show zGo MX K m [(0, .ref ((zw K).2.1 1)), (1, .int a1), (2, .int a2), (3, .int a3)] 0 []
  refine z_iload_n C 1 dX1_placeOf_0 rfl rfl ?_
  refine z_iconst C (v := 5) dX1_placeOf_1 rfl ?_
  refine z_imul C dX1_placeOf_2 ?_
  refine z_topi (fun x1 e_x1 => ?_)
  replace hf := bn_to e_x1 hf
  refine z_istore C (lv2 := [(0, .ref ((zw K).2.1 1)), (1, .int a1), (2, .int a2), (3, .int a3), (4, .int x1)]) [1, 2, 3, 4, 0] dX1_placeOf_3 (Nat.le_of_ble_eq_true rfl) rfl ?_
  refine z_iconst C (v := 0) dX1_placeOf_5 rfl ?_
  refine z_istore C (lv2 := [(0, .ref ((zw K).2.1 1)), (1, .int a1), (2, .int a2), (3, .int a3), (4, .int x1), (5, .int 0)]) [1, 2, 3, 4, 5, 0] dX1_placeOf_6 (Nat.le_of_ble_eq_true rfl) rfl ?_
  exact z_sub [0, 1, 2, 3, 4, 5] rfl (w_X1_placeOf_8 C  hret _ _ hf)
set_option maxRecDepth 100000 in
theorem daX1_removeEdge : ∀ q ∈ ([(0, .iload_n 1, 1), (1, .iconst 5, 1), (2, .imul, 1), (3, .istore_n 3, 1), (4, .iload_n 2, 1), (5, .iconst 1, 1), (6, .iadd, 1), (7, .istore 4, 2), (9, .iload 4, 2), (11, .aload_n 0, 1), (12, .getfield 19, 3), (15, .iload_n 1, 1), (16, .iaload, 1), (17, .if_icmp .ge 49, 3), (20, .aload_n 0, 1), (21, .getfield 22, 3), (24, .iload_n 3, 1), (25, .iload 4, 2), (27, .iadd, 1), (28, .iconst 1, 1), (29, .isub, 1), (30, .aload_n 0, 1), (31, .getfield 22, 3), (34, .iload_n 3, 1), (35, .iload 4, 2), (37, .iadd, 1), (38, .iaload, 1), (39, .iastore, 1), (40, .aload_n 0, 1), (41, .getfield 25, 3), (44, .iload_n 3, 1), (45, .iload 4, 2), (47, .iadd, 1), (48, .iconst 1, 1), (49, .isub, 1), (50, .aload_n 0, 1), (51, .getfield 25, 3), (54, .iload_n 3, 1), (55, .iload 4, 2), (57, .iadd, 1), (58, .iaload, 1), (59, .iastore, 1), (60, .iinc 4 1, 3), (63, .goto (-54), 3), (66, .aload_n 0, 1), (67, .getfield 19, 3), (70, .iload_n 1, 1), (71, .dup2, 1), (72, .iaload, 1), (73, .iconst 1, 1), (74, .isub, 1), (75, .iastore, 1), (76, .aload_n 0, 1), (77, .dup, 1), (78, .getfield 36, 3), (81, .iconst 1, 1), (82, .isub, 1), (83, .putfield 36, 3), (86, .return_, 1)] : List (Nat × Instr × Nat)), decode cX1_removeEdge q.1 = .ok q.2 := by decide +kernel
theorem dX1_removeEdge_0 : decode cX1_removeEdge 0 = .ok (.iload_n 1, 1) := daX1_removeEdge (0, .iload_n 1, 1) (List.mem_of_getElem? (i := 0) rfl)
theorem dX1_removeEdge_1 : decode cX1_removeEdge 1 = .ok (.iconst 5, 1) := daX1_removeEdge (1, .iconst 5, 1) (List.mem_of_getElem? (i := 1) rfl)
theorem dX1_removeEdge_2 : decode cX1_removeEdge 2 = .ok (.imul, 1) := daX1_removeEdge (2, .imul, 1) (List.mem_of_getElem? (i := 2) rfl)
theorem dX1_removeEdge_3 : decode cX1_removeEdge 3 = .ok (.istore_n 3, 1) := daX1_removeEdge (3, .istore_n 3, 1) (List.mem_of_getElem? (i := 3) rfl)
theorem dX1_removeEdge_4 : decode cX1_removeEdge 4 = .ok (.iload_n 2, 1) := daX1_removeEdge (4, .iload_n 2, 1) (List.mem_of_getElem? (i := 4) rfl)
theorem dX1_removeEdge_5 : decode cX1_removeEdge 5 = .ok (.iconst 1, 1) := daX1_removeEdge (5, .iconst 1, 1) (List.mem_of_getElem? (i := 5) rfl)
theorem dX1_removeEdge_6 : decode cX1_removeEdge 6 = .ok (.iadd, 1) := daX1_removeEdge (6, .iadd, 1) (List.mem_of_getElem? (i := 6) rfl)
theorem dX1_removeEdge_7 : decode cX1_removeEdge 7 = .ok (.istore 4, 2) := daX1_removeEdge (7, .istore 4, 2) (List.mem_of_getElem? (i := 7) rfl)
theorem dX1_removeEdge_9 : decode cX1_removeEdge 9 = .ok (.iload 4, 2) := daX1_removeEdge (9, .iload 4, 2) (List.mem_of_getElem? (i := 8) rfl)
theorem dX1_removeEdge_11 : decode cX1_removeEdge 11 = .ok (.aload_n 0, 1) := daX1_removeEdge (11, .aload_n 0, 1) (List.mem_of_getElem? (i := 9) rfl)
theorem dX1_removeEdge_12 : decode cX1_removeEdge 12 = .ok (.getfield 19, 3) := daX1_removeEdge (12, .getfield 19, 3) (List.mem_of_getElem? (i := 10) rfl)
theorem dX1_removeEdge_15 : decode cX1_removeEdge 15 = .ok (.iload_n 1, 1) := daX1_removeEdge (15, .iload_n 1, 1) (List.mem_of_getElem? (i := 11) rfl)
theorem dX1_removeEdge_16 : decode cX1_removeEdge 16 = .ok (.iaload, 1) := daX1_removeEdge (16, .iaload, 1) (List.mem_of_getElem? (i := 12) rfl)
theorem dX1_removeEdge_17 : decode cX1_removeEdge 17 = .ok (.if_icmp .ge 49, 3) := daX1_removeEdge (17, .if_icmp .ge 49, 3) (List.mem_of_getElem? (i := 13) rfl)
theorem dX1_removeEdge_20 : decode cX1_removeEdge 20 = .ok (.aload_n 0, 1) := daX1_removeEdge (20, .aload_n 0, 1) (List.mem_of_getElem? (i := 14) rfl)
theorem dX1_removeEdge_21 : decode cX1_removeEdge 21 = .ok (.getfield 22, 3) := daX1_removeEdge (21, .getfield 22, 3) (List.mem_of_getElem? (i := 15) rfl)
theorem dX1_removeEdge_24 : decode cX1_removeEdge 24 = .ok (.iload_n 3, 1) := daX1_removeEdge (24, .iload_n 3, 1) (List.mem_of_getElem? (i := 16) rfl)
theorem dX1_removeEdge_25 : decode cX1_removeEdge 25 = .ok (.iload 4, 2) := daX1_removeEdge (25, .iload 4, 2) (List.mem_of_getElem? (i := 17) rfl)
theorem dX1_removeEdge_27 : decode cX1_removeEdge 27 = .ok (.iadd, 1) := daX1_removeEdge (27, .iadd, 1) (List.mem_of_getElem? (i := 18) rfl)
theorem dX1_removeEdge_28 : decode cX1_removeEdge 28 = .ok (.iconst 1, 1) := daX1_removeEdge (28, .iconst 1, 1) (List.mem_of_getElem? (i := 19) rfl)
theorem dX1_removeEdge_29 : decode cX1_removeEdge 29 = .ok (.isub, 1) := daX1_removeEdge (29, .isub, 1) (List.mem_of_getElem? (i := 20) rfl)
theorem dX1_removeEdge_30 : decode cX1_removeEdge 30 = .ok (.aload_n 0, 1) := daX1_removeEdge (30, .aload_n 0, 1) (List.mem_of_getElem? (i := 21) rfl)
theorem dX1_removeEdge_31 : decode cX1_removeEdge 31 = .ok (.getfield 22, 3) := daX1_removeEdge (31, .getfield 22, 3) (List.mem_of_getElem? (i := 22) rfl)
theorem dX1_removeEdge_34 : decode cX1_removeEdge 34 = .ok (.iload_n 3, 1) := daX1_removeEdge (34, .iload_n 3, 1) (List.mem_of_getElem? (i := 23) rfl)
theorem dX1_removeEdge_35 : decode cX1_removeEdge 35 = .ok (.iload 4, 2) := daX1_removeEdge (35, .iload 4, 2) (List.mem_of_getElem? (i := 24) rfl)
theorem dX1_removeEdge_37 : decode cX1_removeEdge 37 = .ok (.iadd, 1) := daX1_removeEdge (37, .iadd, 1) (List.mem_of_getElem? (i := 25) rfl)
theorem dX1_removeEdge_38 : decode cX1_removeEdge 38 = .ok (.iaload, 1) := daX1_removeEdge (38, .iaload, 1) (List.mem_of_getElem? (i := 26) rfl)
theorem dX1_removeEdge_39 : decode cX1_removeEdge 39 = .ok (.iastore, 1) := daX1_removeEdge (39, .iastore, 1) (List.mem_of_getElem? (i := 27) rfl)
theorem dX1_removeEdge_40 : decode cX1_removeEdge 40 = .ok (.aload_n 0, 1) := daX1_removeEdge (40, .aload_n 0, 1) (List.mem_of_getElem? (i := 28) rfl)
theorem dX1_removeEdge_41 : decode cX1_removeEdge 41 = .ok (.getfield 25, 3) := daX1_removeEdge (41, .getfield 25, 3) (List.mem_of_getElem? (i := 29) rfl)
theorem dX1_removeEdge_44 : decode cX1_removeEdge 44 = .ok (.iload_n 3, 1) := daX1_removeEdge (44, .iload_n 3, 1) (List.mem_of_getElem? (i := 30) rfl)
theorem dX1_removeEdge_45 : decode cX1_removeEdge 45 = .ok (.iload 4, 2) := daX1_removeEdge (45, .iload 4, 2) (List.mem_of_getElem? (i := 31) rfl)
theorem dX1_removeEdge_47 : decode cX1_removeEdge 47 = .ok (.iadd, 1) := daX1_removeEdge (47, .iadd, 1) (List.mem_of_getElem? (i := 32) rfl)
theorem dX1_removeEdge_48 : decode cX1_removeEdge 48 = .ok (.iconst 1, 1) := daX1_removeEdge (48, .iconst 1, 1) (List.mem_of_getElem? (i := 33) rfl)
theorem dX1_removeEdge_49 : decode cX1_removeEdge 49 = .ok (.isub, 1) := daX1_removeEdge (49, .isub, 1) (List.mem_of_getElem? (i := 34) rfl)
theorem dX1_removeEdge_50 : decode cX1_removeEdge 50 = .ok (.aload_n 0, 1) := daX1_removeEdge (50, .aload_n 0, 1) (List.mem_of_getElem? (i := 35) rfl)
theorem dX1_removeEdge_51 : decode cX1_removeEdge 51 = .ok (.getfield 25, 3) := daX1_removeEdge (51, .getfield 25, 3) (List.mem_of_getElem? (i := 36) rfl)
theorem dX1_removeEdge_54 : decode cX1_removeEdge 54 = .ok (.iload_n 3, 1) := daX1_removeEdge (54, .iload_n 3, 1) (List.mem_of_getElem? (i := 37) rfl)
theorem dX1_removeEdge_55 : decode cX1_removeEdge 55 = .ok (.iload 4, 2) := daX1_removeEdge (55, .iload 4, 2) (List.mem_of_getElem? (i := 38) rfl)
theorem dX1_removeEdge_57 : decode cX1_removeEdge 57 = .ok (.iadd, 1) := daX1_removeEdge (57, .iadd, 1) (List.mem_of_getElem? (i := 39) rfl)
theorem dX1_removeEdge_58 : decode cX1_removeEdge 58 = .ok (.iaload, 1) := daX1_removeEdge (58, .iaload, 1) (List.mem_of_getElem? (i := 40) rfl)
theorem dX1_removeEdge_59 : decode cX1_removeEdge 59 = .ok (.iastore, 1) := daX1_removeEdge (59, .iastore, 1) (List.mem_of_getElem? (i := 41) rfl)
theorem dX1_removeEdge_60 : decode cX1_removeEdge 60 = .ok (.iinc 4 1, 3) := daX1_removeEdge (60, .iinc 4 1, 3) (List.mem_of_getElem? (i := 42) rfl)
theorem dX1_removeEdge_63 : decode cX1_removeEdge 63 = .ok (.goto (-54), 3) := daX1_removeEdge (63, .goto (-54), 3) (List.mem_of_getElem? (i := 43) rfl)
theorem dX1_removeEdge_66 : decode cX1_removeEdge 66 = .ok (.aload_n 0, 1) := daX1_removeEdge (66, .aload_n 0, 1) (List.mem_of_getElem? (i := 44) rfl)
theorem dX1_removeEdge_67 : decode cX1_removeEdge 67 = .ok (.getfield 19, 3) := daX1_removeEdge (67, .getfield 19, 3) (List.mem_of_getElem? (i := 45) rfl)
theorem dX1_removeEdge_70 : decode cX1_removeEdge 70 = .ok (.iload_n 1, 1) := daX1_removeEdge (70, .iload_n 1, 1) (List.mem_of_getElem? (i := 46) rfl)
theorem dX1_removeEdge_71 : decode cX1_removeEdge 71 = .ok (.dup2, 1) := daX1_removeEdge (71, .dup2, 1) (List.mem_of_getElem? (i := 47) rfl)
theorem dX1_removeEdge_72 : decode cX1_removeEdge 72 = .ok (.iaload, 1) := daX1_removeEdge (72, .iaload, 1) (List.mem_of_getElem? (i := 48) rfl)
theorem dX1_removeEdge_73 : decode cX1_removeEdge 73 = .ok (.iconst 1, 1) := daX1_removeEdge (73, .iconst 1, 1) (List.mem_of_getElem? (i := 49) rfl)
theorem dX1_removeEdge_74 : decode cX1_removeEdge 74 = .ok (.isub, 1) := daX1_removeEdge (74, .isub, 1) (List.mem_of_getElem? (i := 50) rfl)
theorem dX1_removeEdge_75 : decode cX1_removeEdge 75 = .ok (.iastore, 1) := daX1_removeEdge (75, .iastore, 1) (List.mem_of_getElem? (i := 51) rfl)
theorem dX1_removeEdge_76 : decode cX1_removeEdge 76 = .ok (.aload_n 0, 1) := daX1_removeEdge (76, .aload_n 0, 1) (List.mem_of_getElem? (i := 52) rfl)
theorem dX1_removeEdge_77 : decode cX1_removeEdge 77 = .ok (.dup, 1) := daX1_removeEdge (77, .dup, 1) (List.mem_of_getElem? (i := 53) rfl)
theorem dX1_removeEdge_78 : decode cX1_removeEdge 78 = .ok (.getfield 36, 3) := daX1_removeEdge (78, .getfield 36, 3) (List.mem_of_getElem? (i := 54) rfl)
theorem dX1_removeEdge_81 : decode cX1_removeEdge 81 = .ok (.iconst 1, 1) := daX1_removeEdge (81, .iconst 1, 1) (List.mem_of_getElem? (i := 55) rfl)
theorem dX1_removeEdge_82 : decode cX1_removeEdge 82 = .ok (.isub, 1) := daX1_removeEdge (82, .isub, 1) (List.mem_of_getElem? (i := 56) rfl)
theorem dX1_removeEdge_83 : decode cX1_removeEdge 83 = .ok (.putfield 36, 3) := daX1_removeEdge (83, .putfield 36, 3) (List.mem_of_getElem? (i := 57) rfl)
theorem dX1_removeEdge_86 : decode cX1_removeEdge 86 = .ok (.return_, 1) := daX1_removeEdge (86, .return_, 1) (List.mem_of_getElem? (i := 58) rfl)
def rmX1_removeEdge : Room := { frames := 0, cells := 0, slots := 0, locals := 0 }
theorem zdX1_removeEdge : yX1_removeEdge.cls = RX1 ∧ yX1_removeEdge.cls ≠ "java/lang/invoke/MethodHandle" ∧ yX1_removeEdge.cls ≠ "java/lang/invoke/VarHandle" ∧ (parseMethodDescriptor yX1_removeEdge.desc).map (fun d => d.parameters.length) = some 2 := by decide +kernel
theorem kiX1_removeEdge_X1 : ∀ w ∈ wsX10, w ∈ wsX1_removeEdge := fun _ h => (List.mem_cons_of_mem _ (List.mem_append_right _ h))
theorem kfX1_removeEdge_19 : Cond.fieldLink RX1 19 "ShapeJudge$Graph" "degrees" "[I" ∈ wsX1_removeEdge := (List.mem_of_getElem? (i := 1) rfl)
theorem kfX1_removeEdge_22 : Cond.fieldLink RX1 22 "ShapeJudge$Graph" "edgeName" "[I" ∈ wsX1_removeEdge := (List.mem_of_getElem? (i := 2) rfl)
theorem kfX1_removeEdge_25 : Cond.fieldLink RX1 25 "ShapeJudge$Graph" "edgeTo" "[I" ∈ wsX1_removeEdge := (List.mem_of_getElem? (i := 3) rfl)
theorem kfX1_removeEdge_36 : Cond.fieldLink RX1 36 "ShapeJudge$Graph" "edges" "I" ∈ wsX1_removeEdge := (List.mem_of_getElem? (i := 4) rfl)
def t_X1_removeEdge_9 (a1 : Int32) (x1 : Int32) (i3 : Int32) (m4 : Mem) : Option ((Int32 × Mem) ⊕ (Mem)) :=
  ck (zin a1 10 = true) ((if (m4 4 (Int32.toNatClampNeg a1)) ≤ i3 then (some (.inr m4)) else (ck (zin (x1 + i3) 50 = true) (ck (zin ((x1 + i3) - 1) 50 = true) (bn (sto m4 5 (Int32.toNatClampNeg ((x1 + i3) - 1)) (m4 5 (Int32.toNatClampNeg (x1 + i3)))) fun m8 => ck (zin (x1 + i3) 50 = true) (ck (zin ((x1 + i3) - 1) 50 = true) (bn (sto m8 6 (Int32.toNatClampNeg ((x1 + i3) - 1)) (m8 6 (Int32.toNatClampNeg (x1 + i3)))) fun m11 => bn (i3 + 1) fun x12 => some (.inl (x12, m11)))))))))
def l_X1_removeEdge_9 (a1 : Int32) (x1 : Int32) (n : Nat) (i3 : Int32) (m4 : Mem) : Option (Mem) := zlp n (fun a => t_X1_removeEdge_9 a1 x1 a.1 a.2) (i3, m4)
def s_X1_removeEdge (m : Mem) (a1 : Int32) (a2 : Int32) : Option (Mem) :=
  bn (a1 * 5) fun x1 => bn (a2 + 1) fun x2 => ((l_X1_removeEdge_9 a1 x1 FU x2 m).bind fun m14 => ck (zin a1 10 = true) (ck (zin a1 10 = true) (bn (sto m14 4 (Int32.toNatClampNeg a1) ((m14 4 (Int32.toNatClampNeg a1)) - 1)) fun m17 => bn (sto m17 1 1 ((m17 1 1) - 1)) fun m18 => some m18)))
set_option maxRecDepth 100000 in
set_option maxHeartbeats 4000000 in
theorem w_X1_removeEdge_9 {K : ZK} (C : zOK MX K cX1_removeEdge 5 none RX1 wsX1_removeEdge rmX1_removeEdge) {a1 : Int32} {x1 : Int32}  {o0 : Mem} (hk : zGo MX K o0 [(0, .ref ((zw K).2.1 1)), (1, .int a1)] 66 []) : ∀ (n : Nat) (i3 : Int32) (m4 : Mem), l_X1_removeEdge_9 a1 x1 n i3 m4 = some o0 → zGo MX K m4 [(0, .ref ((zw K).2.1 1)), (1, .int a1), (3, .int x1), (4, .int i3)] 9 [] := by
  intro n
  induction n with
  | zero =>
    intro i3 m4 hf
    cases hf
  | succ n ih =>
    intro i3 m4 hf
    obtain ⟨z, hf, hz⟩ := zlp_el hf
    replace hf : t_X1_removeEdge_9 a1 x1 i3 m4 = some z := hf
    unfold t_X1_removeEdge_9 at hf
    refine z_iload C 3 dX1_removeEdge_9 rfl ?_
    refine z_aload_n C 0 dX1_removeEdge_11 rfl rfl ?_
    refine z_getr C (t := 4) (Nat.le_of_ble_eq_true rfl) rfl rfl 4 (Nat.le_of_ble_eq_true rfl) rfl kiX1_removeEdge_X1 kfX1_removeEdge_19 dX1_removeEdge_12 ?_
    refine z_iload_n C 1 dX1_removeEdge_15 rfl rfl ?_
    obtain ⟨hi5, hf⟩ := ck_el hf
    refine z_iald C (k := 4) (Nat.le_of_ble_eq_true rfl) rfl hi5 dX1_removeEdge_16 ?_
    refine z_icmp_ge (tgt := 66) C dX1_removeEdge_17 (by decide) (fun c13 => ?_) (fun c13 => ?_)
    · replace hf := if_t c13 hf
      cases hf
      replace hz := zlz_r hz
      cases hz
      exact z_sub [0, 1] rfl hk
    · replace hf := if_f c13 hf
      refine z_aload_n C 0 dX1_removeEdge_20 rfl rfl ?_
      refine z_getr C (t := 5) (Nat.le_of_ble_eq_true rfl) rfl rfl 5 (Nat.le_of_ble_eq_true rfl) rfl kiX1_removeEdge_X1 kfX1_removeEdge_22 dX1_removeEdge_21 ?_
      refine z_iload_n C 2 dX1_removeEdge_24 rfl rfl ?_
      refine z_iload C 3 dX1_removeEdge_25 rfl ?_
      refine z_iadd C dX1_removeEdge_27 ?_
      refine z_iconst C (v := 1) dX1_removeEdge_28 rfl ?_
      refine z_isub C dX1_removeEdge_29 ?_
      refine z_aload_n C 0 dX1_removeEdge_30 rfl rfl ?_
      refine z_getr C (t := 5) (Nat.le_of_ble_eq_true rfl) rfl rfl 5 (Nat.le_of_ble_eq_true rfl) rfl kiX1_removeEdge_X1 kfX1_removeEdge_22 dX1_removeEdge_31 ?_
      refine z_iload_n C 2 dX1_removeEdge_34 rfl rfl ?_
      refine z_iload C 3 dX1_removeEdge_35 rfl ?_
      refine z_iadd C dX1_removeEdge_37 ?_
      obtain ⟨hi6, hf⟩ := ck_el hf
      refine z_iald C (k := 5) (Nat.le_of_ble_eq_true rfl) rfl hi6 dX1_removeEdge_38 ?_
      obtain ⟨hi7, hf⟩ := ck_el hf
      refine z_iast C (k := 5) (Nat.le_of_ble_eq_true rfl) rfl hi7 dX1_removeEdge_39 ?_
      refine z_nm (fun m8 e_m8 => ?_)
      replace hf := bn_to e_m8 hf
      refine z_aload_n C 0 dX1_removeEdge_40 rfl rfl ?_
      refine z_getr C (t := 6) (Nat.le_of_ble_eq_true rfl) rfl rfl 6 (Nat.le_of_ble_eq_true rfl) rfl kiX1_removeEdge_X1 kfX1_removeEdge_25 dX1_removeEdge_41 ?_
      refine z_iload_n C 2 dX1_removeEdge_44 rfl rfl ?_
      refine z_iload C 3 dX1_removeEdge_45 rfl ?_
      refine z_iadd C dX1_removeEdge_47 ?_
      refine z_iconst C (v := 1) dX1_removeEdge_48 rfl ?_
      refine z_isub C dX1_removeEdge_49 ?_
      refine z_aload_n C 0 dX1_removeEdge_50 rfl rfl ?_
      refine z_getr C (t := 6) (Nat.le_of_ble_eq_true rfl) rfl rfl 6 (Nat.le_of_ble_eq_true rfl) rfl kiX1_removeEdge_X1 kfX1_removeEdge_25 dX1_removeEdge_51 ?_
      refine z_iload_n C 2 dX1_removeEdge_54 rfl rfl ?_
      refine z_iload C 3 dX1_removeEdge_55 rfl ?_
      refine z_iadd C dX1_removeEdge_57 ?_
      obtain ⟨hi9, hf⟩ := ck_el hf
      refine z_iald C (k := 6) (Nat.le_of_ble_eq_true rfl) rfl hi9 dX1_removeEdge_58 ?_
      obtain ⟨hi10, hf⟩ := ck_el hf
      refine z_iast C (k := 6) (Nat.le_of_ble_eq_true rfl) rfl hi10 dX1_removeEdge_59 ?_
      refine z_nm (fun m11 e_m11 => ?_)
      replace hf := bn_to e_m11 hf
      obtain ⟨x12, e_x12⟩ : ∃ y : Int32, y = i3 + 1 := ⟨_, rfl⟩
      replace hf := bn_to e_x12 hf
      refine z_iinc C (lv2 := [(0, .ref ((zw K).2.1 1)), (1, .int a1), (3, .int x1), (4, .int x12)]) 3 [1, 2, 3, 0] dX1_removeEdge_60 rfl rfl (Nat.le_of_ble_eq_true rfl) e_x12 rfl ?_
      refine z_goto (tgt := 9) C dX1_removeEdge_63 (by decide) ?_
      cases hf
      exact z_sub [0, 1, 2, 3] rfl (ih x12 m11 hz)
set_option maxRecDepth 100000 in
set_option maxHeartbeats 4000000 in
theorem c_X1_removeEdge (l : Launch) (w : ZW) {m : Mem} {a1 : Int32} {a2 : Int32} {m9 : Mem}  (hf : s_X1_removeEdge m a1 a2 = some m9) : zCv MX l w yX1_removeEdge wsX1_removeEdge rmX1_removeEdge [.ref (w.2.1 1), .int a1, .int a2] m m9 := by
  refine z_met_v MX_ok (own := RX1) (by decide +kernel) rfl rfl (Nat.le_of_ble_eq_true rfl) ?_
  intro K C hKw hKl hret
  subst hKw
  subst hKl
  unfold s_X1_removeEdge at hf
  show zGo MX K m [(0, .ref ((zw K).2.1 1)), (1, .int a1), (2, .int a2)] 0 []
  refine z_iload_n C 1 dX1_removeEdge_0 rfl rfl ?_
  refine z_iconst C (v := 5) dX1_removeEdge_1 rfl ?_
  refine z_imul C dX1_removeEdge_2 ?_
  refine z_topi (fun x1 e_x1 => ?_)
  replace hf := bn_to e_x1 hf
  refine z_istore_n C (lv2 := [(0, .ref ((zw K).2.1 1)), (1, .int a1), (2, .int a2), (3, .int x1)]) [1, 2, 3, 0] dX1_removeEdge_3 rfl (Nat.le_of_ble_eq_true rfl) rfl ?_
  refine z_iload_n C 2 dX1_removeEdge_4 rfl rfl ?_
  refine z_iconst C (v := 1) dX1_removeEdge_5 rfl ?_
  refine z_iadd C dX1_removeEdge_6 ?_
  refine z_topi (fun x2 e_x2 => ?_)
  replace hf := bn_to e_x2 hf
  refine z_istore C (lv2 := [(0, .ref ((zw K).2.1 1)), (1, .int a1), (2, .int a2), (3, .int x1), (4, .int x2)]) [1, 2, 3, 4, 0] dX1_removeEdge_7 (Nat.le_of_ble_eq_true rfl) rfl ?_
  obtain ⟨m14, hg, hf⟩ := zb_el hf
  refine z_sub [0, 1, 3, 4] rfl (w_X1_removeEdge_9 C  ?_ _ _ _ hg)
  clear hg
  refine z_aload_n C 0 dX1_removeEdge_66 rfl rfl ?_
  refine z_getr C (t := 4) (Nat.le_of_ble_eq_true rfl) rfl rfl 4 (Nat.le_of_ble_eq_true rfl) rfl kiX1_removeEdge_X1 kfX1_removeEdge_19 dX1_removeEdge_67 ?_
  refine z_iload_n C 1 dX1_removeEdge_70 rfl rfl ?_
  refine z_dup2 C dX1_removeEdge_71 ?_
  obtain ⟨hi15, hf⟩ := ck_el hf
  refine z_iald C (k := 4) (Nat.le_of_ble_eq_true rfl) rfl hi15 dX1_removeEdge_72 ?_
  refine z_iconst C (v := 1) dX1_removeEdge_73 rfl ?_
  refine z_isub C dX1_removeEdge_74 ?_
  obtain ⟨hi16, hf⟩ := ck_el hf
  refine z_iast C (k := 4) (Nat.le_of_ble_eq_true rfl) rfl hi16 dX1_removeEdge_75 ?_
  refine z_nm (fun m17 e_m17 => ?_)
  replace hf := bn_to e_m17 hf
  refine z_aload_n C 0 dX1_removeEdge_76 rfl rfl ?_
  refine z_dup_a C dX1_removeEdge_77 ?_
  refine z_geti C (Nat.le_of_ble_eq_true rfl) rfl rfl 1 (Nat.le_of_ble_eq_true rfl) rfl kiX1_removeEdge_X1 kfX1_removeEdge_36 dX1_removeEdge_78 ?_
  refine z_iconst C (v := 1) dX1_removeEdge_81 rfl ?_
  refine z_isub C dX1_removeEdge_82 ?_
  refine z_puti C (Nat.le_of_ble_eq_true rfl) rfl rfl 1 (Nat.le_of_ble_eq_true rfl) rfl kiX1_removeEdge_X1 kfX1_removeEdge_36 tyX1 tyX1_ok nmX1 rfl rfl dX1_removeEdge_83 ?_
  refine z_nm (fun m18 e_m18 => ?_)
  replace hf := bn_to e_m18 hf
  cases hf
  exact hret _ _ dX1_removeEdge_86
