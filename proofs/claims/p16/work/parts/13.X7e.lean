set_option maxRecDepth 20000 in
theorem ggX7_depends_X7_isShape : GoodIn wsX7_depends wsX7_isShape := goodIn_sub (List.forall_mem_cons.mpr ⟨(List.mem_of_getElem? (i := 6) rfl), (List.forall_mem_append.mpr ⟨(List.forall_mem_cons.mpr ⟨(List.mem_of_getElem? (i := 7) rfl), (List.forall_mem_cons.mpr ⟨(List.mem_of_getElem? (i := 8) rfl), (List.forall_mem_cons.mpr ⟨(List.mem_of_getElem? (i := 9) rfl), (List.forall_mem_cons.mpr ⟨(List.mem_of_getElem? (i := 5) rfl), (List.forall_mem_cons.mpr ⟨(List.mem_of_getElem? (i := 10) rfl), (fun _ h => absurd h List.not_mem_nil)⟩)⟩)⟩)⟩)⟩), (fun _ h => (List.mem_cons_of_mem _ (List.mem_append_right _ h)))⟩)⟩) (by decide +kernel)
set_option maxRecDepth 20000 in
theorem gX7_depends_X7_isShape : GoodIn wsX7_depends (wsV RX7 309 RX7 yX7_isShape wsX7_isShape) := goodIn_app (goodIn_sub (List.forall_mem_cons.mpr ⟨(List.mem_of_getElem? (i := 2) rfl), (List.forall_mem_cons.mpr ⟨(List.mem_of_getElem? (i := 3) rfl), (List.forall_mem_cons.mpr ⟨(List.mem_of_getElem? (i := 4) rfl), (List.forall_mem_cons.mpr ⟨(List.mem_of_getElem? (i := 5) rfl), (fun _ h => absurd h List.not_mem_nil)⟩)⟩)⟩)⟩) (by decide +kernel)) ggX7_depends_X7_isShape
set_option maxRecDepth 20000 in
theorem ggX7_depends_X7_findLeads : GoodIn wsX7_depends wsX7_findLeads := goodIn_sub (List.forall_mem_cons.mpr ⟨(List.mem_of_getElem? (i := 14) rfl), (List.forall_mem_append.mpr ⟨(List.forall_mem_cons.mpr ⟨(List.mem_of_getElem? (i := 15) rfl), (List.forall_mem_cons.mpr ⟨(List.mem_of_getElem? (i := 7) rfl), (List.forall_mem_cons.mpr ⟨(List.mem_of_getElem? (i := 1) rfl), (List.forall_mem_cons.mpr ⟨(List.mem_of_getElem? (i := 16) rfl), (List.forall_mem_cons.mpr ⟨(List.mem_of_getElem? (i := 17) rfl), (List.forall_mem_cons.mpr ⟨(List.mem_of_getElem? (i := 18) rfl), (List.forall_mem_cons.mpr ⟨(List.mem_of_getElem? (i := 19) rfl), (List.forall_mem_cons.mpr ⟨(List.mem_of_getElem? (i := 20) rfl), (List.forall_mem_cons.mpr ⟨(List.mem_of_getElem? (i := 21) rfl), (fun _ h => absurd h List.not_mem_nil)⟩)⟩)⟩)⟩)⟩)⟩)⟩)⟩)⟩), (fun _ h => (List.mem_cons_of_mem _ (List.mem_append_right _ h)))⟩)⟩) (by decide +kernel)
set_option maxRecDepth 20000 in
theorem gX7_depends_X7_findLeads : GoodIn wsX7_depends (wsV RX7 264 RX7 yX7_findLeads wsX7_findLeads) := goodIn_app (goodIn_sub (List.forall_mem_cons.mpr ⟨(List.mem_of_getElem? (i := 11) rfl), (List.forall_mem_cons.mpr ⟨(List.mem_of_getElem? (i := 12) rfl), (List.forall_mem_cons.mpr ⟨(List.mem_of_getElem? (i := 13) rfl), (List.forall_mem_cons.mpr ⟨(List.mem_of_getElem? (i := 5) rfl), (fun _ h => absurd h List.not_mem_nil)⟩)⟩)⟩)⟩) (by decide +kernel)) ggX7_depends_X7_findLeads
theorem dX7_depends_0 : decode cX7_depends 0 = .ok (.aload_n 0, 1) := by decide +kernel
theorem dX7_depends_1 : decode cX7_depends 1 = .ok (.iload_n 1, 1) := by decide +kernel
theorem dX7_depends_2 : decode cX7_depends 2 = .ok (.invokevirtual 309, 3) := by decide +kernel
theorem dX7_depends_5 : decode cX7_depends 5 = .ok (.ifCond .eq 11, 3) := by decide +kernel
theorem dX7_depends_8 : decode cX7_depends 8 = .ok (.aload_n 0, 1) := by decide +kernel
theorem dX7_depends_9 : decode cX7_depends 9 = .ok (.iload_n 2, 1) := by decide +kernel
theorem dX7_depends_10 : decode cX7_depends 10 = .ok (.invokevirtual 309, 3) := by decide +kernel
theorem dX7_depends_13 : decode cX7_depends 13 = .ok (.ifCond .ne 5, 3) := by decide +kernel
theorem dX7_depends_16 : decode cX7_depends 16 = .ok (.iconst (-1), 1) := by decide +kernel
theorem dX7_depends_17 : decode cX7_depends 17 = .ok (.ireturn, 1) := by decide +kernel
theorem dX7_depends_18 : decode cX7_depends 18 = .ok (.aload_n 0, 1) := by decide +kernel
theorem dX7_depends_19 : decode cX7_depends 19 = .ok (.iconst 0, 1) := by decide +kernel
theorem dX7_depends_20 : decode cX7_depends 20 = .ok (.invokevirtual 264, 3) := by decide +kernel
theorem dX7_depends_23 : decode cX7_depends 23 = .ok (.aload_n 0, 1) := by decide +kernel
theorem dX7_depends_24 : decode cX7_depends 24 = .ok (.getfield 116, 3) := by decide +kernel
theorem dX7_depends_27 : decode cX7_depends 27 = .ok (.bipush 6, 2) := by decide +kernel
theorem dX7_depends_29 : decode cX7_depends 29 = .ok (.iload_n 1, 1) := by decide +kernel
theorem dX7_depends_30 : decode cX7_depends 30 = .ok (.imul, 1) := by decide +kernel
theorem dX7_depends_31 : decode cX7_depends 31 = .ok (.iload_n 2, 1) := by decide +kernel
theorem dX7_depends_32 : decode cX7_depends 32 = .ok (.iadd, 1) := by decide +kernel
theorem dX7_depends_33 : decode cX7_depends 33 = .ok (.baload, 1) := by decide +kernel
theorem dX7_depends_34 : decode cX7_depends 34 = .ok (.ifCond .eq 7, 3) := by decide +kernel
theorem dX7_depends_37 : decode cX7_depends 37 = .ok (.iconst 1, 1) := by decide +kernel
theorem dX7_depends_38 : decode cX7_depends 38 = .ok (.goto 4, 3) := by decide +kernel
theorem dX7_depends_41 : decode cX7_depends 41 = .ok (.iconst 0, 1) := by decide +kernel
theorem dX7_depends_42 : decode cX7_depends 42 = .ok (.ireturn, 1) := by decide +kernel
def rmX7_depends : Room := { frames := 2, cells := 0, slots := 0, locals := 46 }
theorem zdX7_depends : yX7_depends.cls = RX7 ∧ yX7_depends.cls ≠ "java/lang/invoke/MethodHandle" ∧ yX7_depends.cls ≠ "java/lang/invoke/VarHandle" ∧ (parseMethodDescriptor yX7_depends.desc).map (fun d => d.parameters.length) = some 2 := by decide +kernel
theorem kiX7_depends_X7 : ∀ w ∈ wsX70, w ∈ wsX7_depends := fun _ h => (List.mem_cons_of_mem _ (List.mem_append_right _ h))
theorem kfX7_depends_116 : Cond.fieldLink RX7 116 "ShapeJudgeModel" "leads" "[Z" ∈ wsX7_depends := (List.mem_of_getElem? (i := 1) rfl)
def s_X7_depends (m : Mem) (a1 : Int32) (a2 : Int32) : Option (Int32 × Mem) :=
  (s_X7_isShape m a1).bind fun r2 => (if r2 = 0 then (some ((-1), m)) else ((s_X7_isShape m a2).bind fun r4 => (if r4 = 0 then (some ((-1), m)) else ((s_X7_findLeads m 0).bind fun m6 => ck (zin (((6 : Int32) * a1) + a2) 36 = true) ((if (m6 36 (Int32.toNatClampNeg (((6 : Int32) * a1) + a2))) = 0 then (some (0, m6)) else (some (1, m6))))))))
set_option maxRecDepth 100000 in
set_option maxHeartbeats 4000000 in
theorem c_X7_depends (l : Launch) (w : ZW) {m : Mem} {a1 : Int32} {a2 : Int32} {r9 : Int32} {m9 : Mem}  (hf : s_X7_depends m a1 a2 = some (r9, m9)) : zCi MM l w yX7_depends wsX7_depends rmX7_depends [.ref (w.2.1 0), .int a1, .int a2] m m9 r9 := by
  refine z_met_i MM_ok (own := RX7) (by decide +kernel) rfl rfl (Nat.le_of_ble_eq_true rfl) ?_
  intro K C hKw hKl hret
  subst hKw
  subst hKl
  unfold s_X7_depends at hf
  show zGo MM K m [(0, .ref ((zw K).2.1 0)), (1, .int a1), (2, .int a2)] 0 []
  refine z_aload_n C 0 dX7_depends_0 rfl rfl ?_
  refine z_iload_n C 1 dX7_depends_1 rfl rfl ?_
  obtain ⟨r2, hc1, hf⟩ := zb_el hf
  refine z_cVi C (c_X7_isShape _ _ hc1) rfl gX7_depends_X7_isShape rfl rfl zdX7_isShape rfl (Nat.le_of_ble_eq_true rfl) rfl rfl rfl ⟨Nat.le_of_ble_eq_true rfl, Nat.le_of_ble_eq_true rfl⟩ (Nat.le_of_ble_eq_true rfl) dX7_depends_2 rfl ?_
  refine z_if_eq (tgt := 16) C dX7_depends_5 (by decide) (fun c10 => ?_) (fun c10 => ?_)
  · replace hf := if_t c10 hf
    refine z_iconst C (v := (-1)) dX7_depends_16 (by decide) ?_
    obtain ⟨e1, e2⟩ := sp_el hf
    subst e1
    subst e2
    exact hret _ _ dX7_depends_17
  · replace hf := if_f c10 hf
    refine z_aload_n C 0 dX7_depends_8 rfl rfl ?_
    refine z_iload_n C 2 dX7_depends_9 rfl rfl ?_
    obtain ⟨r4, hc3, hf⟩ := zb_el hf
    refine z_cVi C (c_X7_isShape _ _ hc3) rfl gX7_depends_X7_isShape rfl rfl zdX7_isShape rfl (Nat.le_of_ble_eq_true rfl) rfl rfl rfl ⟨Nat.le_of_ble_eq_true rfl, Nat.le_of_ble_eq_true rfl⟩ (Nat.le_of_ble_eq_true rfl) dX7_depends_10 rfl ?_
    refine z_if_ne (tgt := 18) C dX7_depends_13 (by decide) (fun c9 => ?_) (fun c9 => ?_)
    · replace hf := if_f c9 hf
      refine z_aload_n C 0 dX7_depends_18 rfl rfl ?_
      refine z_iconst C (v := 0) dX7_depends_19 rfl ?_
      obtain ⟨m6, hc5, hf⟩ := zb_el hf
      refine z_cVv C (c_X7_findLeads _ _ hc5) rfl gX7_depends_X7_findLeads rfl rfl zdX7_findLeads rfl (Nat.le_of_ble_eq_true rfl) rfl rfl rfl ⟨Nat.le_of_ble_eq_true rfl, Nat.le_of_ble_eq_true rfl⟩ (Nat.le_of_ble_eq_true rfl) dX7_depends_20 rfl ?_
      refine z_aload_n C 0 dX7_depends_23 rfl rfl ?_
      refine z_getr C (t := 36) (Nat.le_of_ble_eq_true rfl) rfl rfl 47 (Nat.le_of_ble_eq_true rfl) rfl kiX7_depends_X7 kfX7_depends_116 dX7_depends_24 ?_
      refine z_bipush C (v := 6) dX7_depends_27 rfl ?_
      refine z_iload_n C 1 dX7_depends_29 rfl rfl ?_
      refine z_imul C dX7_depends_30 ?_
      refine z_iload_n C 2 dX7_depends_31 rfl rfl ?_
      refine z_iadd C dX7_depends_32 ?_
      obtain ⟨hi7, hf⟩ := ck_el hf
      refine z_zald C (k := 36) (Nat.le_of_ble_eq_true rfl) rfl hi7 dX7_depends_33 ?_
      refine z_if_eq (tgt := 41) C dX7_depends_34 (by decide) (fun c8 => ?_) (fun c8 => ?_)
      · replace hf := if_t c8 hf
        refine z_iconst C (v := 0) dX7_depends_41 rfl ?_
        obtain ⟨e1, e2⟩ := sp_el hf
        subst e1
        subst e2
        exact hret _ _ dX7_depends_42
      · replace hf := if_f c8 hf
        refine z_iconst C (v := 1) dX7_depends_37 rfl ?_
        refine z_goto (tgt := 42) C dX7_depends_38 (by decide) ?_
        obtain ⟨e1, e2⟩ := sp_el hf
        subst e1
        subst e2
        exact hret _ _ dX7_depends_42
    · replace hf := if_t c9 hf
      refine z_iconst C (v := (-1)) dX7_depends_16 (by decide) ?_
      obtain ⟨e1, e2⟩ := sp_el hf
      subst e1
      subst e2
      exact hret _ _ dX7_depends_17
set_option maxRecDepth 20000 in
theorem ggX7_edge_X7_isNode : GoodIn wsX7_edge wsX7_isNode := goodIn_sub (List.forall_mem_cons.mpr ⟨(List.mem_of_getElem? (i := 10) rfl), (List.forall_mem_append.mpr ⟨(List.forall_mem_cons.mpr ⟨(List.mem_of_getElem? (i := 11) rfl), (List.forall_mem_cons.mpr ⟨(List.mem_of_getElem? (i := 12) rfl), (List.forall_mem_cons.mpr ⟨(List.mem_of_getElem? (i := 13) rfl), (List.forall_mem_cons.mpr ⟨(List.mem_of_getElem? (i := 9) rfl), (List.forall_mem_cons.mpr ⟨(List.mem_of_getElem? (i := 14) rfl), (fun _ h => absurd h List.not_mem_nil)⟩)⟩)⟩)⟩)⟩), (fun _ h => (List.mem_cons_of_mem _ (List.mem_append_right _ h)))⟩)⟩) (by decide +kernel)
set_option maxRecDepth 20000 in
theorem gX7_edge_X7_isNode : GoodIn wsX7_edge (wsV RX7 152 RX7 yX7_isNode wsX7_isNode) := goodIn_app (goodIn_sub (List.forall_mem_cons.mpr ⟨(List.mem_of_getElem? (i := 6) rfl), (List.forall_mem_cons.mpr ⟨(List.mem_of_getElem? (i := 7) rfl), (List.forall_mem_cons.mpr ⟨(List.mem_of_getElem? (i := 8) rfl), (List.forall_mem_cons.mpr ⟨(List.mem_of_getElem? (i := 9) rfl), (fun _ h => absurd h List.not_mem_nil)⟩)⟩)⟩)⟩) (by decide +kernel)) ggX7_edge_X7_isNode
set_option maxRecDepth 20000 in
theorem ggX7_edge_X7_in : GoodIn wsX7_edge wsX7_in := goodIn_sub (List.forall_mem_cons.mpr ⟨(List.mem_of_getElem? (i := 14) rfl), (fun _ h => absurd h List.not_mem_nil)⟩) (by decide +kernel)
set_option maxRecDepth 20000 in
theorem gX7_edge_X7_in : GoodIn wsX7_edge (va_wsS RX7 144 yX7_in wsX7_in) := goodIn_app (goodIn_sub (List.forall_mem_cons.mpr ⟨(List.mem_of_getElem? (i := 12) rfl), (List.forall_mem_cons.mpr ⟨(List.mem_of_getElem? (i := 13) rfl), (List.forall_mem_cons.mpr ⟨(List.mem_of_getElem? (i := 9) rfl), (fun _ h => absurd h List.not_mem_nil)⟩)⟩)⟩) (by decide +kernel)) ggX7_edge_X7_in
set_option maxRecDepth 20000 in
theorem ggX7_edge_X7_isThere : GoodIn wsX7_edge wsX7_isThere := goodIn_sub (List.forall_mem_cons.mpr ⟨(List.mem_of_getElem? (i := 18) rfl), (List.forall_mem_append.mpr ⟨(List.forall_mem_cons.mpr ⟨(List.mem_of_getElem? (i := 2) rfl), (List.forall_mem_cons.mpr ⟨(List.mem_of_getElem? (i := 3) rfl), (List.forall_mem_cons.mpr ⟨(List.mem_of_getElem? (i := 4) rfl), (List.forall_mem_cons.mpr ⟨(List.mem_of_getElem? (i := 19) rfl), (List.forall_mem_cons.mpr ⟨(List.mem_of_getElem? (i := 20) rfl), (List.forall_mem_cons.mpr ⟨(List.mem_of_getElem? (i := 21) rfl), (List.forall_mem_cons.mpr ⟨(List.mem_of_getElem? (i := 9) rfl), (List.forall_mem_cons.mpr ⟨(List.mem_of_getElem? (i := 22) rfl), (fun _ h => absurd h List.not_mem_nil)⟩)⟩)⟩)⟩)⟩)⟩)⟩)⟩), (fun _ h => (List.mem_cons_of_mem _ (List.mem_append_right _ h)))⟩)⟩) (by decide +kernel)
set_option maxRecDepth 20000 in
theorem gX7_edge_X7_isThere : GoodIn wsX7_edge (wsV RX7 162 RX7 yX7_isThere wsX7_isThere) := goodIn_app (goodIn_sub (List.forall_mem_cons.mpr ⟨(List.mem_of_getElem? (i := 15) rfl), (List.forall_mem_cons.mpr ⟨(List.mem_of_getElem? (i := 16) rfl), (List.forall_mem_cons.mpr ⟨(List.mem_of_getElem? (i := 17) rfl), (List.forall_mem_cons.mpr ⟨(List.mem_of_getElem? (i := 9) rfl), (fun _ h => absurd h List.not_mem_nil)⟩)⟩)⟩)⟩) (by decide +kernel)) ggX7_edge_X7_isThere
set_option maxRecDepth 20000 in
theorem ggX7_edge_X7_edges : GoodIn wsX7_edge wsX7_edges := goodIn_sub (List.forall_mem_cons.mpr ⟨(List.mem_of_getElem? (i := 26) rfl), (List.forall_mem_append.mpr ⟨(List.forall_mem_cons.mpr ⟨(List.mem_of_getElem? (i := 11) rfl), (List.forall_mem_cons.mpr ⟨(List.mem_of_getElem? (i := 2) rfl), (fun _ h => absurd h List.not_mem_nil)⟩)⟩), (fun _ h => (List.mem_cons_of_mem _ (List.mem_append_right _ h)))⟩)⟩) (by decide +kernel)
set_option maxRecDepth 20000 in
theorem gX7_edge_X7_edges : GoodIn wsX7_edge (wsV RX7 166 RX7 yX7_edges wsX7_edges) := goodIn_app (goodIn_sub (List.forall_mem_cons.mpr ⟨(List.mem_of_getElem? (i := 23) rfl), (List.forall_mem_cons.mpr ⟨(List.mem_of_getElem? (i := 24) rfl), (List.forall_mem_cons.mpr ⟨(List.mem_of_getElem? (i := 25) rfl), (List.forall_mem_cons.mpr ⟨(List.mem_of_getElem? (i := 9) rfl), (fun _ h => absurd h List.not_mem_nil)⟩)⟩)⟩)⟩) (by decide +kernel)) ggX7_edge_X7_edges
set_option maxRecDepth 20000 in
theorem ggX7_edge_X7_placeOf : GoodIn wsX7_edge wsX7_placeOf := goodIn_sub (List.forall_mem_cons.mpr ⟨(List.mem_of_getElem? (i := 22) rfl), (List.forall_mem_append.mpr ⟨(List.forall_mem_cons.mpr ⟨(List.mem_of_getElem? (i := 2) rfl), (List.forall_mem_cons.mpr ⟨(List.mem_of_getElem? (i := 3) rfl), (List.forall_mem_cons.mpr ⟨(List.mem_of_getElem? (i := 4) rfl), (fun _ h => absurd h List.not_mem_nil)⟩)⟩)⟩), (fun _ h => (List.mem_cons_of_mem _ (List.mem_append_right _ h)))⟩)⟩) (by decide +kernel)
set_option maxRecDepth 20000 in
theorem gX7_edge_X7_placeOf : GoodIn wsX7_edge (wsV RX7 156 RX7 yX7_placeOf wsX7_placeOf) := goodIn_app (goodIn_sub (List.forall_mem_cons.mpr ⟨(List.mem_of_getElem? (i := 19) rfl), (List.forall_mem_cons.mpr ⟨(List.mem_of_getElem? (i := 20) rfl), (List.forall_mem_cons.mpr ⟨(List.mem_of_getElem? (i := 21) rfl), (List.forall_mem_cons.mpr ⟨(List.mem_of_getElem? (i := 9) rfl), (fun _ h => absurd h List.not_mem_nil)⟩)⟩)⟩)⟩) (by decide +kernel)) ggX7_edge_X7_placeOf
set_option maxRecDepth 100000 in
theorem daX7_edge : ∀ q ∈ ([(0, .aload_n 0, 1), (1, .iload_n 1, 1), (2, .invokevirtual 152, 3), (5, .ifCond .eq 23, 3), (8, .iload_n 2, 1), (9, .i2l, 1), (10, .lconst 0, 1), (11, .ldc2_w 160, 3), (14, .invokestatic 144, 3), (17, .ifCond .eq 11, 3), (20, .aload_n 0, 1), (21, .iload_n 3, 1), (22, .invokevirtual 152, 3), (25, .ifCond .ne 5, 3), (28, .iconst (-1), 1), (29, .ireturn, 1), (30, .aload_n 0, 1), (31, .iload_n 1, 1), (32, .iload_n 2, 1), (33, .iload_n 3, 1), (34, .invokevirtual 162, 3), (37, .ifCond .eq 6, 3), (40, .bipush (-2), 2), (42, .ireturn, 1), (43, .aload_n 0, 1), (44, .getfield 17, 3), (47, .iload_n 1, 1), (48, .iaload, 1), (49, .iconst 5, 1), (50, .if_icmp .eq 12, 3), (53, .aload_n 0, 1), (54, .invokevirtual 166, 3), (57, .bipush 40, 2), (59, .if_icmp .ne 6, 3), (62, .bipush (-3), 2), (64, .ireturn, 1), (65, .aload_n 0, 1), (66, .iload_n 1, 1), (67, .iload_n 2, 1), (68, .iload_n 3, 1), (69, .invokevirtual 156, 3), (72, .istore 4, 2), (74, .aload_n 0, 1), (75, .getfield 17, 3), (78, .iload_n 1, 1), (79, .iaload, 1), (80, .istore 5, 2), (82, .iload 5, 2), (84, .iload 4, 2), (86, .if_icmp .le 57, 3), (89, .aload_n 0, 1), (90, .getfield 20, 3), (93, .iconst 5, 1), (94, .iload_n 1, 1), (95, .imul, 1), (96, .iload 5, 2), (98, .iadd, 1), (99, .aload_n 0, 1), (100, .getfield 20, 3), (103, .iconst 5, 1), (104, .iload_n 1, 1), (105, .imul, 1), (106, .iload 5, 2), (108, .iadd, 1), (109, .iconst 1, 1), (110, .isub, 1), (111, .iaload, 1), (112, .iastore, 1), (113, .aload_n 0, 1), (114, .getfield 23, 3), (117, .iconst 5, 1), (118, .iload_n 1, 1), (119, .imul, 1), (120, .iload 5, 2), (122, .iadd, 1), (123, .aload_n 0, 1), (124, .getfield 23, 3), (127, .iconst 5, 1), (128, .iload_n 1, 1), (129, .imul, 1), (130, .iload 5, 2), (132, .iadd, 1), (133, .iconst 1, 1), (134, .isub, 1), (135, .iaload, 1), (136, .iastore, 1), (137, .iinc 5 (-1), 3), (140, .goto (-58), 3), (143, .aload_n 0, 1), (144, .getfield 20, 3), (147, .iconst 5, 1), (148, .iload_n 1, 1), (149, .imul, 1), (150, .iload 4, 2), (152, .iadd, 1), (153, .iload_n 2, 1), (154, .iastore, 1), (155, .aload_n 0, 1), (156, .getfield 23, 3), (159, .iconst 5, 1), (160, .iload_n 1, 1), (161, .imul, 1), (162, .iload 4, 2), (164, .iadd, 1), (165, .iload_n 3, 1), (166, .iastore, 1), (167, .aload_n 0, 1), (168, .getfield 17, 3), (171, .iload_n 1, 1), (172, .dup2, 1), (173, .iaload, 1), (174, .iconst 1, 1), (175, .iadd, 1), (176, .iastore, 1), (177, .aload_n 0, 1), (178, .iconst 0, 1), (179, .putfield 148, 3), (182, .aload_n 0, 1), (183, .invokevirtual 166, 3), (186, .ireturn, 1)] : List (Nat × Instr × Nat)), decode cX7_edge q.1 = .ok q.2 := by decide +kernel
theorem dX7_edge_0 : decode cX7_edge 0 = .ok (.aload_n 0, 1) := daX7_edge (0, .aload_n 0, 1) (List.mem_of_getElem? (i := 0) rfl)
theorem dX7_edge_1 : decode cX7_edge 1 = .ok (.iload_n 1, 1) := daX7_edge (1, .iload_n 1, 1) (List.mem_of_getElem? (i := 1) rfl)
theorem dX7_edge_2 : decode cX7_edge 2 = .ok (.invokevirtual 152, 3) := daX7_edge (2, .invokevirtual 152, 3) (List.mem_of_getElem? (i := 2) rfl)
theorem dX7_edge_5 : decode cX7_edge 5 = .ok (.ifCond .eq 23, 3) := daX7_edge (5, .ifCond .eq 23, 3) (List.mem_of_getElem? (i := 3) rfl)
theorem dX7_edge_8 : decode cX7_edge 8 = .ok (.iload_n 2, 1) := daX7_edge (8, .iload_n 2, 1) (List.mem_of_getElem? (i := 4) rfl)
theorem dX7_edge_9 : decode cX7_edge 9 = .ok (.i2l, 1) := daX7_edge (9, .i2l, 1) (List.mem_of_getElem? (i := 5) rfl)
theorem dX7_edge_10 : decode cX7_edge 10 = .ok (.lconst 0, 1) := daX7_edge (10, .lconst 0, 1) (List.mem_of_getElem? (i := 6) rfl)
theorem dX7_edge_11 : decode cX7_edge 11 = .ok (.ldc2_w 160, 3) := daX7_edge (11, .ldc2_w 160, 3) (List.mem_of_getElem? (i := 7) rfl)
theorem dX7_edge_14 : decode cX7_edge 14 = .ok (.invokestatic 144, 3) := daX7_edge (14, .invokestatic 144, 3) (List.mem_of_getElem? (i := 8) rfl)
theorem dX7_edge_17 : decode cX7_edge 17 = .ok (.ifCond .eq 11, 3) := daX7_edge (17, .ifCond .eq 11, 3) (List.mem_of_getElem? (i := 9) rfl)
theorem dX7_edge_20 : decode cX7_edge 20 = .ok (.aload_n 0, 1) := daX7_edge (20, .aload_n 0, 1) (List.mem_of_getElem? (i := 10) rfl)
theorem dX7_edge_21 : decode cX7_edge 21 = .ok (.iload_n 3, 1) := daX7_edge (21, .iload_n 3, 1) (List.mem_of_getElem? (i := 11) rfl)
theorem dX7_edge_22 : decode cX7_edge 22 = .ok (.invokevirtual 152, 3) := daX7_edge (22, .invokevirtual 152, 3) (List.mem_of_getElem? (i := 12) rfl)
theorem dX7_edge_25 : decode cX7_edge 25 = .ok (.ifCond .ne 5, 3) := daX7_edge (25, .ifCond .ne 5, 3) (List.mem_of_getElem? (i := 13) rfl)
theorem dX7_edge_28 : decode cX7_edge 28 = .ok (.iconst (-1), 1) := daX7_edge (28, .iconst (-1), 1) (List.mem_of_getElem? (i := 14) rfl)
theorem dX7_edge_29 : decode cX7_edge 29 = .ok (.ireturn, 1) := daX7_edge (29, .ireturn, 1) (List.mem_of_getElem? (i := 15) rfl)
theorem dX7_edge_30 : decode cX7_edge 30 = .ok (.aload_n 0, 1) := daX7_edge (30, .aload_n 0, 1) (List.mem_of_getElem? (i := 16) rfl)
theorem dX7_edge_31 : decode cX7_edge 31 = .ok (.iload_n 1, 1) := daX7_edge (31, .iload_n 1, 1) (List.mem_of_getElem? (i := 17) rfl)
theorem dX7_edge_32 : decode cX7_edge 32 = .ok (.iload_n 2, 1) := daX7_edge (32, .iload_n 2, 1) (List.mem_of_getElem? (i := 18) rfl)
theorem dX7_edge_33 : decode cX7_edge 33 = .ok (.iload_n 3, 1) := daX7_edge (33, .iload_n 3, 1) (List.mem_of_getElem? (i := 19) rfl)
theorem dX7_edge_34 : decode cX7_edge 34 = .ok (.invokevirtual 162, 3) := daX7_edge (34, .invokevirtual 162, 3) (List.mem_of_getElem? (i := 20) rfl)
theorem dX7_edge_37 : decode cX7_edge 37 = .ok (.ifCond .eq 6, 3) := daX7_edge (37, .ifCond .eq 6, 3) (List.mem_of_getElem? (i := 21) rfl)
theorem dX7_edge_40 : decode cX7_edge 40 = .ok (.bipush (-2), 2) := daX7_edge (40, .bipush (-2), 2) (List.mem_of_getElem? (i := 22) rfl)
theorem dX7_edge_42 : decode cX7_edge 42 = .ok (.ireturn, 1) := daX7_edge (42, .ireturn, 1) (List.mem_of_getElem? (i := 23) rfl)
theorem dX7_edge_43 : decode cX7_edge 43 = .ok (.aload_n 0, 1) := daX7_edge (43, .aload_n 0, 1) (List.mem_of_getElem? (i := 24) rfl)
theorem dX7_edge_44 : decode cX7_edge 44 = .ok (.getfield 17, 3) := daX7_edge (44, .getfield 17, 3) (List.mem_of_getElem? (i := 25) rfl)
theorem dX7_edge_47 : decode cX7_edge 47 = .ok (.iload_n 1, 1) := daX7_edge (47, .iload_n 1, 1) (List.mem_of_getElem? (i := 26) rfl)
theorem dX7_edge_48 : decode cX7_edge 48 = .ok (.iaload, 1) := daX7_edge (48, .iaload, 1) (List.mem_of_getElem? (i := 27) rfl)
theorem dX7_edge_49 : decode cX7_edge 49 = .ok (.iconst 5, 1) := daX7_edge (49, .iconst 5, 1) (List.mem_of_getElem? (i := 28) rfl)
theorem dX7_edge_50 : decode cX7_edge 50 = .ok (.if_icmp .eq 12, 3) := daX7_edge (50, .if_icmp .eq 12, 3) (List.mem_of_getElem? (i := 29) rfl)
theorem dX7_edge_53 : decode cX7_edge 53 = .ok (.aload_n 0, 1) := daX7_edge (53, .aload_n 0, 1) (List.mem_of_getElem? (i := 30) rfl)
theorem dX7_edge_54 : decode cX7_edge 54 = .ok (.invokevirtual 166, 3) := daX7_edge (54, .invokevirtual 166, 3) (List.mem_of_getElem? (i := 31) rfl)
theorem dX7_edge_57 : decode cX7_edge 57 = .ok (.bipush 40, 2) := daX7_edge (57, .bipush 40, 2) (List.mem_of_getElem? (i := 32) rfl)
theorem dX7_edge_59 : decode cX7_edge 59 = .ok (.if_icmp .ne 6, 3) := daX7_edge (59, .if_icmp .ne 6, 3) (List.mem_of_getElem? (i := 33) rfl)
theorem dX7_edge_62 : decode cX7_edge 62 = .ok (.bipush (-3), 2) := daX7_edge (62, .bipush (-3), 2) (List.mem_of_getElem? (i := 34) rfl)
theorem dX7_edge_64 : decode cX7_edge 64 = .ok (.ireturn, 1) := daX7_edge (64, .ireturn, 1) (List.mem_of_getElem? (i := 35) rfl)
theorem dX7_edge_65 : decode cX7_edge 65 = .ok (.aload_n 0, 1) := daX7_edge (65, .aload_n 0, 1) (List.mem_of_getElem? (i := 36) rfl)
theorem dX7_edge_66 : decode cX7_edge 66 = .ok (.iload_n 1, 1) := daX7_edge (66, .iload_n 1, 1) (List.mem_of_getElem? (i := 37) rfl)
theorem dX7_edge_67 : decode cX7_edge 67 = .ok (.iload_n 2, 1) := daX7_edge (67, .iload_n 2, 1) (List.mem_of_getElem? (i := 38) rfl)
theorem dX7_edge_68 : decode cX7_edge 68 = .ok (.iload_n 3, 1) := daX7_edge (68, .iload_n 3, 1) (List.mem_of_getElem? (i := 39) rfl)
theorem dX7_edge_69 : decode cX7_edge 69 = .ok (.invokevirtual 156, 3) := daX7_edge (69, .invokevirtual 156, 3) (List.mem_of_getElem? (i := 40) rfl)
theorem dX7_edge_72 : decode cX7_edge 72 = .ok (.istore 4, 2) := daX7_edge (72, .istore 4, 2) (List.mem_of_getElem? (i := 41) rfl)
theorem dX7_edge_74 : decode cX7_edge 74 = .ok (.aload_n 0, 1) := daX7_edge (74, .aload_n 0, 1) (List.mem_of_getElem? (i := 42) rfl)
theorem dX7_edge_75 : decode cX7_edge 75 = .ok (.getfield 17, 3) := daX7_edge (75, .getfield 17, 3) (List.mem_of_getElem? (i := 43) rfl)
theorem dX7_edge_78 : decode cX7_edge 78 = .ok (.iload_n 1, 1) := daX7_edge (78, .iload_n 1, 1) (List.mem_of_getElem? (i := 44) rfl)
theorem dX7_edge_79 : decode cX7_edge 79 = .ok (.iaload, 1) := daX7_edge (79, .iaload, 1) (List.mem_of_getElem? (i := 45) rfl)
theorem dX7_edge_80 : decode cX7_edge 80 = .ok (.istore 5, 2) := daX7_edge (80, .istore 5, 2) (List.mem_of_getElem? (i := 46) rfl)
theorem dX7_edge_82 : decode cX7_edge 82 = .ok (.iload 5, 2) := daX7_edge (82, .iload 5, 2) (List.mem_of_getElem? (i := 47) rfl)
theorem dX7_edge_84 : decode cX7_edge 84 = .ok (.iload 4, 2) := daX7_edge (84, .iload 4, 2) (List.mem_of_getElem? (i := 48) rfl)
theorem dX7_edge_86 : decode cX7_edge 86 = .ok (.if_icmp .le 57, 3) := daX7_edge (86, .if_icmp .le 57, 3) (List.mem_of_getElem? (i := 49) rfl)
theorem dX7_edge_89 : decode cX7_edge 89 = .ok (.aload_n 0, 1) := daX7_edge (89, .aload_n 0, 1) (List.mem_of_getElem? (i := 50) rfl)
theorem dX7_edge_90 : decode cX7_edge 90 = .ok (.getfield 20, 3) := daX7_edge (90, .getfield 20, 3) (List.mem_of_getElem? (i := 51) rfl)
theorem dX7_edge_93 : decode cX7_edge 93 = .ok (.iconst 5, 1) := daX7_edge (93, .iconst 5, 1) (List.mem_of_getElem? (i := 52) rfl)
theorem dX7_edge_94 : decode cX7_edge 94 = .ok (.iload_n 1, 1) := daX7_edge (94, .iload_n 1, 1) (List.mem_of_getElem? (i := 53) rfl)
theorem dX7_edge_95 : decode cX7_edge 95 = .ok (.imul, 1) := daX7_edge (95, .imul, 1) (List.mem_of_getElem? (i := 54) rfl)
theorem dX7_edge_96 : decode cX7_edge 96 = .ok (.iload 5, 2) := daX7_edge (96, .iload 5, 2) (List.mem_of_getElem? (i := 55) rfl)
theorem dX7_edge_98 : decode cX7_edge 98 = .ok (.iadd, 1) := daX7_edge (98, .iadd, 1) (List.mem_of_getElem? (i := 56) rfl)
theorem dX7_edge_99 : decode cX7_edge 99 = .ok (.aload_n 0, 1) := daX7_edge (99, .aload_n 0, 1) (List.mem_of_getElem? (i := 57) rfl)
theorem dX7_edge_100 : decode cX7_edge 100 = .ok (.getfield 20, 3) := daX7_edge (100, .getfield 20, 3) (List.mem_of_getElem? (i := 58) rfl)
theorem dX7_edge_103 : decode cX7_edge 103 = .ok (.iconst 5, 1) := daX7_edge (103, .iconst 5, 1) (List.mem_of_getElem? (i := 59) rfl)
theorem dX7_edge_104 : decode cX7_edge 104 = .ok (.iload_n 1, 1) := daX7_edge (104, .iload_n 1, 1) (List.mem_of_getElem? (i := 60) rfl)
theorem dX7_edge_105 : decode cX7_edge 105 = .ok (.imul, 1) := daX7_edge (105, .imul, 1) (List.mem_of_getElem? (i := 61) rfl)
theorem dX7_edge_106 : decode cX7_edge 106 = .ok (.iload 5, 2) := daX7_edge (106, .iload 5, 2) (List.mem_of_getElem? (i := 62) rfl)
theorem dX7_edge_108 : decode cX7_edge 108 = .ok (.iadd, 1) := daX7_edge (108, .iadd, 1) (List.mem_of_getElem? (i := 63) rfl)
theorem dX7_edge_109 : decode cX7_edge 109 = .ok (.iconst 1, 1) := daX7_edge (109, .iconst 1, 1) (List.mem_of_getElem? (i := 64) rfl)
theorem dX7_edge_110 : decode cX7_edge 110 = .ok (.isub, 1) := daX7_edge (110, .isub, 1) (List.mem_of_getElem? (i := 65) rfl)
theorem dX7_edge_111 : decode cX7_edge 111 = .ok (.iaload, 1) := daX7_edge (111, .iaload, 1) (List.mem_of_getElem? (i := 66) rfl)
theorem dX7_edge_112 : decode cX7_edge 112 = .ok (.iastore, 1) := daX7_edge (112, .iastore, 1) (List.mem_of_getElem? (i := 67) rfl)
theorem dX7_edge_113 : decode cX7_edge 113 = .ok (.aload_n 0, 1) := daX7_edge (113, .aload_n 0, 1) (List.mem_of_getElem? (i := 68) rfl)
theorem dX7_edge_114 : decode cX7_edge 114 = .ok (.getfield 23, 3) := daX7_edge (114, .getfield 23, 3) (List.mem_of_getElem? (i := 69) rfl)
theorem dX7_edge_117 : decode cX7_edge 117 = .ok (.iconst 5, 1) := daX7_edge (117, .iconst 5, 1) (List.mem_of_getElem? (i := 70) rfl)
theorem dX7_edge_118 : decode cX7_edge 118 = .ok (.iload_n 1, 1) := daX7_edge (118, .iload_n 1, 1) (List.mem_of_getElem? (i := 71) rfl)
theorem dX7_edge_119 : decode cX7_edge 119 = .ok (.imul, 1) := daX7_edge (119, .imul, 1) (List.mem_of_getElem? (i := 72) rfl)
theorem dX7_edge_120 : decode cX7_edge 120 = .ok (.iload 5, 2) := daX7_edge (120, .iload 5, 2) (List.mem_of_getElem? (i := 73) rfl)
theorem dX7_edge_122 : decode cX7_edge 122 = .ok (.iadd, 1) := daX7_edge (122, .iadd, 1) (List.mem_of_getElem? (i := 74) rfl)
theorem dX7_edge_123 : decode cX7_edge 123 = .ok (.aload_n 0, 1) := daX7_edge (123, .aload_n 0, 1) (List.mem_of_getElem? (i := 75) rfl)
theorem dX7_edge_124 : decode cX7_edge 124 = .ok (.getfield 23, 3) := daX7_edge (124, .getfield 23, 3) (List.mem_of_getElem? (i := 76) rfl)
theorem dX7_edge_127 : decode cX7_edge 127 = .ok (.iconst 5, 1) := daX7_edge (127, .iconst 5, 1) (List.mem_of_getElem? (i := 77) rfl)
theorem dX7_edge_128 : decode cX7_edge 128 = .ok (.iload_n 1, 1) := daX7_edge (128, .iload_n 1, 1) (List.mem_of_getElem? (i := 78) rfl)
theorem dX7_edge_129 : decode cX7_edge 129 = .ok (.imul, 1) := daX7_edge (129, .imul, 1) (List.mem_of_getElem? (i := 79) rfl)
theorem dX7_edge_130 : decode cX7_edge 130 = .ok (.iload 5, 2) := daX7_edge (130, .iload 5, 2) (List.mem_of_getElem? (i := 80) rfl)
theorem dX7_edge_132 : decode cX7_edge 132 = .ok (.iadd, 1) := daX7_edge (132, .iadd, 1) (List.mem_of_getElem? (i := 81) rfl)
theorem dX7_edge_133 : decode cX7_edge 133 = .ok (.iconst 1, 1) := daX7_edge (133, .iconst 1, 1) (List.mem_of_getElem? (i := 82) rfl)
theorem dX7_edge_134 : decode cX7_edge 134 = .ok (.isub, 1) := daX7_edge (134, .isub, 1) (List.mem_of_getElem? (i := 83) rfl)
theorem dX7_edge_135 : decode cX7_edge 135 = .ok (.iaload, 1) := daX7_edge (135, .iaload, 1) (List.mem_of_getElem? (i := 84) rfl)
theorem dX7_edge_136 : decode cX7_edge 136 = .ok (.iastore, 1) := daX7_edge (136, .iastore, 1) (List.mem_of_getElem? (i := 85) rfl)
theorem dX7_edge_137 : decode cX7_edge 137 = .ok (.iinc 5 (-1), 3) := daX7_edge (137, .iinc 5 (-1), 3) (List.mem_of_getElem? (i := 86) rfl)
theorem dX7_edge_140 : decode cX7_edge 140 = .ok (.goto (-58), 3) := daX7_edge (140, .goto (-58), 3) (List.mem_of_getElem? (i := 87) rfl)
theorem dX7_edge_143 : decode cX7_edge 143 = .ok (.aload_n 0, 1) := daX7_edge (143, .aload_n 0, 1) (List.mem_of_getElem? (i := 88) rfl)
theorem dX7_edge_144 : decode cX7_edge 144 = .ok (.getfield 20, 3) := daX7_edge (144, .getfield 20, 3) (List.mem_of_getElem? (i := 89) rfl)
theorem dX7_edge_147 : decode cX7_edge 147 = .ok (.iconst 5, 1) := daX7_edge (147, .iconst 5, 1) (List.mem_of_getElem? (i := 90) rfl)
theorem dX7_edge_148 : decode cX7_edge 148 = .ok (.iload_n 1, 1) := daX7_edge (148, .iload_n 1, 1) (List.mem_of_getElem? (i := 91) rfl)
theorem dX7_edge_149 : decode cX7_edge 149 = .ok (.imul, 1) := daX7_edge (149, .imul, 1) (List.mem_of_getElem? (i := 92) rfl)
theorem dX7_edge_150 : decode cX7_edge 150 = .ok (.iload 4, 2) := daX7_edge (150, .iload 4, 2) (List.mem_of_getElem? (i := 93) rfl)
theorem dX7_edge_152 : decode cX7_edge 152 = .ok (.iadd, 1) := daX7_edge (152, .iadd, 1) (List.mem_of_getElem? (i := 94) rfl)
theorem dX7_edge_153 : decode cX7_edge 153 = .ok (.iload_n 2, 1) := daX7_edge (153, .iload_n 2, 1) (List.mem_of_getElem? (i := 95) rfl)
theorem dX7_edge_154 : decode cX7_edge 154 = .ok (.iastore, 1) := daX7_edge (154, .iastore, 1) (List.mem_of_getElem? (i := 96) rfl)
theorem dX7_edge_155 : decode cX7_edge 155 = .ok (.aload_n 0, 1) := daX7_edge (155, .aload_n 0, 1) (List.mem_of_getElem? (i := 97) rfl)
theorem dX7_edge_156 : decode cX7_edge 156 = .ok (.getfield 23, 3) := daX7_edge (156, .getfield 23, 3) (List.mem_of_getElem? (i := 98) rfl)
theorem dX7_edge_159 : decode cX7_edge 159 = .ok (.iconst 5, 1) := daX7_edge (159, .iconst 5, 1) (List.mem_of_getElem? (i := 99) rfl)
theorem dX7_edge_160 : decode cX7_edge 160 = .ok (.iload_n 1, 1) := daX7_edge (160, .iload_n 1, 1) (List.mem_of_getElem? (i := 100) rfl)
theorem dX7_edge_161 : decode cX7_edge 161 = .ok (.imul, 1) := daX7_edge (161, .imul, 1) (List.mem_of_getElem? (i := 101) rfl)
theorem dX7_edge_162 : decode cX7_edge 162 = .ok (.iload 4, 2) := daX7_edge (162, .iload 4, 2) (List.mem_of_getElem? (i := 102) rfl)
theorem dX7_edge_164 : decode cX7_edge 164 = .ok (.iadd, 1) := daX7_edge (164, .iadd, 1) (List.mem_of_getElem? (i := 103) rfl)
theorem dX7_edge_165 : decode cX7_edge 165 = .ok (.iload_n 3, 1) := daX7_edge (165, .iload_n 3, 1) (List.mem_of_getElem? (i := 104) rfl)
theorem dX7_edge_166 : decode cX7_edge 166 = .ok (.iastore, 1) := daX7_edge (166, .iastore, 1) (List.mem_of_getElem? (i := 105) rfl)
theorem dX7_edge_167 : decode cX7_edge 167 = .ok (.aload_n 0, 1) := daX7_edge (167, .aload_n 0, 1) (List.mem_of_getElem? (i := 106) rfl)
theorem dX7_edge_168 : decode cX7_edge 168 = .ok (.getfield 17, 3) := daX7_edge (168, .getfield 17, 3) (List.mem_of_getElem? (i := 107) rfl)
theorem dX7_edge_171 : decode cX7_edge 171 = .ok (.iload_n 1, 1) := daX7_edge (171, .iload_n 1, 1) (List.mem_of_getElem? (i := 108) rfl)
theorem dX7_edge_172 : decode cX7_edge 172 = .ok (.dup2, 1) := daX7_edge (172, .dup2, 1) (List.mem_of_getElem? (i := 109) rfl)
theorem dX7_edge_173 : decode cX7_edge 173 = .ok (.iaload, 1) := daX7_edge (173, .iaload, 1) (List.mem_of_getElem? (i := 110) rfl)
theorem dX7_edge_174 : decode cX7_edge 174 = .ok (.iconst 1, 1) := daX7_edge (174, .iconst 1, 1) (List.mem_of_getElem? (i := 111) rfl)
theorem dX7_edge_175 : decode cX7_edge 175 = .ok (.iadd, 1) := daX7_edge (175, .iadd, 1) (List.mem_of_getElem? (i := 112) rfl)
theorem dX7_edge_176 : decode cX7_edge 176 = .ok (.iastore, 1) := daX7_edge (176, .iastore, 1) (List.mem_of_getElem? (i := 113) rfl)
theorem dX7_edge_177 : decode cX7_edge 177 = .ok (.aload_n 0, 1) := daX7_edge (177, .aload_n 0, 1) (List.mem_of_getElem? (i := 114) rfl)
theorem dX7_edge_178 : decode cX7_edge 178 = .ok (.iconst 0, 1) := daX7_edge (178, .iconst 0, 1) (List.mem_of_getElem? (i := 115) rfl)
theorem dX7_edge_179 : decode cX7_edge 179 = .ok (.putfield 148, 3) := daX7_edge (179, .putfield 148, 3) (List.mem_of_getElem? (i := 116) rfl)
theorem dX7_edge_182 : decode cX7_edge 182 = .ok (.aload_n 0, 1) := daX7_edge (182, .aload_n 0, 1) (List.mem_of_getElem? (i := 117) rfl)
theorem dX7_edge_183 : decode cX7_edge 183 = .ok (.invokevirtual 166, 3) := daX7_edge (183, .invokevirtual 166, 3) (List.mem_of_getElem? (i := 118) rfl)
theorem dX7_edge_186 : decode cX7_edge 186 = .ok (.ireturn, 1) := daX7_edge (186, .ireturn, 1) (List.mem_of_getElem? (i := 119) rfl)
def rmX7_edge : Room := { frames := 2, cells := 0, slots := 0, locals := 48 }
theorem zdX7_edge : yX7_edge.cls = RX7 ∧ yX7_edge.cls ≠ "java/lang/invoke/MethodHandle" ∧ yX7_edge.cls ≠ "java/lang/invoke/VarHandle" ∧ (parseMethodDescriptor yX7_edge.desc).map (fun d => d.parameters.length) = some 3 := by decide +kernel
theorem kcX7_edge_160 : Cond.constantLong RX7 160 (9) ∈ wsX7_edge := (List.mem_of_getElem? (i := 1) rfl)
theorem kiX7_edge_X7 : ∀ w ∈ wsX70, w ∈ wsX7_edge := fun _ h => (List.mem_cons_of_mem _ (List.mem_append_right _ h))
theorem kfX7_edge_17 : Cond.fieldLink RX7 17 "ShapeJudgeModel" "many" "[I" ∈ wsX7_edge := (List.mem_of_getElem? (i := 2) rfl)
theorem kfX7_edge_20 : Cond.fieldLink RX7 20 "ShapeJudgeModel" "names" "[I" ∈ wsX7_edge := (List.mem_of_getElem? (i := 3) rfl)
theorem kfX7_edge_23 : Cond.fieldLink RX7 23 "ShapeJudgeModel" "tos" "[I" ∈ wsX7_edge := (List.mem_of_getElem? (i := 4) rfl)
theorem kfX7_edge_148 : Cond.fieldLink RX7 148 "ShapeJudgeModel" "isRead" "Z" ∈ wsX7_edge := (List.mem_of_getElem? (i := 5) rfl)
def t_X7_edge_82 (a1 : Int32) (r13 : Int32) (i16 : Int32) (m17 : Mem) : Option ((Int32 × Mem) ⊕ (Mem)) :=
  (if i16 ≤ r13 then (some (.inr m17)) else (ck (zin ((((5 : Int32) * a1) + i16) - 1) 50 = true) (ck (zin (((5 : Int32) * a1) + i16) 50 = true) (bn (sto m17 4 (Int32.toNatClampNeg (((5 : Int32) * a1) + i16)) (m17 4 (Int32.toNatClampNeg ((((5 : Int32) * a1) + i16) - 1)))) fun m20 => ck (zin ((((5 : Int32) * a1) + i16) - 1) 50 = true) (ck (zin (((5 : Int32) * a1) + i16) 50 = true) (bn (sto m20 5 (Int32.toNatClampNeg (((5 : Int32) * a1) + i16)) (m20 5 (Int32.toNatClampNeg ((((5 : Int32) * a1) + i16) - 1)))) fun m23 => bn (i16 + (-1)) fun x24 => some (.inl (x24, m23))))))))
def l_X7_edge_82 (a1 : Int32) (r13 : Int32) (n : Nat) (i16 : Int32) (m17 : Mem) : Option (Mem) := zlp n (fun a => t_X7_edge_82 a1 r13 a.1 a.2) (i16, m17)
def s_X7_edge (m : Mem) (a1 : Int32) (a2 : Int32) (a3 : Int32) : Option (Int32 × Mem) :=
  (s_X7_isNode m a1).bind fun r2 => (if r2 = 0 then (some ((-1), m)) else ((s_X7_in (a2.toInt64) 0 9).bind fun r4 => (if r4 = 0 then (some ((-1), m)) else ((s_X7_isNode m a3).bind fun r6 => (if r6 = 0 then (some ((-1), m)) else ((s_X7_isThere m a1 a2 a3).bind fun r8 => (if r8 = 0 then (ck (zin a1 10 = true) ((if (m 3 (Int32.toNatClampNeg a1)) = 5 then (some ((-3), m)) else ((s_X7_edges m).bind fun r11 => (if r11 = 40 then (some ((-3), m)) else ((s_X7_placeOf m a1 a2 a3).bind fun r13 => ck (zin a1 10 = true) (bn (m 3 (Int32.toNatClampNeg a1)) fun x15 => ((l_X7_edge_82 a1 r13 FU x15 m).bind fun m26 => ck (zin (((5 : Int32) * a1) + r13) 50 = true) (bn (sto m26 4 (Int32.toNatClampNeg (((5 : Int32) * a1) + r13)) a2) fun m28 => ck (zin (((5 : Int32) * a1) + r13) 50 = true) (bn (sto m28 5 (Int32.toNatClampNeg (((5 : Int32) * a1) + r13)) a3) fun m30 => ck (zin a1 10 = true) (ck (zin a1 10 = true) (bn (sto m30 3 (Int32.toNatClampNeg a1) ((m30 3 (Int32.toNatClampNeg a1)) + 1)) fun m33 => bn (sto m33 0 6 0) fun m34 => (s_X7_edges m34).bind fun r36 => some (r36, m34))))))))))))) else (some ((-2), m)))))))))
set_option maxRecDepth 100000 in
set_option maxHeartbeats 4000000 in
theorem w_X7_edge_82 {K : ZK} (C : zOK MM K cX7_edge 6 (some .int) RX7 wsX7_edge rmX7_edge) {a1 : Int32} {a2 : Int32} {a3 : Int32} {r13 : Int32}  {o0 : Mem} (hk : zGo MM K o0 [(0, .ref ((zw K).2.1 0)), (1, .int a1), (2, .int a2), (3, .int a3), (4, .int r13)] 143 []) : ∀ (n : Nat) (i16 : Int32) (m17 : Mem), l_X7_edge_82 a1 r13 n i16 m17 = some o0 → zGo MM K m17 [(0, .ref ((zw K).2.1 0)), (1, .int a1), (2, .int a2), (3, .int a3), (4, .int r13), (5, .int i16)] 82 [] := by
  intro n
  induction n with
  | zero =>
    intro i16 m17 hf
    cases hf
  | succ n ih =>
    intro i16 m17 hf
    obtain ⟨z, hf, hz⟩ := zlp_el hf
    replace hf : t_X7_edge_82 a1 r13 i16 m17 = some z := hf
    unfold t_X7_edge_82 at hf
    refine z_iload C 5 dX7_edge_82 rfl ?_
    refine z_iload C 4 dX7_edge_84 rfl ?_
    refine z_icmp_le (tgt := 143) C dX7_edge_86 (by decide) (fun c25 => ?_) (fun c25 => ?_)
    · replace hf := if_t c25 hf
      cases hf
      replace hz := zlz_r hz
      cases hz
      exact z_sub [0, 1, 2, 3, 4] rfl hk
    · replace hf := if_f c25 hf
      refine z_aload_n C 0 dX7_edge_89 rfl rfl ?_
      refine z_getr C (t := 4) (Nat.le_of_ble_eq_true rfl) rfl rfl 4 (Nat.le_of_ble_eq_true rfl) rfl kiX7_edge_X7 kfX7_edge_20 dX7_edge_90 ?_
      refine z_iconst C (v := 5) dX7_edge_93 rfl ?_
      refine z_iload_n C 1 dX7_edge_94 rfl rfl ?_
      refine z_imul C dX7_edge_95 ?_
      refine z_iload C 5 dX7_edge_96 rfl ?_
      refine z_iadd C dX7_edge_98 ?_
      refine z_aload_n C 0 dX7_edge_99 rfl rfl ?_
      refine z_getr C (t := 4) (Nat.le_of_ble_eq_true rfl) rfl rfl 4 (Nat.le_of_ble_eq_true rfl) rfl kiX7_edge_X7 kfX7_edge_20 dX7_edge_100 ?_
      refine z_iconst C (v := 5) dX7_edge_103 rfl ?_
      refine z_iload_n C 1 dX7_edge_104 rfl rfl ?_
      refine z_imul C dX7_edge_105 ?_
      refine z_iload C 5 dX7_edge_106 rfl ?_
      refine z_iadd C dX7_edge_108 ?_
      refine z_iconst C (v := 1) dX7_edge_109 rfl ?_
      refine z_isub C dX7_edge_110 ?_
      obtain ⟨hi18, hf⟩ := ck_el hf
      refine z_iald C (k := 4) (Nat.le_of_ble_eq_true rfl) rfl hi18 dX7_edge_111 ?_
      obtain ⟨hi19, hf⟩ := ck_el hf
      refine z_iast C (k := 4) (Nat.le_of_ble_eq_true rfl) rfl hi19 dX7_edge_112 ?_
      refine z_nm (fun m20 e_m20 => ?_)
      replace hf := bn_to e_m20 hf
      refine z_aload_n C 0 dX7_edge_113 rfl rfl ?_
      refine z_getr C (t := 5) (Nat.le_of_ble_eq_true rfl) rfl rfl 5 (Nat.le_of_ble_eq_true rfl) rfl kiX7_edge_X7 kfX7_edge_23 dX7_edge_114 ?_
      refine z_iconst C (v := 5) dX7_edge_117 rfl ?_
      refine z_iload_n C 1 dX7_edge_118 rfl rfl ?_
      refine z_imul C dX7_edge_119 ?_
      refine z_iload C 5 dX7_edge_120 rfl ?_
      refine z_iadd C dX7_edge_122 ?_
      refine z_aload_n C 0 dX7_edge_123 rfl rfl ?_
      refine z_getr C (t := 5) (Nat.le_of_ble_eq_true rfl) rfl rfl 5 (Nat.le_of_ble_eq_true rfl) rfl kiX7_edge_X7 kfX7_edge_23 dX7_edge_124 ?_
      refine z_iconst C (v := 5) dX7_edge_127 rfl ?_
      refine z_iload_n C 1 dX7_edge_128 rfl rfl ?_
      refine z_imul C dX7_edge_129 ?_
      refine z_iload C 5 dX7_edge_130 rfl ?_
      refine z_iadd C dX7_edge_132 ?_
      refine z_iconst C (v := 1) dX7_edge_133 rfl ?_
      refine z_isub C dX7_edge_134 ?_
      obtain ⟨hi21, hf⟩ := ck_el hf
      refine z_iald C (k := 5) (Nat.le_of_ble_eq_true rfl) rfl hi21 dX7_edge_135 ?_
      obtain ⟨hi22, hf⟩ := ck_el hf
      refine z_iast C (k := 5) (Nat.le_of_ble_eq_true rfl) rfl hi22 dX7_edge_136 ?_
      refine z_nm (fun m23 e_m23 => ?_)
      replace hf := bn_to e_m23 hf
      obtain ⟨x24, e_x24⟩ : ∃ y : Int32, y = i16 + (-1) := ⟨_, rfl⟩
      replace hf := bn_to e_x24 hf
      refine z_iinc C (lv2 := [(0, .ref ((zw K).2.1 0)), (1, .int a1), (2, .int a2), (3, .int a3), (4, .int r13), (5, .int x24)]) 5 [1, 2, 3, 4, 5, 0] dX7_edge_137 (by decide) rfl (Nat.le_of_ble_eq_true rfl) e_x24 rfl ?_
      refine z_goto (tgt := 82) C dX7_edge_140 (by decide) ?_
      cases hf
      exact z_sub [0, 1, 2, 3, 4, 5] rfl (ih x24 m23 hz)
set_option maxRecDepth 100000 in
set_option maxHeartbeats 4000000 in
theorem c_X7_edge (l : Launch) (w : ZW) {m : Mem} {a1 : Int32} {a2 : Int32} {a3 : Int32} {r9 : Int32} {m9 : Mem}  (hf : s_X7_edge m a1 a2 a3 = some (r9, m9)) : zCi MM l w yX7_edge wsX7_edge rmX7_edge [.ref (w.2.1 0), .int a1, .int a2, .int a3] m m9 r9 := by
  refine z_met_i MM_ok (own := RX7) (by decide +kernel) rfl rfl (Nat.le_of_ble_eq_true rfl) ?_
  intro K C hKw hKl hret
  subst hKw
  subst hKl
  unfold s_X7_edge at hf
  show zGo MM K m [(0, .ref ((zw K).2.1 0)), (1, .int a1), (2, .int a2), (3, .int a3)] 0 []
  refine z_aload_n C 0 dX7_edge_0 rfl rfl ?_
  refine z_iload_n C 1 dX7_edge_1 rfl rfl ?_
  obtain ⟨r2, hc1, hf⟩ := zb_el hf
  refine z_cVi C (c_X7_isNode _ _ hc1) rfl gX7_edge_X7_isNode rfl rfl zdX7_isNode rfl (Nat.le_of_ble_eq_true rfl) rfl rfl rfl ⟨Nat.le_of_ble_eq_true rfl, Nat.le_of_ble_eq_true rfl⟩ (Nat.le_of_ble_eq_true rfl) dX7_edge_2 rfl ?_
  refine z_if_eq (tgt := 28) C dX7_edge_5 (by decide) (fun c42 => ?_) (fun c42 => ?_)
  · replace hf := if_t c42 hf
    refine z_iconst C (v := (-1)) dX7_edge_28 (by decide) ?_
    obtain ⟨e1, e2⟩ := sp_el hf
    subst e1
    subst e2
    exact hret _ _ dX7_edge_29
  · replace hf := if_f c42 hf
    refine z_iload_n C 2 dX7_edge_8 rfl rfl ?_
    refine z_i2l C dX7_edge_9 ?_
    refine z_lconst C (v := 0) dX7_edge_10 rfl ?_
    refine z_ldc2 C (v := 9) dX7_edge_11 kcX7_edge_160 ?_
    obtain ⟨r4, hc3, hf⟩ := zb_el hf
    refine z_cSi C (c_X7_in _ _ hc3) rfl gX7_edge_X7_in rfl rfl zdX7_in.2 rfl ⟨Nat.le_of_ble_eq_true rfl, Nat.le_of_ble_eq_true rfl⟩ (Nat.le_of_ble_eq_true rfl) dX7_edge_14 rfl ?_
    refine z_if_eq (tgt := 28) C dX7_edge_17 (by decide) (fun c41 => ?_) (fun c41 => ?_)
    · replace hf := if_t c41 hf
      refine z_iconst C (v := (-1)) dX7_edge_28 (by decide) ?_
      obtain ⟨e1, e2⟩ := sp_el hf
      subst e1
      subst e2
      exact hret _ _ dX7_edge_29
    · replace hf := if_f c41 hf
      refine z_aload_n C 0 dX7_edge_20 rfl rfl ?_
      refine z_iload_n C 3 dX7_edge_21 rfl rfl ?_
      obtain ⟨r6, hc5, hf⟩ := zb_el hf
      refine z_cVi C (c_X7_isNode _ _ hc5) rfl gX7_edge_X7_isNode rfl rfl zdX7_isNode rfl (Nat.le_of_ble_eq_true rfl) rfl rfl rfl ⟨Nat.le_of_ble_eq_true rfl, Nat.le_of_ble_eq_true rfl⟩ (Nat.le_of_ble_eq_true rfl) dX7_edge_22 rfl ?_
      refine z_if_ne (tgt := 30) C dX7_edge_25 (by decide) (fun c40 => ?_) (fun c40 => ?_)
      · replace hf := if_f c40 hf
        refine z_aload_n C 0 dX7_edge_30 rfl rfl ?_
        refine z_iload_n C 1 dX7_edge_31 rfl rfl ?_
        refine z_iload_n C 2 dX7_edge_32 rfl rfl ?_
        refine z_iload_n C 3 dX7_edge_33 rfl rfl ?_
        obtain ⟨r8, hc7, hf⟩ := zb_el hf
        refine z_cVi C (c_X7_isThere _ _ hc7) rfl gX7_edge_X7_isThere rfl rfl zdX7_isThere rfl (Nat.le_of_ble_eq_true rfl) rfl rfl rfl ⟨Nat.le_of_ble_eq_true rfl, Nat.le_of_ble_eq_true rfl⟩ (Nat.le_of_ble_eq_true rfl) dX7_edge_34 rfl ?_
        refine z_if_eq (tgt := 43) C dX7_edge_37 (by decide) (fun c39 => ?_) (fun c39 => ?_)
        · replace hf := if_t c39 hf
          refine z_aload_n C 0 dX7_edge_43 rfl rfl ?_
          refine z_getr C (t := 3) (Nat.le_of_ble_eq_true rfl) rfl rfl 3 (Nat.le_of_ble_eq_true rfl) rfl kiX7_edge_X7 kfX7_edge_17 dX7_edge_44 ?_
          refine z_iload_n C 1 dX7_edge_47 rfl rfl ?_
          obtain ⟨hi9, hf⟩ := ck_el hf
          refine z_iald C (k := 3) (Nat.le_of_ble_eq_true rfl) rfl hi9 dX7_edge_48 ?_
          refine z_iconst C (v := 5) dX7_edge_49 rfl ?_
          refine z_icmp_eq (tgt := 62) C dX7_edge_50 (by decide) (fun c38 => ?_) (fun c38 => ?_)
          · replace hf := if_t c38 hf
            refine z_bipush C (v := (-3)) dX7_edge_62 (by decide) ?_
            obtain ⟨e1, e2⟩ := sp_el hf
            subst e1
            subst e2
            exact hret _ _ dX7_edge_64
          · replace hf := if_f c38 hf
            refine z_aload_n C 0 dX7_edge_53 rfl rfl ?_
            obtain ⟨r11, hc10, hf⟩ := zb_el hf
            refine z_cVi C (c_X7_edges _ _ hc10) rfl gX7_edge_X7_edges rfl rfl zdX7_edges rfl (Nat.le_of_ble_eq_true rfl) rfl rfl rfl ⟨Nat.le_of_ble_eq_true rfl, Nat.le_of_ble_eq_true rfl⟩ (Nat.le_of_ble_eq_true rfl) dX7_edge_54 rfl ?_
            refine z_bipush C (v := 40) dX7_edge_57 rfl ?_
            refine z_icmp_ne (tgt := 65) C dX7_edge_59 (by decide) (fun c37 => ?_) (fun c37 => ?_)
            · replace hf := if_f c37 hf
              refine z_aload_n C 0 dX7_edge_65 rfl rfl ?_
              refine z_iload_n C 1 dX7_edge_66 rfl rfl ?_
              refine z_iload_n C 2 dX7_edge_67 rfl rfl ?_
              refine z_iload_n C 3 dX7_edge_68 rfl rfl ?_
              obtain ⟨r13, hc12, hf⟩ := zb_el hf
              refine z_cVi C (c_X7_placeOf _ _ hc12) rfl gX7_edge_X7_placeOf rfl rfl zdX7_placeOf rfl (Nat.le_of_ble_eq_true rfl) rfl rfl rfl ⟨Nat.le_of_ble_eq_true rfl, Nat.le_of_ble_eq_true rfl⟩ (Nat.le_of_ble_eq_true rfl) dX7_edge_69 rfl ?_
              refine z_istore C (lv2 := [(0, .ref ((zw K).2.1 0)), (1, .int a1), (2, .int a2), (3, .int a3), (4, .int r13)]) [1, 2, 3, 4, 0] dX7_edge_72 (Nat.le_of_ble_eq_true rfl) rfl ?_
              refine z_aload_n C 0 dX7_edge_74 rfl rfl ?_
              refine z_getr C (t := 3) (Nat.le_of_ble_eq_true rfl) rfl rfl 3 (Nat.le_of_ble_eq_true rfl) rfl kiX7_edge_X7 kfX7_edge_17 dX7_edge_75 ?_
              refine z_iload_n C 1 dX7_edge_78 rfl rfl ?_
              obtain ⟨hi14, hf⟩ := ck_el hf
              refine z_iald C (k := 3) (Nat.le_of_ble_eq_true rfl) rfl hi14 dX7_edge_79 ?_
              refine z_topi (fun x15 e_x15 => ?_)
              replace hf := bn_to e_x15 hf
              refine z_istore C (lv2 := [(0, .ref ((zw K).2.1 0)), (1, .int a1), (2, .int a2), (3, .int a3), (4, .int r13), (5, .int x15)]) [1, 2, 3, 4, 5, 0] dX7_edge_80 (Nat.le_of_ble_eq_true rfl) rfl ?_
              obtain ⟨m26, hg, hf⟩ := zb_el hf
              refine z_sub [0, 1, 2, 3, 4, 5] rfl (w_X7_edge_82 C  ?_ _ _ _ hg)
              clear hg
              refine z_aload_n C 0 dX7_edge_143 rfl rfl ?_
              refine z_getr C (t := 4) (Nat.le_of_ble_eq_true rfl) rfl rfl 4 (Nat.le_of_ble_eq_true rfl) rfl kiX7_edge_X7 kfX7_edge_20 dX7_edge_144 ?_
              refine z_iconst C (v := 5) dX7_edge_147 rfl ?_
              refine z_iload_n C 1 dX7_edge_148 rfl rfl ?_
              refine z_imul C dX7_edge_149 ?_
              refine z_iload C 4 dX7_edge_150 rfl ?_
              refine z_iadd C dX7_edge_152 ?_
              refine z_iload_n C 2 dX7_edge_153 rfl rfl ?_
              obtain ⟨hi27, hf⟩ := ck_el hf
              refine z_iast C (k := 4) (Nat.le_of_ble_eq_true rfl) rfl hi27 dX7_edge_154 ?_
              refine z_nm (fun m28 e_m28 => ?_)
              replace hf := bn_to e_m28 hf
              refine z_aload_n C 0 dX7_edge_155 rfl rfl ?_
              refine z_getr C (t := 5) (Nat.le_of_ble_eq_true rfl) rfl rfl 5 (Nat.le_of_ble_eq_true rfl) rfl kiX7_edge_X7 kfX7_edge_23 dX7_edge_156 ?_
              refine z_iconst C (v := 5) dX7_edge_159 rfl ?_
              refine z_iload_n C 1 dX7_edge_160 rfl rfl ?_
              refine z_imul C dX7_edge_161 ?_
              refine z_iload C 4 dX7_edge_162 rfl ?_
              refine z_iadd C dX7_edge_164 ?_
              refine z_iload_n C 3 dX7_edge_165 rfl rfl ?_
              obtain ⟨hi29, hf⟩ := ck_el hf
              refine z_iast C (k := 5) (Nat.le_of_ble_eq_true rfl) rfl hi29 dX7_edge_166 ?_
              refine z_nm (fun m30 e_m30 => ?_)
              replace hf := bn_to e_m30 hf
              refine z_aload_n C 0 dX7_edge_167 rfl rfl ?_
              refine z_getr C (t := 3) (Nat.le_of_ble_eq_true rfl) rfl rfl 3 (Nat.le_of_ble_eq_true rfl) rfl kiX7_edge_X7 kfX7_edge_17 dX7_edge_168 ?_
              refine z_iload_n C 1 dX7_edge_171 rfl rfl ?_
              refine z_dup2 C dX7_edge_172 ?_
              obtain ⟨hi31, hf⟩ := ck_el hf
              refine z_iald C (k := 3) (Nat.le_of_ble_eq_true rfl) rfl hi31 dX7_edge_173 ?_
              refine z_iconst C (v := 1) dX7_edge_174 rfl ?_
              refine z_iadd C dX7_edge_175 ?_
              obtain ⟨hi32, hf⟩ := ck_el hf
              refine z_iast C (k := 3) (Nat.le_of_ble_eq_true rfl) rfl hi32 dX7_edge_176 ?_
              refine z_nm (fun m33 e_m33 => ?_)
              replace hf := bn_to e_m33 hf
              refine z_aload_n C 0 dX7_edge_177 rfl rfl ?_
              refine z_iconst C (v := 0) dX7_edge_178 rfl ?_
              refine z_putz C (Nat.le_of_ble_eq_true rfl) rfl rfl 6 (Nat.le_of_ble_eq_true rfl) rfl kiX7_edge_X7 kfX7_edge_148 tyX7 tyX7_ok nmX7 rfl rfl (Or.inl rfl) dX7_edge_179 ?_
              refine z_nm (fun m34 e_m34 => ?_)
              replace hf := bn_to e_m34 hf
              refine z_aload_n C 0 dX7_edge_182 rfl rfl ?_
              obtain ⟨r36, hc35, hf⟩ := zb_el hf
              refine z_cVi C (c_X7_edges _ _ hc35) rfl gX7_edge_X7_edges rfl rfl zdX7_edges rfl (Nat.le_of_ble_eq_true rfl) rfl rfl rfl ⟨Nat.le_of_ble_eq_true rfl, Nat.le_of_ble_eq_true rfl⟩ (Nat.le_of_ble_eq_true rfl) dX7_edge_183 rfl ?_
              obtain ⟨e1, e2⟩ := sp_el hf
              subst e1
              subst e2
              exact hret _ _ dX7_edge_186
            · replace hf := if_t c37 hf
              refine z_bipush C (v := (-3)) dX7_edge_62 (by decide) ?_
              obtain ⟨e1, e2⟩ := sp_el hf
              subst e1
              subst e2
              exact hret _ _ dX7_edge_64
        · replace hf := if_f c39 hf
          refine z_bipush C (v := (-2)) dX7_edge_40 (by decide) ?_
          obtain ⟨e1, e2⟩ := sp_el hf
          subst e1
          subst e2
          exact hret _ _ dX7_edge_42
      · replace hf := if_t c40 hf
        refine z_iconst C (v := (-1)) dX7_edge_28 (by decide) ?_
        obtain ⟨e1, e2⟩ := sp_el hf
        subst e1
        subst e2
        exact hret _ _ dX7_edge_29
set_option maxRecDepth 20000 in
theorem ggX7_end_X7_in : GoodIn wsX7_end wsX7_in := goodIn_sub (List.forall_mem_cons.mpr ⟨(List.mem_of_getElem? (i := 5) rfl), (fun _ h => absurd h List.not_mem_nil)⟩) (by decide +kernel)
set_option maxRecDepth 20000 in
theorem gX7_end_X7_in : GoodIn wsX7_end (va_wsS RX7 144 yX7_in wsX7_in) := goodIn_app (goodIn_sub (List.forall_mem_cons.mpr ⟨(List.mem_of_getElem? (i := 2) rfl), (List.forall_mem_cons.mpr ⟨(List.mem_of_getElem? (i := 3) rfl), (List.forall_mem_cons.mpr ⟨(List.mem_of_getElem? (i := 4) rfl), (fun _ h => absurd h List.not_mem_nil)⟩)⟩)⟩) (by decide +kernel)) ggX7_end_X7_in
theorem dX7_end_0 : decode cX7_end 0 = .ok (.iload_n 1, 1) := by decide +kernel
theorem dX7_end_1 : decode cX7_end 1 = .ok (.i2l, 1) := by decide +kernel
theorem dX7_end_2 : decode cX7_end 2 = .ok (.lconst 0, 1) := by decide +kernel
theorem dX7_end_3 : decode cX7_end 3 = .ok (.aload_n 0, 1) := by decide +kernel
theorem dX7_end_4 : decode cX7_end 4 = .ok (.getfield 170, 3) := by decide +kernel
theorem dX7_end_7 : decode cX7_end 7 = .ok (.i2l, 1) := by decide +kernel
theorem dX7_end_8 : decode cX7_end 8 = .ok (.invokestatic 144, 3) := by decide +kernel
theorem dX7_end_11 : decode cX7_end 11 = .ok (.ifCond .ne 5, 3) := by decide +kernel
theorem dX7_end_14 : decode cX7_end 14 = .ok (.iconst (-1), 1) := by decide +kernel
theorem dX7_end_15 : decode cX7_end 15 = .ok (.ireturn, 1) := by decide +kernel
theorem dX7_end_16 : decode cX7_end 16 = .ok (.aload_n 0, 1) := by decide +kernel
theorem dX7_end_17 : decode cX7_end 17 = .ok (.getfield 170, 3) := by decide +kernel
theorem dX7_end_20 : decode cX7_end 20 = .ok (.istore_n 2, 1) := by decide +kernel
theorem dX7_end_21 : decode cX7_end 21 = .ok (.aload_n 0, 1) := by decide +kernel
theorem dX7_end_22 : decode cX7_end 22 = .ok (.iload_n 1, 1) := by decide +kernel
theorem dX7_end_23 : decode cX7_end 23 = .ok (.putfield 170, 3) := by decide +kernel
theorem dX7_end_26 : decode cX7_end 26 = .ok (.iload_n 2, 1) := by decide +kernel
theorem dX7_end_27 : decode cX7_end 27 = .ok (.ireturn, 1) := by decide +kernel
def rmX7_end : Room := { frames := 1, cells := 0, slots := 0, locals := 25 }
theorem zdX7_end : yX7_end.cls = RX7 ∧ yX7_end.cls ≠ "java/lang/invoke/MethodHandle" ∧ yX7_end.cls ≠ "java/lang/invoke/VarHandle" ∧ (parseMethodDescriptor yX7_end.desc).map (fun d => d.parameters.length) = some 1 := by decide +kernel
theorem kiX7_end_X7 : ∀ w ∈ wsX70, w ∈ wsX7_end := fun _ h => (List.mem_cons_of_mem _ (List.mem_append_right _ h))
theorem kfX7_end_170 : Cond.fieldLink RX7 170 "ShapeJudgeModel" "taped" "I" ∈ wsX7_end := (List.mem_of_getElem? (i := 1) rfl)
def s_X7_end (m : Mem) (a1 : Int32) : Option (Int32 × Mem) :=
  (s_X7_in (a1.toInt64) 0 (m 0 37).toInt64).bind fun r2 => (if r2 = 0 then (some ((-1), m)) else (bn (m 0 37) fun x3 => bn (sto m 0 37 a1) fun m4 => some (x3, m4)))
set_option maxRecDepth 100000 in
set_option maxHeartbeats 4000000 in
theorem c_X7_end (l : Launch) (w : ZW) {m : Mem} {a1 : Int32} {r9 : Int32} {m9 : Mem}  (hf : s_X7_end m a1 = some (r9, m9)) : zCi MM l w yX7_end wsX7_end rmX7_end [.ref (w.2.1 0), .int a1] m m9 r9 := by
  refine z_met_i MM_ok (own := RX7) (by decide +kernel) rfl rfl (Nat.le_of_ble_eq_true rfl) ?_
  intro K C hKw hKl hret
  subst hKw
  subst hKl
  unfold s_X7_end at hf
  show zGo MM K m [(0, .ref ((zw K).2.1 0)), (1, .int a1)] 0 []
  refine z_iload_n C 1 dX7_end_0 rfl rfl ?_
  refine z_i2l C dX7_end_1 ?_
  refine z_lconst C (v := 0) dX7_end_2 rfl ?_
  refine z_aload_n C 0 dX7_end_3 rfl rfl ?_
  refine z_geti C (Nat.le_of_ble_eq_true rfl) rfl rfl 37 (Nat.le_of_ble_eq_true rfl) rfl kiX7_end_X7 kfX7_end_170 dX7_end_4 ?_
  refine z_i2l C dX7_end_7 ?_
  obtain ⟨r2, hc1, hf⟩ := zb_el hf
  refine z_cSi C (c_X7_in _ _ hc1) rfl gX7_end_X7_in rfl rfl zdX7_in.2 rfl ⟨Nat.le_of_ble_eq_true rfl, Nat.le_of_ble_eq_true rfl⟩ (Nat.le_of_ble_eq_true rfl) dX7_end_8 rfl ?_
  refine z_if_ne (tgt := 16) C dX7_end_11 (by decide) (fun c5 => ?_) (fun c5 => ?_)
  · replace hf := if_f c5 hf
    refine z_aload_n C 0 dX7_end_16 rfl rfl ?_
    refine z_geti C (Nat.le_of_ble_eq_true rfl) rfl rfl 37 (Nat.le_of_ble_eq_true rfl) rfl kiX7_end_X7 kfX7_end_170 dX7_end_17 ?_
    refine z_topi (fun x3 e_x3 => ?_)
    replace hf := bn_to e_x3 hf
    refine z_istore_n C (lv2 := [(0, .ref ((zw K).2.1 0)), (1, .int a1), (2, .int x3)]) [1, 2, 0] dX7_end_20 rfl (Nat.le_of_ble_eq_true rfl) rfl ?_
    refine z_aload_n C 0 dX7_end_21 rfl rfl ?_
    refine z_iload_n C 1 dX7_end_22 rfl rfl ?_
    refine z_puti C (Nat.le_of_ble_eq_true rfl) rfl rfl 37 (Nat.le_of_ble_eq_true rfl) rfl kiX7_end_X7 kfX7_end_170 tyX7 tyX7_ok nmX7 rfl rfl dX7_end_23 ?_
    refine z_nm (fun m4 e_m4 => ?_)
    replace hf := bn_to e_m4 hf
    refine z_iload_n C 2 dX7_end_26 rfl rfl ?_
    obtain ⟨e1, e2⟩ := sp_el hf
    subst e1
    subst e2
    exact hret _ _ dX7_end_27
  · replace hf := if_t c5 hf
    refine z_iconst C (v := (-1)) dX7_end_14 (by decide) ?_
    obtain ⟨e1, e2⟩ := sp_el hf
    subst e1
    subst e2
    exact hret _ _ dX7_end_15
theorem dX7_fails_0 : decode cX7_fails 0 = .ok (.aload_n 0, 1) := by decide +kernel
theorem dX7_fails_1 : decode cX7_fails 1 = .ok (.getfield 177, 3) := by decide +kernel
theorem dX7_fails_4 : decode cX7_fails 4 = .ok (.ifCond .ne 13, 3) := by decide +kernel
theorem dX7_fails_7 : decode cX7_fails 7 = .ok (.aload_n 0, 1) := by decide +kernel
theorem dX7_fails_8 : decode cX7_fails 8 = .ok (.iload_n 1, 1) := by decide +kernel
theorem dX7_fails_9 : decode cX7_fails 9 = .ok (.putfield 177, 3) := by decide +kernel
theorem dX7_fails_12 : decode cX7_fails 12 = .ok (.aload_n 0, 1) := by decide +kernel
theorem dX7_fails_13 : decode cX7_fails 13 = .ok (.iload_n 2, 1) := by decide +kernel
theorem dX7_fails_14 : decode cX7_fails 14 = .ok (.putfield 180, 3) := by decide +kernel
theorem dX7_fails_17 : decode cX7_fails 17 = .ok (.return_, 1) := by decide +kernel
def rmX7_fails : Room := { frames := 0, cells := 0, slots := 0, locals := 0 }
theorem zdX7_fails : yX7_fails.cls = RX7 ∧ yX7_fails.cls ≠ "java/lang/invoke/MethodHandle" ∧ yX7_fails.cls ≠ "java/lang/invoke/VarHandle" ∧ (parseMethodDescriptor yX7_fails.desc).map (fun d => d.parameters.length) = some 2 := by decide +kernel
theorem kiX7_fails_X7 : ∀ w ∈ wsX70, w ∈ wsX7_fails := fun _ h => (List.mem_cons_of_mem _ (List.mem_append_right _ h))
theorem kfX7_fails_177 : Cond.fieldLink RX7 177 "ShapeJudgeModel" "fault" "I" ∈ wsX7_fails := (List.mem_of_getElem? (i := 1) rfl)
theorem kfX7_fails_180 : Cond.fieldLink RX7 180 "ShapeJudgeModel" "wrongAt" "I" ∈ wsX7_fails := (List.mem_of_getElem? (i := 2) rfl)
def s_X7_fails (m : Mem) (a1 : Int32) (a2 : Int32) : Option (Mem) :=
  (if (m 0 42) = 0 then (bn (sto m 0 42 a1) fun m1 => bn (sto m1 0 43 a2) fun m2 => some m2) else (some m))
set_option maxRecDepth 100000 in
set_option maxHeartbeats 4000000 in
theorem c_X7_fails (l : Launch) (w : ZW) {m : Mem} {a1 : Int32} {a2 : Int32} {m9 : Mem}  (hf : s_X7_fails m a1 a2 = some m9) : zCv MM l w yX7_fails wsX7_fails rmX7_fails [.ref (w.2.1 0), .int a1, .int a2] m m9 := by
  refine z_met_v MM_ok (own := RX7) (by decide +kernel) rfl rfl (Nat.le_of_ble_eq_true rfl) ?_
  intro K C hKw hKl hret
  subst hKw
  subst hKl
  unfold s_X7_fails at hf
  show zGo MM K m [(0, .ref ((zw K).2.1 0)), (1, .int a1), (2, .int a2)] 0 []
  refine z_aload_n C 0 dX7_fails_0 rfl rfl ?_
  refine z_geti C (Nat.le_of_ble_eq_true rfl) rfl rfl 42 (Nat.le_of_ble_eq_true rfl) rfl kiX7_fails_X7 kfX7_fails_177 dX7_fails_1 ?_
  refine z_if_ne (tgt := 17) C dX7_fails_4 (by decide) (fun c3 => ?_) (fun c3 => ?_)
  · replace hf := if_f c3 hf
    have e1 := Option.some.inj hf
    subst e1
    exact hret _ _ dX7_fails_17
  · replace hf := if_t c3 hf
    refine z_aload_n C 0 dX7_fails_7 rfl rfl ?_
    refine z_iload_n C 1 dX7_fails_8 rfl rfl ?_
    refine z_puti C (Nat.le_of_ble_eq_true rfl) rfl rfl 42 (Nat.le_of_ble_eq_true rfl) rfl kiX7_fails_X7 kfX7_fails_177 tyX7 tyX7_ok nmX7 rfl rfl dX7_fails_9 ?_
    refine z_nm (fun m1 e_m1 => ?_)
    replace hf := bn_to e_m1 hf
    refine z_aload_n C 0 dX7_fails_12 rfl rfl ?_
    refine z_iload_n C 2 dX7_fails_13 rfl rfl ?_
    refine z_puti C (Nat.le_of_ble_eq_true rfl) rfl rfl 43 (Nat.le_of_ble_eq_true rfl) rfl kiX7_fails_X7 kfX7_fails_180 tyX7 tyX7_ok nmX7 rfl rfl dX7_fails_14 ?_
    refine z_nm (fun m2 e_m2 => ?_)
    replace hf := bn_to e_m2 hf
    have e1 := Option.some.inj hf
    subst e1
    exact hret _ _ dX7_fails_17
theorem dX7_fault_0 : decode cX7_fault 0 = .ok (.aload_n 0, 1) := by decide +kernel
theorem dX7_fault_1 : decode cX7_fault 1 = .ok (.getfield 177, 3) := by decide +kernel
theorem dX7_fault_4 : decode cX7_fault 4 = .ok (.ireturn, 1) := by decide +kernel
def rmX7_fault : Room := { frames := 0, cells := 0, slots := 0, locals := 0 }
theorem zdX7_fault : yX7_fault.cls = RX7 ∧ yX7_fault.cls ≠ "java/lang/invoke/MethodHandle" ∧ yX7_fault.cls ≠ "java/lang/invoke/VarHandle" ∧ (parseMethodDescriptor yX7_fault.desc).map (fun d => d.parameters.length) = some 0 := by decide +kernel
theorem kiX7_fault_X7 : ∀ w ∈ wsX70, w ∈ wsX7_fault := fun _ h => (List.mem_cons_of_mem _ (List.mem_append_right _ h))
theorem kfX7_fault_177 : Cond.fieldLink RX7 177 "ShapeJudgeModel" "fault" "I" ∈ wsX7_fault := (List.mem_of_getElem? (i := 1) rfl)
def s_X7_fault (m : Mem)  : Option (Int32) :=
  some (m 0 42)
set_option maxRecDepth 100000 in
set_option maxHeartbeats 4000000 in
theorem c_X7_fault (l : Launch) (w : ZW) {m : Mem}  {r9 : Int32}  (hf : s_X7_fault m  = some r9) : zCi MM l w yX7_fault wsX7_fault rmX7_fault [.ref (w.2.1 0)] m m r9 := by
  refine z_met_i MM_ok (own := RX7) (by decide +kernel) rfl rfl (Nat.le_of_ble_eq_true rfl) ?_
  intro K C hKw hKl hret
  subst hKw
  subst hKl
  unfold s_X7_fault at hf
  show zGo MM K m [(0, .ref ((zw K).2.1 0))] 0 []
  refine z_aload_n C 0 dX7_fault_0 rfl rfl ?_
  refine z_geti C (Nat.le_of_ble_eq_true rfl) rfl rfl 42 (Nat.le_of_ble_eq_true rfl) rfl kiX7_fault_X7 kfX7_fault_177 dX7_fault_1 ?_
  have e1 := Option.some.inj hf
  subst e1
  exact hret _ _ dX7_fault_4
theorem dX7_put_0 : decode cX7_put 0 = .ok (.bipush 24, 2) := by decide +kernel
theorem dX7_put_2 : decode cX7_put 2 = .ok (.istore_n 2, 1) := by decide +kernel
theorem dX7_put_3 : decode cX7_put 3 = .ok (.iload_n 2, 1) := by decide +kernel
theorem dX7_put_4 : decode cX7_put 4 = .ok (.ifCond .lt 35, 3) := by decide +kernel
theorem dX7_put_7 : decode cX7_put 7 = .ok (.aload_n 0, 1) := by decide +kernel
theorem dX7_put_8 : decode cX7_put 8 = .ok (.getfield 107, 3) := by decide +kernel
theorem dX7_put_11 : decode cX7_put 11 = .ok (.aload_n 0, 1) := by decide +kernel
theorem dX7_put_12 : decode cX7_put 12 = .ok (.getfield 170, 3) := by decide +kernel
theorem dX7_put_15 : decode cX7_put 15 = .ok (.iload_n 1, 1) := by decide +kernel
theorem dX7_put_16 : decode cX7_put 16 = .ok (.iload_n 2, 1) := by decide +kernel
theorem dX7_put_17 : decode cX7_put 17 = .ok (.ishr, 1) := by decide +kernel
theorem dX7_put_18 : decode cX7_put 18 = .ok (.sipush 255, 3) := by decide +kernel
theorem dX7_put_21 : decode cX7_put 21 = .ok (.iand, 1) := by decide +kernel
theorem dX7_put_22 : decode cX7_put 22 = .ok (.iastore, 1) := by decide +kernel
theorem dX7_put_23 : decode cX7_put 23 = .ok (.aload_n 0, 1) := by decide +kernel
theorem dX7_put_24 : decode cX7_put 24 = .ok (.dup, 1) := by decide +kernel
theorem dX7_put_25 : decode cX7_put 25 = .ok (.getfield 170, 3) := by decide +kernel
theorem dX7_put_28 : decode cX7_put 28 = .ok (.iconst 1, 1) := by decide +kernel
theorem dX7_put_29 : decode cX7_put 29 = .ok (.iadd, 1) := by decide +kernel
theorem dX7_put_30 : decode cX7_put 30 = .ok (.putfield 170, 3) := by decide +kernel
theorem dX7_put_33 : decode cX7_put 33 = .ok (.iinc 2 (-8), 3) := by decide +kernel
theorem dX7_put_36 : decode cX7_put 36 = .ok (.goto (-33), 3) := by decide +kernel
theorem dX7_put_39 : decode cX7_put 39 = .ok (.return_, 1) := by decide +kernel
def rmX7_put : Room := { frames := 0, cells := 0, slots := 0, locals := 0 }
theorem zdX7_put : yX7_put.cls = RX7 ∧ yX7_put.cls ≠ "java/lang/invoke/MethodHandle" ∧ yX7_put.cls ≠ "java/lang/invoke/VarHandle" ∧ (parseMethodDescriptor yX7_put.desc).map (fun d => d.parameters.length) = some 1 := by decide +kernel
theorem kiX7_put_X7 : ∀ w ∈ wsX70, w ∈ wsX7_put := fun _ h => (List.mem_cons_of_mem _ (List.mem_append_right _ h))
theorem kfX7_put_107 : Cond.fieldLink RX7 107 "ShapeJudgeModel" "tape" "[I" ∈ wsX7_put := (List.mem_of_getElem? (i := 1) rfl)
theorem kfX7_put_170 : Cond.fieldLink RX7 170 "ShapeJudgeModel" "taped" "I" ∈ wsX7_put := (List.mem_of_getElem? (i := 2) rfl)
def t_X7_put_3 (a1 : Int32) (i1 : Int32) (m2 : Mem) : Option ((Int32 × Mem) ⊕ (Mem)) :=
  (if i1 < 0 then (some (.inr m2)) else (ck (zin (m2 0 37) 400 = true) (bn (sto m2 33 (Int32.toNatClampNeg (m2 0 37)) ((a1 >>> (i1 &&& 31)) &&& 255)) fun m4 => bn (sto m4 0 37 ((m4 0 37) + 1)) fun m5 => bn (i1 + (-8)) fun x6 => some (.inl (x6, m5)))))
def l_X7_put_3 (a1 : Int32) (n : Nat) (i1 : Int32) (m2 : Mem) : Option (Mem) := zlp n (fun a => t_X7_put_3 a1 a.1 a.2) (i1, m2)
def s_X7_put (m : Mem) (a1 : Int32) : Option (Mem) :=
  ((l_X7_put_3 a1 FU 24 m).bind fun m8 => some m8)
set_option maxRecDepth 100000 in
set_option maxHeartbeats 4000000 in
theorem w_X7_put_3 {K : ZK} (C : zOK MM K cX7_put 3 none RX7 wsX7_put rmX7_put) {a1 : Int32}  {o0 : Mem} (hk : zGo MM K o0 [] 39 []) : ∀ (n : Nat) (i1 : Int32) (m2 : Mem), l_X7_put_3 a1 n i1 m2 = some o0 → zGo MM K m2 [(0, .ref ((zw K).2.1 0)), (1, .int a1), (2, .int i1)] 3 [] := by
  intro n
  induction n with
  | zero =>
    intro i1 m2 hf
    cases hf
  | succ n ih =>
    intro i1 m2 hf
    obtain ⟨z, hf, hz⟩ := zlp_el hf
    replace hf : t_X7_put_3 a1 i1 m2 = some z := hf
    unfold t_X7_put_3 at hf
    refine z_iload_n C 2 dX7_put_3 rfl rfl ?_
    refine z_if_lt (tgt := 39) C dX7_put_4 (by decide) (fun c7 => ?_) (fun c7 => ?_)
    · replace hf := if_t c7 hf
      cases hf
      replace hz := zlz_r hz
      cases hz
      exact z_sub [] rfl hk
    · replace hf := if_f c7 hf
      refine z_aload_n C 0 dX7_put_7 rfl rfl ?_
      refine z_getr C (t := 33) (Nat.le_of_ble_eq_true rfl) rfl rfl 36 (Nat.le_of_ble_eq_true rfl) rfl kiX7_put_X7 kfX7_put_107 dX7_put_8 ?_
      refine z_aload_n C 0 dX7_put_11 rfl rfl ?_
      refine z_geti C (Nat.le_of_ble_eq_true rfl) rfl rfl 37 (Nat.le_of_ble_eq_true rfl) rfl kiX7_put_X7 kfX7_put_170 dX7_put_12 ?_
      refine z_iload_n C 1 dX7_put_15 rfl rfl ?_
      refine z_iload_n C 2 dX7_put_16 rfl rfl ?_
      refine z_ishr C dX7_put_17 ?_
      refine z_sipush C (v := 255) dX7_put_18 rfl ?_
      refine z_iand C dX7_put_21 ?_
      obtain ⟨hi3, hf⟩ := ck_el hf
      refine z_iast C (k := 33) (Nat.le_of_ble_eq_true rfl) rfl hi3 dX7_put_22 ?_
      refine z_nm (fun m4 e_m4 => ?_)
      replace hf := bn_to e_m4 hf
      refine z_aload_n C 0 dX7_put_23 rfl rfl ?_
      refine z_dup_a C dX7_put_24 ?_
      refine z_geti C (Nat.le_of_ble_eq_true rfl) rfl rfl 37 (Nat.le_of_ble_eq_true rfl) rfl kiX7_put_X7 kfX7_put_170 dX7_put_25 ?_
      refine z_iconst C (v := 1) dX7_put_28 rfl ?_
      refine z_iadd C dX7_put_29 ?_
      refine z_puti C (Nat.le_of_ble_eq_true rfl) rfl rfl 37 (Nat.le_of_ble_eq_true rfl) rfl kiX7_put_X7 kfX7_put_170 tyX7 tyX7_ok nmX7 rfl rfl dX7_put_30 ?_
      refine z_nm (fun m5 e_m5 => ?_)
      replace hf := bn_to e_m5 hf
      obtain ⟨x6, e_x6⟩ : ∃ y : Int32, y = i1 + (-8) := ⟨_, rfl⟩
      replace hf := bn_to e_x6 hf
      refine z_iinc C (lv2 := [(0, .ref ((zw K).2.1 0)), (1, .int a1), (2, .int x6)]) 2 [1, 2, 0] dX7_put_33 (by decide) rfl (Nat.le_of_ble_eq_true rfl) e_x6 rfl ?_
      refine z_goto (tgt := 3) C dX7_put_36 (by decide) ?_
      cases hf
      exact z_sub [0, 1, 2] rfl (ih x6 m5 hz)
set_option maxRecDepth 100000 in
set_option maxHeartbeats 4000000 in
theorem c_X7_put (l : Launch) (w : ZW) {m : Mem} {a1 : Int32} {m9 : Mem}  (hf : s_X7_put m a1 = some m9) : zCv MM l w yX7_put wsX7_put rmX7_put [.ref (w.2.1 0), .int a1] m m9 := by
  refine z_met_v MM_ok (own := RX7) (by decide +kernel) rfl rfl (Nat.le_of_ble_eq_true rfl) ?_
  intro K C hKw hKl hret
  subst hKw
  subst hKl
  unfold s_X7_put at hf
  show zGo MM K m [(0, .ref ((zw K).2.1 0)), (1, .int a1)] 0 []
  refine z_bipush C (v := 24) dX7_put_0 rfl ?_
  refine z_istore_n C (lv2 := [(0, .ref ((zw K).2.1 0)), (1, .int a1), (2, .int 24)]) [1, 2, 0] dX7_put_2 rfl (Nat.le_of_ble_eq_true rfl) rfl ?_
  obtain ⟨m8, hg, hf⟩ := zb_el hf
  refine z_sub [0, 1, 2] rfl (w_X7_put_3 C  ?_ _ _ _ hg)
  clear hg
  have e1 := Option.some.inj hf
  subst e1
  exact hret _ _ dX7_put_39
set_option maxRecDepth 20000 in
theorem ggX7_feed_X7_put : GoodIn wsX7_feed wsX7_put := goodIn_sub (List.forall_mem_cons.mpr ⟨(List.mem_of_getElem? (i := 6) rfl), (List.forall_mem_append.mpr ⟨(List.forall_mem_cons.mpr ⟨(List.mem_of_getElem? (i := 7) rfl), (List.forall_mem_cons.mpr ⟨(List.mem_of_getElem? (i := 1) rfl), (fun _ h => absurd h List.not_mem_nil)⟩)⟩), (fun _ h => (List.mem_cons_of_mem _ (List.mem_append_right _ h)))⟩)⟩) (by decide +kernel)
set_option maxRecDepth 20000 in
theorem gX7_feed_X7_put : GoodIn wsX7_feed (wsV RX7 173 RX7 yX7_put wsX7_put) := goodIn_app (goodIn_sub (List.forall_mem_cons.mpr ⟨(List.mem_of_getElem? (i := 2) rfl), (List.forall_mem_cons.mpr ⟨(List.mem_of_getElem? (i := 3) rfl), (List.forall_mem_cons.mpr ⟨(List.mem_of_getElem? (i := 4) rfl), (List.forall_mem_cons.mpr ⟨(List.mem_of_getElem? (i := 5) rfl), (fun _ h => absurd h List.not_mem_nil)⟩)⟩)⟩)⟩) (by decide +kernel)) ggX7_feed_X7_put
theorem dX7_feed_0 : decode cX7_feed 0 = .ok (.aload_n 0, 1) := by decide +kernel
theorem dX7_feed_1 : decode cX7_feed 1 = .ok (.getfield 170, 3) := by decide +kernel
theorem dX7_feed_4 : decode cX7_feed 4 = .ok (.bipush 20, 2) := by decide +kernel
theorem dX7_feed_6 : decode cX7_feed 6 = .ok (.iadd, 1) := by decide +kernel
theorem dX7_feed_7 : decode cX7_feed 7 = .ok (.sipush 400, 3) := by decide +kernel
theorem dX7_feed_10 : decode cX7_feed 10 = .ok (.if_icmp .le 6, 3) := by decide +kernel
theorem dX7_feed_13 : decode cX7_feed 13 = .ok (.bipush (-3), 2) := by decide +kernel
theorem dX7_feed_15 : decode cX7_feed 15 = .ok (.ireturn, 1) := by decide +kernel
theorem dX7_feed_16 : decode cX7_feed 16 = .ok (.aload_n 0, 1) := by decide +kernel
theorem dX7_feed_17 : decode cX7_feed 17 = .ok (.iload_n 1, 1) := by decide +kernel
theorem dX7_feed_18 : decode cX7_feed 18 = .ok (.invokevirtual 173, 3) := by decide +kernel
theorem dX7_feed_21 : decode cX7_feed 21 = .ok (.aload_n 0, 1) := by decide +kernel
theorem dX7_feed_22 : decode cX7_feed 22 = .ok (.iload_n 2, 1) := by decide +kernel
theorem dX7_feed_23 : decode cX7_feed 23 = .ok (.invokevirtual 173, 3) := by decide +kernel
theorem dX7_feed_26 : decode cX7_feed 26 = .ok (.aload_n 0, 1) := by decide +kernel
theorem dX7_feed_27 : decode cX7_feed 27 = .ok (.iload_n 3, 1) := by decide +kernel
theorem dX7_feed_28 : decode cX7_feed 28 = .ok (.invokevirtual 173, 3) := by decide +kernel
theorem dX7_feed_31 : decode cX7_feed 31 = .ok (.aload_n 0, 1) := by decide +kernel
theorem dX7_feed_32 : decode cX7_feed 32 = .ok (.iload 4, 2) := by decide +kernel
theorem dX7_feed_34 : decode cX7_feed 34 = .ok (.invokevirtual 173, 3) := by decide +kernel
theorem dX7_feed_37 : decode cX7_feed 37 = .ok (.aload_n 0, 1) := by decide +kernel
theorem dX7_feed_38 : decode cX7_feed 38 = .ok (.iload 5, 2) := by decide +kernel
theorem dX7_feed_40 : decode cX7_feed 40 = .ok (.invokevirtual 173, 3) := by decide +kernel
theorem dX7_feed_43 : decode cX7_feed 43 = .ok (.aload_n 0, 1) := by decide +kernel
theorem dX7_feed_44 : decode cX7_feed 44 = .ok (.getfield 170, 3) := by decide +kernel
theorem dX7_feed_47 : decode cX7_feed 47 = .ok (.ireturn, 1) := by decide +kernel
def rmX7_feed : Room := { frames := 1, cells := 0, slots := 0, locals := 22 }
theorem zdX7_feed : yX7_feed.cls = RX7 ∧ yX7_feed.cls ≠ "java/lang/invoke/MethodHandle" ∧ yX7_feed.cls ≠ "java/lang/invoke/VarHandle" ∧ (parseMethodDescriptor yX7_feed.desc).map (fun d => d.parameters.length) = some 5 := by decide +kernel
theorem kiX7_feed_X7 : ∀ w ∈ wsX70, w ∈ wsX7_feed := fun _ h => (List.mem_cons_of_mem _ (List.mem_append_right _ h))
theorem kfX7_feed_170 : Cond.fieldLink RX7 170 "ShapeJudgeModel" "taped" "I" ∈ wsX7_feed := (List.mem_of_getElem? (i := 1) rfl)
def s_X7_feed (m : Mem) (a1 : Int32) (a2 : Int32) (a3 : Int32) (a4 : Int32) (a5 : Int32) : Option (Int32 × Mem) :=
  (if ((m 0 37) + 20) ≤ 400 then ((s_X7_put m a1).bind fun m2 => (s_X7_put m2 a2).bind fun m4 => (s_X7_put m4 a3).bind fun m6 => (s_X7_put m6 a4).bind fun m8 => (s_X7_put m8 a5).bind fun m10 => some ((m10 0 37), m10)) else (some ((-3), m)))
set_option maxRecDepth 100000 in
set_option maxHeartbeats 4000000 in
theorem c_X7_feed (l : Launch) (w : ZW) {m : Mem} {a1 : Int32} {a2 : Int32} {a3 : Int32} {a4 : Int32} {a5 : Int32} {r9 : Int32} {m9 : Mem}  (hf : s_X7_feed m a1 a2 a3 a4 a5 = some (r9, m9)) : zCi MM l w yX7_feed wsX7_feed rmX7_feed [.ref (w.2.1 0), .int a1, .int a2, .int a3, .int a4, .int a5] m m9 r9 := by
  refine z_met_i MM_ok (own := RX7) (by decide +kernel) rfl rfl (Nat.le_of_ble_eq_true rfl) ?_
  intro K C hKw hKl hret
  subst hKw
  subst hKl
  unfold s_X7_feed at hf
  show zGo MM K m [(0, .ref ((zw K).2.1 0)), (1, .int a1), (2, .int a2), (3, .int a3), (4, .int a4), (5, .int a5)] 0 []
  refine z_aload_n C 0 dX7_feed_0 rfl rfl ?_
  refine z_geti C (Nat.le_of_ble_eq_true rfl) rfl rfl 37 (Nat.le_of_ble_eq_true rfl) rfl kiX7_feed_X7 kfX7_feed_170 dX7_feed_1 ?_
  refine z_bipush C (v := 20) dX7_feed_4 rfl ?_
  refine z_iadd C dX7_feed_6 ?_
  refine z_sipush C (v := 400) dX7_feed_7 rfl ?_
  refine z_icmp_le (tgt := 16) C dX7_feed_10 (by decide) (fun c11 => ?_) (fun c11 => ?_)
  · replace hf := if_t c11 hf
    refine z_aload_n C 0 dX7_feed_16 rfl rfl ?_
    refine z_iload_n C 1 dX7_feed_17 rfl rfl ?_
    obtain ⟨m2, hc1, hf⟩ := zb_el hf
    refine z_cVv C (c_X7_put _ _ hc1) rfl gX7_feed_X7_put rfl rfl zdX7_put rfl (Nat.le_of_ble_eq_true rfl) rfl rfl rfl ⟨Nat.le_of_ble_eq_true rfl, Nat.le_of_ble_eq_true rfl⟩ (Nat.le_of_ble_eq_true rfl) dX7_feed_18 rfl ?_
    refine z_aload_n C 0 dX7_feed_21 rfl rfl ?_
    refine z_iload_n C 2 dX7_feed_22 rfl rfl ?_
    obtain ⟨m4, hc3, hf⟩ := zb_el hf
    refine z_cVv C (c_X7_put _ _ hc3) rfl gX7_feed_X7_put rfl rfl zdX7_put rfl (Nat.le_of_ble_eq_true rfl) rfl rfl rfl ⟨Nat.le_of_ble_eq_true rfl, Nat.le_of_ble_eq_true rfl⟩ (Nat.le_of_ble_eq_true rfl) dX7_feed_23 rfl ?_
    refine z_aload_n C 0 dX7_feed_26 rfl rfl ?_
    refine z_iload_n C 3 dX7_feed_27 rfl rfl ?_
    obtain ⟨m6, hc5, hf⟩ := zb_el hf
    refine z_cVv C (c_X7_put _ _ hc5) rfl gX7_feed_X7_put rfl rfl zdX7_put rfl (Nat.le_of_ble_eq_true rfl) rfl rfl rfl ⟨Nat.le_of_ble_eq_true rfl, Nat.le_of_ble_eq_true rfl⟩ (Nat.le_of_ble_eq_true rfl) dX7_feed_28 rfl ?_
    refine z_aload_n C 0 dX7_feed_31 rfl rfl ?_
    refine z_iload C 4 dX7_feed_32 rfl ?_
    obtain ⟨m8, hc7, hf⟩ := zb_el hf
    refine z_cVv C (c_X7_put _ _ hc7) rfl gX7_feed_X7_put rfl rfl zdX7_put rfl (Nat.le_of_ble_eq_true rfl) rfl rfl rfl ⟨Nat.le_of_ble_eq_true rfl, Nat.le_of_ble_eq_true rfl⟩ (Nat.le_of_ble_eq_true rfl) dX7_feed_34 rfl ?_
    refine z_aload_n C 0 dX7_feed_37 rfl rfl ?_
    refine z_iload C 5 dX7_feed_38 rfl ?_
    obtain ⟨m10, hc9, hf⟩ := zb_el hf
    refine z_cVv C (c_X7_put _ _ hc9) rfl gX7_feed_X7_put rfl rfl zdX7_put rfl (Nat.le_of_ble_eq_true rfl) rfl rfl rfl ⟨Nat.le_of_ble_eq_true rfl, Nat.le_of_ble_eq_true rfl⟩ (Nat.le_of_ble_eq_true rfl) dX7_feed_40 rfl ?_
    refine z_aload_n C 0 dX7_feed_43 rfl rfl ?_
    refine z_geti C (Nat.le_of_ble_eq_true rfl) rfl rfl 37 (Nat.le_of_ble_eq_true rfl) rfl kiX7_feed_X7 kfX7_feed_170 dX7_feed_44 ?_
    obtain ⟨e1, e2⟩ := sp_el hf
    subst e1
    subst e2
    exact hret _ _ dX7_feed_47
  · replace hf := if_f c11 hf
    refine z_bipush C (v := (-3)) dX7_feed_13 (by decide) ?_
    obtain ⟨e1, e2⟩ := sp_el hf
    subst e1
    subst e2
    exact hret _ _ dX7_feed_15
set_option maxRecDepth 20000 in
theorem ggX7_fits_X7_areBoth : GoodIn wsX7_fits wsX7_areBoth := goodIn_sub (List.forall_mem_cons.mpr ⟨(List.mem_of_getElem? (i := 6) rfl), (List.forall_mem_append.mpr ⟨(List.forall_mem_cons.mpr ⟨(List.mem_of_getElem? (i := 7) rfl), (List.forall_mem_cons.mpr ⟨(List.mem_of_getElem? (i := 8) rfl), (List.forall_mem_cons.mpr ⟨(List.mem_of_getElem? (i := 9) rfl), (List.forall_mem_cons.mpr ⟨(List.mem_of_getElem? (i := 5) rfl), (List.forall_mem_cons.mpr ⟨(List.mem_of_getElem? (i := 10) rfl), (List.forall_mem_cons.mpr ⟨(List.mem_of_getElem? (i := 11) rfl), (List.forall_mem_cons.mpr ⟨(List.mem_of_getElem? (i := 12) rfl), (List.forall_mem_cons.mpr ⟨(List.mem_of_getElem? (i := 13) rfl), (List.forall_mem_cons.mpr ⟨(List.mem_of_getElem? (i := 14) rfl), (List.forall_mem_cons.mpr ⟨(List.mem_of_getElem? (i := 15) rfl), (List.forall_mem_cons.mpr ⟨(List.mem_of_getElem? (i := 16) rfl), (List.forall_mem_cons.mpr ⟨(List.mem_of_getElem? (i := 17) rfl), (List.forall_mem_cons.mpr ⟨(List.mem_of_getElem? (i := 18) rfl), (List.forall_mem_cons.mpr ⟨(List.mem_of_getElem? (i := 19) rfl), (fun _ h => absurd h List.not_mem_nil)⟩)⟩)⟩)⟩)⟩)⟩)⟩)⟩)⟩)⟩)⟩)⟩)⟩)⟩), (fun _ h => (List.mem_cons_of_mem _ (List.mem_append_right _ h)))⟩)⟩) (by decide +kernel)
set_option maxRecDepth 20000 in
theorem gX7_fits_X7_areBoth : GoodIn wsX7_fits (wsV RX7 312 RX7 yX7_areBoth wsX7_areBoth) := goodIn_app (goodIn_sub (List.forall_mem_cons.mpr ⟨(List.mem_of_getElem? (i := 2) rfl), (List.forall_mem_cons.mpr ⟨(List.mem_of_getElem? (i := 3) rfl), (List.forall_mem_cons.mpr ⟨(List.mem_of_getElem? (i := 4) rfl), (List.forall_mem_cons.mpr ⟨(List.mem_of_getElem? (i := 5) rfl), (fun _ h => absurd h List.not_mem_nil)⟩)⟩)⟩)⟩) (by decide +kernel)) ggX7_fits_X7_areBoth
set_option maxRecDepth 20000 in
theorem ggX7_fits_X7_read : GoodIn wsX7_fits wsX7_read := goodIn_sub (List.forall_mem_cons.mpr ⟨(List.mem_of_getElem? (i := 23) rfl), (List.forall_mem_append.mpr ⟨(List.forall_mem_append.mpr ⟨(show ∀ w ∈ wsX7_read_r1, w ∈ wsX7_fits from (List.forall_mem_cons.mpr ⟨(List.mem_of_getElem? (i := 24) rfl), (List.forall_mem_cons.mpr ⟨(List.mem_of_getElem? (i := 1) rfl), (List.forall_mem_cons.mpr ⟨(List.mem_of_getElem? (i := 25) rfl), (List.forall_mem_cons.mpr ⟨(List.mem_of_getElem? (i := 26) rfl), (List.forall_mem_cons.mpr ⟨(List.mem_of_getElem? (i := 27) rfl), (List.forall_mem_cons.mpr ⟨(List.mem_of_getElem? (i := 28) rfl), (List.forall_mem_cons.mpr ⟨(List.mem_of_getElem? (i := 5) rfl), (List.forall_mem_cons.mpr ⟨(List.mem_of_getElem? (i := 29) rfl), (List.forall_mem_cons.mpr ⟨(List.mem_of_getElem? (i := 30) rfl), (List.forall_mem_cons.mpr ⟨(List.mem_of_getElem? (i := 31) rfl), (List.forall_mem_cons.mpr ⟨(List.mem_of_getElem? (i := 32) rfl), (List.forall_mem_cons.mpr ⟨(List.mem_of_getElem? (i := 33) rfl), (List.forall_mem_cons.mpr ⟨(List.mem_of_getElem? (i := 34) rfl), (List.forall_mem_cons.mpr ⟨(List.mem_of_getElem? (i := 19) rfl), (List.forall_mem_cons.mpr ⟨(List.mem_of_getElem? (i := 35) rfl), (List.forall_mem_cons.mpr ⟨(List.mem_of_getElem? (i := 36) rfl), (List.forall_mem_cons.mpr ⟨(List.mem_of_getElem? (i := 37) rfl), (List.forall_mem_cons.mpr ⟨(List.mem_of_getElem? (i := 38) rfl), (List.forall_mem_cons.mpr ⟨(List.mem_of_getElem? (i := 39) rfl), (List.forall_mem_cons.mpr ⟨(List.mem_of_getElem? (i := 40) rfl), (List.forall_mem_cons.mpr ⟨(List.mem_of_getElem? (i := 41) rfl), (List.forall_mem_cons.mpr ⟨(List.mem_of_getElem? (i := 42) rfl), (List.forall_mem_cons.mpr ⟨(List.mem_of_getElem? (i := 11) rfl), (List.forall_mem_cons.mpr ⟨(List.mem_of_getElem? (i := 43) rfl), (fun _ h => absurd h List.not_mem_nil)⟩)⟩)⟩)⟩)⟩)⟩)⟩)⟩)⟩)⟩)⟩)⟩)⟩)⟩)⟩)⟩)⟩)⟩)⟩)⟩)⟩)⟩)⟩)⟩)), (List.forall_mem_append.mpr ⟨(show ∀ w ∈ wsX7_read_r2, w ∈ wsX7_fits from (List.forall_mem_cons.mpr ⟨(List.mem_of_getElem? (i := 44) rfl), (List.forall_mem_cons.mpr ⟨(List.mem_of_getElem? (i := 45) rfl), (List.forall_mem_cons.mpr ⟨(List.mem_of_getElem? (i := 46) rfl), (List.forall_mem_cons.mpr ⟨(List.mem_of_getElem? (i := 47) rfl), (List.forall_mem_cons.mpr ⟨(List.mem_of_getElem? (i := 48) rfl), (List.forall_mem_cons.mpr ⟨(List.mem_of_getElem? (i := 49) rfl), (List.forall_mem_cons.mpr ⟨(List.mem_of_getElem? (i := 50) rfl), (List.forall_mem_cons.mpr ⟨(List.mem_of_getElem? (i := 51) rfl), (List.forall_mem_cons.mpr ⟨(List.mem_of_getElem? (i := 52) rfl), (List.forall_mem_cons.mpr ⟨(List.mem_of_getElem? (i := 53) rfl), (List.forall_mem_cons.mpr ⟨(List.mem_of_getElem? (i := 54) rfl), (List.forall_mem_cons.mpr ⟨(List.mem_of_getElem? (i := 55) rfl), (List.forall_mem_cons.mpr ⟨(List.mem_of_getElem? (i := 56) rfl), (List.forall_mem_cons.mpr ⟨(List.mem_of_getElem? (i := 57) rfl), (List.forall_mem_cons.mpr ⟨(List.mem_of_getElem? (i := 58) rfl), (List.forall_mem_cons.mpr ⟨(List.mem_of_getElem? (i := 59) rfl), (List.forall_mem_cons.mpr ⟨(List.mem_of_getElem? (i := 60) rfl), (List.forall_mem_cons.mpr ⟨(List.mem_of_getElem? (i := 61) rfl), (List.forall_mem_cons.mpr ⟨(List.mem_of_getElem? (i := 62) rfl), (List.forall_mem_cons.mpr ⟨(List.mem_of_getElem? (i := 63) rfl), (List.forall_mem_cons.mpr ⟨(List.mem_of_getElem? (i := 64) rfl), (List.forall_mem_cons.mpr ⟨(List.mem_of_getElem? (i := 65) rfl), (List.forall_mem_cons.mpr ⟨(List.mem_of_getElem? (i := 66) rfl), (List.forall_mem_cons.mpr ⟨(List.mem_of_getElem? (i := 67) rfl), (fun _ h => absurd h List.not_mem_nil)⟩)⟩)⟩)⟩)⟩)⟩)⟩)⟩)⟩)⟩)⟩)⟩)⟩)⟩)⟩)⟩)⟩)⟩)⟩)⟩)⟩)⟩)⟩)⟩)), (show ∀ w ∈ wsX7_read_r3, w ∈ wsX7_fits from (List.forall_mem_cons.mpr ⟨(List.mem_of_getElem? (i := 68) rfl), (List.forall_mem_cons.mpr ⟨(List.mem_of_getElem? (i := 69) rfl), (List.forall_mem_cons.mpr ⟨(List.mem_of_getElem? (i := 70) rfl), (List.forall_mem_cons.mpr ⟨(List.mem_of_getElem? (i := 71) rfl), (List.forall_mem_cons.mpr ⟨(List.mem_of_getElem? (i := 72) rfl), (List.forall_mem_cons.mpr ⟨(List.mem_of_getElem? (i := 73) rfl), (List.forall_mem_cons.mpr ⟨(List.mem_of_getElem? (i := 74) rfl), (List.forall_mem_cons.mpr ⟨(List.mem_of_getElem? (i := 75) rfl), (List.forall_mem_cons.mpr ⟨(List.mem_of_getElem? (i := 76) rfl), (List.forall_mem_cons.mpr ⟨(List.mem_of_getElem? (i := 77) rfl), (List.forall_mem_cons.mpr ⟨(List.mem_of_getElem? (i := 12) rfl), (List.forall_mem_cons.mpr ⟨(List.mem_of_getElem? (i := 13) rfl), (List.forall_mem_cons.mpr ⟨(List.mem_of_getElem? (i := 14) rfl), (List.forall_mem_cons.mpr ⟨(List.mem_of_getElem? (i := 78) rfl), (List.forall_mem_cons.mpr ⟨(List.mem_of_getElem? (i := 79) rfl), (List.forall_mem_cons.mpr ⟨(List.mem_of_getElem? (i := 80) rfl), (List.forall_mem_cons.mpr ⟨(List.mem_of_getElem? (i := 81) rfl), (List.forall_mem_cons.mpr ⟨(List.mem_of_getElem? (i := 82) rfl), (List.forall_mem_cons.mpr ⟨(List.mem_of_getElem? (i := 83) rfl), (List.forall_mem_cons.mpr ⟨(List.mem_of_getElem? (i := 84) rfl), (fun _ h => absurd h List.not_mem_nil)⟩)⟩)⟩)⟩)⟩)⟩)⟩)⟩)⟩)⟩)⟩)⟩)⟩)⟩)⟩)⟩)⟩)⟩)⟩)⟩))⟩)⟩), (fun _ h => (List.mem_cons_of_mem _ (List.mem_append_right _ h)))⟩)⟩) (by decide +kernel)
set_option maxRecDepth 20000 in
theorem gX7_fits_X7_read : GoodIn wsX7_fits (wsV RX7 315 RX7 yX7_read wsX7_read) := goodIn_app (goodIn_sub (List.forall_mem_cons.mpr ⟨(List.mem_of_getElem? (i := 20) rfl), (List.forall_mem_cons.mpr ⟨(List.mem_of_getElem? (i := 21) rfl), (List.forall_mem_cons.mpr ⟨(List.mem_of_getElem? (i := 22) rfl), (List.forall_mem_cons.mpr ⟨(List.mem_of_getElem? (i := 5) rfl), (fun _ h => absurd h List.not_mem_nil)⟩)⟩)⟩)⟩) (by decide +kernel)) ggX7_fits_X7_read
theorem dX7_fits_0 : decode cX7_fits 0 = .ok (.aload_n 0, 1) := by decide +kernel
theorem dX7_fits_1 : decode cX7_fits 1 = .ok (.iload_n 1, 1) := by decide +kernel
theorem dX7_fits_2 : decode cX7_fits 2 = .ok (.iload_n 2, 1) := by decide +kernel
theorem dX7_fits_3 : decode cX7_fits 3 = .ok (.invokevirtual 312, 3) := by decide +kernel
theorem dX7_fits_6 : decode cX7_fits 6 = .ok (.ifCond .ne 5, 3) := by decide +kernel
theorem dX7_fits_9 : decode cX7_fits 9 = .ok (.iconst (-1), 1) := by decide +kernel
theorem dX7_fits_10 : decode cX7_fits 10 = .ok (.ireturn, 1) := by decide +kernel
theorem dX7_fits_11 : decode cX7_fits 11 = .ok (.aload_n 0, 1) := by decide +kernel
theorem dX7_fits_12 : decode cX7_fits 12 = .ok (.invokevirtual 315, 3) := by decide +kernel
theorem dX7_fits_15 : decode cX7_fits 15 = .ok (.aload_n 0, 1) := by decide +kernel
theorem dX7_fits_16 : decode cX7_fits 16 = .ok (.getfield 119, 3) := by decide +kernel
theorem dX7_fits_19 : decode cX7_fits 19 = .ok (.bipush 10, 2) := by decide +kernel
theorem dX7_fits_21 : decode cX7_fits 21 = .ok (.iload_n 2, 1) := by decide +kernel
theorem dX7_fits_22 : decode cX7_fits 22 = .ok (.imul, 1) := by decide +kernel
theorem dX7_fits_23 : decode cX7_fits 23 = .ok (.iload_n 1, 1) := by decide +kernel
theorem dX7_fits_24 : decode cX7_fits 24 = .ok (.iadd, 1) := by decide +kernel
theorem dX7_fits_25 : decode cX7_fits 25 = .ok (.baload, 1) := by decide +kernel
theorem dX7_fits_26 : decode cX7_fits 26 = .ok (.ifCond .eq 7, 3) := by decide +kernel
theorem dX7_fits_29 : decode cX7_fits 29 = .ok (.iconst 1, 1) := by decide +kernel
theorem dX7_fits_30 : decode cX7_fits 30 = .ok (.goto 4, 3) := by decide +kernel
theorem dX7_fits_33 : decode cX7_fits 33 = .ok (.iconst 0, 1) := by decide +kernel
theorem dX7_fits_34 : decode cX7_fits 34 = .ok (.ireturn, 1) := by decide +kernel
def rmX7_fits : Room := { frames := 6, cells := 0, slots := 0, locals := 153 }
theorem zdX7_fits : yX7_fits.cls = RX7 ∧ yX7_fits.cls ≠ "java/lang/invoke/MethodHandle" ∧ yX7_fits.cls ≠ "java/lang/invoke/VarHandle" ∧ (parseMethodDescriptor yX7_fits.desc).map (fun d => d.parameters.length) = some 2 := by decide +kernel
theorem kiX7_fits_X7 : ∀ w ∈ wsX70, w ∈ wsX7_fits := fun _ h => (List.mem_cons_of_mem _ (List.mem_append_right _ h))
theorem kfX7_fits_119 : Cond.fieldLink RX7 119 "ShapeJudgeModel" "fitting" "[Z" ∈ wsX7_fits := (List.mem_of_getElem? (i := 1) rfl)
def s_X7_fits (m : Mem) (a1 : Int32) (a2 : Int32) : Option (Int32 × Mem) :=
  (s_X7_areBoth m a1 a2).bind fun r2 => (if r2 = 0 then (some ((-1), m)) else ((s_X7_read m).bind fun m4 => ck (zin (((10 : Int32) * a2) + a1) 60 = true) ((if (m4 37 (Int32.toNatClampNeg (((10 : Int32) * a2) + a1))) = 0 then (some (0, m4)) else (some (1, m4))))))
set_option maxRecDepth 100000 in
set_option maxHeartbeats 4000000 in
theorem c_X7_fits (l : Launch) (w : ZW) {m : Mem} {a1 : Int32} {a2 : Int32} {r9 : Int32} {m9 : Mem}  (hf : s_X7_fits m a1 a2 = some (r9, m9)) : zCi MM l w yX7_fits wsX7_fits rmX7_fits [.ref (w.2.1 0), .int a1, .int a2] m m9 r9 := by
  refine z_met_i MM_ok (own := RX7) (by decide +kernel) rfl rfl (Nat.le_of_ble_eq_true rfl) ?_
  intro K C hKw hKl hret
  subst hKw
  subst hKl
  unfold s_X7_fits at hf
  show zGo MM K m [(0, .ref ((zw K).2.1 0)), (1, .int a1), (2, .int a2)] 0 []
  refine z_aload_n C 0 dX7_fits_0 rfl rfl ?_
  refine z_iload_n C 1 dX7_fits_1 rfl rfl ?_
  refine z_iload_n C 2 dX7_fits_2 rfl rfl ?_
  obtain ⟨r2, hc1, hf⟩ := zb_el hf
  refine z_cVi C (c_X7_areBoth _ _ hc1) rfl gX7_fits_X7_areBoth rfl rfl zdX7_areBoth rfl (Nat.le_of_ble_eq_true rfl) rfl rfl rfl ⟨Nat.le_of_ble_eq_true rfl, Nat.le_of_ble_eq_true rfl⟩ (Nat.le_of_ble_eq_true rfl) dX7_fits_3 rfl ?_
  refine z_if_ne (tgt := 11) C dX7_fits_6 (by decide) (fun c7 => ?_) (fun c7 => ?_)
  · replace hf := if_f c7 hf
    refine z_aload_n C 0 dX7_fits_11 rfl rfl ?_
    obtain ⟨m4, hc3, hf⟩ := zb_el hf
    refine z_cVv C (c_X7_read _ _ hc3) rfl gX7_fits_X7_read rfl rfl zdX7_read rfl (Nat.le_of_ble_eq_true rfl) rfl rfl rfl ⟨Nat.le_of_ble_eq_true rfl, Nat.le_of_ble_eq_true rfl⟩ (Nat.le_of_ble_eq_true rfl) dX7_fits_12 rfl ?_
    refine z_aload_n C 0 dX7_fits_15 rfl rfl ?_
    refine z_getr C (t := 37) (Nat.le_of_ble_eq_true rfl) rfl rfl 48 (Nat.le_of_ble_eq_true rfl) rfl kiX7_fits_X7 kfX7_fits_119 dX7_fits_16 ?_
    refine z_bipush C (v := 10) dX7_fits_19 rfl ?_
    refine z_iload_n C 2 dX7_fits_21 rfl rfl ?_
    refine z_imul C dX7_fits_22 ?_
    refine z_iload_n C 1 dX7_fits_23 rfl rfl ?_
    refine z_iadd C dX7_fits_24 ?_
    obtain ⟨hi5, hf⟩ := ck_el hf
    refine z_zald C (k := 37) (Nat.le_of_ble_eq_true rfl) rfl hi5 dX7_fits_25 ?_
    refine z_if_eq (tgt := 33) C dX7_fits_26 (by decide) (fun c6 => ?_) (fun c6 => ?_)
    · replace hf := if_t c6 hf
      refine z_iconst C (v := 0) dX7_fits_33 rfl ?_
      obtain ⟨e1, e2⟩ := sp_el hf
      subst e1
      subst e2
      exact hret _ _ dX7_fits_34
    · replace hf := if_f c6 hf
      refine z_iconst C (v := 1) dX7_fits_29 rfl ?_
      refine z_goto (tgt := 34) C dX7_fits_30 (by decide) ?_
      obtain ⟨e1, e2⟩ := sp_el hf
      subst e1
      subst e2
      exact hret _ _ dX7_fits_34
  · replace hf := if_t c7 hf
    refine z_iconst C (v := (-1)) dX7_fits_9 (by decide) ?_
    obtain ⟨e1, e2⟩ := sp_el hf
    subst e1
    subst e2
    exact hret _ _ dX7_fits_10
set_option maxRecDepth 20000 in
theorem ggX7_from_X7_isNode : GoodIn wsX7_from wsX7_isNode := goodIn_sub (List.forall_mem_cons.mpr ⟨(List.mem_of_getElem? (i := 8) rfl), (List.forall_mem_append.mpr ⟨(List.forall_mem_cons.mpr ⟨(List.mem_of_getElem? (i := 9) rfl), (List.forall_mem_cons.mpr ⟨(List.mem_of_getElem? (i := 10) rfl), (List.forall_mem_cons.mpr ⟨(List.mem_of_getElem? (i := 11) rfl), (List.forall_mem_cons.mpr ⟨(List.mem_of_getElem? (i := 7) rfl), (List.forall_mem_cons.mpr ⟨(List.mem_of_getElem? (i := 12) rfl), (fun _ h => absurd h List.not_mem_nil)⟩)⟩)⟩)⟩)⟩), (fun _ h => (List.mem_cons_of_mem _ (List.mem_append_right _ h)))⟩)⟩) (by decide +kernel)
set_option maxRecDepth 20000 in
theorem gX7_from_X7_isNode : GoodIn wsX7_from (wsV RX7 152 RX7 yX7_isNode wsX7_isNode) := goodIn_app (goodIn_sub (List.forall_mem_cons.mpr ⟨(List.mem_of_getElem? (i := 4) rfl), (List.forall_mem_cons.mpr ⟨(List.mem_of_getElem? (i := 5) rfl), (List.forall_mem_cons.mpr ⟨(List.mem_of_getElem? (i := 6) rfl), (List.forall_mem_cons.mpr ⟨(List.mem_of_getElem? (i := 7) rfl), (fun _ h => absurd h List.not_mem_nil)⟩)⟩)⟩)⟩) (by decide +kernel)) ggX7_from_X7_isNode
set_option maxRecDepth 20000 in
theorem ggX7_from_X7_in : GoodIn wsX7_from wsX7_in := goodIn_sub (List.forall_mem_cons.mpr ⟨(List.mem_of_getElem? (i := 12) rfl), (fun _ h => absurd h List.not_mem_nil)⟩) (by decide +kernel)
set_option maxRecDepth 20000 in
theorem gX7_from_X7_in : GoodIn wsX7_from (va_wsS RX7 144 yX7_in wsX7_in) := goodIn_app (goodIn_sub (List.forall_mem_cons.mpr ⟨(List.mem_of_getElem? (i := 10) rfl), (List.forall_mem_cons.mpr ⟨(List.mem_of_getElem? (i := 11) rfl), (List.forall_mem_cons.mpr ⟨(List.mem_of_getElem? (i := 7) rfl), (fun _ h => absurd h List.not_mem_nil)⟩)⟩)⟩) (by decide +kernel)) ggX7_from_X7_in
set_option maxRecDepth 100000 in
theorem daX7_from : ∀ q ∈ ([(0, .aload_n 0, 1), (1, .iload_n 1, 1), (2, .invokevirtual 152, 3), (5, .ifCond .eq 31, 3), (8, .iload_n 2, 1), (9, .i2l, 1), (10, .lconst 0, 1), (11, .aload_n 0, 1), (12, .getfield 17, 3), (15, .iload_n 1, 1), (16, .iaload, 1), (17, .iconst 1, 1), (18, .isub, 1), (19, .i2l, 1), (20, .invokestatic 144, 3), (23, .ifCond .eq 13, 3), (26, .iload_n 3, 1), (27, .i2l, 1), (28, .lconst 0, 1), (29, .lconst 1, 1), (30, .invokestatic 144, 3), (33, .ifCond .ne 5, 3), (36, .iconst (-1), 1), (37, .ireturn, 1), (38, .iload_n 3, 1), (39, .ifCond .ne 16, 3), (42, .aload_n 0, 1), (43, .getfield 20, 3), (46, .iconst 5, 1), (47, .iload_n 1, 1), (48, .imul, 1), (49, .iload_n 2, 1), (50, .iadd, 1), (51, .iaload, 1), (52, .goto 13, 3), (55, .aload_n 0, 1), (56, .getfield 23, 3), (59, .iconst 5, 1), (60, .iload_n 1, 1), (61, .imul, 1), (62, .iload_n 2, 1), (63, .iadd, 1), (64, .iaload, 1), (65, .ireturn, 1)] : List (Nat × Instr × Nat)), decode cX7_from q.1 = .ok q.2 := by decide +kernel
theorem dX7_from_0 : decode cX7_from 0 = .ok (.aload_n 0, 1) := daX7_from (0, .aload_n 0, 1) (List.mem_of_getElem? (i := 0) rfl)
theorem dX7_from_1 : decode cX7_from 1 = .ok (.iload_n 1, 1) := daX7_from (1, .iload_n 1, 1) (List.mem_of_getElem? (i := 1) rfl)
theorem dX7_from_2 : decode cX7_from 2 = .ok (.invokevirtual 152, 3) := daX7_from (2, .invokevirtual 152, 3) (List.mem_of_getElem? (i := 2) rfl)
theorem dX7_from_5 : decode cX7_from 5 = .ok (.ifCond .eq 31, 3) := daX7_from (5, .ifCond .eq 31, 3) (List.mem_of_getElem? (i := 3) rfl)
theorem dX7_from_8 : decode cX7_from 8 = .ok (.iload_n 2, 1) := daX7_from (8, .iload_n 2, 1) (List.mem_of_getElem? (i := 4) rfl)
theorem dX7_from_9 : decode cX7_from 9 = .ok (.i2l, 1) := daX7_from (9, .i2l, 1) (List.mem_of_getElem? (i := 5) rfl)
theorem dX7_from_10 : decode cX7_from 10 = .ok (.lconst 0, 1) := daX7_from (10, .lconst 0, 1) (List.mem_of_getElem? (i := 6) rfl)
theorem dX7_from_11 : decode cX7_from 11 = .ok (.aload_n 0, 1) := daX7_from (11, .aload_n 0, 1) (List.mem_of_getElem? (i := 7) rfl)
theorem dX7_from_12 : decode cX7_from 12 = .ok (.getfield 17, 3) := daX7_from (12, .getfield 17, 3) (List.mem_of_getElem? (i := 8) rfl)
theorem dX7_from_15 : decode cX7_from 15 = .ok (.iload_n 1, 1) := daX7_from (15, .iload_n 1, 1) (List.mem_of_getElem? (i := 9) rfl)
theorem dX7_from_16 : decode cX7_from 16 = .ok (.iaload, 1) := daX7_from (16, .iaload, 1) (List.mem_of_getElem? (i := 10) rfl)
theorem dX7_from_17 : decode cX7_from 17 = .ok (.iconst 1, 1) := daX7_from (17, .iconst 1, 1) (List.mem_of_getElem? (i := 11) rfl)
theorem dX7_from_18 : decode cX7_from 18 = .ok (.isub, 1) := daX7_from (18, .isub, 1) (List.mem_of_getElem? (i := 12) rfl)
theorem dX7_from_19 : decode cX7_from 19 = .ok (.i2l, 1) := daX7_from (19, .i2l, 1) (List.mem_of_getElem? (i := 13) rfl)
theorem dX7_from_20 : decode cX7_from 20 = .ok (.invokestatic 144, 3) := daX7_from (20, .invokestatic 144, 3) (List.mem_of_getElem? (i := 14) rfl)
theorem dX7_from_23 : decode cX7_from 23 = .ok (.ifCond .eq 13, 3) := daX7_from (23, .ifCond .eq 13, 3) (List.mem_of_getElem? (i := 15) rfl)
theorem dX7_from_26 : decode cX7_from 26 = .ok (.iload_n 3, 1) := daX7_from (26, .iload_n 3, 1) (List.mem_of_getElem? (i := 16) rfl)
theorem dX7_from_27 : decode cX7_from 27 = .ok (.i2l, 1) := daX7_from (27, .i2l, 1) (List.mem_of_getElem? (i := 17) rfl)
theorem dX7_from_28 : decode cX7_from 28 = .ok (.lconst 0, 1) := daX7_from (28, .lconst 0, 1) (List.mem_of_getElem? (i := 18) rfl)
theorem dX7_from_29 : decode cX7_from 29 = .ok (.lconst 1, 1) := daX7_from (29, .lconst 1, 1) (List.mem_of_getElem? (i := 19) rfl)
theorem dX7_from_30 : decode cX7_from 30 = .ok (.invokestatic 144, 3) := daX7_from (30, .invokestatic 144, 3) (List.mem_of_getElem? (i := 20) rfl)
theorem dX7_from_33 : decode cX7_from 33 = .ok (.ifCond .ne 5, 3) := daX7_from (33, .ifCond .ne 5, 3) (List.mem_of_getElem? (i := 21) rfl)
theorem dX7_from_36 : decode cX7_from 36 = .ok (.iconst (-1), 1) := daX7_from (36, .iconst (-1), 1) (List.mem_of_getElem? (i := 22) rfl)
theorem dX7_from_37 : decode cX7_from 37 = .ok (.ireturn, 1) := daX7_from (37, .ireturn, 1) (List.mem_of_getElem? (i := 23) rfl)
theorem dX7_from_38 : decode cX7_from 38 = .ok (.iload_n 3, 1) := daX7_from (38, .iload_n 3, 1) (List.mem_of_getElem? (i := 24) rfl)
theorem dX7_from_39 : decode cX7_from 39 = .ok (.ifCond .ne 16, 3) := daX7_from (39, .ifCond .ne 16, 3) (List.mem_of_getElem? (i := 25) rfl)
theorem dX7_from_42 : decode cX7_from 42 = .ok (.aload_n 0, 1) := daX7_from (42, .aload_n 0, 1) (List.mem_of_getElem? (i := 26) rfl)
theorem dX7_from_43 : decode cX7_from 43 = .ok (.getfield 20, 3) := daX7_from (43, .getfield 20, 3) (List.mem_of_getElem? (i := 27) rfl)
theorem dX7_from_46 : decode cX7_from 46 = .ok (.iconst 5, 1) := daX7_from (46, .iconst 5, 1) (List.mem_of_getElem? (i := 28) rfl)
theorem dX7_from_47 : decode cX7_from 47 = .ok (.iload_n 1, 1) := daX7_from (47, .iload_n 1, 1) (List.mem_of_getElem? (i := 29) rfl)
theorem dX7_from_48 : decode cX7_from 48 = .ok (.imul, 1) := daX7_from (48, .imul, 1) (List.mem_of_getElem? (i := 30) rfl)
theorem dX7_from_49 : decode cX7_from 49 = .ok (.iload_n 2, 1) := daX7_from (49, .iload_n 2, 1) (List.mem_of_getElem? (i := 31) rfl)
theorem dX7_from_50 : decode cX7_from 50 = .ok (.iadd, 1) := daX7_from (50, .iadd, 1) (List.mem_of_getElem? (i := 32) rfl)
theorem dX7_from_51 : decode cX7_from 51 = .ok (.iaload, 1) := daX7_from (51, .iaload, 1) (List.mem_of_getElem? (i := 33) rfl)
theorem dX7_from_52 : decode cX7_from 52 = .ok (.goto 13, 3) := daX7_from (52, .goto 13, 3) (List.mem_of_getElem? (i := 34) rfl)
theorem dX7_from_55 : decode cX7_from 55 = .ok (.aload_n 0, 1) := daX7_from (55, .aload_n 0, 1) (List.mem_of_getElem? (i := 35) rfl)
theorem dX7_from_56 : decode cX7_from 56 = .ok (.getfield 23, 3) := daX7_from (56, .getfield 23, 3) (List.mem_of_getElem? (i := 36) rfl)
theorem dX7_from_59 : decode cX7_from 59 = .ok (.iconst 5, 1) := daX7_from (59, .iconst 5, 1) (List.mem_of_getElem? (i := 37) rfl)
theorem dX7_from_60 : decode cX7_from 60 = .ok (.iload_n 1, 1) := daX7_from (60, .iload_n 1, 1) (List.mem_of_getElem? (i := 38) rfl)
theorem dX7_from_61 : decode cX7_from 61 = .ok (.imul, 1) := daX7_from (61, .imul, 1) (List.mem_of_getElem? (i := 39) rfl)
theorem dX7_from_62 : decode cX7_from 62 = .ok (.iload_n 2, 1) := daX7_from (62, .iload_n 2, 1) (List.mem_of_getElem? (i := 40) rfl)
theorem dX7_from_63 : decode cX7_from 63 = .ok (.iadd, 1) := daX7_from (63, .iadd, 1) (List.mem_of_getElem? (i := 41) rfl)
theorem dX7_from_64 : decode cX7_from 64 = .ok (.iaload, 1) := daX7_from (64, .iaload, 1) (List.mem_of_getElem? (i := 42) rfl)
theorem dX7_from_65 : decode cX7_from 65 = .ok (.ireturn, 1) := daX7_from (65, .ireturn, 1) (List.mem_of_getElem? (i := 43) rfl)
def rmX7_from : Room := { frames := 2, cells := 0, slots := 0, locals := 46 }
theorem zdX7_from : yX7_from.cls = RX7 ∧ yX7_from.cls ≠ "java/lang/invoke/MethodHandle" ∧ yX7_from.cls ≠ "java/lang/invoke/VarHandle" ∧ (parseMethodDescriptor yX7_from.desc).map (fun d => d.parameters.length) = some 3 := by decide +kernel
theorem kiX7_from_X7 : ∀ w ∈ wsX70, w ∈ wsX7_from := fun _ h => (List.mem_cons_of_mem _ (List.mem_append_right _ h))
theorem kfX7_from_17 : Cond.fieldLink RX7 17 "ShapeJudgeModel" "many" "[I" ∈ wsX7_from := (List.mem_of_getElem? (i := 1) rfl)
theorem kfX7_from_23 : Cond.fieldLink RX7 23 "ShapeJudgeModel" "tos" "[I" ∈ wsX7_from := (List.mem_of_getElem? (i := 3) rfl)
theorem kfX7_from_20 : Cond.fieldLink RX7 20 "ShapeJudgeModel" "names" "[I" ∈ wsX7_from := (List.mem_of_getElem? (i := 2) rfl)
def s_X7_from (m : Mem) (a1 : Int32) (a2 : Int32) (a3 : Int32) : Option (Int32) :=
  (s_X7_isNode m a1).bind fun r2 => (if r2 = 0 then (some (-1)) else (ck (zin a1 10 = true) ((s_X7_in (a2.toInt64) 0 ((m 3 (Int32.toNatClampNeg a1)) - 1).toInt64).bind fun r5 => (if r5 = 0 then (some (-1)) else ((s_X7_in (a3.toInt64) 0 1).bind fun r7 => (if r7 = 0 then (some (-1)) else ((if a3 = 0 then (ck (zin (((5 : Int32) * a1) + a2) 50 = true) (some (m 4 (Int32.toNatClampNeg (((5 : Int32) * a1) + a2))))) else (ck (zin (((5 : Int32) * a1) + a2) 50 = true) (some (m 5 (Int32.toNatClampNeg (((5 : Int32) * a1) + a2)))))))))))))
set_option maxRecDepth 100000 in
set_option maxHeartbeats 4000000 in
theorem c_X7_from (l : Launch) (w : ZW) {m : Mem} {a1 : Int32} {a2 : Int32} {a3 : Int32} {r9 : Int32}  (hf : s_X7_from m a1 a2 a3 = some r9) : zCi MM l w yX7_from wsX7_from rmX7_from [.ref (w.2.1 0), .int a1, .int a2, .int a3] m m r9 := by
  refine z_met_i MM_ok (own := RX7) (by decide +kernel) rfl rfl (Nat.le_of_ble_eq_true rfl) ?_
  intro K C hKw hKl hret
  subst hKw
  subst hKl
  unfold s_X7_from at hf
  show zGo MM K m [(0, .ref ((zw K).2.1 0)), (1, .int a1), (2, .int a2), (3, .int a3)] 0 []
  refine z_aload_n C 0 dX7_from_0 rfl rfl ?_
  refine z_iload_n C 1 dX7_from_1 rfl rfl ?_
  obtain ⟨r2, hc1, hf⟩ := zb_el hf
  refine z_cVi C (c_X7_isNode _ _ hc1) rfl gX7_from_X7_isNode rfl rfl zdX7_isNode rfl (Nat.le_of_ble_eq_true rfl) rfl rfl rfl ⟨Nat.le_of_ble_eq_true rfl, Nat.le_of_ble_eq_true rfl⟩ (Nat.le_of_ble_eq_true rfl) dX7_from_2 rfl ?_
  refine z_if_eq (tgt := 36) C dX7_from_5 (by decide) (fun c13 => ?_) (fun c13 => ?_)
  · replace hf := if_t c13 hf
    refine z_iconst C (v := (-1)) dX7_from_36 (by decide) ?_
    have e1 := Option.some.inj hf
    subst e1
    exact hret _ _ dX7_from_37
  · replace hf := if_f c13 hf
    refine z_iload_n C 2 dX7_from_8 rfl rfl ?_
    refine z_i2l C dX7_from_9 ?_
    refine z_lconst C (v := 0) dX7_from_10 rfl ?_
    refine z_aload_n C 0 dX7_from_11 rfl rfl ?_
    refine z_getr C (t := 3) (Nat.le_of_ble_eq_true rfl) rfl rfl 3 (Nat.le_of_ble_eq_true rfl) rfl kiX7_from_X7 kfX7_from_17 dX7_from_12 ?_
    refine z_iload_n C 1 dX7_from_15 rfl rfl ?_
    obtain ⟨hi3, hf⟩ := ck_el hf
    refine z_iald C (k := 3) (Nat.le_of_ble_eq_true rfl) rfl hi3 dX7_from_16 ?_
    refine z_iconst C (v := 1) dX7_from_17 rfl ?_
    refine z_isub C dX7_from_18 ?_
    refine z_i2l C dX7_from_19 ?_
    obtain ⟨r5, hc4, hf⟩ := zb_el hf
    refine z_cSi C (c_X7_in _ _ hc4) rfl gX7_from_X7_in rfl rfl zdX7_in.2 rfl ⟨Nat.le_of_ble_eq_true rfl, Nat.le_of_ble_eq_true rfl⟩ (Nat.le_of_ble_eq_true rfl) dX7_from_20 rfl ?_
    refine z_if_eq (tgt := 36) C dX7_from_23 (by decide) (fun c12 => ?_) (fun c12 => ?_)
    · replace hf := if_t c12 hf
      refine z_iconst C (v := (-1)) dX7_from_36 (by decide) ?_
      have e1 := Option.some.inj hf
      subst e1
      exact hret _ _ dX7_from_37
    · replace hf := if_f c12 hf
      refine z_iload_n C 3 dX7_from_26 rfl rfl ?_
      refine z_i2l C dX7_from_27 ?_
      refine z_lconst C (v := 0) dX7_from_28 rfl ?_
      refine z_lconst C (v := 1) dX7_from_29 rfl ?_
      obtain ⟨r7, hc6, hf⟩ := zb_el hf
      refine z_cSi C (c_X7_in _ _ hc6) rfl gX7_from_X7_in rfl rfl zdX7_in.2 rfl ⟨Nat.le_of_ble_eq_true rfl, Nat.le_of_ble_eq_true rfl⟩ (Nat.le_of_ble_eq_true rfl) dX7_from_30 rfl ?_
      refine z_if_ne (tgt := 38) C dX7_from_33 (by decide) (fun c11 => ?_) (fun c11 => ?_)
      · replace hf := if_f c11 hf
        refine z_iload_n C 3 dX7_from_38 rfl rfl ?_
        refine z_if_ne (tgt := 55) C dX7_from_39 (by decide) (fun c10 => ?_) (fun c10 => ?_)
        · replace hf := if_f c10 hf
          refine z_aload_n C 0 dX7_from_55 rfl rfl ?_
          refine z_getr C (t := 5) (Nat.le_of_ble_eq_true rfl) rfl rfl 5 (Nat.le_of_ble_eq_true rfl) rfl kiX7_from_X7 kfX7_from_23 dX7_from_56 ?_
          refine z_iconst C (v := 5) dX7_from_59 rfl ?_
          refine z_iload_n C 1 dX7_from_60 rfl rfl ?_
          refine z_imul C dX7_from_61 ?_
          refine z_iload_n C 2 dX7_from_62 rfl rfl ?_
          refine z_iadd C dX7_from_63 ?_
          obtain ⟨hi8, hf⟩ := ck_el hf
          refine z_iald C (k := 5) (Nat.le_of_ble_eq_true rfl) rfl hi8 dX7_from_64 ?_
          have e1 := Option.some.inj hf
          subst e1
          exact hret _ _ dX7_from_65
        · replace hf := if_t c10 hf
          refine z_aload_n C 0 dX7_from_42 rfl rfl ?_
          refine z_getr C (t := 4) (Nat.le_of_ble_eq_true rfl) rfl rfl 4 (Nat.le_of_ble_eq_true rfl) rfl kiX7_from_X7 kfX7_from_20 dX7_from_43 ?_
          refine z_iconst C (v := 5) dX7_from_46 rfl ?_
          refine z_iload_n C 1 dX7_from_47 rfl rfl ?_
          refine z_imul C dX7_from_48 ?_
          refine z_iload_n C 2 dX7_from_49 rfl rfl ?_
          refine z_iadd C dX7_from_50 ?_
          obtain ⟨hi9, hf⟩ := ck_el hf
          refine z_iald C (k := 4) (Nat.le_of_ble_eq_true rfl) rfl hi9 dX7_from_51 ?_
          refine z_goto (tgt := 65) C dX7_from_52 (by decide) ?_
          have e1 := Option.some.inj hf
          subst e1
          exact hret _ _ dX7_from_65
      · replace hf := if_t c11 hf
        refine z_iconst C (v := (-1)) dX7_from_36 (by decide) ?_
        have e1 := Option.some.inj hf
        subst e1
        exact hret _ _ dX7_from_37
