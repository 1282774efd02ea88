set_option maxRecDepth 20000 in
theorem ggX7_isThere_X7_placeOf : GoodIn wsX7_isThere wsX7_placeOf := goodIn_sub (List.forall_mem_cons.mpr ⟨(List.mem_of_getElem? (i := 8) rfl), (List.forall_mem_append.mpr ⟨(List.forall_mem_cons.mpr ⟨(List.mem_of_getElem? (i := 1) rfl), (List.forall_mem_cons.mpr ⟨(List.mem_of_getElem? (i := 2) rfl), (List.forall_mem_cons.mpr ⟨(List.mem_of_getElem? (i := 3) rfl), (fun _ h => absurd h List.not_mem_nil)⟩)⟩)⟩), (fun _ h => (List.mem_cons_of_mem _ (List.mem_append_right _ h)))⟩)⟩) (by decide +kernel)
set_option maxRecDepth 20000 in
theorem gX7_isThere_X7_placeOf : GoodIn wsX7_isThere (wsV RX7 156 RX7 yX7_placeOf wsX7_placeOf) := goodIn_app (goodIn_sub (List.forall_mem_cons.mpr ⟨(List.mem_of_getElem? (i := 4) rfl), (List.forall_mem_cons.mpr ⟨(List.mem_of_getElem? (i := 5) rfl), (List.forall_mem_cons.mpr ⟨(List.mem_of_getElem? (i := 6) rfl), (List.forall_mem_cons.mpr ⟨(List.mem_of_getElem? (i := 7) rfl), (fun _ h => absurd h List.not_mem_nil)⟩)⟩)⟩)⟩) (by decide +kernel)) ggX7_isThere_X7_placeOf
theorem dX7_isThere_0 : decode cX7_isThere 0 = .ok (.aload_n 0, 1) := by decide +kernel
theorem dX7_isThere_1 : decode cX7_isThere 1 = .ok (.iload_n 1, 1) := by decide +kernel
theorem dX7_isThere_2 : decode cX7_isThere 2 = .ok (.iload_n 2, 1) := by decide +kernel
theorem dX7_isThere_3 : decode cX7_isThere 3 = .ok (.iload_n 3, 1) := by decide +kernel
theorem dX7_isThere_4 : decode cX7_isThere 4 = .ok (.invokevirtual 156, 3) := by decide +kernel
theorem dX7_isThere_7 : decode cX7_isThere 7 = .ok (.istore 4, 2) := by decide +kernel
theorem dX7_isThere_9 : decode cX7_isThere 9 = .ok (.iload 4, 2) := by decide +kernel
theorem dX7_isThere_11 : decode cX7_isThere 11 = .ok (.aload_n 0, 1) := by decide +kernel
theorem dX7_isThere_12 : decode cX7_isThere 12 = .ok (.getfield 17, 3) := by decide +kernel
theorem dX7_isThere_15 : decode cX7_isThere 15 = .ok (.iload_n 1, 1) := by decide +kernel
theorem dX7_isThere_16 : decode cX7_isThere 16 = .ok (.iaload, 1) := by decide +kernel
theorem dX7_isThere_17 : decode cX7_isThere 17 = .ok (.if_icmp .ge 37, 3) := by decide +kernel
theorem dX7_isThere_20 : decode cX7_isThere 20 = .ok (.aload_n 0, 1) := by decide +kernel
theorem dX7_isThere_21 : decode cX7_isThere 21 = .ok (.getfield 20, 3) := by decide +kernel
theorem dX7_isThere_24 : decode cX7_isThere 24 = .ok (.iconst 5, 1) := by decide +kernel
theorem dX7_isThere_25 : decode cX7_isThere 25 = .ok (.iload_n 1, 1) := by decide +kernel
theorem dX7_isThere_26 : decode cX7_isThere 26 = .ok (.imul, 1) := by decide +kernel
theorem dX7_isThere_27 : decode cX7_isThere 27 = .ok (.iload 4, 2) := by decide +kernel
theorem dX7_isThere_29 : decode cX7_isThere 29 = .ok (.iadd, 1) := by decide +kernel
theorem dX7_isThere_30 : decode cX7_isThere 30 = .ok (.iaload, 1) := by decide +kernel
theorem dX7_isThere_31 : decode cX7_isThere 31 = .ok (.iload_n 2, 1) := by decide +kernel
theorem dX7_isThere_32 : decode cX7_isThere 32 = .ok (.if_icmp .ne 22, 3) := by decide +kernel
theorem dX7_isThere_35 : decode cX7_isThere 35 = .ok (.aload_n 0, 1) := by decide +kernel
theorem dX7_isThere_36 : decode cX7_isThere 36 = .ok (.getfield 23, 3) := by decide +kernel
theorem dX7_isThere_39 : decode cX7_isThere 39 = .ok (.iconst 5, 1) := by decide +kernel
theorem dX7_isThere_40 : decode cX7_isThere 40 = .ok (.iload_n 1, 1) := by decide +kernel
theorem dX7_isThere_41 : decode cX7_isThere 41 = .ok (.imul, 1) := by decide +kernel
theorem dX7_isThere_42 : decode cX7_isThere 42 = .ok (.iload 4, 2) := by decide +kernel
theorem dX7_isThere_44 : decode cX7_isThere 44 = .ok (.iadd, 1) := by decide +kernel
theorem dX7_isThere_45 : decode cX7_isThere 45 = .ok (.iaload, 1) := by decide +kernel
theorem dX7_isThere_46 : decode cX7_isThere 46 = .ok (.iload_n 3, 1) := by decide +kernel
theorem dX7_isThere_47 : decode cX7_isThere 47 = .ok (.if_icmp .ne 7, 3) := by decide +kernel
theorem dX7_isThere_50 : decode cX7_isThere 50 = .ok (.iconst 1, 1) := by decide +kernel
theorem dX7_isThere_51 : decode cX7_isThere 51 = .ok (.goto 4, 3) := by decide +kernel
theorem dX7_isThere_54 : decode cX7_isThere 54 = .ok (.iconst 0, 1) := by decide +kernel
theorem dX7_isThere_55 : decode cX7_isThere 55 = .ok (.ireturn, 1) := by decide +kernel
def rmX7_isThere : Room := { frames := 1, cells := 0, slots := 0, locals := 24 }
theorem zdX7_isThere : yX7_isThere.cls = RX7 ∧ yX7_isThere.cls ≠ "java/lang/invoke/MethodHandle" ∧ yX7_isThere.cls ≠ "java/lang/invoke/VarHandle" ∧ (parseMethodDescriptor yX7_isThere.desc).map (fun d => d.parameters.length) = some 3 := by decide +kernel
theorem kiX7_isThere_X7 : ∀ w ∈ wsX70, w ∈ wsX7_isThere := fun _ h => (List.mem_cons_of_mem _ (List.mem_append_right _ h))
theorem kfX7_isThere_17 : Cond.fieldLink RX7 17 "ShapeJudgeModel" "many" "[I" ∈ wsX7_isThere := (List.mem_of_getElem? (i := 1) rfl)
theorem kfX7_isThere_20 : Cond.fieldLink RX7 20 "ShapeJudgeModel" "names" "[I" ∈ wsX7_isThere := (List.mem_of_getElem? (i := 2) rfl)
theorem kfX7_isThere_23 : Cond.fieldLink RX7 23 "ShapeJudgeModel" "tos" "[I" ∈ wsX7_isThere := (List.mem_of_getElem? (i := 3) rfl)
def s_X7_isThere (m : Mem) (a1 : Int32) (a2 : Int32) (a3 : Int32) : Option (Int32) :=
  (s_X7_placeOf m a1 a2 a3).bind fun r2 => ck (zin a1 10 = true) ((if (m 3 (Int32.toNatClampNeg a1)) ≤ r2 then (some 0) else (ck (zin (((5 : Int32) * a1) + r2) 50 = true) ((if (m 4 (Int32.toNatClampNeg (((5 : Int32) * a1) + r2))) = a2 then (ck (zin (((5 : Int32) * a1) + r2) 50 = true) ((if (m 5 (Int32.toNatClampNeg (((5 : Int32) * a1) + r2))) = a3 then (some 1) else (some 0)))) else (some 0))))))
set_option maxRecDepth 100000 in
set_option maxHeartbeats 4000000 in
theorem c_X7_isThere (l : Launch) (w : ZW) {m : Mem} {a1 : Int32} {a2 : Int32} {a3 : Int32} {r9 : Int32}  (hf : s_X7_isThere m a1 a2 a3 = some r9) : zCi MM l w yX7_isThere wsX7_isThere rmX7_isThere [.ref (w.2.1 0), .int a1, .int a2, .int a3] m m r9 := by
  refine z_met_z MM_ok (own := RX7) (by decide +kernel) rfl rfl (Nat.le_of_ble_eq_true rfl) ?_
  intro K C hKw hKl hret
  subst hKw
  subst hKl
  unfold s_X7_isThere at hf
  show zGo MM K m [(0, .ref ((zw K).2.1 0)), (1, .int a1), (2, .int a2), (3, .int a3)] 0 []
  refine z_aload_n C 0 dX7_isThere_0 rfl rfl ?_
  refine z_iload_n C 1 dX7_isThere_1 rfl rfl ?_
  refine z_iload_n C 2 dX7_isThere_2 rfl rfl ?_
  refine z_iload_n C 3 dX7_isThere_3 rfl rfl ?_
  obtain ⟨r2, hc1, hf⟩ := zb_el hf
  refine z_cVi C (c_X7_placeOf _ _ hc1) rfl gX7_isThere_X7_placeOf rfl rfl zdX7_placeOf rfl (Nat.le_of_ble_eq_true rfl) rfl rfl rfl ⟨Nat.le_of_ble_eq_true rfl, Nat.le_of_ble_eq_true rfl⟩ (Nat.le_of_ble_eq_true rfl) dX7_isThere_4 rfl ?_
  refine z_istore C (lv2 := [(0, .ref ((zw K).2.1 0)), (1, .int a1), (2, .int a2), (3, .int a3), (4, .int r2)]) [1, 2, 3, 4, 0] dX7_isThere_7 (Nat.le_of_ble_eq_true rfl) rfl ?_
  refine z_iload C 4 dX7_isThere_9 rfl ?_
  refine z_aload_n C 0 dX7_isThere_11 rfl rfl ?_
  refine z_getr C (t := 3) (Nat.le_of_ble_eq_true rfl) rfl rfl 3 (Nat.le_of_ble_eq_true rfl) rfl kiX7_isThere_X7 kfX7_isThere_17 dX7_isThere_12 ?_
  refine z_iload_n C 1 dX7_isThere_15 rfl rfl ?_
  obtain ⟨hi3, hf⟩ := ck_el hf
  refine z_iald C (k := 3) (Nat.le_of_ble_eq_true rfl) rfl hi3 dX7_isThere_16 ?_
  refine z_icmp_ge (tgt := 54) C dX7_isThere_17 (by decide) (fun c8 => ?_) (fun c8 => ?_)
  · replace hf := if_t c8 hf
    refine z_iconst C (v := 0) dX7_isThere_54 rfl ?_
    have e1 := Option.some.inj hf
    subst e1
    exact hret _ _ dX7_isThere_55 (Or.inl rfl)
  · replace hf := if_f c8 hf
    refine z_aload_n C 0 dX7_isThere_20 rfl rfl ?_
    refine z_getr C (t := 4) (Nat.le_of_ble_eq_true rfl) rfl rfl 4 (Nat.le_of_ble_eq_true rfl) rfl kiX7_isThere_X7 kfX7_isThere_20 dX7_isThere_21 ?_
    refine z_iconst C (v := 5) dX7_isThere_24 rfl ?_
    refine z_iload_n C 1 dX7_isThere_25 rfl rfl ?_
    refine z_imul C dX7_isThere_26 ?_
    refine z_iload C 4 dX7_isThere_27 rfl ?_
    refine z_iadd C dX7_isThere_29 ?_
    obtain ⟨hi4, hf⟩ := ck_el hf
    refine z_iald C (k := 4) (Nat.le_of_ble_eq_true rfl) rfl hi4 dX7_isThere_30 ?_
    refine z_iload_n C 2 dX7_isThere_31 rfl rfl ?_
    refine z_icmp_ne (tgt := 54) C dX7_isThere_32 (by decide) (fun c7 => ?_) (fun c7 => ?_)
    · replace hf := if_f c7 hf
      refine z_iconst C (v := 0) dX7_isThere_54 rfl ?_
      have e1 := Option.some.inj hf
      subst e1
      exact hret _ _ dX7_isThere_55 (Or.inl rfl)
    · replace hf := if_t c7 hf
      refine z_aload_n C 0 dX7_isThere_35 rfl rfl ?_
      refine z_getr C (t := 5) (Nat.le_of_ble_eq_true rfl) rfl rfl 5 (Nat.le_of_ble_eq_true rfl) rfl kiX7_isThere_X7 kfX7_isThere_23 dX7_isThere_36 ?_
      refine z_iconst C (v := 5) dX7_isThere_39 rfl ?_
      refine z_iload_n C 1 dX7_isThere_40 rfl rfl ?_
      refine z_imul C dX7_isThere_41 ?_
      refine z_iload C 4 dX7_isThere_42 rfl ?_
      refine z_iadd C dX7_isThere_44 ?_
      obtain ⟨hi5, hf⟩ := ck_el hf
      refine z_iald C (k := 5) (Nat.le_of_ble_eq_true rfl) rfl hi5 dX7_isThere_45 ?_
      refine z_iload_n C 3 dX7_isThere_46 rfl rfl ?_
      refine z_icmp_ne (tgt := 54) C dX7_isThere_47 (by decide) (fun c6 => ?_) (fun c6 => ?_)
      · replace hf := if_f c6 hf
        refine z_iconst C (v := 0) dX7_isThere_54 rfl ?_
        have e1 := Option.some.inj hf
        subst e1
        exact hret _ _ dX7_isThere_55 (Or.inl rfl)
      · replace hf := if_t c6 hf
        refine z_iconst C (v := 1) dX7_isThere_50 rfl ?_
        refine z_goto (tgt := 55) C dX7_isThere_51 (by decide) ?_
        have e1 := Option.some.inj hf
        subst e1
        exact hret _ _ dX7_isThere_55 (Or.inr rfl)
set_option maxRecDepth 20000 in
theorem ggX7_cut_X7_isNode : GoodIn wsX7_cut wsX7_isNode := goodIn_sub (List.forall_mem_cons.mpr ⟨(List.mem_of_getElem? (i := 10) rfl), (List.forall_mem_append.mpr ⟨(List.forall_mem_cons.mpr ⟨(List.mem_of_getElem? (i := 11) rfl), (List.forall_mem_cons.mpr ⟨(List.mem_of_getElem? (i := 12) rfl), (List.forall_mem_cons.mpr ⟨(List.mem_of_getElem? (i := 13) rfl), (List.forall_mem_cons.mpr ⟨(List.mem_of_getElem? (i := 9) rfl), (List.forall_mem_cons.mpr ⟨(List.mem_of_getElem? (i := 14) rfl), (fun _ h => absurd h List.not_mem_nil)⟩)⟩)⟩)⟩)⟩), (fun _ h => (List.mem_cons_of_mem _ (List.mem_append_right _ h)))⟩)⟩) (by decide +kernel)
set_option maxRecDepth 20000 in
theorem gX7_cut_X7_isNode : GoodIn wsX7_cut (wsV RX7 152 RX7 yX7_isNode wsX7_isNode) := goodIn_app (goodIn_sub (List.forall_mem_cons.mpr ⟨(List.mem_of_getElem? (i := 6) rfl), (List.forall_mem_cons.mpr ⟨(List.mem_of_getElem? (i := 7) rfl), (List.forall_mem_cons.mpr ⟨(List.mem_of_getElem? (i := 8) rfl), (List.forall_mem_cons.mpr ⟨(List.mem_of_getElem? (i := 9) rfl), (fun _ h => absurd h List.not_mem_nil)⟩)⟩)⟩)⟩) (by decide +kernel)) ggX7_cut_X7_isNode
set_option maxRecDepth 20000 in
theorem ggX7_cut_X7_in : GoodIn wsX7_cut wsX7_in := goodIn_sub (List.forall_mem_cons.mpr ⟨(List.mem_of_getElem? (i := 14) rfl), (fun _ h => absurd h List.not_mem_nil)⟩) (by decide +kernel)
set_option maxRecDepth 20000 in
theorem gX7_cut_X7_in : GoodIn wsX7_cut (va_wsS RX7 144 yX7_in wsX7_in) := goodIn_app (goodIn_sub (List.forall_mem_cons.mpr ⟨(List.mem_of_getElem? (i := 12) rfl), (List.forall_mem_cons.mpr ⟨(List.mem_of_getElem? (i := 13) rfl), (List.forall_mem_cons.mpr ⟨(List.mem_of_getElem? (i := 9) rfl), (fun _ h => absurd h List.not_mem_nil)⟩)⟩)⟩) (by decide +kernel)) ggX7_cut_X7_in
set_option maxRecDepth 20000 in
theorem ggX7_cut_X7_isThere : GoodIn wsX7_cut wsX7_isThere := goodIn_sub (List.forall_mem_cons.mpr ⟨(List.mem_of_getElem? (i := 18) rfl), (List.forall_mem_append.mpr ⟨(List.forall_mem_cons.mpr ⟨(List.mem_of_getElem? (i := 2) rfl), (List.forall_mem_cons.mpr ⟨(List.mem_of_getElem? (i := 3) rfl), (List.forall_mem_cons.mpr ⟨(List.mem_of_getElem? (i := 4) rfl), (List.forall_mem_cons.mpr ⟨(List.mem_of_getElem? (i := 19) rfl), (List.forall_mem_cons.mpr ⟨(List.mem_of_getElem? (i := 20) rfl), (List.forall_mem_cons.mpr ⟨(List.mem_of_getElem? (i := 21) rfl), (List.forall_mem_cons.mpr ⟨(List.mem_of_getElem? (i := 9) rfl), (List.forall_mem_cons.mpr ⟨(List.mem_of_getElem? (i := 22) rfl), (fun _ h => absurd h List.not_mem_nil)⟩)⟩)⟩)⟩)⟩)⟩)⟩)⟩), (fun _ h => (List.mem_cons_of_mem _ (List.mem_append_right _ h)))⟩)⟩) (by decide +kernel)
set_option maxRecDepth 20000 in
theorem gX7_cut_X7_isThere : GoodIn wsX7_cut (wsV RX7 162 RX7 yX7_isThere wsX7_isThere) := goodIn_app (goodIn_sub (List.forall_mem_cons.mpr ⟨(List.mem_of_getElem? (i := 15) rfl), (List.forall_mem_cons.mpr ⟨(List.mem_of_getElem? (i := 16) rfl), (List.forall_mem_cons.mpr ⟨(List.mem_of_getElem? (i := 17) rfl), (List.forall_mem_cons.mpr ⟨(List.mem_of_getElem? (i := 9) rfl), (fun _ h => absurd h List.not_mem_nil)⟩)⟩)⟩)⟩) (by decide +kernel)) ggX7_cut_X7_isThere
set_option maxRecDepth 20000 in
theorem ggX7_cut_X7_placeOf : GoodIn wsX7_cut wsX7_placeOf := goodIn_sub (List.forall_mem_cons.mpr ⟨(List.mem_of_getElem? (i := 22) rfl), (List.forall_mem_append.mpr ⟨(List.forall_mem_cons.mpr ⟨(List.mem_of_getElem? (i := 2) rfl), (List.forall_mem_cons.mpr ⟨(List.mem_of_getElem? (i := 3) rfl), (List.forall_mem_cons.mpr ⟨(List.mem_of_getElem? (i := 4) rfl), (fun _ h => absurd h List.not_mem_nil)⟩)⟩)⟩), (fun _ h => (List.mem_cons_of_mem _ (List.mem_append_right _ h)))⟩)⟩) (by decide +kernel)
set_option maxRecDepth 20000 in
theorem gX7_cut_X7_placeOf : GoodIn wsX7_cut (wsV RX7 156 RX7 yX7_placeOf wsX7_placeOf) := goodIn_app (goodIn_sub (List.forall_mem_cons.mpr ⟨(List.mem_of_getElem? (i := 19) rfl), (List.forall_mem_cons.mpr ⟨(List.mem_of_getElem? (i := 20) rfl), (List.forall_mem_cons.mpr ⟨(List.mem_of_getElem? (i := 21) rfl), (List.forall_mem_cons.mpr ⟨(List.mem_of_getElem? (i := 9) rfl), (fun _ h => absurd h List.not_mem_nil)⟩)⟩)⟩)⟩) (by decide +kernel)) ggX7_cut_X7_placeOf
set_option maxRecDepth 20000 in
theorem ggX7_cut_X7_edges : GoodIn wsX7_cut wsX7_edges := goodIn_sub (List.forall_mem_cons.mpr ⟨(List.mem_of_getElem? (i := 26) rfl), (List.forall_mem_append.mpr ⟨(List.forall_mem_cons.mpr ⟨(List.mem_of_getElem? (i := 11) rfl), (List.forall_mem_cons.mpr ⟨(List.mem_of_getElem? (i := 2) rfl), (fun _ h => absurd h List.not_mem_nil)⟩)⟩), (fun _ h => (List.mem_cons_of_mem _ (List.mem_append_right _ h)))⟩)⟩) (by decide +kernel)
set_option maxRecDepth 20000 in
theorem gX7_cut_X7_edges : GoodIn wsX7_cut (wsV RX7 166 RX7 yX7_edges wsX7_edges) := goodIn_app (goodIn_sub (List.forall_mem_cons.mpr ⟨(List.mem_of_getElem? (i := 23) rfl), (List.forall_mem_cons.mpr ⟨(List.mem_of_getElem? (i := 24) rfl), (List.forall_mem_cons.mpr ⟨(List.mem_of_getElem? (i := 25) rfl), (List.forall_mem_cons.mpr ⟨(List.mem_of_getElem? (i := 9) rfl), (fun _ h => absurd h List.not_mem_nil)⟩)⟩)⟩)⟩) (by decide +kernel)) ggX7_cut_X7_edges
set_option maxRecDepth 100000 in
theorem daX7_cut : ∀ q ∈ ([(0, .aload_n 0, 1), (1, .iload_n 1, 1), (2, .invokevirtual 152, 3), (5, .ifCond .eq 23, 3), (8, .iload_n 2, 1), (9, .i2l, 1), (10, .lconst 0, 1), (11, .ldc2_w 160, 3), (14, .invokestatic 144, 3), (17, .ifCond .eq 11, 3), (20, .aload_n 0, 1), (21, .iload_n 3, 1), (22, .invokevirtual 152, 3), (25, .ifCond .ne 5, 3), (28, .iconst (-1), 1), (29, .ireturn, 1), (30, .aload_n 0, 1), (31, .iload_n 1, 1), (32, .iload_n 2, 1), (33, .iload_n 3, 1), (34, .invokevirtual 162, 3), (37, .ifCond .ne 6, 3), (40, .bipush (-2), 2), (42, .ireturn, 1), (43, .aload_n 0, 1), (44, .getfield 17, 3), (47, .iload_n 1, 1), (48, .dup2, 1), (49, .iaload, 1), (50, .iconst 1, 1), (51, .isub, 1), (52, .iastore, 1), (53, .aload_n 0, 1), (54, .iload_n 1, 1), (55, .iload_n 2, 1), (56, .iload_n 3, 1), (57, .invokevirtual 156, 3), (60, .istore 4, 2), (62, .iload 4, 2), (64, .aload_n 0, 1), (65, .getfield 17, 3), (68, .iload_n 1, 1), (69, .iaload, 1), (70, .if_icmp .ge 57, 3), (73, .aload_n 0, 1), (74, .getfield 20, 3), (77, .iconst 5, 1), (78, .iload_n 1, 1), (79, .imul, 1), (80, .iload 4, 2), (82, .iadd, 1), (83, .aload_n 0, 1), (84, .getfield 20, 3), (87, .iconst 5, 1), (88, .iload_n 1, 1), (89, .imul, 1), (90, .iload 4, 2), (92, .iadd, 1), (93, .iconst 1, 1), (94, .iadd, 1), (95, .iaload, 1), (96, .iastore, 1), (97, .aload_n 0, 1), (98, .getfield 23, 3), (101, .iconst 5, 1), (102, .iload_n 1, 1), (103, .imul, 1), (104, .iload 4, 2), (106, .iadd, 1), (107, .aload_n 0, 1), (108, .getfield 23, 3), (111, .iconst 5, 1), (112, .iload_n 1, 1), (113, .imul, 1), (114, .iload 4, 2), (116, .iadd, 1), (117, .iconst 1, 1), (118, .iadd, 1), (119, .iaload, 1), (120, .iastore, 1), (121, .iinc 4 1, 3), (124, .goto (-62), 3), (127, .aload_n 0, 1), (128, .iconst 0, 1), (129, .putfield 148, 3), (132, .aload_n 0, 1), (133, .invokevirtual 166, 3), (136, .ireturn, 1)] : List (Nat × Instr × Nat)), decode cX7_cut q.1 = .ok q.2 := by decide +kernel
theorem dX7_cut_0 : decode cX7_cut 0 = .ok (.aload_n 0, 1) := daX7_cut (0, .aload_n 0, 1) (List.mem_of_getElem? (i := 0) rfl)
theorem dX7_cut_1 : decode cX7_cut 1 = .ok (.iload_n 1, 1) := daX7_cut (1, .iload_n 1, 1) (List.mem_of_getElem? (i := 1) rfl)
theorem dX7_cut_2 : decode cX7_cut 2 = .ok (.invokevirtual 152, 3) := daX7_cut (2, .invokevirtual 152, 3) (List.mem_of_getElem? (i := 2) rfl)
theorem dX7_cut_5 : decode cX7_cut 5 = .ok (.ifCond .eq 23, 3) := daX7_cut (5, .ifCond .eq 23, 3) (List.mem_of_getElem? (i := 3) rfl)
theorem dX7_cut_8 : decode cX7_cut 8 = .ok (.iload_n 2, 1) := daX7_cut (8, .iload_n 2, 1) (List.mem_of_getElem? (i := 4) rfl)
theorem dX7_cut_9 : decode cX7_cut 9 = .ok (.i2l, 1) := daX7_cut (9, .i2l, 1) (List.mem_of_getElem? (i := 5) rfl)
theorem dX7_cut_10 : decode cX7_cut 10 = .ok (.lconst 0, 1) := daX7_cut (10, .lconst 0, 1) (List.mem_of_getElem? (i := 6) rfl)
theorem dX7_cut_11 : decode cX7_cut 11 = .ok (.ldc2_w 160, 3) := daX7_cut (11, .ldc2_w 160, 3) (List.mem_of_getElem? (i := 7) rfl)
theorem dX7_cut_14 : decode cX7_cut 14 = .ok (.invokestatic 144, 3) := daX7_cut (14, .invokestatic 144, 3) (List.mem_of_getElem? (i := 8) rfl)
theorem dX7_cut_17 : decode cX7_cut 17 = .ok (.ifCond .eq 11, 3) := daX7_cut (17, .ifCond .eq 11, 3) (List.mem_of_getElem? (i := 9) rfl)
theorem dX7_cut_20 : decode cX7_cut 20 = .ok (.aload_n 0, 1) := daX7_cut (20, .aload_n 0, 1) (List.mem_of_getElem? (i := 10) rfl)
theorem dX7_cut_21 : decode cX7_cut 21 = .ok (.iload_n 3, 1) := daX7_cut (21, .iload_n 3, 1) (List.mem_of_getElem? (i := 11) rfl)
theorem dX7_cut_22 : decode cX7_cut 22 = .ok (.invokevirtual 152, 3) := daX7_cut (22, .invokevirtual 152, 3) (List.mem_of_getElem? (i := 12) rfl)
theorem dX7_cut_25 : decode cX7_cut 25 = .ok (.ifCond .ne 5, 3) := daX7_cut (25, .ifCond .ne 5, 3) (List.mem_of_getElem? (i := 13) rfl)
theorem dX7_cut_28 : decode cX7_cut 28 = .ok (.iconst (-1), 1) := daX7_cut (28, .iconst (-1), 1) (List.mem_of_getElem? (i := 14) rfl)
theorem dX7_cut_29 : decode cX7_cut 29 = .ok (.ireturn, 1) := daX7_cut (29, .ireturn, 1) (List.mem_of_getElem? (i := 15) rfl)
theorem dX7_cut_30 : decode cX7_cut 30 = .ok (.aload_n 0, 1) := daX7_cut (30, .aload_n 0, 1) (List.mem_of_getElem? (i := 16) rfl)
theorem dX7_cut_31 : decode cX7_cut 31 = .ok (.iload_n 1, 1) := daX7_cut (31, .iload_n 1, 1) (List.mem_of_getElem? (i := 17) rfl)
theorem dX7_cut_32 : decode cX7_cut 32 = .ok (.iload_n 2, 1) := daX7_cut (32, .iload_n 2, 1) (List.mem_of_getElem? (i := 18) rfl)
theorem dX7_cut_33 : decode cX7_cut 33 = .ok (.iload_n 3, 1) := daX7_cut (33, .iload_n 3, 1) (List.mem_of_getElem? (i := 19) rfl)
theorem dX7_cut_34 : decode cX7_cut 34 = .ok (.invokevirtual 162, 3) := daX7_cut (34, .invokevirtual 162, 3) (List.mem_of_getElem? (i := 20) rfl)
theorem dX7_cut_37 : decode cX7_cut 37 = .ok (.ifCond .ne 6, 3) := daX7_cut (37, .ifCond .ne 6, 3) (List.mem_of_getElem? (i := 21) rfl)
theorem dX7_cut_40 : decode cX7_cut 40 = .ok (.bipush (-2), 2) := daX7_cut (40, .bipush (-2), 2) (List.mem_of_getElem? (i := 22) rfl)
theorem dX7_cut_42 : decode cX7_cut 42 = .ok (.ireturn, 1) := daX7_cut (42, .ireturn, 1) (List.mem_of_getElem? (i := 23) rfl)
theorem dX7_cut_43 : decode cX7_cut 43 = .ok (.aload_n 0, 1) := daX7_cut (43, .aload_n 0, 1) (List.mem_of_getElem? (i := 24) rfl)
theorem dX7_cut_44 : decode cX7_cut 44 = .ok (.getfield 17, 3) := daX7_cut (44, .getfield 17, 3) (List.mem_of_getElem? (i := 25) rfl)
theorem dX7_cut_47 : decode cX7_cut 47 = .ok (.iload_n 1, 1) := daX7_cut (47, .iload_n 1, 1) (List.mem_of_getElem? (i := 26) rfl)
theorem dX7_cut_48 : decode cX7_cut 48 = .ok (.dup2, 1) := daX7_cut (48, .dup2, 1) (List.mem_of_getElem? (i := 27) rfl)
theorem dX7_cut_49 : decode cX7_cut 49 = .ok (.iaload, 1) := daX7_cut (49, .iaload, 1) (List.mem_of_getElem? (i := 28) rfl)
theorem dX7_cut_50 : decode cX7_cut 50 = .ok (.iconst 1, 1) := daX7_cut (50, .iconst 1, 1) (List.mem_of_getElem? (i := 29) rfl)
theorem dX7_cut_51 : decode cX7_cut 51 = .ok (.isub, 1) := daX7_cut (51, .isub, 1) (List.mem_of_getElem? (i := 30) rfl)
theorem dX7_cut_52 : decode cX7_cut 52 = .ok (.iastore, 1) := daX7_cut (52, .iastore, 1) (List.mem_of_getElem? (i := 31) rfl)
theorem dX7_cut_53 : decode cX7_cut 53 = .ok (.aload_n 0, 1) := daX7_cut (53, .aload_n 0, 1) (List.mem_of_getElem? (i := 32) rfl)
theorem dX7_cut_54 : decode cX7_cut 54 = .ok (.iload_n 1, 1) := daX7_cut (54, .iload_n 1, 1) (List.mem_of_getElem? (i := 33) rfl)
theorem dX7_cut_55 : decode cX7_cut 55 = .ok (.iload_n 2, 1) := daX7_cut (55, .iload_n 2, 1) (List.mem_of_getElem? (i := 34) rfl)
theorem dX7_cut_56 : decode cX7_cut 56 = .ok (.iload_n 3, 1) := daX7_cut (56, .iload_n 3, 1) (List.mem_of_getElem? (i := 35) rfl)
theorem dX7_cut_57 : decode cX7_cut 57 = .ok (.invokevirtual 156, 3) := daX7_cut (57, .invokevirtual 156, 3) (List.mem_of_getElem? (i := 36) rfl)
theorem dX7_cut_60 : decode cX7_cut 60 = .ok (.istore 4, 2) := daX7_cut (60, .istore 4, 2) (List.mem_of_getElem? (i := 37) rfl)
theorem dX7_cut_62 : decode cX7_cut 62 = .ok (.iload 4, 2) := daX7_cut (62, .iload 4, 2) (List.mem_of_getElem? (i := 38) rfl)
theorem dX7_cut_64 : decode cX7_cut 64 = .ok (.aload_n 0, 1) := daX7_cut (64, .aload_n 0, 1) (List.mem_of_getElem? (i := 39) rfl)
theorem dX7_cut_65 : decode cX7_cut 65 = .ok (.getfield 17, 3) := daX7_cut (65, .getfield 17, 3) (List.mem_of_getElem? (i := 40) rfl)
theorem dX7_cut_68 : decode cX7_cut 68 = .ok (.iload_n 1, 1) := daX7_cut (68, .iload_n 1, 1) (List.mem_of_getElem? (i := 41) rfl)
theorem dX7_cut_69 : decode cX7_cut 69 = .ok (.iaload, 1) := daX7_cut (69, .iaload, 1) (List.mem_of_getElem? (i := 42) rfl)
theorem dX7_cut_70 : decode cX7_cut 70 = .ok (.if_icmp .ge 57, 3) := daX7_cut (70, .if_icmp .ge 57, 3) (List.mem_of_getElem? (i := 43) rfl)
theorem dX7_cut_73 : decode cX7_cut 73 = .ok (.aload_n 0, 1) := daX7_cut (73, .aload_n 0, 1) (List.mem_of_getElem? (i := 44) rfl)
theorem dX7_cut_74 : decode cX7_cut 74 = .ok (.getfield 20, 3) := daX7_cut (74, .getfield 20, 3) (List.mem_of_getElem? (i := 45) rfl)
theorem dX7_cut_77 : decode cX7_cut 77 = .ok (.iconst 5, 1) := daX7_cut (77, .iconst 5, 1) (List.mem_of_getElem? (i := 46) rfl)
theorem dX7_cut_78 : decode cX7_cut 78 = .ok (.iload_n 1, 1) := daX7_cut (78, .iload_n 1, 1) (List.mem_of_getElem? (i := 47) rfl)
theorem dX7_cut_79 : decode cX7_cut 79 = .ok (.imul, 1) := daX7_cut (79, .imul, 1) (List.mem_of_getElem? (i := 48) rfl)
theorem dX7_cut_80 : decode cX7_cut 80 = .ok (.iload 4, 2) := daX7_cut (80, .iload 4, 2) (List.mem_of_getElem? (i := 49) rfl)
theorem dX7_cut_82 : decode cX7_cut 82 = .ok (.iadd, 1) := daX7_cut (82, .iadd, 1) (List.mem_of_getElem? (i := 50) rfl)
theorem dX7_cut_83 : decode cX7_cut 83 = .ok (.aload_n 0, 1) := daX7_cut (83, .aload_n 0, 1) (List.mem_of_getElem? (i := 51) rfl)
theorem dX7_cut_84 : decode cX7_cut 84 = .ok (.getfield 20, 3) := daX7_cut (84, .getfield 20, 3) (List.mem_of_getElem? (i := 52) rfl)
theorem dX7_cut_87 : decode cX7_cut 87 = .ok (.iconst 5, 1) := daX7_cut (87, .iconst 5, 1) (List.mem_of_getElem? (i := 53) rfl)
theorem dX7_cut_88 : decode cX7_cut 88 = .ok (.iload_n 1, 1) := daX7_cut (88, .iload_n 1, 1) (List.mem_of_getElem? (i := 54) rfl)
theorem dX7_cut_89 : decode cX7_cut 89 = .ok (.imul, 1) := daX7_cut (89, .imul, 1) (List.mem_of_getElem? (i := 55) rfl)
theorem dX7_cut_90 : decode cX7_cut 90 = .ok (.iload 4, 2) := daX7_cut (90, .iload 4, 2) (List.mem_of_getElem? (i := 56) rfl)
theorem dX7_cut_92 : decode cX7_cut 92 = .ok (.iadd, 1) := daX7_cut (92, .iadd, 1) (List.mem_of_getElem? (i := 57) rfl)
theorem dX7_cut_93 : decode cX7_cut 93 = .ok (.iconst 1, 1) := daX7_cut (93, .iconst 1, 1) (List.mem_of_getElem? (i := 58) rfl)
theorem dX7_cut_94 : decode cX7_cut 94 = .ok (.iadd, 1) := daX7_cut (94, .iadd, 1) (List.mem_of_getElem? (i := 59) rfl)
theorem dX7_cut_95 : decode cX7_cut 95 = .ok (.iaload, 1) := daX7_cut (95, .iaload, 1) (List.mem_of_getElem? (i := 60) rfl)
theorem dX7_cut_96 : decode cX7_cut 96 = .ok (.iastore, 1) := daX7_cut (96, .iastore, 1) (List.mem_of_getElem? (i := 61) rfl)
theorem dX7_cut_97 : decode cX7_cut 97 = .ok (.aload_n 0, 1) := daX7_cut (97, .aload_n 0, 1) (List.mem_of_getElem? (i := 62) rfl)
theorem dX7_cut_98 : decode cX7_cut 98 = .ok (.getfield 23, 3) := daX7_cut (98, .getfield 23, 3) (List.mem_of_getElem? (i := 63) rfl)
theorem dX7_cut_101 : decode cX7_cut 101 = .ok (.iconst 5, 1) := daX7_cut (101, .iconst 5, 1) (List.mem_of_getElem? (i := 64) rfl)
theorem dX7_cut_102 : decode cX7_cut 102 = .ok (.iload_n 1, 1) := daX7_cut (102, .iload_n 1, 1) (List.mem_of_getElem? (i := 65) rfl)
theorem dX7_cut_103 : decode cX7_cut 103 = .ok (.imul, 1) := daX7_cut (103, .imul, 1) (List.mem_of_getElem? (i := 66) rfl)
theorem dX7_cut_104 : decode cX7_cut 104 = .ok (.iload 4, 2) := daX7_cut (104, .iload 4, 2) (List.mem_of_getElem? (i := 67) rfl)
theorem dX7_cut_106 : decode cX7_cut 106 = .ok (.iadd, 1) := daX7_cut (106, .iadd, 1) (List.mem_of_getElem? (i := 68) rfl)
theorem dX7_cut_107 : decode cX7_cut 107 = .ok (.aload_n 0, 1) := daX7_cut (107, .aload_n 0, 1) (List.mem_of_getElem? (i := 69) rfl)
theorem dX7_cut_108 : decode cX7_cut 108 = .ok (.getfield 23, 3) := daX7_cut (108, .getfield 23, 3) (List.mem_of_getElem? (i := 70) rfl)
theorem dX7_cut_111 : decode cX7_cut 111 = .ok (.iconst 5, 1) := daX7_cut (111, .iconst 5, 1) (List.mem_of_getElem? (i := 71) rfl)
theorem dX7_cut_112 : decode cX7_cut 112 = .ok (.iload_n 1, 1) := daX7_cut (112, .iload_n 1, 1) (List.mem_of_getElem? (i := 72) rfl)
theorem dX7_cut_113 : decode cX7_cut 113 = .ok (.imul, 1) := daX7_cut (113, .imul, 1) (List.mem_of_getElem? (i := 73) rfl)
theorem dX7_cut_114 : decode cX7_cut 114 = .ok (.iload 4, 2) := daX7_cut (114, .iload 4, 2) (List.mem_of_getElem? (i := 74) rfl)
theorem dX7_cut_116 : decode cX7_cut 116 = .ok (.iadd, 1) := daX7_cut (116, .iadd, 1) (List.mem_of_getElem? (i := 75) rfl)
theorem dX7_cut_117 : decode cX7_cut 117 = .ok (.iconst 1, 1) := daX7_cut (117, .iconst 1, 1) (List.mem_of_getElem? (i := 76) rfl)
theorem dX7_cut_118 : decode cX7_cut 118 = .ok (.iadd, 1) := daX7_cut (118, .iadd, 1) (List.mem_of_getElem? (i := 77) rfl)
theorem dX7_cut_119 : decode cX7_cut 119 = .ok (.iaload, 1) := daX7_cut (119, .iaload, 1) (List.mem_of_getElem? (i := 78) rfl)
theorem dX7_cut_120 : decode cX7_cut 120 = .ok (.iastore, 1) := daX7_cut (120, .iastore, 1) (List.mem_of_getElem? (i := 79) rfl)
theorem dX7_cut_121 : decode cX7_cut 121 = .ok (.iinc 4 1, 3) := daX7_cut (121, .iinc 4 1, 3) (List.mem_of_getElem? (i := 80) rfl)
theorem dX7_cut_124 : decode cX7_cut 124 = .ok (.goto (-62), 3) := daX7_cut (124, .goto (-62), 3) (List.mem_of_getElem? (i := 81) rfl)
theorem dX7_cut_127 : decode cX7_cut 127 = .ok (.aload_n 0, 1) := daX7_cut (127, .aload_n 0, 1) (List.mem_of_getElem? (i := 82) rfl)
theorem dX7_cut_128 : decode cX7_cut 128 = .ok (.iconst 0, 1) := daX7_cut (128, .iconst 0, 1) (List.mem_of_getElem? (i := 83) rfl)
theorem dX7_cut_129 : decode cX7_cut 129 = .ok (.putfield 148, 3) := daX7_cut (129, .putfield 148, 3) (List.mem_of_getElem? (i := 84) rfl)
theorem dX7_cut_132 : decode cX7_cut 132 = .ok (.aload_n 0, 1) := daX7_cut (132, .aload_n 0, 1) (List.mem_of_getElem? (i := 85) rfl)
theorem dX7_cut_133 : decode cX7_cut 133 = .ok (.invokevirtual 166, 3) := daX7_cut (133, .invokevirtual 166, 3) (List.mem_of_getElem? (i := 86) rfl)
theorem dX7_cut_136 : decode cX7_cut 136 = .ok (.ireturn, 1) := daX7_cut (136, .ireturn, 1) (List.mem_of_getElem? (i := 87) rfl)
def rmX7_cut : Room := { frames := 2, cells := 0, slots := 0, locals := 48 }
theorem zdX7_cut : yX7_cut.cls = RX7 ∧ yX7_cut.cls ≠ "java/lang/invoke/MethodHandle" ∧ yX7_cut.cls ≠ "java/lang/invoke/VarHandle" ∧ (parseMethodDescriptor yX7_cut.desc).map (fun d => d.parameters.length) = some 3 := by decide +kernel
theorem kcX7_cut_160 : Cond.constantLong RX7 160 (9) ∈ wsX7_cut := (List.mem_of_getElem? (i := 1) rfl)
theorem kiX7_cut_X7 : ∀ w ∈ wsX70, w ∈ wsX7_cut := fun _ h => (List.mem_cons_of_mem _ (List.mem_append_right _ h))
theorem kfX7_cut_17 : Cond.fieldLink RX7 17 "ShapeJudgeModel" "many" "[I" ∈ wsX7_cut := (List.mem_of_getElem? (i := 2) rfl)
theorem kfX7_cut_20 : Cond.fieldLink RX7 20 "ShapeJudgeModel" "names" "[I" ∈ wsX7_cut := (List.mem_of_getElem? (i := 3) rfl)
theorem kfX7_cut_23 : Cond.fieldLink RX7 23 "ShapeJudgeModel" "tos" "[I" ∈ wsX7_cut := (List.mem_of_getElem? (i := 4) rfl)
theorem kfX7_cut_148 : Cond.fieldLink RX7 148 "ShapeJudgeModel" "isRead" "Z" ∈ wsX7_cut := (List.mem_of_getElem? (i := 5) rfl)
def t_X7_cut_62 (a1 : Int32) (i14 : Int32) (m15 : Mem) : Option ((Int32 × Mem) ⊕ (Mem)) :=
  ck (zin a1 10 = true) ((if (m15 3 (Int32.toNatClampNeg a1)) ≤ i14 then (some (.inr m15)) else (ck (zin ((((5 : Int32) * a1) + i14) + 1) 50 = true) (ck (zin (((5 : Int32) * a1) + i14) 50 = true) (bn (sto m15 4 (Int32.toNatClampNeg (((5 : Int32) * a1) + i14)) (m15 4 (Int32.toNatClampNeg ((((5 : Int32) * a1) + i14) + 1)))) fun m19 => ck (zin ((((5 : Int32) * a1) + i14) + 1) 50 = true) (ck (zin (((5 : Int32) * a1) + i14) 50 = true) (bn (sto m19 5 (Int32.toNatClampNeg (((5 : Int32) * a1) + i14)) (m19 5 (Int32.toNatClampNeg ((((5 : Int32) * a1) + i14) + 1)))) fun m22 => bn (i14 + 1) fun x23 => some (.inl (x23, m22)))))))))
def l_X7_cut_62 (a1 : Int32) (n : Nat) (i14 : Int32) (m15 : Mem) : Option (Mem) := zlp n (fun a => t_X7_cut_62 a1 a.1 a.2) (i14, m15)
def s_X7_cut (m : Mem) (a1 : Int32) (a2 : Int32) (a3 : Int32) : Option (Int32 × Mem) :=
  (s_X7_isNode m a1).bind fun r2 => (if r2 = 0 then (some ((-1), m)) else ((s_X7_in (a2.toInt64) 0 9).bind fun r4 => (if r4 = 0 then (some ((-1), m)) else ((s_X7_isNode m a3).bind fun r6 => (if r6 = 0 then (some ((-1), m)) else ((s_X7_isThere m a1 a2 a3).bind fun r8 => (if r8 = 0 then (some ((-2), m)) else (ck (zin a1 10 = true) (ck (zin a1 10 = true) (bn (sto m 3 (Int32.toNatClampNeg a1) ((m 3 (Int32.toNatClampNeg a1)) - 1)) fun m11 => (s_X7_placeOf m11 a1 a2 a3).bind fun r13 => ((l_X7_cut_62 a1 FU r13 m11).bind fun m25 => bn (sto m25 0 6 0) fun m26 => (s_X7_edges m26).bind fun r28 => some (r28, m26))))))))))))
set_option maxRecDepth 100000 in
set_option maxHeartbeats 4000000 in
theorem w_X7_cut_62 {K : ZK} (C : zOK MM K cX7_cut 5 (some .int) RX7 wsX7_cut rmX7_cut) {a1 : Int32}  {o0 : Mem} (hk : zGo MM K o0 [(0, .ref ((zw K).2.1 0))] 127 []) : ∀ (n : Nat) (i14 : Int32) (m15 : Mem), l_X7_cut_62 a1 n i14 m15 = some o0 → zGo MM K m15 [(0, .ref ((zw K).2.1 0)), (1, .int a1), (4, .int i14)] 62 [] := by
  intro n
  induction n with
  | zero =>
    intro i14 m15 hf
    cases hf
  | succ n ih =>
    intro i14 m15 hf
    obtain ⟨z, hf, hz⟩ := zlp_el hf
    replace hf : t_X7_cut_62 a1 i14 m15 = some z := hf
    unfold t_X7_cut_62 at hf
    refine z_iload C 2 dX7_cut_62 rfl ?_
    refine z_aload_n C 0 dX7_cut_64 rfl rfl ?_
    refine z_getr C (t := 3) (Nat.le_of_ble_eq_true rfl) rfl rfl 3 (Nat.le_of_ble_eq_true rfl) rfl kiX7_cut_X7 kfX7_cut_17 dX7_cut_65 ?_
    refine z_iload_n C 1 dX7_cut_68 rfl rfl ?_
    obtain ⟨hi16, hf⟩ := ck_el hf
    refine z_iald C (k := 3) (Nat.le_of_ble_eq_true rfl) rfl hi16 dX7_cut_69 ?_
    refine z_icmp_ge (tgt := 127) C dX7_cut_70 (by decide) (fun c24 => ?_) (fun c24 => ?_)
    · replace hf := if_t c24 hf
      cases hf
      replace hz := zlz_r hz
      cases hz
      exact z_sub [0] rfl hk
    · replace hf := if_f c24 hf
      refine z_aload_n C 0 dX7_cut_73 rfl rfl ?_
      refine z_getr C (t := 4) (Nat.le_of_ble_eq_true rfl) rfl rfl 4 (Nat.le_of_ble_eq_true rfl) rfl kiX7_cut_X7 kfX7_cut_20 dX7_cut_74 ?_
      refine z_iconst C (v := 5) dX7_cut_77 rfl ?_
      refine z_iload_n C 1 dX7_cut_78 rfl rfl ?_
      refine z_imul C dX7_cut_79 ?_
      refine z_iload C 2 dX7_cut_80 rfl ?_
      refine z_iadd C dX7_cut_82 ?_
      refine z_aload_n C 0 dX7_cut_83 rfl rfl ?_
      refine z_getr C (t := 4) (Nat.le_of_ble_eq_true rfl) rfl rfl 4 (Nat.le_of_ble_eq_true rfl) rfl kiX7_cut_X7 kfX7_cut_20 dX7_cut_84 ?_
      refine z_iconst C (v := 5) dX7_cut_87 rfl ?_
      refine z_iload_n C 1 dX7_cut_88 rfl rfl ?_
      refine z_imul C dX7_cut_89 ?_
      refine z_iload C 2 dX7_cut_90 rfl ?_
      refine z_iadd C dX7_cut_92 ?_
      refine z_iconst C (v := 1) dX7_cut_93 rfl ?_
      refine z_iadd C dX7_cut_94 ?_
      obtain ⟨hi17, hf⟩ := ck_el hf
      refine z_iald C (k := 4) (Nat.le_of_ble_eq_true rfl) rfl hi17 dX7_cut_95 ?_
      obtain ⟨hi18, hf⟩ := ck_el hf
      refine z_iast C (k := 4) (Nat.le_of_ble_eq_true rfl) rfl hi18 dX7_cut_96 ?_
      refine z_nm (fun m19 e_m19 => ?_)
      replace hf := bn_to e_m19 hf
      refine z_aload_n C 0 dX7_cut_97 rfl rfl ?_
      refine z_getr C (t := 5) (Nat.le_of_ble_eq_true rfl) rfl rfl 5 (Nat.le_of_ble_eq_true rfl) rfl kiX7_cut_X7 kfX7_cut_23 dX7_cut_98 ?_
      refine z_iconst C (v := 5) dX7_cut_101 rfl ?_
      refine z_iload_n C 1 dX7_cut_102 rfl rfl ?_
      refine z_imul C dX7_cut_103 ?_
      refine z_iload C 2 dX7_cut_104 rfl ?_
      refine z_iadd C dX7_cut_106 ?_
      refine z_aload_n C 0 dX7_cut_107 rfl rfl ?_
      refine z_getr C (t := 5) (Nat.le_of_ble_eq_true rfl) rfl rfl 5 (Nat.le_of_ble_eq_true rfl) rfl kiX7_cut_X7 kfX7_cut_23 dX7_cut_108 ?_
      refine z_iconst C (v := 5) dX7_cut_111 rfl ?_
      refine z_iload_n C 1 dX7_cut_112 rfl rfl ?_
      refine z_imul C dX7_cut_113 ?_
      refine z_iload C 2 dX7_cut_114 rfl ?_
      refine z_iadd C dX7_cut_116 ?_
      refine z_iconst C (v := 1) dX7_cut_117 rfl ?_
      refine z_iadd C dX7_cut_118 ?_
      obtain ⟨hi20, hf⟩ := ck_el hf
      refine z_iald C (k := 5) (Nat.le_of_ble_eq_true rfl) rfl hi20 dX7_cut_119 ?_
      obtain ⟨hi21, hf⟩ := ck_el hf
      refine z_iast C (k := 5) (Nat.le_of_ble_eq_true rfl) rfl hi21 dX7_cut_120 ?_
      refine z_nm (fun m22 e_m22 => ?_)
      replace hf := bn_to e_m22 hf
      obtain ⟨x23, e_x23⟩ : ∃ y : Int32, y = i14 + 1 := ⟨_, rfl⟩
      replace hf := bn_to e_x23 hf
      refine z_iinc C (lv2 := [(0, .ref ((zw K).2.1 0)), (1, .int a1), (4, .int x23)]) 2 [1, 2, 0] dX7_cut_121 rfl rfl (Nat.le_of_ble_eq_true rfl) e_x23 rfl ?_
      refine z_goto (tgt := 62) C dX7_cut_124 (by decide) ?_
      cases hf
      exact z_sub [0, 1, 2] rfl (ih x23 m22 hz)
set_option maxRecDepth 100000 in
set_option maxHeartbeats 4000000 in
theorem c_X7_cut (l : Launch) (w : ZW) {m : Mem} {a1 : Int32} {a2 : Int32} {a3 : Int32} {r9 : Int32} {m9 : Mem}  (hf : s_X7_cut m a1 a2 a3 = some (r9, m9)) : zCi MM l w yX7_cut wsX7_cut rmX7_cut [.ref (w.2.1 0), .int a1, .int a2, .int a3] m m9 r9 := by
  refine z_met_i MM_ok (own := RX7) (by decide +kernel) rfl rfl (Nat.le_of_ble_eq_true rfl) ?_
  intro K C hKw hKl hret
  subst hKw
  subst hKl
  unfold s_X7_cut at hf
  show zGo MM K m [(0, .ref ((zw K).2.1 0)), (1, .int a1), (2, .int a2), (3, .int a3)] 0 []
  refine z_aload_n C 0 dX7_cut_0 rfl rfl ?_
  refine z_iload_n C 1 dX7_cut_1 rfl rfl ?_
  obtain ⟨r2, hc1, hf⟩ := zb_el hf
  refine z_cVi C (c_X7_isNode _ _ hc1) rfl gX7_cut_X7_isNode rfl rfl zdX7_isNode rfl (Nat.le_of_ble_eq_true rfl) rfl rfl rfl ⟨Nat.le_of_ble_eq_true rfl, Nat.le_of_ble_eq_true rfl⟩ (Nat.le_of_ble_eq_true rfl) dX7_cut_2 rfl ?_
  refine z_if_eq (tgt := 28) C dX7_cut_5 (by decide) (fun c32 => ?_) (fun c32 => ?_)
  · replace hf := if_t c32 hf
    refine z_iconst C (v := (-1)) dX7_cut_28 (by decide) ?_
    obtain ⟨e1, e2⟩ := sp_el hf
    subst e1
    subst e2
    exact hret _ _ dX7_cut_29
  · replace hf := if_f c32 hf
    refine z_iload_n C 2 dX7_cut_8 rfl rfl ?_
    refine z_i2l C dX7_cut_9 ?_
    refine z_lconst C (v := 0) dX7_cut_10 rfl ?_
    refine z_ldc2 C (v := 9) dX7_cut_11 kcX7_cut_160 ?_
    obtain ⟨r4, hc3, hf⟩ := zb_el hf
    refine z_cSi C (c_X7_in _ _ hc3) rfl gX7_cut_X7_in rfl rfl zdX7_in.2 rfl ⟨Nat.le_of_ble_eq_true rfl, Nat.le_of_ble_eq_true rfl⟩ (Nat.le_of_ble_eq_true rfl) dX7_cut_14 rfl ?_
    refine z_if_eq (tgt := 28) C dX7_cut_17 (by decide) (fun c31 => ?_) (fun c31 => ?_)
    · replace hf := if_t c31 hf
      refine z_iconst C (v := (-1)) dX7_cut_28 (by decide) ?_
      obtain ⟨e1, e2⟩ := sp_el hf
      subst e1
      subst e2
      exact hret _ _ dX7_cut_29
    · replace hf := if_f c31 hf
      refine z_aload_n C 0 dX7_cut_20 rfl rfl ?_
      refine z_iload_n C 3 dX7_cut_21 rfl rfl ?_
      obtain ⟨r6, hc5, hf⟩ := zb_el hf
      refine z_cVi C (c_X7_isNode _ _ hc5) rfl gX7_cut_X7_isNode rfl rfl zdX7_isNode rfl (Nat.le_of_ble_eq_true rfl) rfl rfl rfl ⟨Nat.le_of_ble_eq_true rfl, Nat.le_of_ble_eq_true rfl⟩ (Nat.le_of_ble_eq_true rfl) dX7_cut_22 rfl ?_
      refine z_if_ne (tgt := 30) C dX7_cut_25 (by decide) (fun c30 => ?_) (fun c30 => ?_)
      · replace hf := if_f c30 hf
        refine z_aload_n C 0 dX7_cut_30 rfl rfl ?_
        refine z_iload_n C 1 dX7_cut_31 rfl rfl ?_
        refine z_iload_n C 2 dX7_cut_32 rfl rfl ?_
        refine z_iload_n C 3 dX7_cut_33 rfl rfl ?_
        obtain ⟨r8, hc7, hf⟩ := zb_el hf
        refine z_cVi C (c_X7_isThere _ _ hc7) rfl gX7_cut_X7_isThere rfl rfl zdX7_isThere rfl (Nat.le_of_ble_eq_true rfl) rfl rfl rfl ⟨Nat.le_of_ble_eq_true rfl, Nat.le_of_ble_eq_true rfl⟩ (Nat.le_of_ble_eq_true rfl) dX7_cut_34 rfl ?_
        refine z_if_ne (tgt := 43) C dX7_cut_37 (by decide) (fun c29 => ?_) (fun c29 => ?_)
        · replace hf := if_f c29 hf
          refine z_aload_n C 0 dX7_cut_43 rfl rfl ?_
          refine z_getr C (t := 3) (Nat.le_of_ble_eq_true rfl) rfl rfl 3 (Nat.le_of_ble_eq_true rfl) rfl kiX7_cut_X7 kfX7_cut_17 dX7_cut_44 ?_
          refine z_iload_n C 1 dX7_cut_47 rfl rfl ?_
          refine z_dup2 C dX7_cut_48 ?_
          obtain ⟨hi9, hf⟩ := ck_el hf
          refine z_iald C (k := 3) (Nat.le_of_ble_eq_true rfl) rfl hi9 dX7_cut_49 ?_
          refine z_iconst C (v := 1) dX7_cut_50 rfl ?_
          refine z_isub C dX7_cut_51 ?_
          obtain ⟨hi10, hf⟩ := ck_el hf
          refine z_iast C (k := 3) (Nat.le_of_ble_eq_true rfl) rfl hi10 dX7_cut_52 ?_
          refine z_nm (fun m11 e_m11 => ?_)
          replace hf := bn_to e_m11 hf
          refine z_aload_n C 0 dX7_cut_53 rfl rfl ?_
          refine z_iload_n C 1 dX7_cut_54 rfl rfl ?_
          refine z_iload_n C 2 dX7_cut_55 rfl rfl ?_
          refine z_iload_n C 3 dX7_cut_56 rfl rfl ?_
          obtain ⟨r13, hc12, hf⟩ := zb_el hf
          refine z_cVi C (c_X7_placeOf _ _ hc12) rfl gX7_cut_X7_placeOf rfl rfl zdX7_placeOf rfl (Nat.le_of_ble_eq_true rfl) rfl rfl rfl ⟨Nat.le_of_ble_eq_true rfl, Nat.le_of_ble_eq_true rfl⟩ (Nat.le_of_ble_eq_true rfl) dX7_cut_57 rfl ?_
          refine z_istore C (lv2 := [(0, .ref ((zw K).2.1 0)), (1, .int a1), (2, .int a2), (3, .int a3), (4, .int r13)]) [1, 2, 3, 4, 0] dX7_cut_60 (Nat.le_of_ble_eq_true rfl) rfl ?_
          obtain ⟨m25, hg, hf⟩ := zb_el hf
          refine z_sub [0, 1, 4] rfl (w_X7_cut_62 C  ?_ _ _ _ hg)
          clear hg
          refine z_aload_n C 0 dX7_cut_127 rfl rfl ?_
          refine z_iconst C (v := 0) dX7_cut_128 rfl ?_
          refine z_putz C (Nat.le_of_ble_eq_true rfl) rfl rfl 6 (Nat.le_of_ble_eq_true rfl) rfl kiX7_cut_X7 kfX7_cut_148 tyX7 tyX7_ok nmX7 rfl rfl (Or.inl rfl) dX7_cut_129 ?_
          refine z_nm (fun m26 e_m26 => ?_)
          replace hf := bn_to e_m26 hf
          refine z_aload_n C 0 dX7_cut_132 rfl rfl ?_
          obtain ⟨r28, hc27, hf⟩ := zb_el hf
          refine z_cVi C (c_X7_edges _ _ hc27) rfl gX7_cut_X7_edges rfl rfl zdX7_edges rfl (Nat.le_of_ble_eq_true rfl) rfl rfl rfl ⟨Nat.le_of_ble_eq_true rfl, Nat.le_of_ble_eq_true rfl⟩ (Nat.le_of_ble_eq_true rfl) dX7_cut_133 rfl ?_
          obtain ⟨e1, e2⟩ := sp_el hf
          subst e1
          subst e2
          exact hret _ _ dX7_cut_136
        · replace hf := if_t c29 hf
          refine z_bipush C (v := (-2)) dX7_cut_40 (by decide) ?_
          obtain ⟨e1, e2⟩ := sp_el hf
          subst e1
          subst e2
          exact hret _ _ dX7_cut_42
      · replace hf := if_t c30 hf
        refine z_iconst C (v := (-1)) dX7_cut_28 (by decide) ?_
        obtain ⟨e1, e2⟩ := sp_el hf
        subst e1
        subst e2
        exact hret _ _ dX7_cut_29
set_option maxRecDepth 20000 in
theorem ggX7_dealt_X7_areBoth : GoodIn wsX7_dealt wsX7_areBoth := goodIn_sub (List.forall_mem_cons.mpr ⟨(List.mem_of_getElem? (i := 9) rfl), (List.forall_mem_append.mpr ⟨(List.forall_mem_cons.mpr ⟨(List.mem_of_getElem? (i := 10) rfl), (List.forall_mem_cons.mpr ⟨(List.mem_of_getElem? (i := 11) rfl), (List.forall_mem_cons.mpr ⟨(List.mem_of_getElem? (i := 12) rfl), (List.forall_mem_cons.mpr ⟨(List.mem_of_getElem? (i := 8) rfl), (List.forall_mem_cons.mpr ⟨(List.mem_of_getElem? (i := 13) rfl), (List.forall_mem_cons.mpr ⟨(List.mem_of_getElem? (i := 14) rfl), (List.forall_mem_cons.mpr ⟨(List.mem_of_getElem? (i := 15) rfl), (List.forall_mem_cons.mpr ⟨(List.mem_of_getElem? (i := 16) rfl), (List.forall_mem_cons.mpr ⟨(List.mem_of_getElem? (i := 17) rfl), (List.forall_mem_cons.mpr ⟨(List.mem_of_getElem? (i := 18) rfl), (List.forall_mem_cons.mpr ⟨(List.mem_of_getElem? (i := 19) rfl), (List.forall_mem_cons.mpr ⟨(List.mem_of_getElem? (i := 20) rfl), (List.forall_mem_cons.mpr ⟨(List.mem_of_getElem? (i := 21) rfl), (List.forall_mem_cons.mpr ⟨(List.mem_of_getElem? (i := 22) rfl), (fun _ h => absurd h List.not_mem_nil)⟩)⟩)⟩)⟩)⟩)⟩)⟩)⟩)⟩)⟩)⟩)⟩)⟩)⟩), (fun _ h => (List.mem_cons_of_mem _ (List.mem_append_right _ h)))⟩)⟩) (by decide +kernel)
set_option maxRecDepth 20000 in
theorem gX7_dealt_X7_areBoth : GoodIn wsX7_dealt (wsV RX7 312 RX7 yX7_areBoth wsX7_areBoth) := goodIn_app (goodIn_sub (List.forall_mem_cons.mpr ⟨(List.mem_of_getElem? (i := 5) rfl), (List.forall_mem_cons.mpr ⟨(List.mem_of_getElem? (i := 6) rfl), (List.forall_mem_cons.mpr ⟨(List.mem_of_getElem? (i := 7) rfl), (List.forall_mem_cons.mpr ⟨(List.mem_of_getElem? (i := 8) rfl), (fun _ h => absurd h List.not_mem_nil)⟩)⟩)⟩)⟩) (by decide +kernel)) ggX7_dealt_X7_areBoth
set_option maxRecDepth 20000 in
theorem ggX7_dealt_X7_in : GoodIn wsX7_dealt wsX7_in := goodIn_sub (List.forall_mem_cons.mpr ⟨(List.mem_of_getElem? (i := 17) rfl), (fun _ h => absurd h List.not_mem_nil)⟩) (by decide +kernel)
set_option maxRecDepth 20000 in
theorem gX7_dealt_X7_in : GoodIn wsX7_dealt (va_wsS RX7 144 yX7_in wsX7_in) := goodIn_app (goodIn_sub (List.forall_mem_cons.mpr ⟨(List.mem_of_getElem? (i := 15) rfl), (List.forall_mem_cons.mpr ⟨(List.mem_of_getElem? (i := 16) rfl), (List.forall_mem_cons.mpr ⟨(List.mem_of_getElem? (i := 8) rfl), (fun _ h => absurd h List.not_mem_nil)⟩)⟩)⟩) (by decide +kernel)) ggX7_dealt_X7_in
set_option maxRecDepth 20000 in
theorem ggX7_dealt_X7_read : GoodIn wsX7_dealt wsX7_read := goodIn_sub (List.forall_mem_cons.mpr ⟨(List.mem_of_getElem? (i := 26) rfl), (List.forall_mem_append.mpr ⟨(List.forall_mem_append.mpr ⟨(show ∀ w ∈ wsX7_read_r1, w ∈ wsX7_dealt from (List.forall_mem_cons.mpr ⟨(List.mem_of_getElem? (i := 27) rfl), (List.forall_mem_cons.mpr ⟨(List.mem_of_getElem? (i := 2) rfl), (List.forall_mem_cons.mpr ⟨(List.mem_of_getElem? (i := 28) rfl), (List.forall_mem_cons.mpr ⟨(List.mem_of_getElem? (i := 29) rfl), (List.forall_mem_cons.mpr ⟨(List.mem_of_getElem? (i := 30) rfl), (List.forall_mem_cons.mpr ⟨(List.mem_of_getElem? (i := 31) rfl), (List.forall_mem_cons.mpr ⟨(List.mem_of_getElem? (i := 8) rfl), (List.forall_mem_cons.mpr ⟨(List.mem_of_getElem? (i := 32) rfl), (List.forall_mem_cons.mpr ⟨(List.mem_of_getElem? (i := 4) rfl), (List.forall_mem_cons.mpr ⟨(List.mem_of_getElem? (i := 33) rfl), (List.forall_mem_cons.mpr ⟨(List.mem_of_getElem? (i := 34) rfl), (List.forall_mem_cons.mpr ⟨(List.mem_of_getElem? (i := 35) rfl), (List.forall_mem_cons.mpr ⟨(List.mem_of_getElem? (i := 36) rfl), (List.forall_mem_cons.mpr ⟨(List.mem_of_getElem? (i := 22) rfl), (List.forall_mem_cons.mpr ⟨(List.mem_of_getElem? (i := 37) rfl), (List.forall_mem_cons.mpr ⟨(List.mem_of_getElem? (i := 38) rfl), (List.forall_mem_cons.mpr ⟨(List.mem_of_getElem? (i := 39) rfl), (List.forall_mem_cons.mpr ⟨(List.mem_of_getElem? (i := 40) rfl), (List.forall_mem_cons.mpr ⟨(List.mem_of_getElem? (i := 41) rfl), (List.forall_mem_cons.mpr ⟨(List.mem_of_getElem? (i := 42) rfl), (List.forall_mem_cons.mpr ⟨(List.mem_of_getElem? (i := 43) rfl), (List.forall_mem_cons.mpr ⟨(List.mem_of_getElem? (i := 44) rfl), (List.forall_mem_cons.mpr ⟨(List.mem_of_getElem? (i := 14) rfl), (List.forall_mem_cons.mpr ⟨(List.mem_of_getElem? (i := 45) rfl), (fun _ h => absurd h List.not_mem_nil)⟩)⟩)⟩)⟩)⟩)⟩)⟩)⟩)⟩)⟩)⟩)⟩)⟩)⟩)⟩)⟩)⟩)⟩)⟩)⟩)⟩)⟩)⟩)⟩)), (List.forall_mem_append.mpr ⟨(show ∀ w ∈ wsX7_read_r2, w ∈ wsX7_dealt from (List.forall_mem_cons.mpr ⟨(List.mem_of_getElem? (i := 46) rfl), (List.forall_mem_cons.mpr ⟨(List.mem_of_getElem? (i := 47) rfl), (List.forall_mem_cons.mpr ⟨(List.mem_of_getElem? (i := 48) rfl), (List.forall_mem_cons.mpr ⟨(List.mem_of_getElem? (i := 49) rfl), (List.forall_mem_cons.mpr ⟨(List.mem_of_getElem? (i := 1) rfl), (List.forall_mem_cons.mpr ⟨(List.mem_of_getElem? (i := 50) rfl), (List.forall_mem_cons.mpr ⟨(List.mem_of_getElem? (i := 51) rfl), (List.forall_mem_cons.mpr ⟨(List.mem_of_getElem? (i := 52) rfl), (List.forall_mem_cons.mpr ⟨(List.mem_of_getElem? (i := 53) rfl), (List.forall_mem_cons.mpr ⟨(List.mem_of_getElem? (i := 3) rfl), (List.forall_mem_cons.mpr ⟨(List.mem_of_getElem? (i := 54) rfl), (List.forall_mem_cons.mpr ⟨(List.mem_of_getElem? (i := 55) rfl), (List.forall_mem_cons.mpr ⟨(List.mem_of_getElem? (i := 56) rfl), (List.forall_mem_cons.mpr ⟨(List.mem_of_getElem? (i := 57) rfl), (List.forall_mem_cons.mpr ⟨(List.mem_of_getElem? (i := 58) rfl), (List.forall_mem_cons.mpr ⟨(List.mem_of_getElem? (i := 59) rfl), (List.forall_mem_cons.mpr ⟨(List.mem_of_getElem? (i := 60) rfl), (List.forall_mem_cons.mpr ⟨(List.mem_of_getElem? (i := 61) rfl), (List.forall_mem_cons.mpr ⟨(List.mem_of_getElem? (i := 62) rfl), (List.forall_mem_cons.mpr ⟨(List.mem_of_getElem? (i := 63) rfl), (List.forall_mem_cons.mpr ⟨(List.mem_of_getElem? (i := 64) rfl), (List.forall_mem_cons.mpr ⟨(List.mem_of_getElem? (i := 65) rfl), (List.forall_mem_cons.mpr ⟨(List.mem_of_getElem? (i := 66) rfl), (List.forall_mem_cons.mpr ⟨(List.mem_of_getElem? (i := 67) rfl), (fun _ h => absurd h List.not_mem_nil)⟩)⟩)⟩)⟩)⟩)⟩)⟩)⟩)⟩)⟩)⟩)⟩)⟩)⟩)⟩)⟩)⟩)⟩)⟩)⟩)⟩)⟩)⟩)⟩)), (show ∀ w ∈ wsX7_read_r3, w ∈ wsX7_dealt from (List.forall_mem_cons.mpr ⟨(List.mem_of_getElem? (i := 68) rfl), (List.forall_mem_cons.mpr ⟨(List.mem_of_getElem? (i := 69) rfl), (List.forall_mem_cons.mpr ⟨(List.mem_of_getElem? (i := 70) rfl), (List.forall_mem_cons.mpr ⟨(List.mem_of_getElem? (i := 71) rfl), (List.forall_mem_cons.mpr ⟨(List.mem_of_getElem? (i := 72) rfl), (List.forall_mem_cons.mpr ⟨(List.mem_of_getElem? (i := 73) rfl), (List.forall_mem_cons.mpr ⟨(List.mem_of_getElem? (i := 74) rfl), (List.forall_mem_cons.mpr ⟨(List.mem_of_getElem? (i := 75) rfl), (List.forall_mem_cons.mpr ⟨(List.mem_of_getElem? (i := 76) rfl), (List.forall_mem_cons.mpr ⟨(List.mem_of_getElem? (i := 77) rfl), (List.forall_mem_cons.mpr ⟨(List.mem_of_getElem? (i := 15) rfl), (List.forall_mem_cons.mpr ⟨(List.mem_of_getElem? (i := 16) rfl), (List.forall_mem_cons.mpr ⟨(List.mem_of_getElem? (i := 17) rfl), (List.forall_mem_cons.mpr ⟨(List.mem_of_getElem? (i := 78) rfl), (List.forall_mem_cons.mpr ⟨(List.mem_of_getElem? (i := 79) rfl), (List.forall_mem_cons.mpr ⟨(List.mem_of_getElem? (i := 80) rfl), (List.forall_mem_cons.mpr ⟨(List.mem_of_getElem? (i := 81) rfl), (List.forall_mem_cons.mpr ⟨(List.mem_of_getElem? (i := 82) rfl), (List.forall_mem_cons.mpr ⟨(List.mem_of_getElem? (i := 83) rfl), (List.forall_mem_cons.mpr ⟨(List.mem_of_getElem? (i := 84) rfl), (fun _ h => absurd h List.not_mem_nil)⟩)⟩)⟩)⟩)⟩)⟩)⟩)⟩)⟩)⟩)⟩)⟩)⟩)⟩)⟩)⟩)⟩)⟩)⟩)⟩))⟩)⟩), (fun _ h => (List.mem_cons_of_mem _ (List.mem_append_right _ h)))⟩)⟩) (by decide +kernel)
set_option maxRecDepth 20000 in
theorem gX7_dealt_X7_read : GoodIn wsX7_dealt (wsV RX7 315 RX7 yX7_read wsX7_read) := goodIn_app (goodIn_sub (List.forall_mem_cons.mpr ⟨(List.mem_of_getElem? (i := 23) rfl), (List.forall_mem_cons.mpr ⟨(List.mem_of_getElem? (i := 24) rfl), (List.forall_mem_cons.mpr ⟨(List.mem_of_getElem? (i := 25) rfl), (List.forall_mem_cons.mpr ⟨(List.mem_of_getElem? (i := 8) rfl), (fun _ h => absurd h List.not_mem_nil)⟩)⟩)⟩)⟩) (by decide +kernel)) ggX7_dealt_X7_read
set_option maxRecDepth 20000 in
theorem ggX7_dealt_X7_isWanted : GoodIn wsX7_dealt wsX7_isWanted := goodIn_sub (List.forall_mem_cons.mpr ⟨(List.mem_of_getElem? (i := 57) rfl), (List.forall_mem_append.mpr ⟨(List.forall_mem_cons.mpr ⟨(List.mem_of_getElem? (i := 38) rfl), (List.forall_mem_cons.mpr ⟨(List.mem_of_getElem? (i := 58) rfl), (fun _ h => absurd h List.not_mem_nil)⟩)⟩), (fun _ h => (List.mem_cons_of_mem _ (List.mem_append_right _ h)))⟩)⟩) (by decide +kernel)
set_option maxRecDepth 20000 in
theorem gX7_dealt_X7_isWanted : GoodIn wsX7_dealt (wsV RX7 284 RX7 yX7_isWanted wsX7_isWanted) := goodIn_app (goodIn_sub (List.forall_mem_cons.mpr ⟨(List.mem_of_getElem? (i := 54) rfl), (List.forall_mem_cons.mpr ⟨(List.mem_of_getElem? (i := 55) rfl), (List.forall_mem_cons.mpr ⟨(List.mem_of_getElem? (i := 56) rfl), (List.forall_mem_cons.mpr ⟨(List.mem_of_getElem? (i := 8) rfl), (fun _ h => absurd h List.not_mem_nil)⟩)⟩)⟩)⟩) (by decide +kernel)) ggX7_dealt_X7_isWanted
set_option maxRecDepth 20000 in
theorem ggX7_dealt_X7_free : GoodIn wsX7_dealt wsX7_free := goodIn_sub (List.forall_mem_cons.mpr ⟨(List.mem_of_getElem? (i := 32) rfl), (List.forall_mem_append.mpr ⟨(List.forall_mem_cons.mpr ⟨(List.mem_of_getElem? (i := 4) rfl), (fun _ h => absurd h List.not_mem_nil)⟩), (fun _ h => (List.mem_cons_of_mem _ (List.mem_append_right _ h)))⟩)⟩) (by decide +kernel)
set_option maxRecDepth 20000 in
theorem gX7_dealt_X7_free : GoodIn wsX7_dealt (wsV RX7 299 RX7 yX7_free wsX7_free) := goodIn_app (goodIn_sub (List.forall_mem_cons.mpr ⟨(List.mem_of_getElem? (i := 29) rfl), (List.forall_mem_cons.mpr ⟨(List.mem_of_getElem? (i := 30) rfl), (List.forall_mem_cons.mpr ⟨(List.mem_of_getElem? (i := 31) rfl), (List.forall_mem_cons.mpr ⟨(List.mem_of_getElem? (i := 8) rfl), (fun _ h => absurd h List.not_mem_nil)⟩)⟩)⟩)⟩) (by decide +kernel)) ggX7_dealt_X7_free
set_option maxRecDepth 20000 in
theorem ggX7_dealt_X7_can : GoodIn wsX7_dealt wsX7_can := goodIn_sub (List.forall_mem_cons.mpr ⟨(List.mem_of_getElem? (i := 48) rfl), (List.forall_mem_append.mpr ⟨(List.forall_mem_append.mpr ⟨(show ∀ w ∈ wsX7_can_r1, w ∈ wsX7_dealt from (List.forall_mem_cons.mpr ⟨(List.mem_of_getElem? (i := 49) rfl), (List.forall_mem_cons.mpr ⟨(List.mem_of_getElem? (i := 1) rfl), (List.forall_mem_cons.mpr ⟨(List.mem_of_getElem? (i := 50) rfl), (List.forall_mem_cons.mpr ⟨(List.mem_of_getElem? (i := 51) rfl), (List.forall_mem_cons.mpr ⟨(List.mem_of_getElem? (i := 52) rfl), (List.forall_mem_cons.mpr ⟨(List.mem_of_getElem? (i := 8) rfl), (List.forall_mem_cons.mpr ⟨(List.mem_of_getElem? (i := 53) rfl), (List.forall_mem_cons.mpr ⟨(List.mem_of_getElem? (i := 3) rfl), (List.forall_mem_cons.mpr ⟨(List.mem_of_getElem? (i := 54) rfl), (List.forall_mem_cons.mpr ⟨(List.mem_of_getElem? (i := 55) rfl), (List.forall_mem_cons.mpr ⟨(List.mem_of_getElem? (i := 56) rfl), (List.forall_mem_cons.mpr ⟨(List.mem_of_getElem? (i := 57) rfl), (List.forall_mem_cons.mpr ⟨(List.mem_of_getElem? (i := 38) rfl), (List.forall_mem_cons.mpr ⟨(List.mem_of_getElem? (i := 58) rfl), (List.forall_mem_cons.mpr ⟨(List.mem_of_getElem? (i := 59) rfl), (List.forall_mem_cons.mpr ⟨(List.mem_of_getElem? (i := 60) rfl), (List.forall_mem_cons.mpr ⟨(List.mem_of_getElem? (i := 61) rfl), (List.forall_mem_cons.mpr ⟨(List.mem_of_getElem? (i := 62) rfl), (List.forall_mem_cons.mpr ⟨(List.mem_of_getElem? (i := 63) rfl), (List.forall_mem_cons.mpr ⟨(List.mem_of_getElem? (i := 64) rfl), (List.forall_mem_cons.mpr ⟨(List.mem_of_getElem? (i := 65) rfl), (List.forall_mem_cons.mpr ⟨(List.mem_of_getElem? (i := 66) rfl), (List.forall_mem_cons.mpr ⟨(List.mem_of_getElem? (i := 67) rfl), (List.forall_mem_cons.mpr ⟨(List.mem_of_getElem? (i := 4) rfl), (fun _ h => absurd h List.not_mem_nil)⟩)⟩)⟩)⟩)⟩)⟩)⟩)⟩)⟩)⟩)⟩)⟩)⟩)⟩)⟩)⟩)⟩)⟩)⟩)⟩)⟩)⟩)⟩)⟩)), (show ∀ w ∈ wsX7_can_r2, w ∈ wsX7_dealt from (List.forall_mem_cons.mpr ⟨(List.mem_of_getElem? (i := 68) rfl), (List.forall_mem_cons.mpr ⟨(List.mem_of_getElem? (i := 69) rfl), (List.forall_mem_cons.mpr ⟨(List.mem_of_getElem? (i := 70) rfl), (List.forall_mem_cons.mpr ⟨(List.mem_of_getElem? (i := 71) rfl), (List.forall_mem_cons.mpr ⟨(List.mem_of_getElem? (i := 72) rfl), (List.forall_mem_cons.mpr ⟨(List.mem_of_getElem? (i := 73) rfl), (List.forall_mem_cons.mpr ⟨(List.mem_of_getElem? (i := 74) rfl), (List.forall_mem_cons.mpr ⟨(List.mem_of_getElem? (i := 39) rfl), (List.forall_mem_cons.mpr ⟨(List.mem_of_getElem? (i := 28) rfl), (List.forall_mem_cons.mpr ⟨(List.mem_of_getElem? (i := 40) rfl), (List.forall_mem_cons.mpr ⟨(List.mem_of_getElem? (i := 2) rfl), (List.forall_mem_cons.mpr ⟨(List.mem_of_getElem? (i := 75) rfl), (List.forall_mem_cons.mpr ⟨(List.mem_of_getElem? (i := 76) rfl), (List.forall_mem_cons.mpr ⟨(List.mem_of_getElem? (i := 77) rfl), (List.forall_mem_cons.mpr ⟨(List.mem_of_getElem? (i := 15) rfl), (List.forall_mem_cons.mpr ⟨(List.mem_of_getElem? (i := 16) rfl), (List.forall_mem_cons.mpr ⟨(List.mem_of_getElem? (i := 17) rfl), (List.forall_mem_cons.mpr ⟨(List.mem_of_getElem? (i := 78) rfl), (List.forall_mem_cons.mpr ⟨(List.mem_of_getElem? (i := 79) rfl), (List.forall_mem_cons.mpr ⟨(List.mem_of_getElem? (i := 80) rfl), (List.forall_mem_cons.mpr ⟨(List.mem_of_getElem? (i := 81) rfl), (List.forall_mem_cons.mpr ⟨(List.mem_of_getElem? (i := 82) rfl), (List.forall_mem_cons.mpr ⟨(List.mem_of_getElem? (i := 83) rfl), (List.forall_mem_cons.mpr ⟨(List.mem_of_getElem? (i := 84) rfl), (fun _ h => absurd h List.not_mem_nil)⟩)⟩)⟩)⟩)⟩)⟩)⟩)⟩)⟩)⟩)⟩)⟩)⟩)⟩)⟩)⟩)⟩)⟩)⟩)⟩)⟩)⟩)⟩)⟩))⟩), (fun _ h => (List.mem_cons_of_mem _ (List.mem_append_right _ h)))⟩)⟩) (by decide +kernel)
set_option maxRecDepth 20000 in
theorem gX7_dealt_X7_can : GoodIn wsX7_dealt (wsV RX7 295 RX7 yX7_can wsX7_can) := goodIn_app (goodIn_sub (List.forall_mem_cons.mpr ⟨(List.mem_of_getElem? (i := 45) rfl), (List.forall_mem_cons.mpr ⟨(List.mem_of_getElem? (i := 46) rfl), (List.forall_mem_cons.mpr ⟨(List.mem_of_getElem? (i := 47) rfl), (List.forall_mem_cons.mpr ⟨(List.mem_of_getElem? (i := 8) rfl), (fun _ h => absurd h List.not_mem_nil)⟩)⟩)⟩)⟩) (by decide +kernel)) ggX7_dealt_X7_can
set_option maxRecDepth 100000 in
theorem daX7_dealt : ∀ q ∈ ([(0, .aload_n 0, 1), (1, .iload_n 1, 1), (2, .iload_n 2, 1), (3, .invokevirtual 312, 3), (6, .ifCond .eq 21, 3), (9, .iload_n 3, 1), (10, .i2l, 1), (11, .lconst 0, 1), (12, .aload_n 0, 1), (13, .getfield 17, 3), (16, .iload_n 1, 1), (17, .iaload, 1), (18, .iconst 1, 1), (19, .isub, 1), (20, .i2l, 1), (21, .invokestatic 144, 3), (24, .ifCond .ne 5, 3), (27, .iconst (-1), 1), (28, .ireturn, 1), (29, .aload_n 0, 1), (30, .invokevirtual 315, 3), (33, .aload_n 0, 1), (34, .getfield 119, 3), (37, .bipush 10, 2), (39, .iload_n 2, 1), (40, .imul, 1), (41, .iload_n 1, 1), (42, .iadd, 1), (43, .baload, 1), (44, .ifCond .ne 6, 3), (47, .bipush (-2), 2), (49, .ireturn, 1), (50, .aload_n 0, 1), (51, .iload_n 2, 1), (52, .aload_n 0, 1), (53, .getfield 20, 3), (56, .iconst 5, 1), (57, .iload_n 1, 1), (58, .imul, 1), (59, .iload_n 3, 1), (60, .iadd, 1), (61, .iaload, 1), (62, .invokevirtual 284, 3), (65, .ifCond .ne 6, 3), (68, .bipush (-4), 2), (70, .ireturn, 1), (71, .aload_n 0, 1), (72, .invokevirtual 299, 3), (75, .iconst 0, 1), (76, .istore 4, 2), (78, .iload 4, 2), (80, .iload_n 3, 1), (81, .if_icmp .gt 63, 3), (84, .aload_n 0, 1), (85, .iload_n 2, 1), (86, .aload_n 0, 1), (87, .getfield 20, 3), (90, .iconst 5, 1), (91, .iload_n 1, 1), (92, .imul, 1), (93, .iload 4, 2), (95, .iadd, 1), (96, .iaload, 1), (97, .invokevirtual 284, 3), (100, .ifCond .eq 38, 3), (103, .aload_n 0, 1), (104, .getfield 125, 3), (107, .iload 4, 2), (109, .bipush 6, 2), (111, .iload_n 2, 1), (112, .imul, 1), (113, .iastore, 1), (114, .aload_n 0, 1), (115, .iload_n 2, 1), (116, .iload_n 1, 1), (117, .iconst 0, 1), (118, .invokevirtual 295, 3), (121, .ifCond .ne 17, 3), (124, .aload_n 0, 1), (125, .getfield 125, 3), (128, .iload 4, 2), (130, .dup2, 1), (131, .iaload, 1), (132, .iconst 1, 1), (133, .iadd, 1), (134, .iastore, 1), (135, .goto (-21), 3), (138, .iinc 4 1, 3), (141, .goto (-63), 3), (144, .aload_n 0, 1), (145, .getfield 125, 3), (148, .iload_n 3, 1), (149, .iaload, 1), (150, .bipush 6, 2), (152, .iload_n 2, 1), (153, .imul, 1), (154, .isub, 1), (155, .istore 4, 2), (157, .aload_n 0, 1), (158, .invokevirtual 299, 3), (161, .iload 4, 2), (163, .ireturn, 1)] : List (Nat × Instr × Nat)), decode cX7_dealt q.1 = .ok q.2 := by decide +kernel
theorem dX7_dealt_0 : decode cX7_dealt 0 = .ok (.aload_n 0, 1) := daX7_dealt (0, .aload_n 0, 1) (List.mem_of_getElem? (i := 0) rfl)
theorem dX7_dealt_1 : decode cX7_dealt 1 = .ok (.iload_n 1, 1) := daX7_dealt (1, .iload_n 1, 1) (List.mem_of_getElem? (i := 1) rfl)
theorem dX7_dealt_2 : decode cX7_dealt 2 = .ok (.iload_n 2, 1) := daX7_dealt (2, .iload_n 2, 1) (List.mem_of_getElem? (i := 2) rfl)
theorem dX7_dealt_3 : decode cX7_dealt 3 = .ok (.invokevirtual 312, 3) := daX7_dealt (3, .invokevirtual 312, 3) (List.mem_of_getElem? (i := 3) rfl)
theorem dX7_dealt_6 : decode cX7_dealt 6 = .ok (.ifCond .eq 21, 3) := daX7_dealt (6, .ifCond .eq 21, 3) (List.mem_of_getElem? (i := 4) rfl)
theorem dX7_dealt_9 : decode cX7_dealt 9 = .ok (.iload_n 3, 1) := daX7_dealt (9, .iload_n 3, 1) (List.mem_of_getElem? (i := 5) rfl)
theorem dX7_dealt_10 : decode cX7_dealt 10 = .ok (.i2l, 1) := daX7_dealt (10, .i2l, 1) (List.mem_of_getElem? (i := 6) rfl)
theorem dX7_dealt_11 : decode cX7_dealt 11 = .ok (.lconst 0, 1) := daX7_dealt (11, .lconst 0, 1) (List.mem_of_getElem? (i := 7) rfl)
theorem dX7_dealt_12 : decode cX7_dealt 12 = .ok (.aload_n 0, 1) := daX7_dealt (12, .aload_n 0, 1) (List.mem_of_getElem? (i := 8) rfl)
theorem dX7_dealt_13 : decode cX7_dealt 13 = .ok (.getfield 17, 3) := daX7_dealt (13, .getfield 17, 3) (List.mem_of_getElem? (i := 9) rfl)
theorem dX7_dealt_16 : decode cX7_dealt 16 = .ok (.iload_n 1, 1) := daX7_dealt (16, .iload_n 1, 1) (List.mem_of_getElem? (i := 10) rfl)
theorem dX7_dealt_17 : decode cX7_dealt 17 = .ok (.iaload, 1) := daX7_dealt (17, .iaload, 1) (List.mem_of_getElem? (i := 11) rfl)
theorem dX7_dealt_18 : decode cX7_dealt 18 = .ok (.iconst 1, 1) := daX7_dealt (18, .iconst 1, 1) (List.mem_of_getElem? (i := 12) rfl)
theorem dX7_dealt_19 : decode cX7_dealt 19 = .ok (.isub, 1) := daX7_dealt (19, .isub, 1) (List.mem_of_getElem? (i := 13) rfl)
theorem dX7_dealt_20 : decode cX7_dealt 20 = .ok (.i2l, 1) := daX7_dealt (20, .i2l, 1) (List.mem_of_getElem? (i := 14) rfl)
theorem dX7_dealt_21 : decode cX7_dealt 21 = .ok (.invokestatic 144, 3) := daX7_dealt (21, .invokestatic 144, 3) (List.mem_of_getElem? (i := 15) rfl)
theorem dX7_dealt_24 : decode cX7_dealt 24 = .ok (.ifCond .ne 5, 3) := daX7_dealt (24, .ifCond .ne 5, 3) (List.mem_of_getElem? (i := 16) rfl)
theorem dX7_dealt_27 : decode cX7_dealt 27 = .ok (.iconst (-1), 1) := daX7_dealt (27, .iconst (-1), 1) (List.mem_of_getElem? (i := 17) rfl)
theorem dX7_dealt_28 : decode cX7_dealt 28 = .ok (.ireturn, 1) := daX7_dealt (28, .ireturn, 1) (List.mem_of_getElem? (i := 18) rfl)
theorem dX7_dealt_29 : decode cX7_dealt 29 = .ok (.aload_n 0, 1) := daX7_dealt (29, .aload_n 0, 1) (List.mem_of_getElem? (i := 19) rfl)
theorem dX7_dealt_30 : decode cX7_dealt 30 = .ok (.invokevirtual 315, 3) := daX7_dealt (30, .invokevirtual 315, 3) (List.mem_of_getElem? (i := 20) rfl)
theorem dX7_dealt_33 : decode cX7_dealt 33 = .ok (.aload_n 0, 1) := daX7_dealt (33, .aload_n 0, 1) (List.mem_of_getElem? (i := 21) rfl)
theorem dX7_dealt_34 : decode cX7_dealt 34 = .ok (.getfield 119, 3) := daX7_dealt (34, .getfield 119, 3) (List.mem_of_getElem? (i := 22) rfl)
theorem dX7_dealt_37 : decode cX7_dealt 37 = .ok (.bipush 10, 2) := daX7_dealt (37, .bipush 10, 2) (List.mem_of_getElem? (i := 23) rfl)
theorem dX7_dealt_39 : decode cX7_dealt 39 = .ok (.iload_n 2, 1) := daX7_dealt (39, .iload_n 2, 1) (List.mem_of_getElem? (i := 24) rfl)
theorem dX7_dealt_40 : decode cX7_dealt 40 = .ok (.imul, 1) := daX7_dealt (40, .imul, 1) (List.mem_of_getElem? (i := 25) rfl)
theorem dX7_dealt_41 : decode cX7_dealt 41 = .ok (.iload_n 1, 1) := daX7_dealt (41, .iload_n 1, 1) (List.mem_of_getElem? (i := 26) rfl)
theorem dX7_dealt_42 : decode cX7_dealt 42 = .ok (.iadd, 1) := daX7_dealt (42, .iadd, 1) (List.mem_of_getElem? (i := 27) rfl)
theorem dX7_dealt_43 : decode cX7_dealt 43 = .ok (.baload, 1) := daX7_dealt (43, .baload, 1) (List.mem_of_getElem? (i := 28) rfl)
theorem dX7_dealt_44 : decode cX7_dealt 44 = .ok (.ifCond .ne 6, 3) := daX7_dealt (44, .ifCond .ne 6, 3) (List.mem_of_getElem? (i := 29) rfl)
theorem dX7_dealt_47 : decode cX7_dealt 47 = .ok (.bipush (-2), 2) := daX7_dealt (47, .bipush (-2), 2) (List.mem_of_getElem? (i := 30) rfl)
theorem dX7_dealt_49 : decode cX7_dealt 49 = .ok (.ireturn, 1) := daX7_dealt (49, .ireturn, 1) (List.mem_of_getElem? (i := 31) rfl)
theorem dX7_dealt_50 : decode cX7_dealt 50 = .ok (.aload_n 0, 1) := daX7_dealt (50, .aload_n 0, 1) (List.mem_of_getElem? (i := 32) rfl)
theorem dX7_dealt_51 : decode cX7_dealt 51 = .ok (.iload_n 2, 1) := daX7_dealt (51, .iload_n 2, 1) (List.mem_of_getElem? (i := 33) rfl)
theorem dX7_dealt_52 : decode cX7_dealt 52 = .ok (.aload_n 0, 1) := daX7_dealt (52, .aload_n 0, 1) (List.mem_of_getElem? (i := 34) rfl)
theorem dX7_dealt_53 : decode cX7_dealt 53 = .ok (.getfield 20, 3) := daX7_dealt (53, .getfield 20, 3) (List.mem_of_getElem? (i := 35) rfl)
theorem dX7_dealt_56 : decode cX7_dealt 56 = .ok (.iconst 5, 1) := daX7_dealt (56, .iconst 5, 1) (List.mem_of_getElem? (i := 36) rfl)
theorem dX7_dealt_57 : decode cX7_dealt 57 = .ok (.iload_n 1, 1) := daX7_dealt (57, .iload_n 1, 1) (List.mem_of_getElem? (i := 37) rfl)
theorem dX7_dealt_58 : decode cX7_dealt 58 = .ok (.imul, 1) := daX7_dealt (58, .imul, 1) (List.mem_of_getElem? (i := 38) rfl)
theorem dX7_dealt_59 : decode cX7_dealt 59 = .ok (.iload_n 3, 1) := daX7_dealt (59, .iload_n 3, 1) (List.mem_of_getElem? (i := 39) rfl)
theorem dX7_dealt_60 : decode cX7_dealt 60 = .ok (.iadd, 1) := daX7_dealt (60, .iadd, 1) (List.mem_of_getElem? (i := 40) rfl)
theorem dX7_dealt_61 : decode cX7_dealt 61 = .ok (.iaload, 1) := daX7_dealt (61, .iaload, 1) (List.mem_of_getElem? (i := 41) rfl)
theorem dX7_dealt_62 : decode cX7_dealt 62 = .ok (.invokevirtual 284, 3) := daX7_dealt (62, .invokevirtual 284, 3) (List.mem_of_getElem? (i := 42) rfl)
theorem dX7_dealt_65 : decode cX7_dealt 65 = .ok (.ifCond .ne 6, 3) := daX7_dealt (65, .ifCond .ne 6, 3) (List.mem_of_getElem? (i := 43) rfl)
theorem dX7_dealt_68 : decode cX7_dealt 68 = .ok (.bipush (-4), 2) := daX7_dealt (68, .bipush (-4), 2) (List.mem_of_getElem? (i := 44) rfl)
theorem dX7_dealt_70 : decode cX7_dealt 70 = .ok (.ireturn, 1) := daX7_dealt (70, .ireturn, 1) (List.mem_of_getElem? (i := 45) rfl)
theorem dX7_dealt_71 : decode cX7_dealt 71 = .ok (.aload_n 0, 1) := daX7_dealt (71, .aload_n 0, 1) (List.mem_of_getElem? (i := 46) rfl)
theorem dX7_dealt_72 : decode cX7_dealt 72 = .ok (.invokevirtual 299, 3) := daX7_dealt (72, .invokevirtual 299, 3) (List.mem_of_getElem? (i := 47) rfl)
theorem dX7_dealt_75 : decode cX7_dealt 75 = .ok (.iconst 0, 1) := daX7_dealt (75, .iconst 0, 1) (List.mem_of_getElem? (i := 48) rfl)
theorem dX7_dealt_76 : decode cX7_dealt 76 = .ok (.istore 4, 2) := daX7_dealt (76, .istore 4, 2) (List.mem_of_getElem? (i := 49) rfl)
theorem dX7_dealt_78 : decode cX7_dealt 78 = .ok (.iload 4, 2) := daX7_dealt (78, .iload 4, 2) (List.mem_of_getElem? (i := 50) rfl)
theorem dX7_dealt_80 : decode cX7_dealt 80 = .ok (.iload_n 3, 1) := daX7_dealt (80, .iload_n 3, 1) (List.mem_of_getElem? (i := 51) rfl)
theorem dX7_dealt_81 : decode cX7_dealt 81 = .ok (.if_icmp .gt 63, 3) := daX7_dealt (81, .if_icmp .gt 63, 3) (List.mem_of_getElem? (i := 52) rfl)
theorem dX7_dealt_84 : decode cX7_dealt 84 = .ok (.aload_n 0, 1) := daX7_dealt (84, .aload_n 0, 1) (List.mem_of_getElem? (i := 53) rfl)
theorem dX7_dealt_85 : decode cX7_dealt 85 = .ok (.iload_n 2, 1) := daX7_dealt (85, .iload_n 2, 1) (List.mem_of_getElem? (i := 54) rfl)
theorem dX7_dealt_86 : decode cX7_dealt 86 = .ok (.aload_n 0, 1) := daX7_dealt (86, .aload_n 0, 1) (List.mem_of_getElem? (i := 55) rfl)
theorem dX7_dealt_87 : decode cX7_dealt 87 = .ok (.getfield 20, 3) := daX7_dealt (87, .getfield 20, 3) (List.mem_of_getElem? (i := 56) rfl)
theorem dX7_dealt_90 : decode cX7_dealt 90 = .ok (.iconst 5, 1) := daX7_dealt (90, .iconst 5, 1) (List.mem_of_getElem? (i := 57) rfl)
theorem dX7_dealt_91 : decode cX7_dealt 91 = .ok (.iload_n 1, 1) := daX7_dealt (91, .iload_n 1, 1) (List.mem_of_getElem? (i := 58) rfl)
theorem dX7_dealt_92 : decode cX7_dealt 92 = .ok (.imul, 1) := daX7_dealt (92, .imul, 1) (List.mem_of_getElem? (i := 59) rfl)
theorem dX7_dealt_93 : decode cX7_dealt 93 = .ok (.iload 4, 2) := daX7_dealt (93, .iload 4, 2) (List.mem_of_getElem? (i := 60) rfl)
theorem dX7_dealt_95 : decode cX7_dealt 95 = .ok (.iadd, 1) := daX7_dealt (95, .iadd, 1) (List.mem_of_getElem? (i := 61) rfl)
theorem dX7_dealt_96 : decode cX7_dealt 96 = .ok (.iaload, 1) := daX7_dealt (96, .iaload, 1) (List.mem_of_getElem? (i := 62) rfl)
theorem dX7_dealt_97 : decode cX7_dealt 97 = .ok (.invokevirtual 284, 3) := daX7_dealt (97, .invokevirtual 284, 3) (List.mem_of_getElem? (i := 63) rfl)
theorem dX7_dealt_100 : decode cX7_dealt 100 = .ok (.ifCond .eq 38, 3) := daX7_dealt (100, .ifCond .eq 38, 3) (List.mem_of_getElem? (i := 64) rfl)
theorem dX7_dealt_103 : decode cX7_dealt 103 = .ok (.aload_n 0, 1) := daX7_dealt (103, .aload_n 0, 1) (List.mem_of_getElem? (i := 65) rfl)
theorem dX7_dealt_104 : decode cX7_dealt 104 = .ok (.getfield 125, 3) := daX7_dealt (104, .getfield 125, 3) (List.mem_of_getElem? (i := 66) rfl)
theorem dX7_dealt_107 : decode cX7_dealt 107 = .ok (.iload 4, 2) := daX7_dealt (107, .iload 4, 2) (List.mem_of_getElem? (i := 67) rfl)
theorem dX7_dealt_109 : decode cX7_dealt 109 = .ok (.bipush 6, 2) := daX7_dealt (109, .bipush 6, 2) (List.mem_of_getElem? (i := 68) rfl)
theorem dX7_dealt_111 : decode cX7_dealt 111 = .ok (.iload_n 2, 1) := daX7_dealt (111, .iload_n 2, 1) (List.mem_of_getElem? (i := 69) rfl)
theorem dX7_dealt_112 : decode cX7_dealt 112 = .ok (.imul, 1) := daX7_dealt (112, .imul, 1) (List.mem_of_getElem? (i := 70) rfl)
theorem dX7_dealt_113 : decode cX7_dealt 113 = .ok (.iastore, 1) := daX7_dealt (113, .iastore, 1) (List.mem_of_getElem? (i := 71) rfl)
theorem dX7_dealt_114 : decode cX7_dealt 114 = .ok (.aload_n 0, 1) := daX7_dealt (114, .aload_n 0, 1) (List.mem_of_getElem? (i := 72) rfl)
theorem dX7_dealt_115 : decode cX7_dealt 115 = .ok (.iload_n 2, 1) := daX7_dealt (115, .iload_n 2, 1) (List.mem_of_getElem? (i := 73) rfl)
theorem dX7_dealt_116 : decode cX7_dealt 116 = .ok (.iload_n 1, 1) := daX7_dealt (116, .iload_n 1, 1) (List.mem_of_getElem? (i := 74) rfl)
theorem dX7_dealt_117 : decode cX7_dealt 117 = .ok (.iconst 0, 1) := daX7_dealt (117, .iconst 0, 1) (List.mem_of_getElem? (i := 75) rfl)
theorem dX7_dealt_118 : decode cX7_dealt 118 = .ok (.invokevirtual 295, 3) := daX7_dealt (118, .invokevirtual 295, 3) (List.mem_of_getElem? (i := 76) rfl)
theorem dX7_dealt_121 : decode cX7_dealt 121 = .ok (.ifCond .ne 17, 3) := daX7_dealt (121, .ifCond .ne 17, 3) (List.mem_of_getElem? (i := 77) rfl)
theorem dX7_dealt_124 : decode cX7_dealt 124 = .ok (.aload_n 0, 1) := daX7_dealt (124, .aload_n 0, 1) (List.mem_of_getElem? (i := 78) rfl)
theorem dX7_dealt_125 : decode cX7_dealt 125 = .ok (.getfield 125, 3) := daX7_dealt (125, .getfield 125, 3) (List.mem_of_getElem? (i := 79) rfl)
theorem dX7_dealt_128 : decode cX7_dealt 128 = .ok (.iload 4, 2) := daX7_dealt (128, .iload 4, 2) (List.mem_of_getElem? (i := 80) rfl)
theorem dX7_dealt_130 : decode cX7_dealt 130 = .ok (.dup2, 1) := daX7_dealt (130, .dup2, 1) (List.mem_of_getElem? (i := 81) rfl)
theorem dX7_dealt_131 : decode cX7_dealt 131 = .ok (.iaload, 1) := daX7_dealt (131, .iaload, 1) (List.mem_of_getElem? (i := 82) rfl)
theorem dX7_dealt_132 : decode cX7_dealt 132 = .ok (.iconst 1, 1) := daX7_dealt (132, .iconst 1, 1) (List.mem_of_getElem? (i := 83) rfl)
theorem dX7_dealt_133 : decode cX7_dealt 133 = .ok (.iadd, 1) := daX7_dealt (133, .iadd, 1) (List.mem_of_getElem? (i := 84) rfl)
theorem dX7_dealt_134 : decode cX7_dealt 134 = .ok (.iastore, 1) := daX7_dealt (134, .iastore, 1) (List.mem_of_getElem? (i := 85) rfl)
theorem dX7_dealt_135 : decode cX7_dealt 135 = .ok (.goto (-21), 3) := daX7_dealt (135, .goto (-21), 3) (List.mem_of_getElem? (i := 86) rfl)
theorem dX7_dealt_138 : decode cX7_dealt 138 = .ok (.iinc 4 1, 3) := daX7_dealt (138, .iinc 4 1, 3) (List.mem_of_getElem? (i := 87) rfl)
theorem dX7_dealt_141 : decode cX7_dealt 141 = .ok (.goto (-63), 3) := daX7_dealt (141, .goto (-63), 3) (List.mem_of_getElem? (i := 88) rfl)
theorem dX7_dealt_144 : decode cX7_dealt 144 = .ok (.aload_n 0, 1) := daX7_dealt (144, .aload_n 0, 1) (List.mem_of_getElem? (i := 89) rfl)
theorem dX7_dealt_145 : decode cX7_dealt 145 = .ok (.getfield 125, 3) := daX7_dealt (145, .getfield 125, 3) (List.mem_of_getElem? (i := 90) rfl)
theorem dX7_dealt_148 : decode cX7_dealt 148 = .ok (.iload_n 3, 1) := daX7_dealt (148, .iload_n 3, 1) (List.mem_of_getElem? (i := 91) rfl)
theorem dX7_dealt_149 : decode cX7_dealt 149 = .ok (.iaload, 1) := daX7_dealt (149, .iaload, 1) (List.mem_of_getElem? (i := 92) rfl)
theorem dX7_dealt_150 : decode cX7_dealt 150 = .ok (.bipush 6, 2) := daX7_dealt (150, .bipush 6, 2) (List.mem_of_getElem? (i := 93) rfl)
theorem dX7_dealt_152 : decode cX7_dealt 152 = .ok (.iload_n 2, 1) := daX7_dealt (152, .iload_n 2, 1) (List.mem_of_getElem? (i := 94) rfl)
theorem dX7_dealt_153 : decode cX7_dealt 153 = .ok (.imul, 1) := daX7_dealt (153, .imul, 1) (List.mem_of_getElem? (i := 95) rfl)
theorem dX7_dealt_154 : decode cX7_dealt 154 = .ok (.isub, 1) := daX7_dealt (154, .isub, 1) (List.mem_of_getElem? (i := 96) rfl)
theorem dX7_dealt_155 : decode cX7_dealt 155 = .ok (.istore 4, 2) := daX7_dealt (155, .istore 4, 2) (List.mem_of_getElem? (i := 97) rfl)
theorem dX7_dealt_157 : decode cX7_dealt 157 = .ok (.aload_n 0, 1) := daX7_dealt (157, .aload_n 0, 1) (List.mem_of_getElem? (i := 98) rfl)
theorem dX7_dealt_158 : decode cX7_dealt 158 = .ok (.invokevirtual 299, 3) := daX7_dealt (158, .invokevirtual 299, 3) (List.mem_of_getElem? (i := 99) rfl)
theorem dX7_dealt_161 : decode cX7_dealt 161 = .ok (.iload 4, 2) := daX7_dealt (161, .iload 4, 2) (List.mem_of_getElem? (i := 100) rfl)
theorem dX7_dealt_163 : decode cX7_dealt 163 = .ok (.ireturn, 1) := daX7_dealt (163, .ireturn, 1) (List.mem_of_getElem? (i := 101) rfl)
def rmX7_dealt : Room := { frames := 6, cells := 0, slots := 0, locals := 153 }
theorem zdX7_dealt : yX7_dealt.cls = RX7 ∧ yX7_dealt.cls ≠ "java/lang/invoke/MethodHandle" ∧ yX7_dealt.cls ≠ "java/lang/invoke/VarHandle" ∧ (parseMethodDescriptor yX7_dealt.desc).map (fun d => d.parameters.length) = some 3 := by decide +kernel
theorem kiX7_dealt_X7 : ∀ w ∈ wsX70, w ∈ wsX7_dealt := fun _ h => (List.mem_cons_of_mem _ (List.mem_append_right _ h))
theorem kfX7_dealt_17 : Cond.fieldLink RX7 17 "ShapeJudgeModel" "many" "[I" ∈ wsX7_dealt := (List.mem_of_getElem? (i := 1) rfl)
theorem kfX7_dealt_119 : Cond.fieldLink RX7 119 "ShapeJudgeModel" "fitting" "[Z" ∈ wsX7_dealt := (List.mem_of_getElem? (i := 2) rfl)
theorem kfX7_dealt_20 : Cond.fieldLink RX7 20 "ShapeJudgeModel" "names" "[I" ∈ wsX7_dealt := (List.mem_of_getElem? (i := 3) rfl)
theorem kfX7_dealt_125 : Cond.fieldLink RX7 125 "ShapeJudgeModel" "only" "[I" ∈ wsX7_dealt := (List.mem_of_getElem? (i := 4) rfl)
def t_X7_dealt_114 (a1 : Int32) (a2 : Int32) (i14 : Int32) (m22 : Mem) : Option ((Mem) ⊕ (Mem)) :=
  zb2 (s_X7_can m22 a2 a1 0) fun r24 m25 => (if r24 = 0 then (ck (zin i14 5 = true) (ck (zin i14 5 = true) (bn (sto m25 39 (Int32.toNatClampNeg i14) ((m25 39 (Int32.toNatClampNeg i14)) + 1)) fun m28 => some (.inl m28)))) else (some (.inr m25)))
def l_X7_dealt_114 (a1 : Int32) (a2 : Int32) (i14 : Int32) (n : Nat) (m22 : Mem) : Option (Mem) := zlp n (fun a => t_X7_dealt_114 a1 a2 i14 a) m22
def t_X7_dealt_78 (a1 : Int32) (a2 : Int32) (a3 : Int32) (i14 : Int32) (m15 : Mem) : Option ((Int32 × Mem) ⊕ (Mem)) :=
  (if a3 < i14 then (some (.inr m15)) else (ck (zin (((5 : Int32) * a1) + i14) 50 = true) ((s_X7_isWanted m15 a2 (m15 4 (Int32.toNatClampNeg (((5 : Int32) * a1) + i14)))).bind fun r18 => (if r18 = 0 then (bn (i14 + 1) fun x19 => some (.inl (x19, m15))) else (ck (zin i14 5 = true) (bn (sto m15 39 (Int32.toNatClampNeg i14) ((6 : Int32) * a2)) fun m21 => ((l_X7_dealt_114 a1 a2 i14 FU m21).bind fun m30 => bn (i14 + 1) fun x31 => some (.inl (x31, m30)))))))))
def l_X7_dealt_78 (a1 : Int32) (a2 : Int32) (a3 : Int32) (n : Nat) (i14 : Int32) (m15 : Mem) : Option (Mem) := zlp n (fun a => t_X7_dealt_78 a1 a2 a3 a.1 a.2) (i14, m15)
def s_X7_dealt (m : Mem) (a1 : Int32) (a2 : Int32) (a3 : Int32) : Option (Int32 × Mem) :=
  (s_X7_areBoth m a1 a2).bind fun r2 => (if r2 = 0 then (some ((-1), m)) else (ck (zin a1 10 = true) ((s_X7_in (a3.toInt64) 0 ((m 3 (Int32.toNatClampNeg a1)) - 1).toInt64).bind fun r5 => (if r5 = 0 then (some ((-1), m)) else ((s_X7_read m).bind fun m7 => ck (zin (((10 : Int32) * a2) + a1) 60 = true) ((if (m7 37 (Int32.toNatClampNeg (((10 : Int32) * a2) + a1))) = 0 then (some ((-2), m7)) else (ck (zin (((5 : Int32) * a1) + a3) 50 = true) ((s_X7_isWanted m7 a2 (m7 4 (Int32.toNatClampNeg (((5 : Int32) * a1) + a3)))).bind fun r11 => (if r11 = 0 then (some ((-4), m7)) else ((s_X7_free m7).bind fun m13 => ((l_X7_dealt_78 a1 a2 a3 FU 0 m13).bind fun m34 => ck (zin a3 5 = true) (bn ((m34 39 (Int32.toNatClampNeg a3)) - ((6 : Int32) * a2)) fun x36 => (s_X7_free m34).bind fun m38 => some (x36, m38))))))))))))))
set_option maxRecDepth 100000 in
set_option maxHeartbeats 4000000 in
theorem w_X7_dealt_114 {K : ZK} (C : zOK MM K cX7_dealt 5 (some .int) RX7 wsX7_dealt rmX7_dealt) {a1 : Int32} {a2 : Int32} {a3 : Int32} {i14 : Int32}  {o0 : Mem} (hk : zGo MM K o0 [(0, .ref ((zw K).2.1 0)), (1, .int a1), (2, .int a2), (3, .int a3), (4, .int i14)] 138 []) : ∀ (n : Nat) (m22 : Mem), l_X7_dealt_114 a1 a2 i14 n m22 = some o0 → zGo MM K m22 [(0, .ref ((zw K).2.1 0)), (1, .int a1), (2, .int a2), (3, .int a3), (4, .int i14)] 114 [] := by
  intro n
  induction n with
  | zero =>
    intro m22 hf
    cases hf
  | succ n ih =>
    intro m22 hf
    obtain ⟨z, hf, hz⟩ := zlp_el hf
    replace hf : t_X7_dealt_114 a1 a2 i14 m22 = some z := hf
    unfold t_X7_dealt_114 at hf
    refine z_aload_n C 0 dX7_dealt_114 rfl rfl ?_
    refine z_iload_n C 2 dX7_dealt_115 rfl rfl ?_
    refine z_iload_n C 1 dX7_dealt_116 rfl rfl ?_
    refine z_iconst C (v := 0) dX7_dealt_117 rfl ?_
    obtain ⟨r24, m25, hc23, hf⟩ := zb2_el hf
    refine z_cVi C (c_X7_can _ _ hc23) rfl gX7_dealt_X7_can rfl rfl zdX7_can rfl (Nat.le_of_ble_eq_true rfl) rfl rfl rfl ⟨Nat.le_of_ble_eq_true rfl, Nat.le_of_ble_eq_true rfl⟩ (Nat.le_of_ble_eq_true rfl) dX7_dealt_118 rfl ?_
    refine z_if_ne (tgt := 138) C dX7_dealt_121 (by decide) (fun c29 => ?_) (fun c29 => ?_)
    · replace hf := if_f c29 hf
      cases hf
      replace hz := zlz_r hz
      cases hz
      exact z_sub [0, 1, 2, 3, 4] rfl hk
    · replace hf := if_t c29 hf
      refine z_aload_n C 0 dX7_dealt_124 rfl rfl ?_
      refine z_getr C (t := 39) (Nat.le_of_ble_eq_true rfl) rfl rfl 50 (Nat.le_of_ble_eq_true rfl) rfl kiX7_dealt_X7 kfX7_dealt_125 dX7_dealt_125 ?_
      refine z_iload C 4 dX7_dealt_128 rfl ?_
      refine z_dup2 C dX7_dealt_130 ?_
      obtain ⟨hi26, hf⟩ := ck_el hf
      refine z_iald C (k := 39) (Nat.le_of_ble_eq_true rfl) rfl hi26 dX7_dealt_131 ?_
      refine z_iconst C (v := 1) dX7_dealt_132 rfl ?_
      refine z_iadd C dX7_dealt_133 ?_
      obtain ⟨hi27, hf⟩ := ck_el hf
      refine z_iast C (k := 39) (Nat.le_of_ble_eq_true rfl) rfl hi27 dX7_dealt_134 ?_
      refine z_nm (fun m28 e_m28 => ?_)
      replace hf := bn_to e_m28 hf
      refine z_goto (tgt := 114) C dX7_dealt_135 (by decide) ?_
      cases hf
      exact z_sub [0, 1, 2, 3, 4] rfl (ih m28 hz)
set_option maxRecDepth 100000 in
set_option maxHeartbeats 4000000 in
theorem w_X7_dealt_78 {K : ZK} (C : zOK MM K cX7_dealt 5 (some .int) RX7 wsX7_dealt rmX7_dealt) {a1 : Int32} {a2 : Int32} {a3 : Int32}  {o0 : Mem} (hk : zGo MM K o0 [(0, .ref ((zw K).2.1 0)), (2, .int a2), (3, .int a3)] 144 []) : ∀ (n : Nat) (i14 : Int32) (m15 : Mem), l_X7_dealt_78 a1 a2 a3 n i14 m15 = some o0 → zGo MM K m15 [(0, .ref ((zw K).2.1 0)), (1, .int a1), (2, .int a2), (3, .int a3), (4, .int i14)] 78 [] := by
  intro n
  induction n with
  | zero =>
    intro i14 m15 hf
    cases hf
  | succ n ih =>
    intro i14 m15 hf
    obtain ⟨z, hf, hz⟩ := zlp_el hf
    replace hf : t_X7_dealt_78 a1 a2 a3 i14 m15 = some z := hf
    unfold t_X7_dealt_78 at hf
    refine z_iload C 4 dX7_dealt_78 rfl ?_
    refine z_iload_n C 3 dX7_dealt_80 rfl rfl ?_
    refine z_icmp_gt (tgt := 144) C dX7_dealt_81 (by decide) (fun c33 => ?_) (fun c33 => ?_)
    · replace hf := if_t c33 hf
      cases hf
      replace hz := zlz_r hz
      cases hz
      exact z_sub [0, 2, 3] rfl hk
    · replace hf := if_f c33 hf
      refine z_aload_n C 0 dX7_dealt_84 rfl rfl ?_
      refine z_iload_n C 2 dX7_dealt_85 rfl rfl ?_
      refine z_aload_n C 0 dX7_dealt_86 rfl rfl ?_
      refine z_getr C (t := 4) (Nat.le_of_ble_eq_true rfl) rfl rfl 4 (Nat.le_of_ble_eq_true rfl) rfl kiX7_dealt_X7 kfX7_dealt_20 dX7_dealt_87 ?_
      refine z_iconst C (v := 5) dX7_dealt_90 rfl ?_
      refine z_iload_n C 1 dX7_dealt_91 rfl rfl ?_
      refine z_imul C dX7_dealt_92 ?_
      refine z_iload C 4 dX7_dealt_93 rfl ?_
      refine z_iadd C dX7_dealt_95 ?_
      obtain ⟨hi16, hf⟩ := ck_el hf
      refine z_iald C (k := 4) (Nat.le_of_ble_eq_true rfl) rfl hi16 dX7_dealt_96 ?_
      obtain ⟨r18, hc17, hf⟩ := zb_el hf
      refine z_cVi C (c_X7_isWanted _ _ hc17) rfl gX7_dealt_X7_isWanted rfl rfl zdX7_isWanted rfl (Nat.le_of_ble_eq_true rfl) rfl rfl rfl ⟨Nat.le_of_ble_eq_true rfl, Nat.le_of_ble_eq_true rfl⟩ (Nat.le_of_ble_eq_true rfl) dX7_dealt_97 rfl ?_
      refine z_if_eq (tgt := 138) C dX7_dealt_100 (by decide) (fun c32 => ?_) (fun c32 => ?_)
      · replace hf := if_t c32 hf
        obtain ⟨x19, e_x19⟩ : ∃ y : Int32, y = i14 + 1 := ⟨_, rfl⟩
        replace hf := bn_to e_x19 hf
        refine z_iinc C (lv2 := [(0, .ref ((zw K).2.1 0)), (1, .int a1), (2, .int a2), (3, .int a3), (4, .int x19)]) 4 [1, 2, 3, 4, 0] dX7_dealt_138 rfl rfl (Nat.le_of_ble_eq_true rfl) e_x19 rfl ?_
        refine z_goto (tgt := 78) C dX7_dealt_141 (by decide) ?_
        cases hf
        exact z_sub [0, 1, 2, 3, 4] rfl (ih x19 m15 hz)
      · replace hf := if_f c32 hf
        refine z_aload_n C 0 dX7_dealt_103 rfl rfl ?_
        refine z_getr C (t := 39) (Nat.le_of_ble_eq_true rfl) rfl rfl 50 (Nat.le_of_ble_eq_true rfl) rfl kiX7_dealt_X7 kfX7_dealt_125 dX7_dealt_104 ?_
        refine z_iload C 4 dX7_dealt_107 rfl ?_
        refine z_bipush C (v := 6) dX7_dealt_109 rfl ?_
        refine z_iload_n C 2 dX7_dealt_111 rfl rfl ?_
        refine z_imul C dX7_dealt_112 ?_
        obtain ⟨hi20, hf⟩ := ck_el hf
        refine z_iast C (k := 39) (Nat.le_of_ble_eq_true rfl) rfl hi20 dX7_dealt_113 ?_
        refine z_nm (fun m21 e_m21 => ?_)
        replace hf := bn_to e_m21 hf
        obtain ⟨m30, hg, hf⟩ := zb_el hf
        refine z_sub [0, 1, 2, 3, 4] rfl (w_X7_dealt_114 C  ?_ _ _ hg)
        clear hg
        obtain ⟨x31, e_x31⟩ : ∃ y : Int32, y = i14 + 1 := ⟨_, rfl⟩
        replace hf := bn_to e_x31 hf
        refine z_iinc C (lv2 := [(0, .ref ((zw K).2.1 0)), (1, .int a1), (2, .int a2), (3, .int a3), (4, .int x31)]) 4 [1, 2, 3, 4, 0] dX7_dealt_138 rfl rfl (Nat.le_of_ble_eq_true rfl) e_x31 rfl ?_
        refine z_goto (tgt := 78) C dX7_dealt_141 (by decide) ?_
        cases hf
        exact z_sub [0, 1, 2, 3, 4] rfl (ih x31 m30 hz)
set_option maxRecDepth 100000 in
set_option maxHeartbeats 4000000 in
theorem c_X7_dealt (l : Launch) (w : ZW) {m : Mem} {a1 : Int32} {a2 : Int32} {a3 : Int32} {r9 : Int32} {m9 : Mem}  (hf : s_X7_dealt m a1 a2 a3 = some (r9, m9)) : zCi MM l w yX7_dealt wsX7_dealt rmX7_dealt [.ref (w.2.1 0), .int a1, .int a2, .int a3] m m9 r9 := by
  refine z_met_i MM_ok (own := RX7) (by decide +kernel) rfl rfl (Nat.le_of_ble_eq_true rfl) ?_
  intro K C hKw hKl hret
  subst hKw
  subst hKl
  unfold s_X7_dealt at hf
  show zGo MM K m [(0, .ref ((zw K).2.1 0)), (1, .int a1), (2, .int a2), (3, .int a3)] 0 []
  refine z_aload_n C 0 dX7_dealt_0 rfl rfl ?_
  refine z_iload_n C 1 dX7_dealt_1 rfl rfl ?_
  refine z_iload_n C 2 dX7_dealt_2 rfl rfl ?_
  obtain ⟨r2, hc1, hf⟩ := zb_el hf
  refine z_cVi C (c_X7_areBoth _ _ hc1) rfl gX7_dealt_X7_areBoth rfl rfl zdX7_areBoth rfl (Nat.le_of_ble_eq_true rfl) rfl rfl rfl ⟨Nat.le_of_ble_eq_true rfl, Nat.le_of_ble_eq_true rfl⟩ (Nat.le_of_ble_eq_true rfl) dX7_dealt_3 rfl ?_
  refine z_if_eq (tgt := 27) C dX7_dealt_6 (by decide) (fun c42 => ?_) (fun c42 => ?_)
  · replace hf := if_t c42 hf
    refine z_iconst C (v := (-1)) dX7_dealt_27 (by decide) ?_
    obtain ⟨e1, e2⟩ := sp_el hf
    subst e1
    subst e2
    exact hret _ _ dX7_dealt_28
  · replace hf := if_f c42 hf
    refine z_iload_n C 3 dX7_dealt_9 rfl rfl ?_
    refine z_i2l C dX7_dealt_10 ?_
    refine z_lconst C (v := 0) dX7_dealt_11 rfl ?_
    refine z_aload_n C 0 dX7_dealt_12 rfl rfl ?_
    refine z_getr C (t := 3) (Nat.le_of_ble_eq_true rfl) rfl rfl 3 (Nat.le_of_ble_eq_true rfl) rfl kiX7_dealt_X7 kfX7_dealt_17 dX7_dealt_13 ?_
    refine z_iload_n C 1 dX7_dealt_16 rfl rfl ?_
    obtain ⟨hi3, hf⟩ := ck_el hf
    refine z_iald C (k := 3) (Nat.le_of_ble_eq_true rfl) rfl hi3 dX7_dealt_17 ?_
    refine z_iconst C (v := 1) dX7_dealt_18 rfl ?_
    refine z_isub C dX7_dealt_19 ?_
    refine z_i2l C dX7_dealt_20 ?_
    obtain ⟨r5, hc4, hf⟩ := zb_el hf
    refine z_cSi C (c_X7_in _ _ hc4) rfl gX7_dealt_X7_in rfl rfl zdX7_in.2 rfl ⟨Nat.le_of_ble_eq_true rfl, Nat.le_of_ble_eq_true rfl⟩ (Nat.le_of_ble_eq_true rfl) dX7_dealt_21 rfl ?_
    refine z_if_ne (tgt := 29) C dX7_dealt_24 (by decide) (fun c41 => ?_) (fun c41 => ?_)
    · replace hf := if_f c41 hf
      refine z_aload_n C 0 dX7_dealt_29 rfl rfl ?_
      obtain ⟨m7, hc6, hf⟩ := zb_el hf
      refine z_cVv C (c_X7_read _ _ hc6) rfl gX7_dealt_X7_read rfl rfl zdX7_read rfl (Nat.le_of_ble_eq_true rfl) rfl rfl rfl ⟨Nat.le_of_ble_eq_true rfl, Nat.le_of_ble_eq_true rfl⟩ (Nat.le_of_ble_eq_true rfl) dX7_dealt_30 rfl ?_
      refine z_aload_n C 0 dX7_dealt_33 rfl rfl ?_
      refine z_getr C (t := 37) (Nat.le_of_ble_eq_true rfl) rfl rfl 48 (Nat.le_of_ble_eq_true rfl) rfl kiX7_dealt_X7 kfX7_dealt_119 dX7_dealt_34 ?_
      refine z_bipush C (v := 10) dX7_dealt_37 rfl ?_
      refine z_iload_n C 2 dX7_dealt_39 rfl rfl ?_
      refine z_imul C dX7_dealt_40 ?_
      refine z_iload_n C 1 dX7_dealt_41 rfl rfl ?_
      refine z_iadd C dX7_dealt_42 ?_
      obtain ⟨hi8, hf⟩ := ck_el hf
      refine z_zald C (k := 37) (Nat.le_of_ble_eq_true rfl) rfl hi8 dX7_dealt_43 ?_
      refine z_if_ne (tgt := 50) C dX7_dealt_44 (by decide) (fun c40 => ?_) (fun c40 => ?_)
      · replace hf := if_f c40 hf
        refine z_aload_n C 0 dX7_dealt_50 rfl rfl ?_
        refine z_iload_n C 2 dX7_dealt_51 rfl rfl ?_
        refine z_aload_n C 0 dX7_dealt_52 rfl rfl ?_
        refine z_getr C (t := 4) (Nat.le_of_ble_eq_true rfl) rfl rfl 4 (Nat.le_of_ble_eq_true rfl) rfl kiX7_dealt_X7 kfX7_dealt_20 dX7_dealt_53 ?_
        refine z_iconst C (v := 5) dX7_dealt_56 rfl ?_
        refine z_iload_n C 1 dX7_dealt_57 rfl rfl ?_
        refine z_imul C dX7_dealt_58 ?_
        refine z_iload_n C 3 dX7_dealt_59 rfl rfl ?_
        refine z_iadd C dX7_dealt_60 ?_
        obtain ⟨hi9, hf⟩ := ck_el hf
        refine z_iald C (k := 4) (Nat.le_of_ble_eq_true rfl) rfl hi9 dX7_dealt_61 ?_
        obtain ⟨r11, hc10, hf⟩ := zb_el hf
        refine z_cVi C (c_X7_isWanted _ _ hc10) rfl gX7_dealt_X7_isWanted rfl rfl zdX7_isWanted rfl (Nat.le_of_ble_eq_true rfl) rfl rfl rfl ⟨Nat.le_of_ble_eq_true rfl, Nat.le_of_ble_eq_true rfl⟩ (Nat.le_of_ble_eq_true rfl) dX7_dealt_62 rfl ?_
        refine z_if_ne (tgt := 71) C dX7_dealt_65 (by decide) (fun c39 => ?_) (fun c39 => ?_)
        · replace hf := if_f c39 hf
          refine z_aload_n C 0 dX7_dealt_71 rfl rfl ?_
          obtain ⟨m13, hc12, hf⟩ := zb_el hf
          refine z_cVv C (c_X7_free _ _ hc12) rfl gX7_dealt_X7_free rfl rfl zdX7_free rfl (Nat.le_of_ble_eq_true rfl) rfl rfl rfl ⟨Nat.le_of_ble_eq_true rfl, Nat.le_of_ble_eq_true rfl⟩ (Nat.le_of_ble_eq_true rfl) dX7_dealt_72 rfl ?_
          refine z_iconst C (v := 0) dX7_dealt_75 rfl ?_
          refine z_istore C (lv2 := [(0, .ref ((zw K).2.1 0)), (1, .int a1), (2, .int a2), (3, .int a3), (4, .int 0)]) [1, 2, 3, 4, 0] dX7_dealt_76 (Nat.le_of_ble_eq_true rfl) rfl ?_
          obtain ⟨m34, hg, hf⟩ := zb_el hf
          refine z_sub [0, 1, 2, 3, 4] rfl (w_X7_dealt_78 C  ?_ _ _ _ hg)
          clear hg
          refine z_aload_n C 0 dX7_dealt_144 rfl rfl ?_
          refine z_getr C (t := 39) (Nat.le_of_ble_eq_true rfl) rfl rfl 50 (Nat.le_of_ble_eq_true rfl) rfl kiX7_dealt_X7 kfX7_dealt_125 dX7_dealt_145 ?_
          refine z_iload_n C 2 dX7_dealt_148 rfl rfl ?_
          obtain ⟨hi35, hf⟩ := ck_el hf
          refine z_iald C (k := 39) (Nat.le_of_ble_eq_true rfl) rfl hi35 dX7_dealt_149 ?_
          refine z_bipush C (v := 6) dX7_dealt_150 rfl ?_
          refine z_iload_n C 1 dX7_dealt_152 rfl rfl ?_
          refine z_imul C dX7_dealt_153 ?_
          refine z_isub C dX7_dealt_154 ?_
          refine z_topi (fun x36 e_x36 => ?_)
          replace hf := bn_to e_x36 hf
          refine z_istore C (lv2 := [(0, .ref ((zw K).2.1 0)), (2, .int a2), (3, .int a3), (4, .int x36)]) [1, 2, 3, 0] dX7_dealt_155 (Nat.le_of_ble_eq_true rfl) rfl ?_
          refine z_aload_n C 0 dX7_dealt_157 rfl rfl ?_
          obtain ⟨m38, hc37, hf⟩ := zb_el hf
          refine z_cVv C (c_X7_free _ _ hc37) rfl gX7_dealt_X7_free rfl rfl zdX7_free rfl (Nat.le_of_ble_eq_true rfl) rfl rfl rfl ⟨Nat.le_of_ble_eq_true rfl, Nat.le_of_ble_eq_true rfl⟩ (Nat.le_of_ble_eq_true rfl) dX7_dealt_158 rfl ?_
          refine z_iload C 3 dX7_dealt_161 rfl ?_
          obtain ⟨e1, e2⟩ := sp_el hf
          subst e1
          subst e2
          exact hret _ _ dX7_dealt_163
        · replace hf := if_t c39 hf
          refine z_bipush C (v := (-4)) dX7_dealt_68 (by decide) ?_
          obtain ⟨e1, e2⟩ := sp_el hf
          subst e1
          subst e2
          exact hret _ _ dX7_dealt_70
      · replace hf := if_t c40 hf
        refine z_bipush C (v := (-2)) dX7_dealt_47 (by decide) ?_
        obtain ⟨e1, e2⟩ := sp_el hf
        subst e1
        subst e2
        exact hret _ _ dX7_dealt_49
    · replace hf := if_t c41 hf
      refine z_iconst C (v := (-1)) dX7_dealt_27 (by decide) ?_
      obtain ⟨e1, e2⟩ := sp_el hf
      subst e1
      subst e2
      exact hret _ _ dX7_dealt_28
set_option maxRecDepth 100000 in
theorem daX7_findLeads : ∀ q ∈ ([(0, .iload_n 1, 1), (1, .ifCond .eq 10, 3), (4, .aload_n 0, 1), (5, .getfield 234, 3), (8, .goto 7, 3), (11, .aload_n 0, 1), (12, .getfield 258, 3), (15, .istore_n 2, 1), (16, .iconst 0, 1), (17, .istore_n 3, 1), (18, .iload_n 3, 1), (19, .bipush 36, 2), (21, .if_icmp .ge 16, 3), (24, .aload_n 0, 1), (25, .getfield 116, 3), (28, .iload_n 3, 1), (29, .iconst 0, 1), (30, .bastore, 1), (31, .iinc 3 1, 3), (34, .goto (-16), 3), (37, .iconst 0, 1), (38, .istore_n 3, 1), (39, .iload_n 3, 1), (40, .iload_n 2, 1), (41, .if_icmp .ge 118, 3), (44, .iconst 0, 1), (45, .istore 4, 2), (47, .iload 4, 2), (49, .iload_n 1, 1), (50, .ifCond .eq 12, 3), (53, .aload_n 0, 1), (54, .getfield 71, 3), (57, .iload_n 3, 1), (58, .iaload, 1), (59, .goto 9, 3), (62, .aload_n 0, 1), (63, .getfield 32, 3), (66, .iload_n 3, 1), (67, .iaload, 1), (68, .if_icmp .ge 85, 3), (71, .bipush 6, 2), (73, .iload_n 3, 1), (74, .imul, 1), (75, .iload 4, 2), (77, .iadd, 1), (78, .istore 5, 2), (80, .iload_n 1, 1), (81, .ifCond .eq 13, 3), (84, .aload_n 0, 1), (85, .getfield 77, 3), (88, .iload 5, 2), (90, .iaload, 1), (91, .goto 10, 3), (94, .aload_n 0, 1), (95, .getfield 38, 3), (98, .iload 5, 2), (100, .iaload, 1), (101, .istore 6, 2), (103, .iload 6, 2), (105, .iconst 1, 1), (106, .if_icmp .eq 9, 3), (109, .iload 6, 2), (111, .iconst 2, 1), (112, .if_icmp .ne 35, 3), (115, .aload_n 0, 1), (116, .getfield 116, 3), (119, .bipush 6, 2), (121, .iload_n 3, 1), (122, .imul, 1), (123, .iload_n 1, 1), (124, .ifCond .eq 13, 3), (127, .aload_n 0, 1), (128, .getfield 80, 3), (131, .iload 5, 2), (133, .iaload, 1), (134, .goto 10, 3), (137, .aload_n 0, 1), (138, .getfield 41, 3), (141, .iload 5, 2), (143, .iaload, 1), (144, .iadd, 1), (145, .iconst 1, 1), (146, .bastore, 1), (147, .iinc 4 1, 3), (150, .goto (-103), 3), (153, .iinc 3 1, 3), (156, .goto (-117), 3), (159, .iconst 0, 1), (160, .istore_n 3, 1), (161, .iload_n 3, 1), (162, .iload_n 2, 1), (163, .if_icmp .ge 103, 3), (166, .iconst 0, 1), (167, .istore 4, 2), (169, .iload 4, 2), (171, .iload_n 2, 1), (172, .if_icmp .ge 88, 3), (175, .iconst 0, 1), (176, .istore 5, 2), (178, .iload 5, 2), (180, .iload_n 2, 1), (181, .if_icmp .ge 73, 3), (184, .aload_n 0, 1), (185, .getfield 116, 3), (188, .bipush 6, 2), (190, .iload 4, 2), (192, .imul, 1), (193, .iload 5, 2), (195, .iadd, 1), (196, .aload_n 0, 1), (197, .getfield 116, 3), (200, .bipush 6, 2), (202, .iload 4, 2), (204, .imul, 1), (205, .iload 5, 2), (207, .iadd, 1), (208, .baload, 1), (209, .ifCond .ne 33, 3), (212, .aload_n 0, 1), (213, .getfield 116, 3), (216, .bipush 6, 2), (218, .iload 4, 2), (220, .imul, 1), (221, .iload_n 3, 1), (222, .iadd, 1), (223, .baload, 1), (224, .ifCond .eq 22, 3), (227, .aload_n 0, 1), (228, .getfield 116, 3), (231, .bipush 6, 2), (233, .iload_n 3, 1), (234, .imul, 1), (235, .iload 5, 2), (237, .iadd, 1), (238, .baload, 1), (239, .ifCond .eq 7, 3), (242, .iconst 1, 1), (243, .goto 4, 3), (246, .iconst 0, 1), (247, .bastore, 1), (248, .iinc 5 1, 3), (251, .goto (-73), 3), (254, .iinc 4 1, 3), (257, .goto (-88), 3), (260, .iinc 3 1, 3), (263, .goto (-102), 3), (266, .return_, 1)] : List (Nat × Instr × Nat)), decode cX7_findLeads q.1 = .ok q.2 := by decide +kernel
theorem dX7_findLeads_0 : decode cX7_findLeads 0 = .ok (.iload_n 1, 1) := daX7_findLeads (0, .iload_n 1, 1) (List.mem_of_getElem? (i := 0) rfl)
theorem dX7_findLeads_1 : decode cX7_findLeads 1 = .ok (.ifCond .eq 10, 3) := daX7_findLeads (1, .ifCond .eq 10, 3) (List.mem_of_getElem? (i := 1) rfl)
theorem dX7_findLeads_4 : decode cX7_findLeads 4 = .ok (.aload_n 0, 1) := daX7_findLeads (4, .aload_n 0, 1) (List.mem_of_getElem? (i := 2) rfl)
theorem dX7_findLeads_5 : decode cX7_findLeads 5 = .ok (.getfield 234, 3) := daX7_findLeads (5, .getfield 234, 3) (List.mem_of_getElem? (i := 3) rfl)
theorem dX7_findLeads_8 : decode cX7_findLeads 8 = .ok (.goto 7, 3) := daX7_findLeads (8, .goto 7, 3) (List.mem_of_getElem? (i := 4) rfl)
theorem dX7_findLeads_11 : decode cX7_findLeads 11 = .ok (.aload_n 0, 1) := daX7_findLeads (11, .aload_n 0, 1) (List.mem_of_getElem? (i := 5) rfl)
theorem dX7_findLeads_12 : decode cX7_findLeads 12 = .ok (.getfield 258, 3) := daX7_findLeads (12, .getfield 258, 3) (List.mem_of_getElem? (i := 6) rfl)
theorem dX7_findLeads_15 : decode cX7_findLeads 15 = .ok (.istore_n 2, 1) := daX7_findLeads (15, .istore_n 2, 1) (List.mem_of_getElem? (i := 7) rfl)
theorem dX7_findLeads_16 : decode cX7_findLeads 16 = .ok (.iconst 0, 1) := daX7_findLeads (16, .iconst 0, 1) (List.mem_of_getElem? (i := 8) rfl)
theorem dX7_findLeads_17 : decode cX7_findLeads 17 = .ok (.istore_n 3, 1) := daX7_findLeads (17, .istore_n 3, 1) (List.mem_of_getElem? (i := 9) rfl)
theorem dX7_findLeads_18 : decode cX7_findLeads 18 = .ok (.iload_n 3, 1) := daX7_findLeads (18, .iload_n 3, 1) (List.mem_of_getElem? (i := 10) rfl)
theorem dX7_findLeads_19 : decode cX7_findLeads 19 = .ok (.bipush 36, 2) := daX7_findLeads (19, .bipush 36, 2) (List.mem_of_getElem? (i := 11) rfl)
theorem dX7_findLeads_21 : decode cX7_findLeads 21 = .ok (.if_icmp .ge 16, 3) := daX7_findLeads (21, .if_icmp .ge 16, 3) (List.mem_of_getElem? (i := 12) rfl)
theorem dX7_findLeads_24 : decode cX7_findLeads 24 = .ok (.aload_n 0, 1) := daX7_findLeads (24, .aload_n 0, 1) (List.mem_of_getElem? (i := 13) rfl)
theorem dX7_findLeads_25 : decode cX7_findLeads 25 = .ok (.getfield 116, 3) := daX7_findLeads (25, .getfield 116, 3) (List.mem_of_getElem? (i := 14) rfl)
theorem dX7_findLeads_28 : decode cX7_findLeads 28 = .ok (.iload_n 3, 1) := daX7_findLeads (28, .iload_n 3, 1) (List.mem_of_getElem? (i := 15) rfl)
theorem dX7_findLeads_29 : decode cX7_findLeads 29 = .ok (.iconst 0, 1) := daX7_findLeads (29, .iconst 0, 1) (List.mem_of_getElem? (i := 16) rfl)
theorem dX7_findLeads_30 : decode cX7_findLeads 30 = .ok (.bastore, 1) := daX7_findLeads (30, .bastore, 1) (List.mem_of_getElem? (i := 17) rfl)
theorem dX7_findLeads_31 : decode cX7_findLeads 31 = .ok (.iinc 3 1, 3) := daX7_findLeads (31, .iinc 3 1, 3) (List.mem_of_getElem? (i := 18) rfl)
theorem dX7_findLeads_34 : decode cX7_findLeads 34 = .ok (.goto (-16), 3) := daX7_findLeads (34, .goto (-16), 3) (List.mem_of_getElem? (i := 19) rfl)
theorem dX7_findLeads_37 : decode cX7_findLeads 37 = .ok (.iconst 0, 1) := daX7_findLeads (37, .iconst 0, 1) (List.mem_of_getElem? (i := 20) rfl)
theorem dX7_findLeads_38 : decode cX7_findLeads 38 = .ok (.istore_n 3, 1) := daX7_findLeads (38, .istore_n 3, 1) (List.mem_of_getElem? (i := 21) rfl)
theorem dX7_findLeads_39 : decode cX7_findLeads 39 = .ok (.iload_n 3, 1) := daX7_findLeads (39, .iload_n 3, 1) (List.mem_of_getElem? (i := 22) rfl)
theorem dX7_findLeads_40 : decode cX7_findLeads 40 = .ok (.iload_n 2, 1) := daX7_findLeads (40, .iload_n 2, 1) (List.mem_of_getElem? (i := 23) rfl)
theorem dX7_findLeads_41 : decode cX7_findLeads 41 = .ok (.if_icmp .ge 118, 3) := daX7_findLeads (41, .if_icmp .ge 118, 3) (List.mem_of_getElem? (i := 24) rfl)
theorem dX7_findLeads_44 : decode cX7_findLeads 44 = .ok (.iconst 0, 1) := daX7_findLeads (44, .iconst 0, 1) (List.mem_of_getElem? (i := 25) rfl)
theorem dX7_findLeads_45 : decode cX7_findLeads 45 = .ok (.istore 4, 2) := daX7_findLeads (45, .istore 4, 2) (List.mem_of_getElem? (i := 26) rfl)
theorem dX7_findLeads_47 : decode cX7_findLeads 47 = .ok (.iload 4, 2) := daX7_findLeads (47, .iload 4, 2) (List.mem_of_getElem? (i := 27) rfl)
theorem dX7_findLeads_49 : decode cX7_findLeads 49 = .ok (.iload_n 1, 1) := daX7_findLeads (49, .iload_n 1, 1) (List.mem_of_getElem? (i := 28) rfl)
theorem dX7_findLeads_50 : decode cX7_findLeads 50 = .ok (.ifCond .eq 12, 3) := daX7_findLeads (50, .ifCond .eq 12, 3) (List.mem_of_getElem? (i := 29) rfl)
theorem dX7_findLeads_53 : decode cX7_findLeads 53 = .ok (.aload_n 0, 1) := daX7_findLeads (53, .aload_n 0, 1) (List.mem_of_getElem? (i := 30) rfl)
theorem dX7_findLeads_54 : decode cX7_findLeads 54 = .ok (.getfield 71, 3) := daX7_findLeads (54, .getfield 71, 3) (List.mem_of_getElem? (i := 31) rfl)
theorem dX7_findLeads_57 : decode cX7_findLeads 57 = .ok (.iload_n 3, 1) := daX7_findLeads (57, .iload_n 3, 1) (List.mem_of_getElem? (i := 32) rfl)
theorem dX7_findLeads_58 : decode cX7_findLeads 58 = .ok (.iaload, 1) := daX7_findLeads (58, .iaload, 1) (List.mem_of_getElem? (i := 33) rfl)
theorem dX7_findLeads_59 : decode cX7_findLeads 59 = .ok (.goto 9, 3) := daX7_findLeads (59, .goto 9, 3) (List.mem_of_getElem? (i := 34) rfl)
theorem dX7_findLeads_62 : decode cX7_findLeads 62 = .ok (.aload_n 0, 1) := daX7_findLeads (62, .aload_n 0, 1) (List.mem_of_getElem? (i := 35) rfl)
theorem dX7_findLeads_63 : decode cX7_findLeads 63 = .ok (.getfield 32, 3) := daX7_findLeads (63, .getfield 32, 3) (List.mem_of_getElem? (i := 36) rfl)
theorem dX7_findLeads_66 : decode cX7_findLeads 66 = .ok (.iload_n 3, 1) := daX7_findLeads (66, .iload_n 3, 1) (List.mem_of_getElem? (i := 37) rfl)
theorem dX7_findLeads_67 : decode cX7_findLeads 67 = .ok (.iaload, 1) := daX7_findLeads (67, .iaload, 1) (List.mem_of_getElem? (i := 38) rfl)
theorem dX7_findLeads_68 : decode cX7_findLeads 68 = .ok (.if_icmp .ge 85, 3) := daX7_findLeads (68, .if_icmp .ge 85, 3) (List.mem_of_getElem? (i := 39) rfl)
theorem dX7_findLeads_71 : decode cX7_findLeads 71 = .ok (.bipush 6, 2) := daX7_findLeads (71, .bipush 6, 2) (List.mem_of_getElem? (i := 40) rfl)
theorem dX7_findLeads_73 : decode cX7_findLeads 73 = .ok (.iload_n 3, 1) := daX7_findLeads (73, .iload_n 3, 1) (List.mem_of_getElem? (i := 41) rfl)
theorem dX7_findLeads_74 : decode cX7_findLeads 74 = .ok (.imul, 1) := daX7_findLeads (74, .imul, 1) (List.mem_of_getElem? (i := 42) rfl)
theorem dX7_findLeads_75 : decode cX7_findLeads 75 = .ok (.iload 4, 2) := daX7_findLeads (75, .iload 4, 2) (List.mem_of_getElem? (i := 43) rfl)
theorem dX7_findLeads_77 : decode cX7_findLeads 77 = .ok (.iadd, 1) := daX7_findLeads (77, .iadd, 1) (List.mem_of_getElem? (i := 44) rfl)
theorem dX7_findLeads_78 : decode cX7_findLeads 78 = .ok (.istore 5, 2) := daX7_findLeads (78, .istore 5, 2) (List.mem_of_getElem? (i := 45) rfl)
theorem dX7_findLeads_80 : decode cX7_findLeads 80 = .ok (.iload_n 1, 1) := daX7_findLeads (80, .iload_n 1, 1) (List.mem_of_getElem? (i := 46) rfl)
theorem dX7_findLeads_81 : decode cX7_findLeads 81 = .ok (.ifCond .eq 13, 3) := daX7_findLeads (81, .ifCond .eq 13, 3) (List.mem_of_getElem? (i := 47) rfl)
theorem dX7_findLeads_84 : decode cX7_findLeads 84 = .ok (.aload_n 0, 1) := daX7_findLeads (84, .aload_n 0, 1) (List.mem_of_getElem? (i := 48) rfl)
theorem dX7_findLeads_85 : decode cX7_findLeads 85 = .ok (.getfield 77, 3) := daX7_findLeads (85, .getfield 77, 3) (List.mem_of_getElem? (i := 49) rfl)
theorem dX7_findLeads_88 : decode cX7_findLeads 88 = .ok (.iload 5, 2) := daX7_findLeads (88, .iload 5, 2) (List.mem_of_getElem? (i := 50) rfl)
theorem dX7_findLeads_90 : decode cX7_findLeads 90 = .ok (.iaload, 1) := daX7_findLeads (90, .iaload, 1) (List.mem_of_getElem? (i := 51) rfl)
theorem dX7_findLeads_91 : decode cX7_findLeads 91 = .ok (.goto 10, 3) := daX7_findLeads (91, .goto 10, 3) (List.mem_of_getElem? (i := 52) rfl)
theorem dX7_findLeads_94 : decode cX7_findLeads 94 = .ok (.aload_n 0, 1) := daX7_findLeads (94, .aload_n 0, 1) (List.mem_of_getElem? (i := 53) rfl)
theorem dX7_findLeads_95 : decode cX7_findLeads 95 = .ok (.getfield 38, 3) := daX7_findLeads (95, .getfield 38, 3) (List.mem_of_getElem? (i := 54) rfl)
theorem dX7_findLeads_98 : decode cX7_findLeads 98 = .ok (.iload 5, 2) := daX7_findLeads (98, .iload 5, 2) (List.mem_of_getElem? (i := 55) rfl)
theorem dX7_findLeads_100 : decode cX7_findLeads 100 = .ok (.iaload, 1) := daX7_findLeads (100, .iaload, 1) (List.mem_of_getElem? (i := 56) rfl)
theorem dX7_findLeads_101 : decode cX7_findLeads 101 = .ok (.istore 6, 2) := daX7_findLeads (101, .istore 6, 2) (List.mem_of_getElem? (i := 57) rfl)
theorem dX7_findLeads_103 : decode cX7_findLeads 103 = .ok (.iload 6, 2) := daX7_findLeads (103, .iload 6, 2) (List.mem_of_getElem? (i := 58) rfl)
theorem dX7_findLeads_105 : decode cX7_findLeads 105 = .ok (.iconst 1, 1) := daX7_findLeads (105, .iconst 1, 1) (List.mem_of_getElem? (i := 59) rfl)
theorem dX7_findLeads_106 : decode cX7_findLeads 106 = .ok (.if_icmp .eq 9, 3) := daX7_findLeads (106, .if_icmp .eq 9, 3) (List.mem_of_getElem? (i := 60) rfl)
theorem dX7_findLeads_109 : decode cX7_findLeads 109 = .ok (.iload 6, 2) := daX7_findLeads (109, .iload 6, 2) (List.mem_of_getElem? (i := 61) rfl)
theorem dX7_findLeads_111 : decode cX7_findLeads 111 = .ok (.iconst 2, 1) := daX7_findLeads (111, .iconst 2, 1) (List.mem_of_getElem? (i := 62) rfl)
theorem dX7_findLeads_112 : decode cX7_findLeads 112 = .ok (.if_icmp .ne 35, 3) := daX7_findLeads (112, .if_icmp .ne 35, 3) (List.mem_of_getElem? (i := 63) rfl)
theorem dX7_findLeads_115 : decode cX7_findLeads 115 = .ok (.aload_n 0, 1) := daX7_findLeads (115, .aload_n 0, 1) (List.mem_of_getElem? (i := 64) rfl)
theorem dX7_findLeads_116 : decode cX7_findLeads 116 = .ok (.getfield 116, 3) := daX7_findLeads (116, .getfield 116, 3) (List.mem_of_getElem? (i := 65) rfl)
theorem dX7_findLeads_119 : decode cX7_findLeads 119 = .ok (.bipush 6, 2) := daX7_findLeads (119, .bipush 6, 2) (List.mem_of_getElem? (i := 66) rfl)
theorem dX7_findLeads_121 : decode cX7_findLeads 121 = .ok (.iload_n 3, 1) := daX7_findLeads (121, .iload_n 3, 1) (List.mem_of_getElem? (i := 67) rfl)
theorem dX7_findLeads_122 : decode cX7_findLeads 122 = .ok (.imul, 1) := daX7_findLeads (122, .imul, 1) (List.mem_of_getElem? (i := 68) rfl)
theorem dX7_findLeads_123 : decode cX7_findLeads 123 = .ok (.iload_n 1, 1) := daX7_findLeads (123, .iload_n 1, 1) (List.mem_of_getElem? (i := 69) rfl)
theorem dX7_findLeads_124 : decode cX7_findLeads 124 = .ok (.ifCond .eq 13, 3) := daX7_findLeads (124, .ifCond .eq 13, 3) (List.mem_of_getElem? (i := 70) rfl)
theorem dX7_findLeads_127 : decode cX7_findLeads 127 = .ok (.aload_n 0, 1) := daX7_findLeads (127, .aload_n 0, 1) (List.mem_of_getElem? (i := 71) rfl)
theorem dX7_findLeads_128 : decode cX7_findLeads 128 = .ok (.getfield 80, 3) := daX7_findLeads (128, .getfield 80, 3) (List.mem_of_getElem? (i := 72) rfl)
theorem dX7_findLeads_131 : decode cX7_findLeads 131 = .ok (.iload 5, 2) := daX7_findLeads (131, .iload 5, 2) (List.mem_of_getElem? (i := 73) rfl)
theorem dX7_findLeads_133 : decode cX7_findLeads 133 = .ok (.iaload, 1) := daX7_findLeads (133, .iaload, 1) (List.mem_of_getElem? (i := 74) rfl)
theorem dX7_findLeads_134 : decode cX7_findLeads 134 = .ok (.goto 10, 3) := daX7_findLeads (134, .goto 10, 3) (List.mem_of_getElem? (i := 75) rfl)
theorem dX7_findLeads_137 : decode cX7_findLeads 137 = .ok (.aload_n 0, 1) := daX7_findLeads (137, .aload_n 0, 1) (List.mem_of_getElem? (i := 76) rfl)
theorem dX7_findLeads_138 : decode cX7_findLeads 138 = .ok (.getfield 41, 3) := daX7_findLeads (138, .getfield 41, 3) (List.mem_of_getElem? (i := 77) rfl)
theorem dX7_findLeads_141 : decode cX7_findLeads 141 = .ok (.iload 5, 2) := daX7_findLeads (141, .iload 5, 2) (List.mem_of_getElem? (i := 78) rfl)
theorem dX7_findLeads_143 : decode cX7_findLeads 143 = .ok (.iaload, 1) := daX7_findLeads (143, .iaload, 1) (List.mem_of_getElem? (i := 79) rfl)
theorem dX7_findLeads_144 : decode cX7_findLeads 144 = .ok (.iadd, 1) := daX7_findLeads (144, .iadd, 1) (List.mem_of_getElem? (i := 80) rfl)
theorem dX7_findLeads_145 : decode cX7_findLeads 145 = .ok (.iconst 1, 1) := daX7_findLeads (145, .iconst 1, 1) (List.mem_of_getElem? (i := 81) rfl)
theorem dX7_findLeads_146 : decode cX7_findLeads 146 = .ok (.bastore, 1) := daX7_findLeads (146, .bastore, 1) (List.mem_of_getElem? (i := 82) rfl)
theorem dX7_findLeads_147 : decode cX7_findLeads 147 = .ok (.iinc 4 1, 3) := daX7_findLeads (147, .iinc 4 1, 3) (List.mem_of_getElem? (i := 83) rfl)
theorem dX7_findLeads_150 : decode cX7_findLeads 150 = .ok (.goto (-103), 3) := daX7_findLeads (150, .goto (-103), 3) (List.mem_of_getElem? (i := 84) rfl)
theorem dX7_findLeads_153 : decode cX7_findLeads 153 = .ok (.iinc 3 1, 3) := daX7_findLeads (153, .iinc 3 1, 3) (List.mem_of_getElem? (i := 85) rfl)
theorem dX7_findLeads_156 : decode cX7_findLeads 156 = .ok (.goto (-117), 3) := daX7_findLeads (156, .goto (-117), 3) (List.mem_of_getElem? (i := 86) rfl)
theorem dX7_findLeads_159 : decode cX7_findLeads 159 = .ok (.iconst 0, 1) := daX7_findLeads (159, .iconst 0, 1) (List.mem_of_getElem? (i := 87) rfl)
theorem dX7_findLeads_160 : decode cX7_findLeads 160 = .ok (.istore_n 3, 1) := daX7_findLeads (160, .istore_n 3, 1) (List.mem_of_getElem? (i := 88) rfl)
theorem dX7_findLeads_161 : decode cX7_findLeads 161 = .ok (.iload_n 3, 1) := daX7_findLeads (161, .iload_n 3, 1) (List.mem_of_getElem? (i := 89) rfl)
theorem dX7_findLeads_162 : decode cX7_findLeads 162 = .ok (.iload_n 2, 1) := daX7_findLeads (162, .iload_n 2, 1) (List.mem_of_getElem? (i := 90) rfl)
theorem dX7_findLeads_163 : decode cX7_findLeads 163 = .ok (.if_icmp .ge 103, 3) := daX7_findLeads (163, .if_icmp .ge 103, 3) (List.mem_of_getElem? (i := 91) rfl)
theorem dX7_findLeads_166 : decode cX7_findLeads 166 = .ok (.iconst 0, 1) := daX7_findLeads (166, .iconst 0, 1) (List.mem_of_getElem? (i := 92) rfl)
theorem dX7_findLeads_167 : decode cX7_findLeads 167 = .ok (.istore 4, 2) := daX7_findLeads (167, .istore 4, 2) (List.mem_of_getElem? (i := 93) rfl)
theorem dX7_findLeads_169 : decode cX7_findLeads 169 = .ok (.iload 4, 2) := daX7_findLeads (169, .iload 4, 2) (List.mem_of_getElem? (i := 94) rfl)
theorem dX7_findLeads_171 : decode cX7_findLeads 171 = .ok (.iload_n 2, 1) := daX7_findLeads (171, .iload_n 2, 1) (List.mem_of_getElem? (i := 95) rfl)
theorem dX7_findLeads_172 : decode cX7_findLeads 172 = .ok (.if_icmp .ge 88, 3) := daX7_findLeads (172, .if_icmp .ge 88, 3) (List.mem_of_getElem? (i := 96) rfl)
theorem dX7_findLeads_175 : decode cX7_findLeads 175 = .ok (.iconst 0, 1) := daX7_findLeads (175, .iconst 0, 1) (List.mem_of_getElem? (i := 97) rfl)
theorem dX7_findLeads_176 : decode cX7_findLeads 176 = .ok (.istore 5, 2) := daX7_findLeads (176, .istore 5, 2) (List.mem_of_getElem? (i := 98) rfl)
theorem dX7_findLeads_178 : decode cX7_findLeads 178 = .ok (.iload 5, 2) := daX7_findLeads (178, .iload 5, 2) (List.mem_of_getElem? (i := 99) rfl)
theorem dX7_findLeads_180 : decode cX7_findLeads 180 = .ok (.iload_n 2, 1) := daX7_findLeads (180, .iload_n 2, 1) (List.mem_of_getElem? (i := 100) rfl)
theorem dX7_findLeads_181 : decode cX7_findLeads 181 = .ok (.if_icmp .ge 73, 3) := daX7_findLeads (181, .if_icmp .ge 73, 3) (List.mem_of_getElem? (i := 101) rfl)
theorem dX7_findLeads_184 : decode cX7_findLeads 184 = .ok (.aload_n 0, 1) := daX7_findLeads (184, .aload_n 0, 1) (List.mem_of_getElem? (i := 102) rfl)
theorem dX7_findLeads_185 : decode cX7_findLeads 185 = .ok (.getfield 116, 3) := daX7_findLeads (185, .getfield 116, 3) (List.mem_of_getElem? (i := 103) rfl)
theorem dX7_findLeads_188 : decode cX7_findLeads 188 = .ok (.bipush 6, 2) := daX7_findLeads (188, .bipush 6, 2) (List.mem_of_getElem? (i := 104) rfl)
theorem dX7_findLeads_190 : decode cX7_findLeads 190 = .ok (.iload 4, 2) := daX7_findLeads (190, .iload 4, 2) (List.mem_of_getElem? (i := 105) rfl)
theorem dX7_findLeads_192 : decode cX7_findLeads 192 = .ok (.imul, 1) := daX7_findLeads (192, .imul, 1) (List.mem_of_getElem? (i := 106) rfl)
theorem dX7_findLeads_193 : decode cX7_findLeads 193 = .ok (.iload 5, 2) := daX7_findLeads (193, .iload 5, 2) (List.mem_of_getElem? (i := 107) rfl)
theorem dX7_findLeads_195 : decode cX7_findLeads 195 = .ok (.iadd, 1) := daX7_findLeads (195, .iadd, 1) (List.mem_of_getElem? (i := 108) rfl)
theorem dX7_findLeads_196 : decode cX7_findLeads 196 = .ok (.aload_n 0, 1) := daX7_findLeads (196, .aload_n 0, 1) (List.mem_of_getElem? (i := 109) rfl)
theorem dX7_findLeads_197 : decode cX7_findLeads 197 = .ok (.getfield 116, 3) := daX7_findLeads (197, .getfield 116, 3) (List.mem_of_getElem? (i := 110) rfl)
theorem dX7_findLeads_200 : decode cX7_findLeads 200 = .ok (.bipush 6, 2) := daX7_findLeads (200, .bipush 6, 2) (List.mem_of_getElem? (i := 111) rfl)
theorem dX7_findLeads_202 : decode cX7_findLeads 202 = .ok (.iload 4, 2) := daX7_findLeads (202, .iload 4, 2) (List.mem_of_getElem? (i := 112) rfl)
theorem dX7_findLeads_204 : decode cX7_findLeads 204 = .ok (.imul, 1) := daX7_findLeads (204, .imul, 1) (List.mem_of_getElem? (i := 113) rfl)
theorem dX7_findLeads_205 : decode cX7_findLeads 205 = .ok (.iload 5, 2) := daX7_findLeads (205, .iload 5, 2) (List.mem_of_getElem? (i := 114) rfl)
theorem dX7_findLeads_207 : decode cX7_findLeads 207 = .ok (.iadd, 1) := daX7_findLeads (207, .iadd, 1) (List.mem_of_getElem? (i := 115) rfl)
theorem dX7_findLeads_208 : decode cX7_findLeads 208 = .ok (.baload, 1) := daX7_findLeads (208, .baload, 1) (List.mem_of_getElem? (i := 116) rfl)
theorem dX7_findLeads_209 : decode cX7_findLeads 209 = .ok (.ifCond .ne 33, 3) := daX7_findLeads (209, .ifCond .ne 33, 3) (List.mem_of_getElem? (i := 117) rfl)
theorem dX7_findLeads_212 : decode cX7_findLeads 212 = .ok (.aload_n 0, 1) := daX7_findLeads (212, .aload_n 0, 1) (List.mem_of_getElem? (i := 118) rfl)
theorem dX7_findLeads_213 : decode cX7_findLeads 213 = .ok (.getfield 116, 3) := daX7_findLeads (213, .getfield 116, 3) (List.mem_of_getElem? (i := 119) rfl)
theorem dX7_findLeads_216 : decode cX7_findLeads 216 = .ok (.bipush 6, 2) := daX7_findLeads (216, .bipush 6, 2) (List.mem_of_getElem? (i := 120) rfl)
theorem dX7_findLeads_218 : decode cX7_findLeads 218 = .ok (.iload 4, 2) := daX7_findLeads (218, .iload 4, 2) (List.mem_of_getElem? (i := 121) rfl)
theorem dX7_findLeads_220 : decode cX7_findLeads 220 = .ok (.imul, 1) := daX7_findLeads (220, .imul, 1) (List.mem_of_getElem? (i := 122) rfl)
theorem dX7_findLeads_221 : decode cX7_findLeads 221 = .ok (.iload_n 3, 1) := daX7_findLeads (221, .iload_n 3, 1) (List.mem_of_getElem? (i := 123) rfl)
theorem dX7_findLeads_222 : decode cX7_findLeads 222 = .ok (.iadd, 1) := daX7_findLeads (222, .iadd, 1) (List.mem_of_getElem? (i := 124) rfl)
theorem dX7_findLeads_223 : decode cX7_findLeads 223 = .ok (.baload, 1) := daX7_findLeads (223, .baload, 1) (List.mem_of_getElem? (i := 125) rfl)
theorem dX7_findLeads_224 : decode cX7_findLeads 224 = .ok (.ifCond .eq 22, 3) := daX7_findLeads (224, .ifCond .eq 22, 3) (List.mem_of_getElem? (i := 126) rfl)
theorem dX7_findLeads_227 : decode cX7_findLeads 227 = .ok (.aload_n 0, 1) := daX7_findLeads (227, .aload_n 0, 1) (List.mem_of_getElem? (i := 127) rfl)
theorem dX7_findLeads_228 : decode cX7_findLeads 228 = .ok (.getfield 116, 3) := daX7_findLeads (228, .getfield 116, 3) (List.mem_of_getElem? (i := 128) rfl)
theorem dX7_findLeads_231 : decode cX7_findLeads 231 = .ok (.bipush 6, 2) := daX7_findLeads (231, .bipush 6, 2) (List.mem_of_getElem? (i := 129) rfl)
theorem dX7_findLeads_233 : decode cX7_findLeads 233 = .ok (.iload_n 3, 1) := daX7_findLeads (233, .iload_n 3, 1) (List.mem_of_getElem? (i := 130) rfl)
theorem dX7_findLeads_234 : decode cX7_findLeads 234 = .ok (.imul, 1) := daX7_findLeads (234, .imul, 1) (List.mem_of_getElem? (i := 131) rfl)
theorem dX7_findLeads_235 : decode cX7_findLeads 235 = .ok (.iload 5, 2) := daX7_findLeads (235, .iload 5, 2) (List.mem_of_getElem? (i := 132) rfl)
theorem dX7_findLeads_237 : decode cX7_findLeads 237 = .ok (.iadd, 1) := daX7_findLeads (237, .iadd, 1) (List.mem_of_getElem? (i := 133) rfl)
theorem dX7_findLeads_238 : decode cX7_findLeads 238 = .ok (.baload, 1) := daX7_findLeads (238, .baload, 1) (List.mem_of_getElem? (i := 134) rfl)
theorem dX7_findLeads_239 : decode cX7_findLeads 239 = .ok (.ifCond .eq 7, 3) := daX7_findLeads (239, .ifCond .eq 7, 3) (List.mem_of_getElem? (i := 135) rfl)
theorem dX7_findLeads_242 : decode cX7_findLeads 242 = .ok (.iconst 1, 1) := daX7_findLeads (242, .iconst 1, 1) (List.mem_of_getElem? (i := 136) rfl)
theorem dX7_findLeads_243 : decode cX7_findLeads 243 = .ok (.goto 4, 3) := daX7_findLeads (243, .goto 4, 3) (List.mem_of_getElem? (i := 137) rfl)
theorem dX7_findLeads_246 : decode cX7_findLeads 246 = .ok (.iconst 0, 1) := daX7_findLeads (246, .iconst 0, 1) (List.mem_of_getElem? (i := 138) rfl)
theorem dX7_findLeads_247 : decode cX7_findLeads 247 = .ok (.bastore, 1) := daX7_findLeads (247, .bastore, 1) (List.mem_of_getElem? (i := 139) rfl)
theorem dX7_findLeads_248 : decode cX7_findLeads 248 = .ok (.iinc 5 1, 3) := daX7_findLeads (248, .iinc 5 1, 3) (List.mem_of_getElem? (i := 140) rfl)
theorem dX7_findLeads_251 : decode cX7_findLeads 251 = .ok (.goto (-73), 3) := daX7_findLeads (251, .goto (-73), 3) (List.mem_of_getElem? (i := 141) rfl)
theorem dX7_findLeads_254 : decode cX7_findLeads 254 = .ok (.iinc 4 1, 3) := daX7_findLeads (254, .iinc 4 1, 3) (List.mem_of_getElem? (i := 142) rfl)
theorem dX7_findLeads_257 : decode cX7_findLeads 257 = .ok (.goto (-88), 3) := daX7_findLeads (257, .goto (-88), 3) (List.mem_of_getElem? (i := 143) rfl)
theorem dX7_findLeads_260 : decode cX7_findLeads 260 = .ok (.iinc 3 1, 3) := daX7_findLeads (260, .iinc 3 1, 3) (List.mem_of_getElem? (i := 144) rfl)
theorem dX7_findLeads_263 : decode cX7_findLeads 263 = .ok (.goto (-102), 3) := daX7_findLeads (263, .goto (-102), 3) (List.mem_of_getElem? (i := 145) rfl)
theorem dX7_findLeads_266 : decode cX7_findLeads 266 = .ok (.return_, 1) := daX7_findLeads (266, .return_, 1) (List.mem_of_getElem? (i := 146) rfl)
def rmX7_findLeads : Room := { frames := 0, cells := 0, slots := 0, locals := 0 }
theorem zdX7_findLeads : yX7_findLeads.cls = RX7 ∧ yX7_findLeads.cls ≠ "java/lang/invoke/MethodHandle" ∧ yX7_findLeads.cls ≠ "java/lang/invoke/VarHandle" ∧ (parseMethodDescriptor yX7_findLeads.desc).map (fun d => d.parameters.length) = some 1 := by decide +kernel
theorem kiX7_findLeads_X7 : ∀ w ∈ wsX70, w ∈ wsX7_findLeads := fun _ h => (List.mem_cons_of_mem _ (List.mem_append_right _ h))
theorem kfX7_findLeads_116 : Cond.fieldLink RX7 116 "ShapeJudgeModel" "leads" "[Z" ∈ wsX7_findLeads := (List.mem_of_getElem? (i := 3) rfl)
theorem kfX7_findLeads_41 : Cond.fieldLink RX7 41 "ShapeJudgeModel" "pFirst" "[I" ∈ wsX7_findLeads := (List.mem_of_getElem? (i := 9) rfl)
theorem kfX7_findLeads_80 : Cond.fieldLink RX7 80 "ShapeJudgeModel" "dFirst" "[I" ∈ wsX7_findLeads := (List.mem_of_getElem? (i := 8) rfl)
theorem kfX7_findLeads_38 : Cond.fieldLink RX7 38 "ShapeJudgeModel" "pTest" "[I" ∈ wsX7_findLeads := (List.mem_of_getElem? (i := 7) rfl)
theorem kfX7_findLeads_77 : Cond.fieldLink RX7 77 "ShapeJudgeModel" "dTest" "[I" ∈ wsX7_findLeads := (List.mem_of_getElem? (i := 6) rfl)
theorem kfX7_findLeads_32 : Cond.fieldLink RX7 32 "ShapeJudgeModel" "parts" "[I" ∈ wsX7_findLeads := (List.mem_of_getElem? (i := 5) rfl)
theorem kfX7_findLeads_71 : Cond.fieldLink RX7 71 "ShapeJudgeModel" "dParts" "[I" ∈ wsX7_findLeads := (List.mem_of_getElem? (i := 4) rfl)
theorem kfX7_findLeads_258 : Cond.fieldLink RX7 258 "ShapeJudgeModel" "shapes" "I" ∈ wsX7_findLeads := (List.mem_of_getElem? (i := 2) rfl)
theorem kfX7_findLeads_234 : Cond.fieldLink RX7 234 "ShapeJudgeModel" "dShapes" "I" ∈ wsX7_findLeads := (List.mem_of_getElem? (i := 1) rfl)
def t_X7_findLeads_18  (i2 : Int32) (m3 : Mem) : Option ((Int32 × Mem) ⊕ (Mem)) :=
  (if 36 ≤ i2 then (some (.inr m3)) else (ck (zin i2 36 = true) (bn (sto m3 36 (Int32.toNatClampNeg i2) (vp_nar .boolean 0)) fun m5 => bn (i2 + 1) fun x6 => some (.inl (x6, m5)))))
def l_X7_findLeads_18  (n : Nat) (i2 : Int32) (m3 : Mem) : Option (Mem) := zlp n (fun a => t_X7_findLeads_18  a.1 a.2) (i2, m3)
def t_X7_findLeads_47 (a1 : Int32) (i9 : Int32) (i11 : Int32) (m12 : Mem) : Option ((Int32 × Mem) ⊕ (Mem)) :=
  (((if a1 = 0 then (ck (zin i9 6 = true) (some (m12 8 (Int32.toNatClampNeg i9)))) else (ck (zin i9 6 = true) (some (m12 21 (Int32.toNatClampNeg i9))))) : Option (Int32)).bind fun y13 => (if y13 ≤ i11 then (some (.inr m12)) else (bn (((6 : Int32) * i9) + i11) fun x14 => (((if a1 = 0 then (ck (zin x14 36 = true) (some (m12 10 (Int32.toNatClampNeg x14)))) else (ck (zin x14 36 = true) (some (m12 23 (Int32.toNatClampNeg x14))))) : Option (Int32)).bind fun y15 => (if y15 = 1 then ((if a1 = 0 then (ck (zin x14 36 = true) (ck (zin (((6 : Int32) * i9) + (m12 11 (Int32.toNatClampNeg x14))) 36 = true) (bn (sto m12 36 (Int32.toNatClampNeg (((6 : Int32) * i9) + (m12 11 (Int32.toNatClampNeg x14)))) (vp_nar .boolean 1)) fun m18 => bn (i11 + 1) fun x19 => some (.inl (x19, m18))))) else (ck (zin x14 36 = true) (ck (zin (((6 : Int32) * i9) + (m12 24 (Int32.toNatClampNeg x14))) 36 = true) (bn (sto m12 36 (Int32.toNatClampNeg (((6 : Int32) * i9) + (m12 24 (Int32.toNatClampNeg x14)))) (vp_nar .boolean 1)) fun m22 => bn (i11 + 1) fun x23 => some (.inl (x23, m22))))))) else ((if y15 = 2 then ((if a1 = 0 then (ck (zin x14 36 = true) (ck (zin (((6 : Int32) * i9) + (m12 11 (Int32.toNatClampNeg x14))) 36 = true) (bn (sto m12 36 (Int32.toNatClampNeg (((6 : Int32) * i9) + (m12 11 (Int32.toNatClampNeg x14)))) (vp_nar .boolean 1)) fun m28 => bn (i11 + 1) fun x29 => some (.inl (x29, m28))))) else (ck (zin x14 36 = true) (ck (zin (((6 : Int32) * i9) + (m12 24 (Int32.toNatClampNeg x14))) 36 = true) (bn (sto m12 36 (Int32.toNatClampNeg (((6 : Int32) * i9) + (m12 24 (Int32.toNatClampNeg x14)))) (vp_nar .boolean 1)) fun m32 => bn (i11 + 1) fun x33 => some (.inl (x33, m32))))))) else (bn (i11 + 1) fun x25 => some (.inl (x25, m12))))))))))
def l_X7_findLeads_47 (a1 : Int32) (i9 : Int32) (n : Nat) (i11 : Int32) (m12 : Mem) : Option (Mem) := zlp n (fun a => t_X7_findLeads_47 a1 i9 a.1 a.2) (i11, m12)
def t_X7_findLeads_39 (a1 : Int32) (y1 : Int32) (i9 : Int32) (m10 : Mem) : Option ((Int32 × Mem) ⊕ (Mem)) :=
  (if y1 ≤ i9 then (some (.inr m10)) else (((l_X7_findLeads_47 a1 i9 FU 0 m10).bind fun m44 => bn (i9 + 1) fun x45 => some (.inl (x45, m44)))))
def l_X7_findLeads_39 (a1 : Int32) (y1 : Int32) (n : Nat) (i9 : Int32) (m10 : Mem) : Option (Mem) := zlp n (fun a => t_X7_findLeads_39 a1 y1 a.1 a.2) (i9, m10)
def t_X7_findLeads_178 (y1 : Int32) (i48 : Int32) (i50 : Int32) (i52 : Int32) (m53 : Mem) : Option ((Int32 × Mem) ⊕ (Mem)) :=
  (if y1 ≤ i52 then (some (.inr m53)) else (ck (zin (((6 : Int32) * i50) + i52) 36 = true) ((if (m53 36 (Int32.toNatClampNeg (((6 : Int32) * i50) + i52))) = 0 then (ck (zin (((6 : Int32) * i50) + i48) 36 = true) ((if (m53 36 (Int32.toNatClampNeg (((6 : Int32) * i50) + i48))) = 0 then (ck (zin (((6 : Int32) * i50) + i52) 36 = true) (bn (sto m53 36 (Int32.toNatClampNeg (((6 : Int32) * i50) + i52)) (vp_nar .boolean 0)) fun m60 => bn (i52 + 1) fun x61 => some (.inl (x61, m60)))) else (ck (zin (((6 : Int32) * i48) + i52) 36 = true) ((if (m53 36 (Int32.toNatClampNeg (((6 : Int32) * i48) + i52))) = 0 then (ck (zin (((6 : Int32) * i50) + i52) 36 = true) (bn (sto m53 36 (Int32.toNatClampNeg (((6 : Int32) * i50) + i52)) (vp_nar .boolean 0)) fun m64 => bn (i52 + 1) fun x65 => some (.inl (x65, m64)))) else (ck (zin (((6 : Int32) * i50) + i52) 36 = true) (bn (sto m53 36 (Int32.toNatClampNeg (((6 : Int32) * i50) + i52)) (vp_nar .boolean 1)) fun m67 => bn (i52 + 1) fun x68 => some (.inl (x68, m67)))))))))) else (ck (zin (((6 : Int32) * i50) + i52) 36 = true) (bn (sto m53 36 (Int32.toNatClampNeg (((6 : Int32) * i50) + i52)) (vp_nar .boolean 1)) fun m56 => bn (i52 + 1) fun x57 => some (.inl (x57, m56))))))))
def l_X7_findLeads_178 (y1 : Int32) (i48 : Int32) (i50 : Int32) (n : Nat) (i52 : Int32) (m53 : Mem) : Option (Mem) := zlp n (fun a => t_X7_findLeads_178 y1 i48 i50 a.1 a.2) (i52, m53)
def t_X7_findLeads_169 (y1 : Int32) (i48 : Int32) (i50 : Int32) (m51 : Mem) : Option ((Int32 × Mem) ⊕ (Mem)) :=
  (if y1 ≤ i50 then (some (.inr m51)) else (((l_X7_findLeads_178 y1 i48 i50 FU 0 m51).bind fun m73 => bn (i50 + 1) fun x74 => some (.inl (x74, m73)))))
def l_X7_findLeads_169 (y1 : Int32) (i48 : Int32) (n : Nat) (i50 : Int32) (m51 : Mem) : Option (Mem) := zlp n (fun a => t_X7_findLeads_169 y1 i48 a.1 a.2) (i50, m51)
def t_X7_findLeads_161 (y1 : Int32) (i48 : Int32) (m49 : Mem) : Option ((Int32 × Mem) ⊕ (Mem)) :=
  (if y1 ≤ i48 then (some (.inr m49)) else (((l_X7_findLeads_169 y1 i48 FU 0 m49).bind fun m76 => bn (i48 + 1) fun x77 => some (.inl (x77, m76)))))
def l_X7_findLeads_161 (y1 : Int32) (n : Nat) (i48 : Int32) (m49 : Mem) : Option (Mem) := zlp n (fun a => t_X7_findLeads_161 y1 a.1 a.2) (i48, m49)
def s_X7_findLeads (m : Mem) (a1 : Int32) : Option (Mem) :=
  (((if a1 = 0 then (some (m 0 7)) else (some (m 0 21))) : Option (Int32)).bind fun y1 => ((l_X7_findLeads_18  FU 0 m).bind fun m8 => ((l_X7_findLeads_39 a1 y1 FU 0 m8).bind fun m47 => ((l_X7_findLeads_161 y1 FU 0 m47).bind fun m79 => some m79))))
set_option maxRecDepth 100000 in
set_option maxHeartbeats 4000000 in
theorem w_X7_findLeads_18 {K : ZK} (C : zOK MM K cX7_findLeads 7 none RX7 wsX7_findLeads rmX7_findLeads) {a1 : Int32} {y1 : Int32}  {o0 : Mem} (hk : zGo MM K o0 [(0, .ref ((zw K).2.1 0)), (1, .int a1), (2, .int y1)] 37 []) : ∀ (n : Nat) (i2 : Int32) (m3 : Mem), l_X7_findLeads_18  n i2 m3 = some o0 → zGo MM K m3 [(0, .ref ((zw K).2.1 0)), (1, .int a1), (2, .int y1), (3, .int i2)] 18 [] := by
  intro n
  induction n with
  | zero =>
    intro i2 m3 hf
    cases hf
  | succ n ih =>
    intro i2 m3 hf
    obtain ⟨z, hf, hz⟩ := zlp_el hf
    replace hf : t_X7_findLeads_18  i2 m3 = some z := hf
    unfold t_X7_findLeads_18 at hf
    refine z_iload_n C 3 dX7_findLeads_18 rfl rfl ?_
    refine z_bipush C (v := 36) dX7_findLeads_19 rfl ?_
    refine z_icmp_ge (tgt := 37) C dX7_findLeads_21 (by decide) (fun c7 => ?_) (fun c7 => ?_)
    · replace hf := if_t c7 hf
      cases hf
      replace hz := zlz_r hz
      cases hz
      exact z_sub [0, 1, 2] rfl hk
    · replace hf := if_f c7 hf
      refine z_aload_n C 0 dX7_findLeads_24 rfl rfl ?_
      refine z_getr C (t := 36) (Nat.le_of_ble_eq_true rfl) rfl rfl 47 (Nat.le_of_ble_eq_true rfl) rfl kiX7_findLeads_X7 kfX7_findLeads_116 dX7_findLeads_25 ?_
      refine z_iload_n C 3 dX7_findLeads_28 rfl rfl ?_
      refine z_iconst C (v := 0) dX7_findLeads_29 rfl ?_
      obtain ⟨hi4, hf⟩ := ck_el hf
      refine z_zast C (k := 36) (Nat.le_of_ble_eq_true rfl) rfl hi4 dX7_findLeads_30 ?_
      refine z_nm (fun m5 e_m5 => ?_)
      replace hf := bn_to e_m5 hf
      obtain ⟨x6, e_x6⟩ : ∃ y : Int32, y = i2 + 1 := ⟨_, rfl⟩
      replace hf := bn_to e_x6 hf
      refine z_iinc C (lv2 := [(0, .ref ((zw K).2.1 0)), (1, .int a1), (2, .int y1), (3, .int x6)]) 3 [1, 2, 3, 0] dX7_findLeads_31 rfl rfl (Nat.le_of_ble_eq_true rfl) e_x6 rfl ?_
      refine z_goto (tgt := 18) C dX7_findLeads_34 (by decide) ?_
      cases hf
      exact z_sub [0, 1, 2, 3] rfl (ih x6 m5 hz)
set_option maxRecDepth 100000 in
set_option maxHeartbeats 4000000 in
theorem w_X7_findLeads_47 {K : ZK} (C : zOK MM K cX7_findLeads 7 none RX7 wsX7_findLeads rmX7_findLeads) {a1 : Int32} {y1 : Int32} {i9 : Int32}  {o0 : Mem} (hk : zGo MM K o0 [(0, .ref ((zw K).2.1 0)), (1, .int a1), (2, .int y1), (3, .int i9)] 153 []) : ∀ (n : Nat) (i11 : Int32) (m12 : Mem), l_X7_findLeads_47 a1 i9 n i11 m12 = some o0 → zGo MM K m12 [(0, .ref ((zw K).2.1 0)), (1, .int a1), (2, .int y1), (3, .int i9), (4, .int i11)] 47 [] := by
  intro n
  induction n with
  | zero =>
    intro i11 m12 hf
    cases hf
  | succ n ih =>
    intro i11 m12 hf
    obtain ⟨z, hf, hz⟩ := zlp_el hf
    replace hf : t_X7_findLeads_47 a1 i9 i11 m12 = some z := hf
    unfold t_X7_findLeads_47 at hf
    refine z_iload C 4 dX7_findLeads_47 rfl ?_
    refine z_iload_n C 1 dX7_findLeads_49 rfl rfl ?_
    obtain ⟨y13, hg, hf⟩ := zb_el hf
    have hj : zGo MM K m12 [(0, .ref ((zw K).2.1 0)), (1, .int a1), (2, .int y1), (3, .int i9), (4, .int i11)] 68 [.int y13, .int i11] := by
      refine z_icmp_ge (tgt := 153) C dX7_findLeads_68 (by decide) (fun c40 => ?_) (fun c40 => ?_)
      · replace hf := if_t c40 hf
        cases hf
        replace hz := zlz_r hz
        cases hz
        exact z_sub [0, 1, 2, 3] rfl hk
      · replace hf := if_f c40 hf
        refine z_bipush C (v := 6) dX7_findLeads_71 rfl ?_
        refine z_iload_n C 3 dX7_findLeads_73 rfl rfl ?_
        refine z_imul C dX7_findLeads_74 ?_
        refine z_iload C 4 dX7_findLeads_75 rfl ?_
        refine z_iadd C dX7_findLeads_77 ?_
        refine z_topi (fun x14 e_x14 => ?_)
        replace hf := bn_to e_x14 hf
        refine z_istore C (lv2 := [(0, .ref ((zw K).2.1 0)), (1, .int a1), (2, .int y1), (3, .int i9), (4, .int i11), (5, .int x14)]) [1, 2, 3, 4, 5, 0] dX7_findLeads_78 (Nat.le_of_ble_eq_true rfl) rfl ?_
        refine z_iload_n C 1 dX7_findLeads_80 rfl rfl ?_
        obtain ⟨y15, hg, hf⟩ := zb_el hf
        have hj : zGo MM K m12 [(0, .ref ((zw K).2.1 0)), (1, .int a1), (2, .int y1), (3, .int i9), (4, .int i11), (5, .int x14)] 101 [.int y15] := by
          refine z_istore C (lv2 := [(0, .ref ((zw K).2.1 0)), (1, .int a1), (2, .int y1), (3, .int i9), (4, .int i11), (5, .int x14), (6, .int y15)]) [1, 2, 3, 4, 5, 6, 0] dX7_findLeads_101 (Nat.le_of_ble_eq_true rfl) rfl ?_
          refine z_iload C 6 dX7_findLeads_103 rfl ?_
          refine z_iconst C (v := 1) dX7_findLeads_105 rfl ?_
          refine z_icmp_eq (tgt := 115) C dX7_findLeads_106 (by decide) (fun c36 => ?_) (fun c36 => ?_)
          · replace hf := if_t c36 hf
            refine z_aload_n C 0 dX7_findLeads_115 rfl rfl ?_
            refine z_getr C (t := 36) (Nat.le_of_ble_eq_true rfl) rfl rfl 47 (Nat.le_of_ble_eq_true rfl) rfl kiX7_findLeads_X7 kfX7_findLeads_116 dX7_findLeads_116 ?_
            refine z_bipush C (v := 6) dX7_findLeads_119 rfl ?_
            refine z_iload_n C 3 dX7_findLeads_121 rfl rfl ?_
            refine z_imul C dX7_findLeads_122 ?_
            refine z_iload_n C 1 dX7_findLeads_123 rfl rfl ?_
            refine z_if_eq (tgt := 137) C dX7_findLeads_124 (by decide) (fun c24 => ?_) (fun c24 => ?_)
            · replace hf := if_t c24 hf
              refine z_aload_n C 0 dX7_findLeads_137 rfl rfl ?_
              refine z_getr C (t := 11) (Nat.le_of_ble_eq_true rfl) rfl rfl 13 (Nat.le_of_ble_eq_true rfl) rfl kiX7_findLeads_X7 kfX7_findLeads_41 dX7_findLeads_138 ?_
              refine z_iload C 5 dX7_findLeads_141 rfl ?_
              obtain ⟨hi16, hf⟩ := ck_el hf
              refine z_iald C (k := 11) (Nat.le_of_ble_eq_true rfl) rfl hi16 dX7_findLeads_143 ?_
              refine z_iadd C dX7_findLeads_144 ?_
              refine z_iconst C (v := 1) dX7_findLeads_145 rfl ?_
              obtain ⟨hi17, hf⟩ := ck_el hf
              refine z_zast C (k := 36) (Nat.le_of_ble_eq_true rfl) rfl hi17 dX7_findLeads_146 ?_
              refine z_nm (fun m18 e_m18 => ?_)
              replace hf := bn_to e_m18 hf
              obtain ⟨x19, e_x19⟩ : ∃ y : Int32, y = i11 + 1 := ⟨_, rfl⟩
              replace hf := bn_to e_x19 hf
              refine z_iinc C (lv2 := [(0, .ref ((zw K).2.1 0)), (1, .int a1), (2, .int y1), (3, .int i9), (4, .int x19), (5, .int x14), (6, .int y15)]) 4 [1, 2, 3, 4, 0, 5, 6] dX7_findLeads_147 rfl rfl (Nat.le_of_ble_eq_true rfl) e_x19 rfl ?_
              refine z_goto (tgt := 47) C dX7_findLeads_150 (by decide) ?_
              cases hf
              exact z_sub [0, 1, 2, 3, 4] rfl (ih x19 m18 hz)
            · replace hf := if_f c24 hf
              refine z_aload_n C 0 dX7_findLeads_127 rfl rfl ?_
              refine z_getr C (t := 24) (Nat.le_of_ble_eq_true rfl) rfl rfl 27 (Nat.le_of_ble_eq_true rfl) rfl kiX7_findLeads_X7 kfX7_findLeads_80 dX7_findLeads_128 ?_
              refine z_iload C 5 dX7_findLeads_131 rfl ?_
              obtain ⟨hi20, hf⟩ := ck_el hf
              refine z_iald C (k := 24) (Nat.le_of_ble_eq_true rfl) rfl hi20 dX7_findLeads_133 ?_
              refine z_goto (tgt := 144) C dX7_findLeads_134 (by decide) ?_
              refine z_iadd C dX7_findLeads_144 ?_
              refine z_iconst C (v := 1) dX7_findLeads_145 rfl ?_
              obtain ⟨hi21, hf⟩ := ck_el hf
              refine z_zast C (k := 36) (Nat.le_of_ble_eq_true rfl) rfl hi21 dX7_findLeads_146 ?_
              refine z_nm (fun m22 e_m22 => ?_)
              replace hf := bn_to e_m22 hf
              obtain ⟨x23, e_x23⟩ : ∃ y : Int32, y = i11 + 1 := ⟨_, rfl⟩
              replace hf := bn_to e_x23 hf
              refine z_iinc C (lv2 := [(0, .ref ((zw K).2.1 0)), (1, .int a1), (2, .int y1), (3, .int i9), (4, .int x23), (5, .int x14), (6, .int y15)]) 4 [1, 2, 3, 4, 0, 5, 6] dX7_findLeads_147 rfl rfl (Nat.le_of_ble_eq_true rfl) e_x23 rfl ?_
              refine z_goto (tgt := 47) C dX7_findLeads_150 (by decide) ?_
              cases hf
              exact z_sub [0, 1, 2, 3, 4] rfl (ih x23 m22 hz)
          · replace hf := if_f c36 hf
            refine z_iload C 6 dX7_findLeads_109 rfl ?_
            refine z_iconst C (v := 2) dX7_findLeads_111 rfl ?_
            refine z_icmp_ne (tgt := 147) C dX7_findLeads_112 (by decide) (fun c35 => ?_) (fun c35 => ?_)
            · replace hf := if_f c35 hf
              obtain ⟨x25, e_x25⟩ : ∃ y : Int32, y = i11 + 1 := ⟨_, rfl⟩
              replace hf := bn_to e_x25 hf
              refine z_iinc C (lv2 := [(0, .ref ((zw K).2.1 0)), (1, .int a1), (2, .int y1), (3, .int i9), (4, .int x25), (5, .int x14), (6, .int y15)]) 4 [1, 2, 3, 4, 0, 5, 6] dX7_findLeads_147 rfl rfl (Nat.le_of_ble_eq_true rfl) e_x25 rfl ?_
              refine z_goto (tgt := 47) C dX7_findLeads_150 (by decide) ?_
              cases hf
              exact z_sub [0, 1, 2, 3, 4] rfl (ih x25 m12 hz)
            · replace hf := if_t c35 hf
              refine z_aload_n C 0 dX7_findLeads_115 rfl rfl ?_
              refine z_getr C (t := 36) (Nat.le_of_ble_eq_true rfl) rfl rfl 47 (Nat.le_of_ble_eq_true rfl) rfl kiX7_findLeads_X7 kfX7_findLeads_116 dX7_findLeads_116 ?_
              refine z_bipush C (v := 6) dX7_findLeads_119 rfl ?_
              refine z_iload_n C 3 dX7_findLeads_121 rfl rfl ?_
              refine z_imul C dX7_findLeads_122 ?_
              refine z_iload_n C 1 dX7_findLeads_123 rfl rfl ?_
              refine z_if_eq (tgt := 137) C dX7_findLeads_124 (by decide) (fun c34 => ?_) (fun c34 => ?_)
              · replace hf := if_t c34 hf
                refine z_aload_n C 0 dX7_findLeads_137 rfl rfl ?_
                refine z_getr C (t := 11) (Nat.le_of_ble_eq_true rfl) rfl rfl 13 (Nat.le_of_ble_eq_true rfl) rfl kiX7_findLeads_X7 kfX7_findLeads_41 dX7_findLeads_138 ?_
                refine z_iload C 5 dX7_findLeads_141 rfl ?_
                obtain ⟨hi26, hf⟩ := ck_el hf
                refine z_iald C (k := 11) (Nat.le_of_ble_eq_true rfl) rfl hi26 dX7_findLeads_143 ?_
                refine z_iadd C dX7_findLeads_144 ?_
                refine z_iconst C (v := 1) dX7_findLeads_145 rfl ?_
                obtain ⟨hi27, hf⟩ := ck_el hf
                refine z_zast C (k := 36) (Nat.le_of_ble_eq_true rfl) rfl hi27 dX7_findLeads_146 ?_
                refine z_nm (fun m28 e_m28 => ?_)
                replace hf := bn_to e_m28 hf
                obtain ⟨x29, e_x29⟩ : ∃ y : Int32, y = i11 + 1 := ⟨_, rfl⟩
                replace hf := bn_to e_x29 hf
                refine z_iinc C (lv2 := [(0, .ref ((zw K).2.1 0)), (1, .int a1), (2, .int y1), (3, .int i9), (4, .int x29), (5, .int x14), (6, .int y15)]) 4 [1, 2, 3, 4, 0, 5, 6] dX7_findLeads_147 rfl rfl (Nat.le_of_ble_eq_true rfl) e_x29 rfl ?_
                refine z_goto (tgt := 47) C dX7_findLeads_150 (by decide) ?_
                cases hf
                exact z_sub [0, 1, 2, 3, 4] rfl (ih x29 m28 hz)
              · replace hf := if_f c34 hf
                refine z_aload_n C 0 dX7_findLeads_127 rfl rfl ?_
                refine z_getr C (t := 24) (Nat.le_of_ble_eq_true rfl) rfl rfl 27 (Nat.le_of_ble_eq_true rfl) rfl kiX7_findLeads_X7 kfX7_findLeads_80 dX7_findLeads_128 ?_
                refine z_iload C 5 dX7_findLeads_131 rfl ?_
                obtain ⟨hi30, hf⟩ := ck_el hf
                refine z_iald C (k := 24) (Nat.le_of_ble_eq_true rfl) rfl hi30 dX7_findLeads_133 ?_
                refine z_goto (tgt := 144) C dX7_findLeads_134 (by decide) ?_
                refine z_iadd C dX7_findLeads_144 ?_
                refine z_iconst C (v := 1) dX7_findLeads_145 rfl ?_
                obtain ⟨hi31, hf⟩ := ck_el hf
                refine z_zast C (k := 36) (Nat.le_of_ble_eq_true rfl) rfl hi31 dX7_findLeads_146 ?_
                refine z_nm (fun m32 e_m32 => ?_)
                replace hf := bn_to e_m32 hf
                obtain ⟨x33, e_x33⟩ : ∃ y : Int32, y = i11 + 1 := ⟨_, rfl⟩
                replace hf := bn_to e_x33 hf
                refine z_iinc C (lv2 := [(0, .ref ((zw K).2.1 0)), (1, .int a1), (2, .int y1), (3, .int i9), (4, .int x33), (5, .int x14), (6, .int y15)]) 4 [1, 2, 3, 4, 0, 5, 6] dX7_findLeads_147 rfl rfl (Nat.le_of_ble_eq_true rfl) e_x33 rfl ?_
                refine z_goto (tgt := 47) C dX7_findLeads_150 (by decide) ?_
                cases hf
                exact z_sub [0, 1, 2, 3, 4] rfl (ih x33 m32 hz)
        replace hf := hg
        clear hg
        refine z_if_eq (tgt := 94) C dX7_findLeads_81 (by decide) (fun c39 => ?_) (fun c39 => ?_)
        · replace hf := if_t c39 hf
          refine z_aload_n C 0 dX7_findLeads_94 rfl rfl ?_
          refine z_getr C (t := 10) (Nat.le_of_ble_eq_true rfl) rfl rfl 12 (Nat.le_of_ble_eq_true rfl) rfl kiX7_findLeads_X7 kfX7_findLeads_38 dX7_findLeads_95 ?_
          refine z_iload C 5 dX7_findLeads_98 rfl ?_
          obtain ⟨hi37, hf⟩ := ck_el hf
          refine z_iald C (k := 10) (Nat.le_of_ble_eq_true rfl) rfl hi37 dX7_findLeads_100 ?_
          cases hf
          exact z_sub [0, 1, 2, 3, 4, 5] rfl hj
        · replace hf := if_f c39 hf
          refine z_aload_n C 0 dX7_findLeads_84 rfl rfl ?_
          refine z_getr C (t := 23) (Nat.le_of_ble_eq_true rfl) rfl rfl 26 (Nat.le_of_ble_eq_true rfl) rfl kiX7_findLeads_X7 kfX7_findLeads_77 dX7_findLeads_85 ?_
          refine z_iload C 5 dX7_findLeads_88 rfl ?_
          obtain ⟨hi38, hf⟩ := ck_el hf
          refine z_iald C (k := 23) (Nat.le_of_ble_eq_true rfl) rfl hi38 dX7_findLeads_90 ?_
          refine z_goto (tgt := 101) C dX7_findLeads_91 (by decide) ?_
          cases hf
          exact z_sub [0, 1, 2, 3, 4, 5] rfl hj
    replace hf := hg
    clear hg
    refine z_if_eq (tgt := 62) C dX7_findLeads_50 (by decide) (fun c43 => ?_) (fun c43 => ?_)
    · replace hf := if_t c43 hf
      refine z_aload_n C 0 dX7_findLeads_62 rfl rfl ?_
      refine z_getr C (t := 8) (Nat.le_of_ble_eq_true rfl) rfl rfl 10 (Nat.le_of_ble_eq_true rfl) rfl kiX7_findLeads_X7 kfX7_findLeads_32 dX7_findLeads_63 ?_
      refine z_iload_n C 3 dX7_findLeads_66 rfl rfl ?_
      obtain ⟨hi41, hf⟩ := ck_el hf
      refine z_iald C (k := 8) (Nat.le_of_ble_eq_true rfl) rfl hi41 dX7_findLeads_67 ?_
      cases hf
      exact z_sub [0, 1, 2, 3, 4] rfl hj
    · replace hf := if_f c43 hf
      refine z_aload_n C 0 dX7_findLeads_53 rfl rfl ?_
      refine z_getr C (t := 21) (Nat.le_of_ble_eq_true rfl) rfl rfl 24 (Nat.le_of_ble_eq_true rfl) rfl kiX7_findLeads_X7 kfX7_findLeads_71 dX7_findLeads_54 ?_
      refine z_iload_n C 3 dX7_findLeads_57 rfl rfl ?_
      obtain ⟨hi42, hf⟩ := ck_el hf
      refine z_iald C (k := 21) (Nat.le_of_ble_eq_true rfl) rfl hi42 dX7_findLeads_58 ?_
      refine z_goto (tgt := 68) C dX7_findLeads_59 (by decide) ?_
      cases hf
      exact z_sub [0, 1, 2, 3, 4] rfl hj
set_option maxRecDepth 100000 in
set_option maxHeartbeats 4000000 in
theorem w_X7_findLeads_39 {K : ZK} (C : zOK MM K cX7_findLeads 7 none RX7 wsX7_findLeads rmX7_findLeads) {a1 : Int32} {y1 : Int32}  {o0 : Mem} (hk : zGo MM K o0 [(0, .ref ((zw K).2.1 0)), (2, .int y1)] 159 []) : ∀ (n : Nat) (i9 : Int32) (m10 : Mem), l_X7_findLeads_39 a1 y1 n i9 m10 = some o0 → zGo MM K m10 [(0, .ref ((zw K).2.1 0)), (1, .int a1), (2, .int y1), (3, .int i9)] 39 [] := by
  intro n
  induction n with
  | zero =>
    intro i9 m10 hf
    cases hf
  | succ n ih =>
    intro i9 m10 hf
    obtain ⟨z, hf, hz⟩ := zlp_el hf
    replace hf : t_X7_findLeads_39 a1 y1 i9 m10 = some z := hf
    unfold t_X7_findLeads_39 at hf
    refine z_iload_n C 3 dX7_findLeads_39 rfl rfl ?_
    refine z_iload_n C 2 dX7_findLeads_40 rfl rfl ?_
    refine z_icmp_ge (tgt := 159) C dX7_findLeads_41 (by decide) (fun c46 => ?_) (fun c46 => ?_)
    · replace hf := if_t c46 hf
      cases hf
      replace hz := zlz_r hz
      cases hz
      exact z_sub [0, 2] rfl hk
    · replace hf := if_f c46 hf
      refine z_iconst C (v := 0) dX7_findLeads_44 rfl ?_
      refine z_istore C (lv2 := [(0, .ref ((zw K).2.1 0)), (1, .int a1), (2, .int y1), (3, .int i9), (4, .int 0)]) [1, 2, 3, 4, 0] dX7_findLeads_45 (Nat.le_of_ble_eq_true rfl) rfl ?_
      obtain ⟨m44, hg, hf⟩ := zb_el hf
      refine z_sub [0, 1, 2, 3, 4] rfl (w_X7_findLeads_47 C  ?_ _ _ _ hg)
      clear hg
      obtain ⟨x45, e_x45⟩ : ∃ y : Int32, y = i9 + 1 := ⟨_, rfl⟩
      replace hf := bn_to e_x45 hf
      refine z_iinc C (lv2 := [(0, .ref ((zw K).2.1 0)), (1, .int a1), (2, .int y1), (3, .int x45)]) 3 [1, 2, 3, 0] dX7_findLeads_153 rfl rfl (Nat.le_of_ble_eq_true rfl) e_x45 rfl ?_
      refine z_goto (tgt := 39) C dX7_findLeads_156 (by decide) ?_
      cases hf
      exact z_sub [0, 1, 2, 3] rfl (ih x45 m44 hz)
set_option maxRecDepth 100000 in
set_option maxHeartbeats 4000000 in
theorem w_X7_findLeads_178 {K : ZK} (C : zOK MM K cX7_findLeads 7 none RX7 wsX7_findLeads rmX7_findLeads) {y1 : Int32} {i48 : Int32} {i50 : Int32}  {o0 : Mem} (hk : zGo MM K o0 [(0, .ref ((zw K).2.1 0)), (2, .int y1), (3, .int i48), (4, .int i50)] 254 []) : ∀ (n : Nat) (i52 : Int32) (m53 : Mem), l_X7_findLeads_178 y1 i48 i50 n i52 m53 = some o0 → zGo MM K m53 [(0, .ref ((zw K).2.1 0)), (2, .int y1), (3, .int i48), (4, .int i50), (5, .int i52)] 178 [] := by
  intro n
  induction n with
  | zero =>
    intro i52 m53 hf
    cases hf
  | succ n ih =>
    intro i52 m53 hf
    obtain ⟨z, hf, hz⟩ := zlp_el hf
    replace hf : t_X7_findLeads_178 y1 i48 i50 i52 m53 = some z := hf
    unfold t_X7_findLeads_178 at hf
    refine z_iload C 4 dX7_findLeads_178 rfl ?_
    refine z_iload_n C 1 dX7_findLeads_180 rfl rfl ?_
    refine z_icmp_ge (tgt := 254) C dX7_findLeads_181 (by decide) (fun c72 => ?_) (fun c72 => ?_)
    · replace hf := if_t c72 hf
      cases hf
      replace hz := zlz_r hz
      cases hz
      exact z_sub [0, 1, 2, 3] rfl hk
    · replace hf := if_f c72 hf
      refine z_aload_n C 0 dX7_findLeads_184 rfl rfl ?_
      refine z_getr C (t := 36) (Nat.le_of_ble_eq_true rfl) rfl rfl 47 (Nat.le_of_ble_eq_true rfl) rfl kiX7_findLeads_X7 kfX7_findLeads_116 dX7_findLeads_185 ?_
      refine z_bipush C (v := 6) dX7_findLeads_188 rfl ?_
      refine z_iload C 3 dX7_findLeads_190 rfl ?_
      refine z_imul C dX7_findLeads_192 ?_
      refine z_iload C 4 dX7_findLeads_193 rfl ?_
      refine z_iadd C dX7_findLeads_195 ?_
      refine z_aload_n C 0 dX7_findLeads_196 rfl rfl ?_
      refine z_getr C (t := 36) (Nat.le_of_ble_eq_true rfl) rfl rfl 47 (Nat.le_of_ble_eq_true rfl) rfl kiX7_findLeads_X7 kfX7_findLeads_116 dX7_findLeads_197 ?_
      refine z_bipush C (v := 6) dX7_findLeads_200 rfl ?_
      refine z_iload C 3 dX7_findLeads_202 rfl ?_
      refine z_imul C dX7_findLeads_204 ?_
      refine z_iload C 4 dX7_findLeads_205 rfl ?_
      refine z_iadd C dX7_findLeads_207 ?_
      obtain ⟨hi54, hf⟩ := ck_el hf
      refine z_zald C (k := 36) (Nat.le_of_ble_eq_true rfl) rfl hi54 dX7_findLeads_208 ?_
      refine z_if_ne (tgt := 242) C dX7_findLeads_209 (by decide) (fun c71 => ?_) (fun c71 => ?_)
      · replace hf := if_f c71 hf
        refine z_iconst C (v := 1) dX7_findLeads_242 rfl ?_
        refine z_goto (tgt := 247) C dX7_findLeads_243 (by decide) ?_
        obtain ⟨hi55, hf⟩ := ck_el hf
        refine z_zast C (k := 36) (Nat.le_of_ble_eq_true rfl) rfl hi55 dX7_findLeads_247 ?_
        refine z_nm (fun m56 e_m56 => ?_)
        replace hf := bn_to e_m56 hf
        obtain ⟨x57, e_x57⟩ : ∃ y : Int32, y = i52 + 1 := ⟨_, rfl⟩
        replace hf := bn_to e_x57 hf
        refine z_iinc C (lv2 := [(0, .ref ((zw K).2.1 0)), (2, .int y1), (3, .int i48), (4, .int i50), (5, .int x57)]) 4 [1, 2, 3, 4, 0] dX7_findLeads_248 rfl rfl (Nat.le_of_ble_eq_true rfl) e_x57 rfl ?_
        refine z_goto (tgt := 178) C dX7_findLeads_251 (by decide) ?_
        cases hf
        exact z_sub [0, 1, 2, 3, 4] rfl (ih x57 m56 hz)
      · replace hf := if_t c71 hf
        refine z_aload_n C 0 dX7_findLeads_212 rfl rfl ?_
        refine z_getr C (t := 36) (Nat.le_of_ble_eq_true rfl) rfl rfl 47 (Nat.le_of_ble_eq_true rfl) rfl kiX7_findLeads_X7 kfX7_findLeads_116 dX7_findLeads_213 ?_
        refine z_bipush C (v := 6) dX7_findLeads_216 rfl ?_
        refine z_iload C 3 dX7_findLeads_218 rfl ?_
        refine z_imul C dX7_findLeads_220 ?_
        refine z_iload_n C 2 dX7_findLeads_221 rfl rfl ?_
        refine z_iadd C dX7_findLeads_222 ?_
        obtain ⟨hi58, hf⟩ := ck_el hf
        refine z_zald C (k := 36) (Nat.le_of_ble_eq_true rfl) rfl hi58 dX7_findLeads_223 ?_
        refine z_if_eq (tgt := 246) C dX7_findLeads_224 (by decide) (fun c70 => ?_) (fun c70 => ?_)
        · replace hf := if_t c70 hf
          refine z_iconst C (v := 0) dX7_findLeads_246 rfl ?_
          obtain ⟨hi59, hf⟩ := ck_el hf
          refine z_zast C (k := 36) (Nat.le_of_ble_eq_true rfl) rfl hi59 dX7_findLeads_247 ?_
          refine z_nm (fun m60 e_m60 => ?_)
          replace hf := bn_to e_m60 hf
          obtain ⟨x61, e_x61⟩ : ∃ y : Int32, y = i52 + 1 := ⟨_, rfl⟩
          replace hf := bn_to e_x61 hf
          refine z_iinc C (lv2 := [(0, .ref ((zw K).2.1 0)), (2, .int y1), (3, .int i48), (4, .int i50), (5, .int x61)]) 4 [1, 2, 3, 4, 0] dX7_findLeads_248 rfl rfl (Nat.le_of_ble_eq_true rfl) e_x61 rfl ?_
          refine z_goto (tgt := 178) C dX7_findLeads_251 (by decide) ?_
          cases hf
          exact z_sub [0, 1, 2, 3, 4] rfl (ih x61 m60 hz)
        · replace hf := if_f c70 hf
          refine z_aload_n C 0 dX7_findLeads_227 rfl rfl ?_
          refine z_getr C (t := 36) (Nat.le_of_ble_eq_true rfl) rfl rfl 47 (Nat.le_of_ble_eq_true rfl) rfl kiX7_findLeads_X7 kfX7_findLeads_116 dX7_findLeads_228 ?_
          refine z_bipush C (v := 6) dX7_findLeads_231 rfl ?_
          refine z_iload_n C 2 dX7_findLeads_233 rfl rfl ?_
          refine z_imul C dX7_findLeads_234 ?_
          refine z_iload C 4 dX7_findLeads_235 rfl ?_
          refine z_iadd C dX7_findLeads_237 ?_
          obtain ⟨hi62, hf⟩ := ck_el hf
          refine z_zald C (k := 36) (Nat.le_of_ble_eq_true rfl) rfl hi62 dX7_findLeads_238 ?_
          refine z_if_eq (tgt := 246) C dX7_findLeads_239 (by decide) (fun c69 => ?_) (fun c69 => ?_)
          · replace hf := if_t c69 hf
            refine z_iconst C (v := 0) dX7_findLeads_246 rfl ?_
            obtain ⟨hi63, hf⟩ := ck_el hf
            refine z_zast C (k := 36) (Nat.le_of_ble_eq_true rfl) rfl hi63 dX7_findLeads_247 ?_
            refine z_nm (fun m64 e_m64 => ?_)
            replace hf := bn_to e_m64 hf
            obtain ⟨x65, e_x65⟩ : ∃ y : Int32, y = i52 + 1 := ⟨_, rfl⟩
            replace hf := bn_to e_x65 hf
            refine z_iinc C (lv2 := [(0, .ref ((zw K).2.1 0)), (2, .int y1), (3, .int i48), (4, .int i50), (5, .int x65)]) 4 [1, 2, 3, 4, 0] dX7_findLeads_248 rfl rfl (Nat.le_of_ble_eq_true rfl) e_x65 rfl ?_
            refine z_goto (tgt := 178) C dX7_findLeads_251 (by decide) ?_
            cases hf
            exact z_sub [0, 1, 2, 3, 4] rfl (ih x65 m64 hz)
          · replace hf := if_f c69 hf
            refine z_iconst C (v := 1) dX7_findLeads_242 rfl ?_
            refine z_goto (tgt := 247) C dX7_findLeads_243 (by decide) ?_
            obtain ⟨hi66, hf⟩ := ck_el hf
            refine z_zast C (k := 36) (Nat.le_of_ble_eq_true rfl) rfl hi66 dX7_findLeads_247 ?_
            refine z_nm (fun m67 e_m67 => ?_)
            replace hf := bn_to e_m67 hf
            obtain ⟨x68, e_x68⟩ : ∃ y : Int32, y = i52 + 1 := ⟨_, rfl⟩
            replace hf := bn_to e_x68 hf
            refine z_iinc C (lv2 := [(0, .ref ((zw K).2.1 0)), (2, .int y1), (3, .int i48), (4, .int i50), (5, .int x68)]) 4 [1, 2, 3, 4, 0] dX7_findLeads_248 rfl rfl (Nat.le_of_ble_eq_true rfl) e_x68 rfl ?_
            refine z_goto (tgt := 178) C dX7_findLeads_251 (by decide) ?_
            cases hf
            exact z_sub [0, 1, 2, 3, 4] rfl (ih x68 m67 hz)
set_option maxRecDepth 100000 in
set_option maxHeartbeats 4000000 in
theorem w_X7_findLeads_169 {K : ZK} (C : zOK MM K cX7_findLeads 7 none RX7 wsX7_findLeads rmX7_findLeads) {y1 : Int32} {i48 : Int32}  {o0 : Mem} (hk : zGo MM K o0 [(0, .ref ((zw K).2.1 0)), (2, .int y1), (3, .int i48)] 260 []) : ∀ (n : Nat) (i50 : Int32) (m51 : Mem), l_X7_findLeads_169 y1 i48 n i50 m51 = some o0 → zGo MM K m51 [(0, .ref ((zw K).2.1 0)), (2, .int y1), (3, .int i48), (4, .int i50)] 169 [] := by
  intro n
  induction n with
  | zero =>
    intro i50 m51 hf
    cases hf
  | succ n ih =>
    intro i50 m51 hf
    obtain ⟨z, hf, hz⟩ := zlp_el hf
    replace hf : t_X7_findLeads_169 y1 i48 i50 m51 = some z := hf
    unfold t_X7_findLeads_169 at hf
    refine z_iload C 3 dX7_findLeads_169 rfl ?_
    refine z_iload_n C 1 dX7_findLeads_171 rfl rfl ?_
    refine z_icmp_ge (tgt := 260) C dX7_findLeads_172 (by decide) (fun c75 => ?_) (fun c75 => ?_)
    · replace hf := if_t c75 hf
      cases hf
      replace hz := zlz_r hz
      cases hz
      exact z_sub [0, 1, 2] rfl hk
    · replace hf := if_f c75 hf
      refine z_iconst C (v := 0) dX7_findLeads_175 rfl ?_
      refine z_istore C (lv2 := [(0, .ref ((zw K).2.1 0)), (2, .int y1), (3, .int i48), (4, .int i50), (5, .int 0)]) [1, 2, 3, 4, 0] dX7_findLeads_176 (Nat.le_of_ble_eq_true rfl) rfl ?_
      obtain ⟨m73, hg, hf⟩ := zb_el hf
      refine z_sub [0, 1, 2, 3, 4] rfl (w_X7_findLeads_178 C  ?_ _ _ _ hg)
      clear hg
      obtain ⟨x74, e_x74⟩ : ∃ y : Int32, y = i50 + 1 := ⟨_, rfl⟩
      replace hf := bn_to e_x74 hf
      refine z_iinc C (lv2 := [(0, .ref ((zw K).2.1 0)), (2, .int y1), (3, .int i48), (4, .int x74)]) 3 [1, 2, 3, 0] dX7_findLeads_254 rfl rfl (Nat.le_of_ble_eq_true rfl) e_x74 rfl ?_
      refine z_goto (tgt := 169) C dX7_findLeads_257 (by decide) ?_
      cases hf
      exact z_sub [0, 1, 2, 3] rfl (ih x74 m73 hz)
set_option maxRecDepth 100000 in
set_option maxHeartbeats 4000000 in
theorem w_X7_findLeads_161 {K : ZK} (C : zOK MM K cX7_findLeads 7 none RX7 wsX7_findLeads rmX7_findLeads) {y1 : Int32}  {o0 : Mem} (hk : zGo MM K o0 [] 266 []) : ∀ (n : Nat) (i48 : Int32) (m49 : Mem), l_X7_findLeads_161 y1 n i48 m49 = some o0 → zGo MM K m49 [(0, .ref ((zw K).2.1 0)), (2, .int y1), (3, .int i48)] 161 [] := by
  intro n
  induction n with
  | zero =>
    intro i48 m49 hf
    cases hf
  | succ n ih =>
    intro i48 m49 hf
    obtain ⟨z, hf, hz⟩ := zlp_el hf
    replace hf : t_X7_findLeads_161 y1 i48 m49 = some z := hf
    unfold t_X7_findLeads_161 at hf
    refine z_iload_n C 2 dX7_findLeads_161 rfl rfl ?_
    refine z_iload_n C 1 dX7_findLeads_162 rfl rfl ?_
    refine z_icmp_ge (tgt := 266) C dX7_findLeads_163 (by decide) (fun c78 => ?_) (fun c78 => ?_)
    · replace hf := if_t c78 hf
      cases hf
      replace hz := zlz_r hz
      cases hz
      exact z_sub [] rfl hk
    · replace hf := if_f c78 hf
      refine z_iconst C (v := 0) dX7_findLeads_166 rfl ?_
      refine z_istore C (lv2 := [(0, .ref ((zw K).2.1 0)), (2, .int y1), (3, .int i48), (4, .int 0)]) [1, 2, 3, 0] dX7_findLeads_167 (Nat.le_of_ble_eq_true rfl) rfl ?_
      obtain ⟨m76, hg, hf⟩ := zb_el hf
      refine z_sub [0, 1, 2, 3] rfl (w_X7_findLeads_169 C  ?_ _ _ _ hg)
      clear hg
      obtain ⟨x77, e_x77⟩ : ∃ y : Int32, y = i48 + 1 := ⟨_, rfl⟩
      replace hf := bn_to e_x77 hf
      refine z_iinc C (lv2 := [(0, .ref ((zw K).2.1 0)), (2, .int y1), (3, .int x77)]) 2 [1, 2, 0] dX7_findLeads_260 rfl rfl (Nat.le_of_ble_eq_true rfl) e_x77 rfl ?_
      refine z_goto (tgt := 161) C dX7_findLeads_263 (by decide) ?_
      cases hf
      exact z_sub [0, 1, 2] rfl (ih x77 m76 hz)
set_option maxRecDepth 100000 in
set_option maxHeartbeats 4000000 in
theorem c_X7_findLeads (l : Launch) (w : ZW) {m : Mem} {a1 : Int32} {m9 : Mem}  (hf : s_X7_findLeads m a1 = some m9) : zCv MM l w yX7_findLeads wsX7_findLeads rmX7_findLeads [.ref (w.2.1 0), .int a1] m m9 := by
  refine z_met_v MM_ok (own := RX7) (by decide +kernel) rfl rfl (Nat.le_of_ble_eq_true rfl) ?_
  intro K C hKw hKl hret
  subst hKw
  subst hKl
  unfold s_X7_findLeads at hf
  show zGo MM K m [(0, .ref ((zw K).2.1 0)), (1, .int a1)] 0 []
  refine z_iload_n C 1 dX7_findLeads_0 rfl rfl ?_
  obtain ⟨y1, hg, hf⟩ := zb_el hf
  have hj : zGo MM K m [(0, .ref ((zw K).2.1 0)), (1, .int a1)] 15 [.int y1] := by
    refine z_istore_n C (lv2 := [(0, .ref ((zw K).2.1 0)), (1, .int a1), (2, .int y1)]) [1, 2, 0] dX7_findLeads_15 rfl (Nat.le_of_ble_eq_true rfl) rfl ?_
    refine z_iconst C (v := 0) dX7_findLeads_16 rfl ?_
    refine z_istore_n C (lv2 := [(0, .ref ((zw K).2.1 0)), (1, .int a1), (2, .int y1), (3, .int 0)]) [1, 2, 3, 0] dX7_findLeads_17 rfl (Nat.le_of_ble_eq_true rfl) rfl ?_
    obtain ⟨m8, hg, hf⟩ := zb_el hf
    refine z_sub [0, 1, 2, 3] rfl (w_X7_findLeads_18 C  ?_ _ _ _ hg)
    clear hg
    refine z_iconst C (v := 0) dX7_findLeads_37 rfl ?_
    refine z_istore_n C (lv2 := [(0, .ref ((zw K).2.1 0)), (1, .int a1), (2, .int y1), (3, .int 0)]) [1, 2, 3, 0] dX7_findLeads_38 rfl (Nat.le_of_ble_eq_true rfl) rfl ?_
    obtain ⟨m47, hg, hf⟩ := zb_el hf
    refine z_sub [0, 1, 2, 3] rfl (w_X7_findLeads_39 C  ?_ _ _ _ hg)
    clear hg
    refine z_iconst C (v := 0) dX7_findLeads_159 rfl ?_
    refine z_istore_n C (lv2 := [(0, .ref ((zw K).2.1 0)), (2, .int y1), (3, .int 0)]) [1, 2, 0] dX7_findLeads_160 rfl (Nat.le_of_ble_eq_true rfl) rfl ?_
    obtain ⟨m79, hg, hf⟩ := zb_el hf
    refine z_sub [0, 1, 2] rfl (w_X7_findLeads_161 C  ?_ _ _ _ hg)
    clear hg
    have e1 := Option.some.inj hf
    subst e1
    exact hret _ _ dX7_findLeads_266
  replace hf := hg
  clear hg
  refine z_if_eq (tgt := 11) C dX7_findLeads_1 (by decide) (fun c80 => ?_) (fun c80 => ?_)
  · replace hf := if_t c80 hf
    refine z_aload_n C 0 dX7_findLeads_11 rfl rfl ?_
    refine z_geti C (Nat.le_of_ble_eq_true rfl) rfl rfl 7 (Nat.le_of_ble_eq_true rfl) rfl kiX7_findLeads_X7 kfX7_findLeads_258 dX7_findLeads_12 ?_
    cases hf
    exact z_sub [0, 1] rfl hj
  · replace hf := if_f c80 hf
    refine z_aload_n C 0 dX7_findLeads_4 rfl rfl ?_
    refine z_geti C (Nat.le_of_ble_eq_true rfl) rfl rfl 21 (Nat.le_of_ble_eq_true rfl) rfl kiX7_findLeads_X7 kfX7_findLeads_234 dX7_findLeads_5 ?_
    refine z_goto (tgt := 15) C dX7_findLeads_8 (by decide) ?_
    cases hf
    exact z_sub [0, 1] rfl hj
