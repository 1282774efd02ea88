theorem dX7_is_0 : decode cX7_is 0 = .ok (.aload_n 0, 1) := by decide +kernel
theorem dX7_is_1 : decode cX7_is 1 = .ok (.getfield 177, 3) := by decide +kernel
theorem dX7_is_4 : decode cX7_is 4 = .ok (.ifCond .ne 23, 3) := by decide +kernel
theorem dX7_is_7 : decode cX7_is 7 = .ok (.aload_n 0, 1) := by decide +kernel
theorem dX7_is_8 : decode cX7_is 8 = .ok (.getfield 193, 3) := by decide +kernel
theorem dX7_is_11 : decode cX7_is 11 = .ok (.iconst 4, 1) := by decide +kernel
theorem dX7_is_12 : decode cX7_is 12 = .ok (.if_icmp .ne 15, 3) := by decide +kernel
theorem dX7_is_15 : decode cX7_is 15 = .ok (.aload_n 0, 1) := by decide +kernel
theorem dX7_is_16 : decode cX7_is 16 = .ok (.getfield 200, 3) := by decide +kernel
theorem dX7_is_19 : decode cX7_is 19 = .ok (.iload_n 1, 1) := by decide +kernel
theorem dX7_is_20 : decode cX7_is 20 = .ok (.if_icmp .ne 7, 3) := by decide +kernel
theorem dX7_is_23 : decode cX7_is 23 = .ok (.iconst 1, 1) := by decide +kernel
theorem dX7_is_24 : decode cX7_is 24 = .ok (.goto 4, 3) := by decide +kernel
theorem dX7_is_27 : decode cX7_is 27 = .ok (.iconst 0, 1) := by decide +kernel
theorem dX7_is_28 : decode cX7_is 28 = .ok (.ireturn, 1) := by decide +kernel
def rmX7_is : Room := { frames := 0, cells := 0, slots := 0, locals := 0 }
theorem zdX7_is : yX7_is.cls = RX7 ∧ yX7_is.cls ≠ "java/lang/invoke/MethodHandle" ∧ yX7_is.cls ≠ "java/lang/invoke/VarHandle" ∧ (parseMethodDescriptor yX7_is.desc).map (fun d => d.parameters.length) = some 1 := by decide +kernel
theorem kiX7_is_X7 : ∀ w ∈ wsX70, w ∈ wsX7_is := fun _ h => (List.mem_cons_of_mem _ (List.mem_append_right _ h))
theorem kfX7_is_177 : Cond.fieldLink RX7 177 "ShapeJudgeModel" "fault" "I" ∈ wsX7_is := (List.mem_of_getElem? (i := 1) rfl)
theorem kfX7_is_193 : Cond.fieldLink RX7 193 "ShapeJudgeModel" "sort" "I" ∈ wsX7_is := (List.mem_of_getElem? (i := 2) rfl)
theorem kfX7_is_200 : Cond.fieldLink RX7 200 "ShapeJudgeModel" "value" "I" ∈ wsX7_is := (List.mem_of_getElem? (i := 3) rfl)
def s_X7_is (m : Mem) (a1 : Int32) : Option (Int32) :=
  (if (m 0 42) = 0 then ((if (m 0 40) = 4 then ((if (m 0 41) = a1 then (some 1) else (some 0))) else (some 0))) else (some 0))
set_option maxRecDepth 100000 in
set_option maxHeartbeats 4000000 in
theorem c_X7_is (l : Launch) (w : ZW) {m : Mem} {a1 : Int32} {r9 : Int32}  (hf : s_X7_is m a1 = some r9) : zCi MM l w yX7_is wsX7_is rmX7_is [.ref (w.2.1 0), .int a1] m m r9 := by
  refine z_met_z MM_ok (own := RX7) (by decide +kernel) rfl rfl (Nat.le_of_ble_eq_true rfl) ?_
  intro K C hKw hKl hret
  subst hKw
  subst hKl
  unfold s_X7_is at hf
  show zGo MM K m [(0, .ref ((zw K).2.1 0)), (1, .int a1)] 0 []
  refine z_aload_n C 0 dX7_is_0 rfl rfl ?_
  refine z_geti C (Nat.le_of_ble_eq_true rfl) rfl rfl 42 (Nat.le_of_ble_eq_true rfl) rfl kiX7_is_X7 kfX7_is_177 dX7_is_1 ?_
  refine z_if_ne (tgt := 27) C dX7_is_4 (by decide) (fun c3 => ?_) (fun c3 => ?_)
  · replace hf := if_f c3 hf
    refine z_iconst C (v := 0) dX7_is_27 rfl ?_
    have e1 := Option.some.inj hf
    subst e1
    exact hret _ _ dX7_is_28 (Or.inl rfl)
  · replace hf := if_t c3 hf
    refine z_aload_n C 0 dX7_is_7 rfl rfl ?_
    refine z_geti C (Nat.le_of_ble_eq_true rfl) rfl rfl 40 (Nat.le_of_ble_eq_true rfl) rfl kiX7_is_X7 kfX7_is_193 dX7_is_8 ?_
    refine z_iconst C (v := 4) dX7_is_11 rfl ?_
    refine z_icmp_ne (tgt := 27) C dX7_is_12 (by decide) (fun c2 => ?_) (fun c2 => ?_)
    · replace hf := if_f c2 hf
      refine z_iconst C (v := 0) dX7_is_27 rfl ?_
      have e1 := Option.some.inj hf
      subst e1
      exact hret _ _ dX7_is_28 (Or.inl rfl)
    · replace hf := if_t c2 hf
      refine z_aload_n C 0 dX7_is_15 rfl rfl ?_
      refine z_geti C (Nat.le_of_ble_eq_true rfl) rfl rfl 41 (Nat.le_of_ble_eq_true rfl) rfl kiX7_is_X7 kfX7_is_200 dX7_is_16 ?_
      refine z_iload_n C 1 dX7_is_19 rfl rfl ?_
      refine z_icmp_ne (tgt := 27) C dX7_is_20 (by decide) (fun c1 => ?_) (fun c1 => ?_)
      · replace hf := if_f c1 hf
        refine z_iconst C (v := 0) dX7_is_27 rfl ?_
        have e1 := Option.some.inj hf
        subst e1
        exact hret _ _ dX7_is_28 (Or.inl rfl)
      · replace hf := if_t c1 hf
        refine z_iconst C (v := 1) dX7_is_23 rfl ?_
        refine z_goto (tgt := 28) C dX7_is_24 (by decide) ?_
        have e1 := Option.some.inj hf
        subst e1
        exact hret _ _ dX7_is_28 (Or.inr rfl)
theorem dX7_look_0 : decode cX7_look 0 = .ok (.iload_n 1, 1) := by decide +kernel
theorem dX7_look_1 : decode cX7_look 1 = .ok (.aload_n 0, 1) := by decide +kernel
theorem dX7_look_2 : decode cX7_look 2 = .ok (.getfield 170, 3) := by decide +kernel
theorem dX7_look_5 : decode cX7_look 5 = .ok (.if_icmp .ge 12, 3) := by decide +kernel
theorem dX7_look_8 : decode cX7_look 8 = .ok (.aload_n 0, 1) := by decide +kernel
theorem dX7_look_9 : decode cX7_look 9 = .ok (.getfield 107, 3) := by decide +kernel
theorem dX7_look_12 : decode cX7_look 12 = .ok (.iload_n 1, 1) := by decide +kernel
theorem dX7_look_13 : decode cX7_look 13 = .ok (.iaload, 1) := by decide +kernel
theorem dX7_look_14 : decode cX7_look 14 = .ok (.goto 4, 3) := by decide +kernel
theorem dX7_look_17 : decode cX7_look 17 = .ok (.iconst (-1), 1) := by decide +kernel
theorem dX7_look_18 : decode cX7_look 18 = .ok (.ireturn, 1) := by decide +kernel
def rmX7_look : Room := { frames := 0, cells := 0, slots := 0, locals := 0 }
theorem zdX7_look : yX7_look.cls = RX7 ∧ yX7_look.cls ≠ "java/lang/invoke/MethodHandle" ∧ yX7_look.cls ≠ "java/lang/invoke/VarHandle" ∧ (parseMethodDescriptor yX7_look.desc).map (fun d => d.parameters.length) = some 1 := by decide +kernel
theorem kiX7_look_X7 : ∀ w ∈ wsX70, w ∈ wsX7_look := fun _ h => (List.mem_cons_of_mem _ (List.mem_append_right _ h))
theorem kfX7_look_170 : Cond.fieldLink RX7 170 "ShapeJudgeModel" "taped" "I" ∈ wsX7_look := (List.mem_of_getElem? (i := 1) rfl)
theorem kfX7_look_107 : Cond.fieldLink RX7 107 "ShapeJudgeModel" "tape" "[I" ∈ wsX7_look := (List.mem_of_getElem? (i := 2) rfl)
def s_X7_look (m : Mem) (a1 : Int32) : Option (Int32) :=
  (if (m 0 37) ≤ a1 then (some (-1)) else (ck (zin a1 400 = true) (some (m 33 (Int32.toNatClampNeg a1)))))
set_option maxRecDepth 100000 in
set_option maxHeartbeats 4000000 in
theorem c_X7_look (l : Launch) (w : ZW) {m : Mem} {a1 : Int32} {r9 : Int32}  (hf : s_X7_look m a1 = some r9) : zCi MM l w yX7_look wsX7_look rmX7_look [.ref (w.2.1 0), .int a1] m m r9 := by
  refine z_met_i MM_ok (own := RX7) (by decide +kernel) rfl rfl (Nat.le_of_ble_eq_true rfl) ?_
  intro K C hKw hKl hret
  subst hKw
  subst hKl
  unfold s_X7_look at hf
  show zGo MM K m [(0, .ref ((zw K).2.1 0)), (1, .int a1)] 0 []
  refine z_iload_n C 1 dX7_look_0 rfl rfl ?_
  refine z_aload_n C 0 dX7_look_1 rfl rfl ?_
  refine z_geti C (Nat.le_of_ble_eq_true rfl) rfl rfl 37 (Nat.le_of_ble_eq_true rfl) rfl kiX7_look_X7 kfX7_look_170 dX7_look_2 ?_
  refine z_icmp_ge (tgt := 17) C dX7_look_5 (by decide) (fun c2 => ?_) (fun c2 => ?_)
  · replace hf := if_t c2 hf
    refine z_iconst C (v := (-1)) dX7_look_17 (by decide) ?_
    have e1 := Option.some.inj hf
    subst e1
    exact hret _ _ dX7_look_18
  · replace hf := if_f c2 hf
    refine z_aload_n C 0 dX7_look_8 rfl rfl ?_
    refine z_getr C (t := 33) (Nat.le_of_ble_eq_true rfl) rfl rfl 36 (Nat.le_of_ble_eq_true rfl) rfl kiX7_look_X7 kfX7_look_107 dX7_look_9 ?_
    refine z_iload_n C 1 dX7_look_12 rfl rfl ?_
    obtain ⟨hi1, hf⟩ := ck_el hf
    refine z_iald C (k := 33) (Nat.le_of_ble_eq_true rfl) rfl hi1 dX7_look_13 ?_
    refine z_goto (tgt := 18) C dX7_look_14 (by decide) ?_
    have e1 := Option.some.inj hf
    subst e1
    exact hret _ _ dX7_look_18
set_option maxRecDepth 20000 in
theorem ggX7_isClosed_X7_look : GoodIn wsX7_isClosed wsX7_look := goodIn_sub (List.forall_mem_cons.mpr ⟨(List.mem_of_getElem? (i := 7) rfl), (List.forall_mem_append.mpr ⟨(List.forall_mem_cons.mpr ⟨(List.mem_of_getElem? (i := 8) rfl), (List.forall_mem_cons.mpr ⟨(List.mem_of_getElem? (i := 9) rfl), (fun _ h => absurd h List.not_mem_nil)⟩)⟩), (fun _ h => (List.mem_cons_of_mem _ (List.mem_append_right _ h)))⟩)⟩) (by decide +kernel)
set_option maxRecDepth 20000 in
theorem gX7_isClosed_X7_look : GoodIn wsX7_isClosed (wsV RX7 189 RX7 yX7_look wsX7_look) := goodIn_app (goodIn_sub (List.forall_mem_cons.mpr ⟨(List.mem_of_getElem? (i := 3) rfl), (List.forall_mem_cons.mpr ⟨(List.mem_of_getElem? (i := 4) rfl), (List.forall_mem_cons.mpr ⟨(List.mem_of_getElem? (i := 5) rfl), (List.forall_mem_cons.mpr ⟨(List.mem_of_getElem? (i := 6) rfl), (fun _ h => absurd h List.not_mem_nil)⟩)⟩)⟩)⟩) (by decide +kernel)) ggX7_isClosed_X7_look
set_option maxRecDepth 100000 in
theorem daX7_isClosed : ∀ q ∈ ([(0, .aload_n 0, 1), (1, .getfield 183, 3), (4, .aload_n 0, 1), (5, .getfield 186, 3), (8, .isub, 1), (9, .bipush 6, 2), (11, .if_icmp .ne 95, 3), (14, .aload_n 0, 1), (15, .aload_n 0, 1), (16, .getfield 186, 3), (19, .invokevirtual 189, 3), (22, .bipush 99, 2), (24, .if_icmp .ne 82, 3), (27, .aload_n 0, 1), (28, .aload_n 0, 1), (29, .getfield 186, 3), (32, .iconst 1, 1), (33, .iadd, 1), (34, .invokevirtual 189, 3), (37, .bipush 108, 2), (39, .if_icmp .ne 67, 3), (42, .aload_n 0, 1), (43, .aload_n 0, 1), (44, .getfield 186, 3), (47, .iconst 2, 1), (48, .iadd, 1), (49, .invokevirtual 189, 3), (52, .bipush 111, 2), (54, .if_icmp .ne 52, 3), (57, .aload_n 0, 1), (58, .aload_n 0, 1), (59, .getfield 186, 3), (62, .iconst 3, 1), (63, .iadd, 1), (64, .invokevirtual 189, 3), (67, .bipush 115, 2), (69, .if_icmp .ne 37, 3), (72, .aload_n 0, 1), (73, .aload_n 0, 1), (74, .getfield 186, 3), (77, .iconst 4, 1), (78, .iadd, 1), (79, .invokevirtual 189, 3), (82, .bipush 101, 2), (84, .if_icmp .ne 22, 3), (87, .aload_n 0, 1), (88, .aload_n 0, 1), (89, .getfield 186, 3), (92, .iconst 5, 1), (93, .iadd, 1), (94, .invokevirtual 189, 3), (97, .bipush 100, 2), (99, .if_icmp .ne 7, 3), (102, .iconst 1, 1), (103, .goto 4, 3), (106, .iconst 0, 1), (107, .ireturn, 1)] : List (Nat × Instr × Nat)), decode cX7_isClosed q.1 = .ok q.2 := by decide +kernel
theorem dX7_isClosed_0 : decode cX7_isClosed 0 = .ok (.aload_n 0, 1) := daX7_isClosed (0, .aload_n 0, 1) (List.mem_of_getElem? (i := 0) rfl)
theorem dX7_isClosed_1 : decode cX7_isClosed 1 = .ok (.getfield 183, 3) := daX7_isClosed (1, .getfield 183, 3) (List.mem_of_getElem? (i := 1) rfl)
theorem dX7_isClosed_4 : decode cX7_isClosed 4 = .ok (.aload_n 0, 1) := daX7_isClosed (4, .aload_n 0, 1) (List.mem_of_getElem? (i := 2) rfl)
theorem dX7_isClosed_5 : decode cX7_isClosed 5 = .ok (.getfield 186, 3) := daX7_isClosed (5, .getfield 186, 3) (List.mem_of_getElem? (i := 3) rfl)
theorem dX7_isClosed_8 : decode cX7_isClosed 8 = .ok (.isub, 1) := daX7_isClosed (8, .isub, 1) (List.mem_of_getElem? (i := 4) rfl)
theorem dX7_isClosed_9 : decode cX7_isClosed 9 = .ok (.bipush 6, 2) := daX7_isClosed (9, .bipush 6, 2) (List.mem_of_getElem? (i := 5) rfl)
theorem dX7_isClosed_11 : decode cX7_isClosed 11 = .ok (.if_icmp .ne 95, 3) := daX7_isClosed (11, .if_icmp .ne 95, 3) (List.mem_of_getElem? (i := 6) rfl)
theorem dX7_isClosed_14 : decode cX7_isClosed 14 = .ok (.aload_n 0, 1) := daX7_isClosed (14, .aload_n 0, 1) (List.mem_of_getElem? (i := 7) rfl)
theorem dX7_isClosed_15 : decode cX7_isClosed 15 = .ok (.aload_n 0, 1) := daX7_isClosed (15, .aload_n 0, 1) (List.mem_of_getElem? (i := 8) rfl)
theorem dX7_isClosed_16 : decode cX7_isClosed 16 = .ok (.getfield 186, 3) := daX7_isClosed (16, .getfield 186, 3) (List.mem_of_getElem? (i := 9) rfl)
theorem dX7_isClosed_19 : decode cX7_isClosed 19 = .ok (.invokevirtual 189, 3) := daX7_isClosed (19, .invokevirtual 189, 3) (List.mem_of_getElem? (i := 10) rfl)
theorem dX7_isClosed_22 : decode cX7_isClosed 22 = .ok (.bipush 99, 2) := daX7_isClosed (22, .bipush 99, 2) (List.mem_of_getElem? (i := 11) rfl)
theorem dX7_isClosed_24 : decode cX7_isClosed 24 = .ok (.if_icmp .ne 82, 3) := daX7_isClosed (24, .if_icmp .ne 82, 3) (List.mem_of_getElem? (i := 12) rfl)
theorem dX7_isClosed_27 : decode cX7_isClosed 27 = .ok (.aload_n 0, 1) := daX7_isClosed (27, .aload_n 0, 1) (List.mem_of_getElem? (i := 13) rfl)
theorem dX7_isClosed_28 : decode cX7_isClosed 28 = .ok (.aload_n 0, 1) := daX7_isClosed (28, .aload_n 0, 1) (List.mem_of_getElem? (i := 14) rfl)
theorem dX7_isClosed_29 : decode cX7_isClosed 29 = .ok (.getfield 186, 3) := daX7_isClosed (29, .getfield 186, 3) (List.mem_of_getElem? (i := 15) rfl)
theorem dX7_isClosed_32 : decode cX7_isClosed 32 = .ok (.iconst 1, 1) := daX7_isClosed (32, .iconst 1, 1) (List.mem_of_getElem? (i := 16) rfl)
theorem dX7_isClosed_33 : decode cX7_isClosed 33 = .ok (.iadd, 1) := daX7_isClosed (33, .iadd, 1) (List.mem_of_getElem? (i := 17) rfl)
theorem dX7_isClosed_34 : decode cX7_isClosed 34 = .ok (.invokevirtual 189, 3) := daX7_isClosed (34, .invokevirtual 189, 3) (List.mem_of_getElem? (i := 18) rfl)
theorem dX7_isClosed_37 : decode cX7_isClosed 37 = .ok (.bipush 108, 2) := daX7_isClosed (37, .bipush 108, 2) (List.mem_of_getElem? (i := 19) rfl)
theorem dX7_isClosed_39 : decode cX7_isClosed 39 = .ok (.if_icmp .ne 67, 3) := daX7_isClosed (39, .if_icmp .ne 67, 3) (List.mem_of_getElem? (i := 20) rfl)
theorem dX7_isClosed_42 : decode cX7_isClosed 42 = .ok (.aload_n 0, 1) := daX7_isClosed (42, .aload_n 0, 1) (List.mem_of_getElem? (i := 21) rfl)
theorem dX7_isClosed_43 : decode cX7_isClosed 43 = .ok (.aload_n 0, 1) := daX7_isClosed (43, .aload_n 0, 1) (List.mem_of_getElem? (i := 22) rfl)
theorem dX7_isClosed_44 : decode cX7_isClosed 44 = .ok (.getfield 186, 3) := daX7_isClosed (44, .getfield 186, 3) (List.mem_of_getElem? (i := 23) rfl)
theorem dX7_isClosed_47 : decode cX7_isClosed 47 = .ok (.iconst 2, 1) := daX7_isClosed (47, .iconst 2, 1) (List.mem_of_getElem? (i := 24) rfl)
theorem dX7_isClosed_48 : decode cX7_isClosed 48 = .ok (.iadd, 1) := daX7_isClosed (48, .iadd, 1) (List.mem_of_getElem? (i := 25) rfl)
theorem dX7_isClosed_49 : decode cX7_isClosed 49 = .ok (.invokevirtual 189, 3) := daX7_isClosed (49, .invokevirtual 189, 3) (List.mem_of_getElem? (i := 26) rfl)
theorem dX7_isClosed_52 : decode cX7_isClosed 52 = .ok (.bipush 111, 2) := daX7_isClosed (52, .bipush 111, 2) (List.mem_of_getElem? (i := 27) rfl)
theorem dX7_isClosed_54 : decode cX7_isClosed 54 = .ok (.if_icmp .ne 52, 3) := daX7_isClosed (54, .if_icmp .ne 52, 3) (List.mem_of_getElem? (i := 28) rfl)
theorem dX7_isClosed_57 : decode cX7_isClosed 57 = .ok (.aload_n 0, 1) := daX7_isClosed (57, .aload_n 0, 1) (List.mem_of_getElem? (i := 29) rfl)
theorem dX7_isClosed_58 : decode cX7_isClosed 58 = .ok (.aload_n 0, 1) := daX7_isClosed (58, .aload_n 0, 1) (List.mem_of_getElem? (i := 30) rfl)
theorem dX7_isClosed_59 : decode cX7_isClosed 59 = .ok (.getfield 186, 3) := daX7_isClosed (59, .getfield 186, 3) (List.mem_of_getElem? (i := 31) rfl)
theorem dX7_isClosed_62 : decode cX7_isClosed 62 = .ok (.iconst 3, 1) := daX7_isClosed (62, .iconst 3, 1) (List.mem_of_getElem? (i := 32) rfl)
theorem dX7_isClosed_63 : decode cX7_isClosed 63 = .ok (.iadd, 1) := daX7_isClosed (63, .iadd, 1) (List.mem_of_getElem? (i := 33) rfl)
theorem dX7_isClosed_64 : decode cX7_isClosed 64 = .ok (.invokevirtual 189, 3) := daX7_isClosed (64, .invokevirtual 189, 3) (List.mem_of_getElem? (i := 34) rfl)
theorem dX7_isClosed_67 : decode cX7_isClosed 67 = .ok (.bipush 115, 2) := daX7_isClosed (67, .bipush 115, 2) (List.mem_of_getElem? (i := 35) rfl)
theorem dX7_isClosed_69 : decode cX7_isClosed 69 = .ok (.if_icmp .ne 37, 3) := daX7_isClosed (69, .if_icmp .ne 37, 3) (List.mem_of_getElem? (i := 36) rfl)
theorem dX7_isClosed_72 : decode cX7_isClosed 72 = .ok (.aload_n 0, 1) := daX7_isClosed (72, .aload_n 0, 1) (List.mem_of_getElem? (i := 37) rfl)
theorem dX7_isClosed_73 : decode cX7_isClosed 73 = .ok (.aload_n 0, 1) := daX7_isClosed (73, .aload_n 0, 1) (List.mem_of_getElem? (i := 38) rfl)
theorem dX7_isClosed_74 : decode cX7_isClosed 74 = .ok (.getfield 186, 3) := daX7_isClosed (74, .getfield 186, 3) (List.mem_of_getElem? (i := 39) rfl)
theorem dX7_isClosed_77 : decode cX7_isClosed 77 = .ok (.iconst 4, 1) := daX7_isClosed (77, .iconst 4, 1) (List.mem_of_getElem? (i := 40) rfl)
theorem dX7_isClosed_78 : decode cX7_isClosed 78 = .ok (.iadd, 1) := daX7_isClosed (78, .iadd, 1) (List.mem_of_getElem? (i := 41) rfl)
theorem dX7_isClosed_79 : decode cX7_isClosed 79 = .ok (.invokevirtual 189, 3) := daX7_isClosed (79, .invokevirtual 189, 3) (List.mem_of_getElem? (i := 42) rfl)
theorem dX7_isClosed_82 : decode cX7_isClosed 82 = .ok (.bipush 101, 2) := daX7_isClosed (82, .bipush 101, 2) (List.mem_of_getElem? (i := 43) rfl)
theorem dX7_isClosed_84 : decode cX7_isClosed 84 = .ok (.if_icmp .ne 22, 3) := daX7_isClosed (84, .if_icmp .ne 22, 3) (List.mem_of_getElem? (i := 44) rfl)
theorem dX7_isClosed_87 : decode cX7_isClosed 87 = .ok (.aload_n 0, 1) := daX7_isClosed (87, .aload_n 0, 1) (List.mem_of_getElem? (i := 45) rfl)
theorem dX7_isClosed_88 : decode cX7_isClosed 88 = .ok (.aload_n 0, 1) := daX7_isClosed (88, .aload_n 0, 1) (List.mem_of_getElem? (i := 46) rfl)
theorem dX7_isClosed_89 : decode cX7_isClosed 89 = .ok (.getfield 186, 3) := daX7_isClosed (89, .getfield 186, 3) (List.mem_of_getElem? (i := 47) rfl)
theorem dX7_isClosed_92 : decode cX7_isClosed 92 = .ok (.iconst 5, 1) := daX7_isClosed (92, .iconst 5, 1) (List.mem_of_getElem? (i := 48) rfl)
theorem dX7_isClosed_93 : decode cX7_isClosed 93 = .ok (.iadd, 1) := daX7_isClosed (93, .iadd, 1) (List.mem_of_getElem? (i := 49) rfl)
theorem dX7_isClosed_94 : decode cX7_isClosed 94 = .ok (.invokevirtual 189, 3) := daX7_isClosed (94, .invokevirtual 189, 3) (List.mem_of_getElem? (i := 50) rfl)
theorem dX7_isClosed_97 : decode cX7_isClosed 97 = .ok (.bipush 100, 2) := daX7_isClosed (97, .bipush 100, 2) (List.mem_of_getElem? (i := 51) rfl)
theorem dX7_isClosed_99 : decode cX7_isClosed 99 = .ok (.if_icmp .ne 7, 3) := daX7_isClosed (99, .if_icmp .ne 7, 3) (List.mem_of_getElem? (i := 52) rfl)
theorem dX7_isClosed_102 : decode cX7_isClosed 102 = .ok (.iconst 1, 1) := daX7_isClosed (102, .iconst 1, 1) (List.mem_of_getElem? (i := 53) rfl)
theorem dX7_isClosed_103 : decode cX7_isClosed 103 = .ok (.goto 4, 3) := daX7_isClosed (103, .goto 4, 3) (List.mem_of_getElem? (i := 54) rfl)
theorem dX7_isClosed_106 : decode cX7_isClosed 106 = .ok (.iconst 0, 1) := daX7_isClosed (106, .iconst 0, 1) (List.mem_of_getElem? (i := 55) rfl)
theorem dX7_isClosed_107 : decode cX7_isClosed 107 = .ok (.ireturn, 1) := daX7_isClosed (107, .ireturn, 1) (List.mem_of_getElem? (i := 56) rfl)
def rmX7_isClosed : Room := { frames := 1, cells := 0, slots := 0, locals := 21 }
theorem zdX7_isClosed : yX7_isClosed.cls = RX7 ∧ yX7_isClosed.cls ≠ "java/lang/invoke/MethodHandle" ∧ yX7_isClosed.cls ≠ "java/lang/invoke/VarHandle" ∧ (parseMethodDescriptor yX7_isClosed.desc).map (fun d => d.parameters.length) = some 0 := by decide +kernel
theorem kiX7_isClosed_X7 : ∀ w ∈ wsX70, w ∈ wsX7_isClosed := fun _ h => (List.mem_cons_of_mem _ (List.mem_append_right _ h))
theorem kfX7_isClosed_183 : Cond.fieldLink RX7 183 "ShapeJudgeModel" "at" "I" ∈ wsX7_isClosed := (List.mem_of_getElem? (i := 1) rfl)
theorem kfX7_isClosed_186 : Cond.fieldLink RX7 186 "ShapeJudgeModel" "from" "I" ∈ wsX7_isClosed := (List.mem_of_getElem? (i := 2) rfl)
def s_X7_isClosed (m : Mem)  : Option (Int32) :=
  (if ((m 0 38) - (m 0 39)) = 6 then ((s_X7_look m (m 0 39)).bind fun r2 => (if r2 = 99 then ((s_X7_look m ((m 0 39) + 1)).bind fun r4 => (if r4 = 108 then ((s_X7_look m ((m 0 39) + 2)).bind fun r6 => (if r6 = 111 then ((s_X7_look m ((m 0 39) + 3)).bind fun r8 => (if r8 = 115 then ((s_X7_look m ((m 0 39) + 4)).bind fun r10 => (if r10 = 101 then ((s_X7_look m ((m 0 39) + 5)).bind fun r12 => (if r12 = 100 then (some 1) else (some 0))) else (some 0))) else (some 0))) else (some 0))) else (some 0))) else (some 0))) else (some 0))
set_option maxRecDepth 100000 in
set_option maxHeartbeats 4000000 in
theorem c_X7_isClosed (l : Launch) (w : ZW) {m : Mem}  {r9 : Int32}  (hf : s_X7_isClosed m  = some r9) : zCi MM l w yX7_isClosed wsX7_isClosed rmX7_isClosed [.ref (w.2.1 0)] m m r9 := by
  refine z_met_z MM_ok (own := RX7) (by decide +kernel) rfl rfl (Nat.le_of_ble_eq_true rfl) ?_
  intro K C hKw hKl hret
  subst hKw
  subst hKl
  unfold s_X7_isClosed at hf
  show zGo MM K m [(0, .ref ((zw K).2.1 0))] 0 []
  refine z_aload_n C 0 dX7_isClosed_0 rfl rfl ?_
  refine z_geti C (Nat.le_of_ble_eq_true rfl) rfl rfl 38 (Nat.le_of_ble_eq_true rfl) rfl kiX7_isClosed_X7 kfX7_isClosed_183 dX7_isClosed_1 ?_
  refine z_aload_n C 0 dX7_isClosed_4 rfl rfl ?_
  refine z_geti C (Nat.le_of_ble_eq_true rfl) rfl rfl 39 (Nat.le_of_ble_eq_true rfl) rfl kiX7_isClosed_X7 kfX7_isClosed_186 dX7_isClosed_5 ?_
  refine z_isub C dX7_isClosed_8 ?_
  refine z_bipush C (v := 6) dX7_isClosed_9 rfl ?_
  refine z_icmp_ne (tgt := 106) C dX7_isClosed_11 (by decide) (fun c19 => ?_) (fun c19 => ?_)
  · replace hf := if_f c19 hf
    refine z_iconst C (v := 0) dX7_isClosed_106 rfl ?_
    have e1 := Option.some.inj hf
    subst e1
    exact hret _ _ dX7_isClosed_107 (Or.inl rfl)
  · replace hf := if_t c19 hf
    refine z_aload_n C 0 dX7_isClosed_14 rfl rfl ?_
    refine z_aload_n C 0 dX7_isClosed_15 rfl rfl ?_
    refine z_geti C (Nat.le_of_ble_eq_true rfl) rfl rfl 39 (Nat.le_of_ble_eq_true rfl) rfl kiX7_isClosed_X7 kfX7_isClosed_186 dX7_isClosed_16 ?_
    obtain ⟨r2, hc1, hf⟩ := zb_el hf
    refine z_cVi C (c_X7_look _ _ hc1) rfl gX7_isClosed_X7_look rfl rfl zdX7_look rfl (Nat.le_of_ble_eq_true rfl) rfl rfl rfl ⟨Nat.le_of_ble_eq_true rfl, Nat.le_of_ble_eq_true rfl⟩ (Nat.le_of_ble_eq_true rfl) dX7_isClosed_19 rfl ?_
    refine z_bipush C (v := 99) dX7_isClosed_22 rfl ?_
    refine z_icmp_ne (tgt := 106) C dX7_isClosed_24 (by decide) (fun c18 => ?_) (fun c18 => ?_)
    · replace hf := if_f c18 hf
      refine z_iconst C (v := 0) dX7_isClosed_106 rfl ?_
      have e1 := Option.some.inj hf
      subst e1
      exact hret _ _ dX7_isClosed_107 (Or.inl rfl)
    · replace hf := if_t c18 hf
      refine z_aload_n C 0 dX7_isClosed_27 rfl rfl ?_
      refine z_aload_n C 0 dX7_isClosed_28 rfl rfl ?_
      refine z_geti C (Nat.le_of_ble_eq_true rfl) rfl rfl 39 (Nat.le_of_ble_eq_true rfl) rfl kiX7_isClosed_X7 kfX7_isClosed_186 dX7_isClosed_29 ?_
      refine z_iconst C (v := 1) dX7_isClosed_32 rfl ?_
      refine z_iadd C dX7_isClosed_33 ?_
      obtain ⟨r4, hc3, hf⟩ := zb_el hf
      refine z_cVi C (c_X7_look _ _ hc3) rfl gX7_isClosed_X7_look rfl rfl zdX7_look rfl (Nat.le_of_ble_eq_true rfl) rfl rfl rfl ⟨Nat.le_of_ble_eq_true rfl, Nat.le_of_ble_eq_true rfl⟩ (Nat.le_of_ble_eq_true rfl) dX7_isClosed_34 rfl ?_
      refine z_bipush C (v := 108) dX7_isClosed_37 rfl ?_
      refine z_icmp_ne (tgt := 106) C dX7_isClosed_39 (by decide) (fun c17 => ?_) (fun c17 => ?_)
      · replace hf := if_f c17 hf
        refine z_iconst C (v := 0) dX7_isClosed_106 rfl ?_
        have e1 := Option.some.inj hf
        subst e1
        exact hret _ _ dX7_isClosed_107 (Or.inl rfl)
      · replace hf := if_t c17 hf
        refine z_aload_n C 0 dX7_isClosed_42 rfl rfl ?_
        refine z_aload_n C 0 dX7_isClosed_43 rfl rfl ?_
        refine z_geti C (Nat.le_of_ble_eq_true rfl) rfl rfl 39 (Nat.le_of_ble_eq_true rfl) rfl kiX7_isClosed_X7 kfX7_isClosed_186 dX7_isClosed_44 ?_
        refine z_iconst C (v := 2) dX7_isClosed_47 rfl ?_
        refine z_iadd C dX7_isClosed_48 ?_
        obtain ⟨r6, hc5, hf⟩ := zb_el hf
        refine z_cVi C (c_X7_look _ _ hc5) rfl gX7_isClosed_X7_look rfl rfl zdX7_look rfl (Nat.le_of_ble_eq_true rfl) rfl rfl rfl ⟨Nat.le_of_ble_eq_true rfl, Nat.le_of_ble_eq_true rfl⟩ (Nat.le_of_ble_eq_true rfl) dX7_isClosed_49 rfl ?_
        refine z_bipush C (v := 111) dX7_isClosed_52 rfl ?_
        refine z_icmp_ne (tgt := 106) C dX7_isClosed_54 (by decide) (fun c16 => ?_) (fun c16 => ?_)
        · replace hf := if_f c16 hf
          refine z_iconst C (v := 0) dX7_isClosed_106 rfl ?_
          have e1 := Option.some.inj hf
          subst e1
          exact hret _ _ dX7_isClosed_107 (Or.inl rfl)
        · replace hf := if_t c16 hf
          refine z_aload_n C 0 dX7_isClosed_57 rfl rfl ?_
          refine z_aload_n C 0 dX7_isClosed_58 rfl rfl ?_
          refine z_geti C (Nat.le_of_ble_eq_true rfl) rfl rfl 39 (Nat.le_of_ble_eq_true rfl) rfl kiX7_isClosed_X7 kfX7_isClosed_186 dX7_isClosed_59 ?_
          refine z_iconst C (v := 3) dX7_isClosed_62 rfl ?_
          refine z_iadd C dX7_isClosed_63 ?_
          obtain ⟨r8, hc7, hf⟩ := zb_el hf
          refine z_cVi C (c_X7_look _ _ hc7) rfl gX7_isClosed_X7_look rfl rfl zdX7_look rfl (Nat.le_of_ble_eq_true rfl) rfl rfl rfl ⟨Nat.le_of_ble_eq_true rfl, Nat.le_of_ble_eq_true rfl⟩ (Nat.le_of_ble_eq_true rfl) dX7_isClosed_64 rfl ?_
          refine z_bipush C (v := 115) dX7_isClosed_67 rfl ?_
          refine z_icmp_ne (tgt := 106) C dX7_isClosed_69 (by decide) (fun c15 => ?_) (fun c15 => ?_)
          · replace hf := if_f c15 hf
            refine z_iconst C (v := 0) dX7_isClosed_106 rfl ?_
            have e1 := Option.some.inj hf
            subst e1
            exact hret _ _ dX7_isClosed_107 (Or.inl rfl)
          · replace hf := if_t c15 hf
            refine z_aload_n C 0 dX7_isClosed_72 rfl rfl ?_
            refine z_aload_n C 0 dX7_isClosed_73 rfl rfl ?_
            refine z_geti C (Nat.le_of_ble_eq_true rfl) rfl rfl 39 (Nat.le_of_ble_eq_true rfl) rfl kiX7_isClosed_X7 kfX7_isClosed_186 dX7_isClosed_74 ?_
            refine z_iconst C (v := 4) dX7_isClosed_77 rfl ?_
            refine z_iadd C dX7_isClosed_78 ?_
            obtain ⟨r10, hc9, hf⟩ := zb_el hf
            refine z_cVi C (c_X7_look _ _ hc9) rfl gX7_isClosed_X7_look rfl rfl zdX7_look rfl (Nat.le_of_ble_eq_true rfl) rfl rfl rfl ⟨Nat.le_of_ble_eq_true rfl, Nat.le_of_ble_eq_true rfl⟩ (Nat.le_of_ble_eq_true rfl) dX7_isClosed_79 rfl ?_
            refine z_bipush C (v := 101) dX7_isClosed_82 rfl ?_
            refine z_icmp_ne (tgt := 106) C dX7_isClosed_84 (by decide) (fun c14 => ?_) (fun c14 => ?_)
            · replace hf := if_f c14 hf
              refine z_iconst C (v := 0) dX7_isClosed_106 rfl ?_
              have e1 := Option.some.inj hf
              subst e1
              exact hret _ _ dX7_isClosed_107 (Or.inl rfl)
            · replace hf := if_t c14 hf
              refine z_aload_n C 0 dX7_isClosed_87 rfl rfl ?_
              refine z_aload_n C 0 dX7_isClosed_88 rfl rfl ?_
              refine z_geti C (Nat.le_of_ble_eq_true rfl) rfl rfl 39 (Nat.le_of_ble_eq_true rfl) rfl kiX7_isClosed_X7 kfX7_isClosed_186 dX7_isClosed_89 ?_
              refine z_iconst C (v := 5) dX7_isClosed_92 rfl ?_
              refine z_iadd C dX7_isClosed_93 ?_
              obtain ⟨r12, hc11, hf⟩ := zb_el hf
              refine z_cVi C (c_X7_look _ _ hc11) rfl gX7_isClosed_X7_look rfl rfl zdX7_look rfl (Nat.le_of_ble_eq_true rfl) rfl rfl rfl ⟨Nat.le_of_ble_eq_true rfl, Nat.le_of_ble_eq_true rfl⟩ (Nat.le_of_ble_eq_true rfl) dX7_isClosed_94 rfl ?_
              refine z_bipush C (v := 100) dX7_isClosed_97 rfl ?_
              refine z_icmp_ne (tgt := 106) C dX7_isClosed_99 (by decide) (fun c13 => ?_) (fun c13 => ?_)
              · replace hf := if_f c13 hf
                refine z_iconst C (v := 0) dX7_isClosed_106 rfl ?_
                have e1 := Option.some.inj hf
                subst e1
                exact hret _ _ dX7_isClosed_107 (Or.inl rfl)
              · replace hf := if_t c13 hf
                refine z_iconst C (v := 1) dX7_isClosed_102 rfl ?_
                refine z_goto (tgt := 107) C dX7_isClosed_103 (by decide) ?_
                have e1 := Option.some.inj hf
                subst e1
                exact hret _ _ dX7_isClosed_107 (Or.inr rfl)
theorem dX7_isSign_0 : decode cX7_isSign 0 = .ok (.iload_n 0, 1) := by decide +kernel
theorem dX7_isSign_1 : decode cX7_isSign 1 = .ok (.bipush 61, 2) := by decide +kernel
theorem dX7_isSign_3 : decode cX7_isSign 3 = .ok (.if_icmp .eq 63, 3) := by decide +kernel
theorem dX7_isSign_6 : decode cX7_isSign 6 = .ok (.iload_n 0, 1) := by decide +kernel
theorem dX7_isSign_7 : decode cX7_isSign 7 = .ok (.bipush 59, 2) := by decide +kernel
theorem dX7_isSign_9 : decode cX7_isSign 9 = .ok (.if_icmp .eq 57, 3) := by decide +kernel
theorem dX7_isSign_12 : decode cX7_isSign 12 = .ok (.iload_n 0, 1) := by decide +kernel
theorem dX7_isSign_13 : decode cX7_isSign 13 = .ok (.bipush 44, 2) := by decide +kernel
theorem dX7_isSign_15 : decode cX7_isSign 15 = .ok (.if_icmp .eq 51, 3) := by decide +kernel
theorem dX7_isSign_18 : decode cX7_isSign 18 = .ok (.iload_n 0, 1) := by decide +kernel
theorem dX7_isSign_19 : decode cX7_isSign 19 = .ok (.bipush 124, 2) := by decide +kernel
theorem dX7_isSign_21 : decode cX7_isSign 21 = .ok (.if_icmp .eq 45, 3) := by decide +kernel
theorem dX7_isSign_24 : decode cX7_isSign 24 = .ok (.iload_n 0, 1) := by decide +kernel
theorem dX7_isSign_25 : decode cX7_isSign 25 = .ok (.bipush 40, 2) := by decide +kernel
theorem dX7_isSign_27 : decode cX7_isSign 27 = .ok (.if_icmp .eq 39, 3) := by decide +kernel
theorem dX7_isSign_30 : decode cX7_isSign 30 = .ok (.iload_n 0, 1) := by decide +kernel
theorem dX7_isSign_31 : decode cX7_isSign 31 = .ok (.bipush 41, 2) := by decide +kernel
theorem dX7_isSign_33 : decode cX7_isSign 33 = .ok (.if_icmp .eq 33, 3) := by decide +kernel
theorem dX7_isSign_36 : decode cX7_isSign 36 = .ok (.iload_n 0, 1) := by decide +kernel
theorem dX7_isSign_37 : decode cX7_isSign 37 = .ok (.bipush 91, 2) := by decide +kernel
theorem dX7_isSign_39 : decode cX7_isSign 39 = .ok (.if_icmp .eq 27, 3) := by decide +kernel
theorem dX7_isSign_42 : decode cX7_isSign 42 = .ok (.iload_n 0, 1) := by decide +kernel
theorem dX7_isSign_43 : decode cX7_isSign 43 = .ok (.bipush 93, 2) := by decide +kernel
theorem dX7_isSign_45 : decode cX7_isSign 45 = .ok (.if_icmp .eq 21, 3) := by decide +kernel
theorem dX7_isSign_48 : decode cX7_isSign 48 = .ok (.iload_n 0, 1) := by decide +kernel
theorem dX7_isSign_49 : decode cX7_isSign 49 = .ok (.bipush 64, 2) := by decide +kernel
theorem dX7_isSign_51 : decode cX7_isSign 51 = .ok (.if_icmp .eq 15, 3) := by decide +kernel
theorem dX7_isSign_54 : decode cX7_isSign 54 = .ok (.iload_n 0, 1) := by decide +kernel
theorem dX7_isSign_55 : decode cX7_isSign 55 = .ok (.bipush 33, 2) := by decide +kernel
theorem dX7_isSign_57 : decode cX7_isSign 57 = .ok (.if_icmp .eq 9, 3) := by decide +kernel
theorem dX7_isSign_60 : decode cX7_isSign 60 = .ok (.iload_n 0, 1) := by decide +kernel
theorem dX7_isSign_61 : decode cX7_isSign 61 = .ok (.bipush 46, 2) := by decide +kernel
theorem dX7_isSign_63 : decode cX7_isSign 63 = .ok (.if_icmp .ne 7, 3) := by decide +kernel
theorem dX7_isSign_66 : decode cX7_isSign 66 = .ok (.iconst 1, 1) := by decide +kernel
theorem dX7_isSign_67 : decode cX7_isSign 67 = .ok (.goto 4, 3) := by decide +kernel
theorem dX7_isSign_70 : decode cX7_isSign 70 = .ok (.iconst 0, 1) := by decide +kernel
theorem dX7_isSign_71 : decode cX7_isSign 71 = .ok (.ireturn, 1) := by decide +kernel
def rmX7_isSign : Room := { frames := 0, cells := 0, slots := 0, locals := 0 }
theorem zdX7_isSign : yX7_isSign.cls = RX7 ∧ yX7_isSign.cls ≠ "java/lang/invoke/MethodHandle" ∧ yX7_isSign.cls ≠ "java/lang/invoke/VarHandle" ∧ (parseMethodDescriptor yX7_isSign.desc).map (fun d => d.parameters.length) = some 1 := by decide +kernel
def s_X7_isSign (a1 : Int32) : Option (Int32) :=
  (if a1 = 61 then (some 1) else ((if a1 = 59 then (some 1) else ((if a1 = 44 then (some 1) else ((if a1 = 124 then (some 1) else ((if a1 = 40 then (some 1) else ((if a1 = 41 then (some 1) else ((if a1 = 91 then (some 1) else ((if a1 = 93 then (some 1) else ((if a1 = 64 then (some 1) else ((if a1 = 33 then (some 1) else ((if a1 = 46 then (some 1) else (some 0))))))))))))))))))))))
set_option maxRecDepth 100000 in
set_option maxHeartbeats 4000000 in
theorem c_X7_isSign (l : Launch) (w : ZW) {m : Mem} {a1 : Int32} {r9 : Int32}  (hf : s_X7_isSign a1 = some r9) : zCi MM l w yX7_isSign wsX7_isSign rmX7_isSign [.int a1] m m r9 := by
  refine z_met_z MM_ok (own := RX7) (by decide +kernel) rfl rfl (Nat.le_of_ble_eq_true rfl) ?_
  intro K C hKw hKl hret
  subst hKw
  subst hKl
  unfold s_X7_isSign at hf
  show zGo MM K m [(0, .int a1)] 0 []
  refine z_iload_n C 0 dX7_isSign_0 rfl rfl ?_
  refine z_bipush C (v := 61) dX7_isSign_1 rfl ?_
  refine z_icmp_eq (tgt := 66) C dX7_isSign_3 (by decide) (fun c11 => ?_) (fun c11 => ?_)
  · replace hf := if_t c11 hf
    refine z_iconst C (v := 1) dX7_isSign_66 rfl ?_
    refine z_goto (tgt := 71) C dX7_isSign_67 (by decide) ?_
    have e1 := Option.some.inj hf
    subst e1
    exact hret _ _ dX7_isSign_71 (Or.inr rfl)
  · replace hf := if_f c11 hf
    refine z_iload_n C 0 dX7_isSign_6 rfl rfl ?_
    refine z_bipush C (v := 59) dX7_isSign_7 rfl ?_
    refine z_icmp_eq (tgt := 66) C dX7_isSign_9 (by decide) (fun c10 => ?_) (fun c10 => ?_)
    · replace hf := if_t c10 hf
      refine z_iconst C (v := 1) dX7_isSign_66 rfl ?_
      refine z_goto (tgt := 71) C dX7_isSign_67 (by decide) ?_
      have e1 := Option.some.inj hf
      subst e1
      exact hret _ _ dX7_isSign_71 (Or.inr rfl)
    · replace hf := if_f c10 hf
      refine z_iload_n C 0 dX7_isSign_12 rfl rfl ?_
      refine z_bipush C (v := 44) dX7_isSign_13 rfl ?_
      refine z_icmp_eq (tgt := 66) C dX7_isSign_15 (by decide) (fun c9 => ?_) (fun c9 => ?_)
      · replace hf := if_t c9 hf
        refine z_iconst C (v := 1) dX7_isSign_66 rfl ?_
        refine z_goto (tgt := 71) C dX7_isSign_67 (by decide) ?_
        have e1 := Option.some.inj hf
        subst e1
        exact hret _ _ dX7_isSign_71 (Or.inr rfl)
      · replace hf := if_f c9 hf
        refine z_iload_n C 0 dX7_isSign_18 rfl rfl ?_
        refine z_bipush C (v := 124) dX7_isSign_19 rfl ?_
        refine z_icmp_eq (tgt := 66) C dX7_isSign_21 (by decide) (fun c8 => ?_) (fun c8 => ?_)
        · replace hf := if_t c8 hf
          refine z_iconst C (v := 1) dX7_isSign_66 rfl ?_
          refine z_goto (tgt := 71) C dX7_isSign_67 (by decide) ?_
          have e1 := Option.some.inj hf
          subst e1
          exact hret _ _ dX7_isSign_71 (Or.inr rfl)
        · replace hf := if_f c8 hf
          refine z_iload_n C 0 dX7_isSign_24 rfl rfl ?_
          refine z_bipush C (v := 40) dX7_isSign_25 rfl ?_
          refine z_icmp_eq (tgt := 66) C dX7_isSign_27 (by decide) (fun c7 => ?_) (fun c7 => ?_)
          · replace hf := if_t c7 hf
            refine z_iconst C (v := 1) dX7_isSign_66 rfl ?_
            refine z_goto (tgt := 71) C dX7_isSign_67 (by decide) ?_
            have e1 := Option.some.inj hf
            subst e1
            exact hret _ _ dX7_isSign_71 (Or.inr rfl)
          · replace hf := if_f c7 hf
            refine z_iload_n C 0 dX7_isSign_30 rfl rfl ?_
            refine z_bipush C (v := 41) dX7_isSign_31 rfl ?_
            refine z_icmp_eq (tgt := 66) C dX7_isSign_33 (by decide) (fun c6 => ?_) (fun c6 => ?_)
            · replace hf := if_t c6 hf
              refine z_iconst C (v := 1) dX7_isSign_66 rfl ?_
              refine z_goto (tgt := 71) C dX7_isSign_67 (by decide) ?_
              have e1 := Option.some.inj hf
              subst e1
              exact hret _ _ dX7_isSign_71 (Or.inr rfl)
            · replace hf := if_f c6 hf
              refine z_iload_n C 0 dX7_isSign_36 rfl rfl ?_
              refine z_bipush C (v := 91) dX7_isSign_37 rfl ?_
              refine z_icmp_eq (tgt := 66) C dX7_isSign_39 (by decide) (fun c5 => ?_) (fun c5 => ?_)
              · replace hf := if_t c5 hf
                refine z_iconst C (v := 1) dX7_isSign_66 rfl ?_
                refine z_goto (tgt := 71) C dX7_isSign_67 (by decide) ?_
                have e1 := Option.some.inj hf
                subst e1
                exact hret _ _ dX7_isSign_71 (Or.inr rfl)
              · replace hf := if_f c5 hf
                refine z_iload_n C 0 dX7_isSign_42 rfl rfl ?_
                refine z_bipush C (v := 93) dX7_isSign_43 rfl ?_
                refine z_icmp_eq (tgt := 66) C dX7_isSign_45 (by decide) (fun c4 => ?_) (fun c4 => ?_)
                · replace hf := if_t c4 hf
                  refine z_iconst C (v := 1) dX7_isSign_66 rfl ?_
                  refine z_goto (tgt := 71) C dX7_isSign_67 (by decide) ?_
                  have e1 := Option.some.inj hf
                  subst e1
                  exact hret _ _ dX7_isSign_71 (Or.inr rfl)
                · replace hf := if_f c4 hf
                  refine z_iload_n C 0 dX7_isSign_48 rfl rfl ?_
                  refine z_bipush C (v := 64) dX7_isSign_49 rfl ?_
                  refine z_icmp_eq (tgt := 66) C dX7_isSign_51 (by decide) (fun c3 => ?_) (fun c3 => ?_)
                  · replace hf := if_t c3 hf
                    refine z_iconst C (v := 1) dX7_isSign_66 rfl ?_
                    refine z_goto (tgt := 71) C dX7_isSign_67 (by decide) ?_
                    have e1 := Option.some.inj hf
                    subst e1
                    exact hret _ _ dX7_isSign_71 (Or.inr rfl)
                  · replace hf := if_f c3 hf
                    refine z_iload_n C 0 dX7_isSign_54 rfl rfl ?_
                    refine z_bipush C (v := 33) dX7_isSign_55 rfl ?_
                    refine z_icmp_eq (tgt := 66) C dX7_isSign_57 (by decide) (fun c2 => ?_) (fun c2 => ?_)
                    · replace hf := if_t c2 hf
                      refine z_iconst C (v := 1) dX7_isSign_66 rfl ?_
                      refine z_goto (tgt := 71) C dX7_isSign_67 (by decide) ?_
                      have e1 := Option.some.inj hf
                      subst e1
                      exact hret _ _ dX7_isSign_71 (Or.inr rfl)
                    · replace hf := if_f c2 hf
                      refine z_iload_n C 0 dX7_isSign_60 rfl rfl ?_
                      refine z_bipush C (v := 46) dX7_isSign_61 rfl ?_
                      refine z_icmp_ne (tgt := 70) C dX7_isSign_63 (by decide) (fun c1 => ?_) (fun c1 => ?_)
                      · replace hf := if_f c1 hf
                        refine z_iconst C (v := 0) dX7_isSign_70 rfl ?_
                        have e1 := Option.some.inj hf
                        subst e1
                        exact hret _ _ dX7_isSign_71 (Or.inl rfl)
                      · replace hf := if_t c1 hf
                        refine z_iconst C (v := 1) dX7_isSign_66 rfl ?_
                        refine z_goto (tgt := 71) C dX7_isSign_67 (by decide) ?_
                        have e1 := Option.some.inj hf
                        subst e1
                        exact hret _ _ dX7_isSign_71 (Or.inr rfl)
set_option maxRecDepth 20000 in
theorem ggX7_next_X7_look : GoodIn wsX7_next wsX7_look := goodIn_sub (List.forall_mem_cons.mpr ⟨(List.mem_of_getElem? (i := 15) rfl), (List.forall_mem_append.mpr ⟨(List.forall_mem_cons.mpr ⟨(List.mem_of_getElem? (i := 16) rfl), (List.forall_mem_cons.mpr ⟨(List.mem_of_getElem? (i := 17) rfl), (fun _ h => absurd h List.not_mem_nil)⟩)⟩), (fun _ h => (List.mem_cons_of_mem _ (List.mem_append_right _ h)))⟩)⟩) (by decide +kernel)
set_option maxRecDepth 20000 in
theorem gX7_next_X7_look : GoodIn wsX7_next (wsV RX7 189 RX7 yX7_look wsX7_look) := goodIn_app (goodIn_sub (List.forall_mem_cons.mpr ⟨(List.mem_of_getElem? (i := 11) rfl), (List.forall_mem_cons.mpr ⟨(List.mem_of_getElem? (i := 12) rfl), (List.forall_mem_cons.mpr ⟨(List.mem_of_getElem? (i := 13) rfl), (List.forall_mem_cons.mpr ⟨(List.mem_of_getElem? (i := 14) rfl), (fun _ h => absurd h List.not_mem_nil)⟩)⟩)⟩)⟩) (by decide +kernel)) ggX7_next_X7_look
set_option maxRecDepth 20000 in
theorem ggX7_next_X7_in : GoodIn wsX7_next wsX7_in := goodIn_sub (List.forall_mem_cons.mpr ⟨(List.mem_of_getElem? (i := 20) rfl), (fun _ h => absurd h List.not_mem_nil)⟩) (by decide +kernel)
set_option maxRecDepth 20000 in
theorem gX7_next_X7_in : GoodIn wsX7_next (va_wsS RX7 144 yX7_in wsX7_in) := goodIn_app (goodIn_sub (List.forall_mem_cons.mpr ⟨(List.mem_of_getElem? (i := 18) rfl), (List.forall_mem_cons.mpr ⟨(List.mem_of_getElem? (i := 19) rfl), (List.forall_mem_cons.mpr ⟨(List.mem_of_getElem? (i := 14) rfl), (fun _ h => absurd h List.not_mem_nil)⟩)⟩)⟩) (by decide +kernel)) ggX7_next_X7_in
set_option maxRecDepth 20000 in
theorem ggX7_next_X7_fails : GoodIn wsX7_next wsX7_fails := goodIn_sub (List.forall_mem_cons.mpr ⟨(List.mem_of_getElem? (i := 24) rfl), (List.forall_mem_append.mpr ⟨(List.forall_mem_cons.mpr ⟨(List.mem_of_getElem? (i := 25) rfl), (List.forall_mem_cons.mpr ⟨(List.mem_of_getElem? (i := 26) rfl), (fun _ h => absurd h List.not_mem_nil)⟩)⟩), (fun _ h => (List.mem_cons_of_mem _ (List.mem_append_right _ h)))⟩)⟩) (by decide +kernel)
set_option maxRecDepth 20000 in
theorem gX7_next_X7_fails : GoodIn wsX7_next (wsV RX7 207 RX7 yX7_fails wsX7_fails) := goodIn_app (goodIn_sub (List.forall_mem_cons.mpr ⟨(List.mem_of_getElem? (i := 21) rfl), (List.forall_mem_cons.mpr ⟨(List.mem_of_getElem? (i := 22) rfl), (List.forall_mem_cons.mpr ⟨(List.mem_of_getElem? (i := 23) rfl), (List.forall_mem_cons.mpr ⟨(List.mem_of_getElem? (i := 14) rfl), (fun _ h => absurd h List.not_mem_nil)⟩)⟩)⟩)⟩) (by decide +kernel)) ggX7_next_X7_fails
set_option maxRecDepth 20000 in
theorem ggX7_next_X7_isClosed : GoodIn wsX7_next wsX7_isClosed := goodIn_sub (List.forall_mem_cons.mpr ⟨(List.mem_of_getElem? (i := 30) rfl), (List.forall_mem_append.mpr ⟨(List.forall_mem_cons.mpr ⟨(List.mem_of_getElem? (i := 1) rfl), (List.forall_mem_cons.mpr ⟨(List.mem_of_getElem? (i := 2) rfl), (List.forall_mem_cons.mpr ⟨(List.mem_of_getElem? (i := 11) rfl), (List.forall_mem_cons.mpr ⟨(List.mem_of_getElem? (i := 12) rfl), (List.forall_mem_cons.mpr ⟨(List.mem_of_getElem? (i := 13) rfl), (List.forall_mem_cons.mpr ⟨(List.mem_of_getElem? (i := 14) rfl), (List.forall_mem_cons.mpr ⟨(List.mem_of_getElem? (i := 15) rfl), (List.forall_mem_cons.mpr ⟨(List.mem_of_getElem? (i := 16) rfl), (List.forall_mem_cons.mpr ⟨(List.mem_of_getElem? (i := 17) rfl), (fun _ h => absurd h List.not_mem_nil)⟩)⟩)⟩)⟩)⟩)⟩)⟩)⟩)⟩), (fun _ h => (List.mem_cons_of_mem _ (List.mem_append_right _ h)))⟩)⟩) (by decide +kernel)
set_option maxRecDepth 20000 in
theorem gX7_next_X7_isClosed : GoodIn wsX7_next (wsV RX7 215 RX7 yX7_isClosed wsX7_isClosed) := goodIn_app (goodIn_sub (List.forall_mem_cons.mpr ⟨(List.mem_of_getElem? (i := 27) rfl), (List.forall_mem_cons.mpr ⟨(List.mem_of_getElem? (i := 28) rfl), (List.forall_mem_cons.mpr ⟨(List.mem_of_getElem? (i := 29) rfl), (List.forall_mem_cons.mpr ⟨(List.mem_of_getElem? (i := 14) rfl), (fun _ h => absurd h List.not_mem_nil)⟩)⟩)⟩)⟩) (by decide +kernel)) ggX7_next_X7_isClosed
set_option maxRecDepth 20000 in
theorem ggX7_next_X7_isSign : GoodIn wsX7_next wsX7_isSign := goodIn_sub (List.forall_mem_cons.mpr ⟨(List.mem_of_getElem? (i := 33) rfl), (fun _ h => absurd h List.not_mem_nil)⟩) (by decide +kernel)
set_option maxRecDepth 20000 in
theorem gX7_next_X7_isSign : GoodIn wsX7_next (va_wsS RX7 219 yX7_isSign wsX7_isSign) := goodIn_app (goodIn_sub (List.forall_mem_cons.mpr ⟨(List.mem_of_getElem? (i := 31) rfl), (List.forall_mem_cons.mpr ⟨(List.mem_of_getElem? (i := 32) rfl), (List.forall_mem_cons.mpr ⟨(List.mem_of_getElem? (i := 14) rfl), (fun _ h => absurd h List.not_mem_nil)⟩)⟩)⟩) (by decide +kernel)) ggX7_next_X7_isSign
set_option maxRecDepth 100000 in
theorem daX7_next : ∀ q ∈ ([(0, .aload_n 0, 1), (1, .aload_n 0, 1), (2, .getfield 183, 3), (5, .invokevirtual 189, 3), (8, .bipush 32, 2), (10, .if_icmp .ne 16, 3), (13, .aload_n 0, 1), (14, .dup, 1), (15, .getfield 183, 3), (18, .iconst 1, 1), (19, .iadd, 1), (20, .putfield 183, 3), (23, .goto (-23), 3), (26, .aload_n 0, 1), (27, .aload_n 0, 1), (28, .getfield 183, 3), (31, .putfield 186, 3), (34, .aload_n 0, 1), (35, .aload_n 0, 1), (36, .getfield 183, 3), (39, .invokevirtual 189, 3), (42, .istore_n 1, 1), (43, .iload_n 1, 1), (44, .ifCond .ge 11, 3), (47, .aload_n 0, 1), (48, .iconst 0, 1), (49, .putfield 193, 3), (52, .goto 363, 3), (55, .iload_n 1, 1), (56, .i2l, 1), (57, .ldc2_w 196, 3), (60, .ldc2_w 198, 3), (63, .invokestatic 144, 3), (66, .ifCond .eq 26, 3), (69, .aload_n 0, 1), (70, .iconst 1, 1), (71, .putfield 193, 3), (74, .aload_n 0, 1), (75, .iload_n 1, 1), (76, .putfield 200, 3), (79, .aload_n 0, 1), (80, .dup, 1), (81, .getfield 183, 3), (84, .iconst 1, 1), (85, .iadd, 1), (86, .putfield 183, 3), (89, .goto 326, 3), (92, .iload_n 1, 1), (93, .bipush 45, 2), (95, .if_icmp .eq 17, 3), (98, .iload_n 1, 1), (99, .i2l, 1), (100, .ldc2_w 203, 3), (103, .ldc2_w 205, 3), (106, .invokestatic 144, 3), (109, .ifCond .eq 164, 3), (112, .aload_n 0, 1), (113, .iconst 2, 1), (114, .putfield 193, 3), (117, .aload_n 0, 1), (118, .dup, 1), (119, .getfield 183, 3), (122, .iload_n 1, 1), (123, .bipush 45, 2), (125, .if_icmp .ne 7, 3), (128, .iconst 1, 1), (129, .goto 4, 3), (132, .iconst 0, 1), (133, .iadd, 1), (134, .putfield 183, 3), (137, .aload_n 0, 1), (138, .getfield 183, 3), (141, .istore_n 2, 1), (142, .aload_n 0, 1), (143, .iconst 0, 1), (144, .putfield 200, 3), (147, .aload_n 0, 1), (148, .aload_n 0, 1), (149, .getfield 183, 3), (152, .invokevirtual 189, 3), (155, .i2l, 1), (156, .ldc2_w 203, 3), (159, .ldc2_w 205, 3), (162, .invokestatic 144, 3), (165, .ifCond .eq 56, 3), (168, .aload_n 0, 1), (169, .aload_n 0, 1), (170, .getfield 183, 3), (173, .iload_n 2, 1), (174, .isub, 1), (175, .iconst 4, 1), (176, .if_icmp .ge 25, 3), (179, .bipush 10, 2), (181, .aload_n 0, 1), (182, .getfield 200, 3), (185, .imul, 1), (186, .aload_n 0, 1), (187, .aload_n 0, 1), (188, .getfield 183, 3), (191, .invokevirtual 189, 3), (194, .iadd, 1), (195, .bipush 48, 2), (197, .isub, 1), (198, .goto 7, 3), (201, .aload_n 0, 1), (202, .getfield 200, 3), (205, .putfield 200, 3), (208, .aload_n 0, 1), (209, .dup, 1), (210, .getfield 183, 3), (213, .iconst 1, 1), (214, .iadd, 1), (215, .putfield 183, 3), (218, .goto (-71), 3), (221, .aload_n 0, 1), (222, .iload_n 1, 1), (223, .bipush 45, 2), (225, .if_icmp .ne 11, 3), (228, .aload_n 0, 1), (229, .getfield 200, 3), (232, .ineg, 1), (233, .goto 7, 3), (236, .aload_n 0, 1), (237, .getfield 200, 3), (240, .putfield 200, 3), (243, .aload_n 0, 1), (244, .getfield 183, 3), (247, .iload_n 2, 1), (248, .if_icmp .eq 13, 3), (251, .aload_n 0, 1), (252, .getfield 183, 3), (255, .iload_n 2, 1), (256, .isub, 1), (257, .iconst 4, 1), (258, .if_icmp .le 12, 3), (261, .aload_n 0, 1), (262, .iconst 1, 1), (263, .aload_n 0, 1), (264, .getfield 186, 3), (267, .invokevirtual 207, 3), (270, .goto 145, 3), (273, .iload_n 1, 1), (274, .i2l, 1), (275, .ldc2_w 211, 3), (278, .ldc2_w 213, 3), (281, .invokestatic 144, 3), (284, .ifCond .eq 38, 3), (287, .aload_n 0, 1), (288, .iconst 3, 1), (289, .putfield 193, 3), (292, .aload_n 0, 1), (293, .dup, 1), (294, .getfield 183, 3), (297, .bipush 6, 2), (299, .iadd, 1), (300, .putfield 183, 3), (303, .aload_n 0, 1), (304, .invokevirtual 215, 3), (307, .ifCond .ne 108, 3), (310, .aload_n 0, 1), (311, .iconst 1, 1), (312, .aload_n 0, 1), (313, .getfield 186, 3), (316, .invokevirtual 207, 3), (319, .goto 96, 3), (322, .iload_n 1, 1), (323, .bipush 46, 2), (325, .if_icmp .ne 51, 3), (328, .aload_n 0, 1), (329, .aload_n 0, 1), (330, .getfield 183, 3), (333, .iconst 1, 1), (334, .iadd, 1), (335, .invokevirtual 189, 3), (338, .bipush 46, 2), (340, .if_icmp .ne 36, 3), (343, .aload_n 0, 1), (344, .aload_n 0, 1), (345, .getfield 183, 3), (348, .iconst 2, 1), (349, .iadd, 1), (350, .invokevirtual 189, 3), (353, .bipush 46, 2), (355, .if_icmp .ne 21, 3), (358, .aload_n 0, 1), (359, .iconst 5, 1), (360, .putfield 193, 3), (363, .aload_n 0, 1), (364, .dup, 1), (365, .getfield 183, 3), (368, .iconst 3, 1), (369, .iadd, 1), (370, .putfield 183, 3), (373, .goto 42, 3), (376, .iload_n 1, 1), (377, .invokestatic 219, 3), (380, .ifCond .eq 26, 3), (383, .aload_n 0, 1), (384, .iconst 4, 1), (385, .putfield 193, 3), (388, .aload_n 0, 1), (389, .iload_n 1, 1), (390, .putfield 200, 3), (393, .aload_n 0, 1), (394, .dup, 1), (395, .getfield 183, 3), (398, .iconst 1, 1), (399, .iadd, 1), (400, .putfield 183, 3), (403, .goto 12, 3), (406, .aload_n 0, 1), (407, .iconst 1, 1), (408, .aload_n 0, 1), (409, .getfield 186, 3), (412, .invokevirtual 207, 3), (415, .return_, 1)] : List (Nat × Instr × Nat)), decode cX7_next q.1 = .ok q.2 := by decide +kernel
theorem dX7_next_0 : decode cX7_next 0 = .ok (.aload_n 0, 1) := daX7_next (0, .aload_n 0, 1) (List.mem_of_getElem? (i := 0) rfl)
theorem dX7_next_1 : decode cX7_next 1 = .ok (.aload_n 0, 1) := daX7_next (1, .aload_n 0, 1) (List.mem_of_getElem? (i := 1) rfl)
theorem dX7_next_2 : decode cX7_next 2 = .ok (.getfield 183, 3) := daX7_next (2, .getfield 183, 3) (List.mem_of_getElem? (i := 2) rfl)
theorem dX7_next_5 : decode cX7_next 5 = .ok (.invokevirtual 189, 3) := daX7_next (5, .invokevirtual 189, 3) (List.mem_of_getElem? (i := 3) rfl)
theorem dX7_next_8 : decode cX7_next 8 = .ok (.bipush 32, 2) := daX7_next (8, .bipush 32, 2) (List.mem_of_getElem? (i := 4) rfl)
theorem dX7_next_10 : decode cX7_next 10 = .ok (.if_icmp .ne 16, 3) := daX7_next (10, .if_icmp .ne 16, 3) (List.mem_of_getElem? (i := 5) rfl)
theorem dX7_next_13 : decode cX7_next 13 = .ok (.aload_n 0, 1) := daX7_next (13, .aload_n 0, 1) (List.mem_of_getElem? (i := 6) rfl)
theorem dX7_next_14 : decode cX7_next 14 = .ok (.dup, 1) := daX7_next (14, .dup, 1) (List.mem_of_getElem? (i := 7) rfl)
theorem dX7_next_15 : decode cX7_next 15 = .ok (.getfield 183, 3) := daX7_next (15, .getfield 183, 3) (List.mem_of_getElem? (i := 8) rfl)
theorem dX7_next_18 : decode cX7_next 18 = .ok (.iconst 1, 1) := daX7_next (18, .iconst 1, 1) (List.mem_of_getElem? (i := 9) rfl)
theorem dX7_next_19 : decode cX7_next 19 = .ok (.iadd, 1) := daX7_next (19, .iadd, 1) (List.mem_of_getElem? (i := 10) rfl)
theorem dX7_next_20 : decode cX7_next 20 = .ok (.putfield 183, 3) := daX7_next (20, .putfield 183, 3) (List.mem_of_getElem? (i := 11) rfl)
theorem dX7_next_23 : decode cX7_next 23 = .ok (.goto (-23), 3) := daX7_next (23, .goto (-23), 3) (List.mem_of_getElem? (i := 12) rfl)
theorem dX7_next_26 : decode cX7_next 26 = .ok (.aload_n 0, 1) := daX7_next (26, .aload_n 0, 1) (List.mem_of_getElem? (i := 13) rfl)
theorem dX7_next_27 : decode cX7_next 27 = .ok (.aload_n 0, 1) := daX7_next (27, .aload_n 0, 1) (List.mem_of_getElem? (i := 14) rfl)
theorem dX7_next_28 : decode cX7_next 28 = .ok (.getfield 183, 3) := daX7_next (28, .getfield 183, 3) (List.mem_of_getElem? (i := 15) rfl)
theorem dX7_next_31 : decode cX7_next 31 = .ok (.putfield 186, 3) := daX7_next (31, .putfield 186, 3) (List.mem_of_getElem? (i := 16) rfl)
theorem dX7_next_34 : decode cX7_next 34 = .ok (.aload_n 0, 1) := daX7_next (34, .aload_n 0, 1) (List.mem_of_getElem? (i := 17) rfl)
theorem dX7_next_35 : decode cX7_next 35 = .ok (.aload_n 0, 1) := daX7_next (35, .aload_n 0, 1) (List.mem_of_getElem? (i := 18) rfl)
theorem dX7_next_36 : decode cX7_next 36 = .ok (.getfield 183, 3) := daX7_next (36, .getfield 183, 3) (List.mem_of_getElem? (i := 19) rfl)
theorem dX7_next_39 : decode cX7_next 39 = .ok (.invokevirtual 189, 3) := daX7_next (39, .invokevirtual 189, 3) (List.mem_of_getElem? (i := 20) rfl)
theorem dX7_next_42 : decode cX7_next 42 = .ok (.istore_n 1, 1) := daX7_next (42, .istore_n 1, 1) (List.mem_of_getElem? (i := 21) rfl)
theorem dX7_next_43 : decode cX7_next 43 = .ok (.iload_n 1, 1) := daX7_next (43, .iload_n 1, 1) (List.mem_of_getElem? (i := 22) rfl)
theorem dX7_next_44 : decode cX7_next 44 = .ok (.ifCond .ge 11, 3) := daX7_next (44, .ifCond .ge 11, 3) (List.mem_of_getElem? (i := 23) rfl)
theorem dX7_next_47 : decode cX7_next 47 = .ok (.aload_n 0, 1) := daX7_next (47, .aload_n 0, 1) (List.mem_of_getElem? (i := 24) rfl)
theorem dX7_next_48 : decode cX7_next 48 = .ok (.iconst 0, 1) := daX7_next (48, .iconst 0, 1) (List.mem_of_getElem? (i := 25) rfl)
theorem dX7_next_49 : decode cX7_next 49 = .ok (.putfield 193, 3) := daX7_next (49, .putfield 193, 3) (List.mem_of_getElem? (i := 26) rfl)
theorem dX7_next_52 : decode cX7_next 52 = .ok (.goto 363, 3) := daX7_next (52, .goto 363, 3) (List.mem_of_getElem? (i := 27) rfl)
theorem dX7_next_55 : decode cX7_next 55 = .ok (.iload_n 1, 1) := daX7_next (55, .iload_n 1, 1) (List.mem_of_getElem? (i := 28) rfl)
theorem dX7_next_56 : decode cX7_next 56 = .ok (.i2l, 1) := daX7_next (56, .i2l, 1) (List.mem_of_getElem? (i := 29) rfl)
theorem dX7_next_57 : decode cX7_next 57 = .ok (.ldc2_w 196, 3) := daX7_next (57, .ldc2_w 196, 3) (List.mem_of_getElem? (i := 30) rfl)
theorem dX7_next_60 : decode cX7_next 60 = .ok (.ldc2_w 198, 3) := daX7_next (60, .ldc2_w 198, 3) (List.mem_of_getElem? (i := 31) rfl)
theorem dX7_next_63 : decode cX7_next 63 = .ok (.invokestatic 144, 3) := daX7_next (63, .invokestatic 144, 3) (List.mem_of_getElem? (i := 32) rfl)
theorem dX7_next_66 : decode cX7_next 66 = .ok (.ifCond .eq 26, 3) := daX7_next (66, .ifCond .eq 26, 3) (List.mem_of_getElem? (i := 33) rfl)
theorem dX7_next_69 : decode cX7_next 69 = .ok (.aload_n 0, 1) := daX7_next (69, .aload_n 0, 1) (List.mem_of_getElem? (i := 34) rfl)
theorem dX7_next_70 : decode cX7_next 70 = .ok (.iconst 1, 1) := daX7_next (70, .iconst 1, 1) (List.mem_of_getElem? (i := 35) rfl)
theorem dX7_next_71 : decode cX7_next 71 = .ok (.putfield 193, 3) := daX7_next (71, .putfield 193, 3) (List.mem_of_getElem? (i := 36) rfl)
theorem dX7_next_74 : decode cX7_next 74 = .ok (.aload_n 0, 1) := daX7_next (74, .aload_n 0, 1) (List.mem_of_getElem? (i := 37) rfl)
theorem dX7_next_75 : decode cX7_next 75 = .ok (.iload_n 1, 1) := daX7_next (75, .iload_n 1, 1) (List.mem_of_getElem? (i := 38) rfl)
theorem dX7_next_76 : decode cX7_next 76 = .ok (.putfield 200, 3) := daX7_next (76, .putfield 200, 3) (List.mem_of_getElem? (i := 39) rfl)
theorem dX7_next_79 : decode cX7_next 79 = .ok (.aload_n 0, 1) := daX7_next (79, .aload_n 0, 1) (List.mem_of_getElem? (i := 40) rfl)
theorem dX7_next_80 : decode cX7_next 80 = .ok (.dup, 1) := daX7_next (80, .dup, 1) (List.mem_of_getElem? (i := 41) rfl)
theorem dX7_next_81 : decode cX7_next 81 = .ok (.getfield 183, 3) := daX7_next (81, .getfield 183, 3) (List.mem_of_getElem? (i := 42) rfl)
theorem dX7_next_84 : decode cX7_next 84 = .ok (.iconst 1, 1) := daX7_next (84, .iconst 1, 1) (List.mem_of_getElem? (i := 43) rfl)
theorem dX7_next_85 : decode cX7_next 85 = .ok (.iadd, 1) := daX7_next (85, .iadd, 1) (List.mem_of_getElem? (i := 44) rfl)
theorem dX7_next_86 : decode cX7_next 86 = .ok (.putfield 183, 3) := daX7_next (86, .putfield 183, 3) (List.mem_of_getElem? (i := 45) rfl)
theorem dX7_next_89 : decode cX7_next 89 = .ok (.goto 326, 3) := daX7_next (89, .goto 326, 3) (List.mem_of_getElem? (i := 46) rfl)
theorem dX7_next_92 : decode cX7_next 92 = .ok (.iload_n 1, 1) := daX7_next (92, .iload_n 1, 1) (List.mem_of_getElem? (i := 47) rfl)
theorem dX7_next_93 : decode cX7_next 93 = .ok (.bipush 45, 2) := daX7_next (93, .bipush 45, 2) (List.mem_of_getElem? (i := 48) rfl)
theorem dX7_next_95 : decode cX7_next 95 = .ok (.if_icmp .eq 17, 3) := daX7_next (95, .if_icmp .eq 17, 3) (List.mem_of_getElem? (i := 49) rfl)
theorem dX7_next_98 : decode cX7_next 98 = .ok (.iload_n 1, 1) := daX7_next (98, .iload_n 1, 1) (List.mem_of_getElem? (i := 50) rfl)
theorem dX7_next_99 : decode cX7_next 99 = .ok (.i2l, 1) := daX7_next (99, .i2l, 1) (List.mem_of_getElem? (i := 51) rfl)
theorem dX7_next_100 : decode cX7_next 100 = .ok (.ldc2_w 203, 3) := daX7_next (100, .ldc2_w 203, 3) (List.mem_of_getElem? (i := 52) rfl)
theorem dX7_next_103 : decode cX7_next 103 = .ok (.ldc2_w 205, 3) := daX7_next (103, .ldc2_w 205, 3) (List.mem_of_getElem? (i := 53) rfl)
theorem dX7_next_106 : decode cX7_next 106 = .ok (.invokestatic 144, 3) := daX7_next (106, .invokestatic 144, 3) (List.mem_of_getElem? (i := 54) rfl)
theorem dX7_next_109 : decode cX7_next 109 = .ok (.ifCond .eq 164, 3) := daX7_next (109, .ifCond .eq 164, 3) (List.mem_of_getElem? (i := 55) rfl)
theorem dX7_next_112 : decode cX7_next 112 = .ok (.aload_n 0, 1) := daX7_next (112, .aload_n 0, 1) (List.mem_of_getElem? (i := 56) rfl)
theorem dX7_next_113 : decode cX7_next 113 = .ok (.iconst 2, 1) := daX7_next (113, .iconst 2, 1) (List.mem_of_getElem? (i := 57) rfl)
theorem dX7_next_114 : decode cX7_next 114 = .ok (.putfield 193, 3) := daX7_next (114, .putfield 193, 3) (List.mem_of_getElem? (i := 58) rfl)
theorem dX7_next_117 : decode cX7_next 117 = .ok (.aload_n 0, 1) := daX7_next (117, .aload_n 0, 1) (List.mem_of_getElem? (i := 59) rfl)
theorem dX7_next_118 : decode cX7_next 118 = .ok (.dup, 1) := daX7_next (118, .dup, 1) (List.mem_of_getElem? (i := 60) rfl)
theorem dX7_next_119 : decode cX7_next 119 = .ok (.getfield 183, 3) := daX7_next (119, .getfield 183, 3) (List.mem_of_getElem? (i := 61) rfl)
theorem dX7_next_122 : decode cX7_next 122 = .ok (.iload_n 1, 1) := daX7_next (122, .iload_n 1, 1) (List.mem_of_getElem? (i := 62) rfl)
theorem dX7_next_123 : decode cX7_next 123 = .ok (.bipush 45, 2) := daX7_next (123, .bipush 45, 2) (List.mem_of_getElem? (i := 63) rfl)
theorem dX7_next_125 : decode cX7_next 125 = .ok (.if_icmp .ne 7, 3) := daX7_next (125, .if_icmp .ne 7, 3) (List.mem_of_getElem? (i := 64) rfl)
theorem dX7_next_128 : decode cX7_next 128 = .ok (.iconst 1, 1) := daX7_next (128, .iconst 1, 1) (List.mem_of_getElem? (i := 65) rfl)
theorem dX7_next_129 : decode cX7_next 129 = .ok (.goto 4, 3) := daX7_next (129, .goto 4, 3) (List.mem_of_getElem? (i := 66) rfl)
theorem dX7_next_132 : decode cX7_next 132 = .ok (.iconst 0, 1) := daX7_next (132, .iconst 0, 1) (List.mem_of_getElem? (i := 67) rfl)
theorem dX7_next_133 : decode cX7_next 133 = .ok (.iadd, 1) := daX7_next (133, .iadd, 1) (List.mem_of_getElem? (i := 68) rfl)
theorem dX7_next_134 : decode cX7_next 134 = .ok (.putfield 183, 3) := daX7_next (134, .putfield 183, 3) (List.mem_of_getElem? (i := 69) rfl)
theorem dX7_next_137 : decode cX7_next 137 = .ok (.aload_n 0, 1) := daX7_next (137, .aload_n 0, 1) (List.mem_of_getElem? (i := 70) rfl)
theorem dX7_next_138 : decode cX7_next 138 = .ok (.getfield 183, 3) := daX7_next (138, .getfield 183, 3) (List.mem_of_getElem? (i := 71) rfl)
theorem dX7_next_141 : decode cX7_next 141 = .ok (.istore_n 2, 1) := daX7_next (141, .istore_n 2, 1) (List.mem_of_getElem? (i := 72) rfl)
theorem dX7_next_142 : decode cX7_next 142 = .ok (.aload_n 0, 1) := daX7_next (142, .aload_n 0, 1) (List.mem_of_getElem? (i := 73) rfl)
theorem dX7_next_143 : decode cX7_next 143 = .ok (.iconst 0, 1) := daX7_next (143, .iconst 0, 1) (List.mem_of_getElem? (i := 74) rfl)
theorem dX7_next_144 : decode cX7_next 144 = .ok (.putfield 200, 3) := daX7_next (144, .putfield 200, 3) (List.mem_of_getElem? (i := 75) rfl)
theorem dX7_next_147 : decode cX7_next 147 = .ok (.aload_n 0, 1) := daX7_next (147, .aload_n 0, 1) (List.mem_of_getElem? (i := 76) rfl)
theorem dX7_next_148 : decode cX7_next 148 = .ok (.aload_n 0, 1) := daX7_next (148, .aload_n 0, 1) (List.mem_of_getElem? (i := 77) rfl)
theorem dX7_next_149 : decode cX7_next 149 = .ok (.getfield 183, 3) := daX7_next (149, .getfield 183, 3) (List.mem_of_getElem? (i := 78) rfl)
theorem dX7_next_152 : decode cX7_next 152 = .ok (.invokevirtual 189, 3) := daX7_next (152, .invokevirtual 189, 3) (List.mem_of_getElem? (i := 79) rfl)
theorem dX7_next_155 : decode cX7_next 155 = .ok (.i2l, 1) := daX7_next (155, .i2l, 1) (List.mem_of_getElem? (i := 80) rfl)
theorem dX7_next_156 : decode cX7_next 156 = .ok (.ldc2_w 203, 3) := daX7_next (156, .ldc2_w 203, 3) (List.mem_of_getElem? (i := 81) rfl)
theorem dX7_next_159 : decode cX7_next 159 = .ok (.ldc2_w 205, 3) := daX7_next (159, .ldc2_w 205, 3) (List.mem_of_getElem? (i := 82) rfl)
theorem dX7_next_162 : decode cX7_next 162 = .ok (.invokestatic 144, 3) := daX7_next (162, .invokestatic 144, 3) (List.mem_of_getElem? (i := 83) rfl)
theorem dX7_next_165 : decode cX7_next 165 = .ok (.ifCond .eq 56, 3) := daX7_next (165, .ifCond .eq 56, 3) (List.mem_of_getElem? (i := 84) rfl)
theorem dX7_next_168 : decode cX7_next 168 = .ok (.aload_n 0, 1) := daX7_next (168, .aload_n 0, 1) (List.mem_of_getElem? (i := 85) rfl)
theorem dX7_next_169 : decode cX7_next 169 = .ok (.aload_n 0, 1) := daX7_next (169, .aload_n 0, 1) (List.mem_of_getElem? (i := 86) rfl)
theorem dX7_next_170 : decode cX7_next 170 = .ok (.getfield 183, 3) := daX7_next (170, .getfield 183, 3) (List.mem_of_getElem? (i := 87) rfl)
theorem dX7_next_173 : decode cX7_next 173 = .ok (.iload_n 2, 1) := daX7_next (173, .iload_n 2, 1) (List.mem_of_getElem? (i := 88) rfl)
theorem dX7_next_174 : decode cX7_next 174 = .ok (.isub, 1) := daX7_next (174, .isub, 1) (List.mem_of_getElem? (i := 89) rfl)
theorem dX7_next_175 : decode cX7_next 175 = .ok (.iconst 4, 1) := daX7_next (175, .iconst 4, 1) (List.mem_of_getElem? (i := 90) rfl)
theorem dX7_next_176 : decode cX7_next 176 = .ok (.if_icmp .ge 25, 3) := daX7_next (176, .if_icmp .ge 25, 3) (List.mem_of_getElem? (i := 91) rfl)
theorem dX7_next_179 : decode cX7_next 179 = .ok (.bipush 10, 2) := daX7_next (179, .bipush 10, 2) (List.mem_of_getElem? (i := 92) rfl)
theorem dX7_next_181 : decode cX7_next 181 = .ok (.aload_n 0, 1) := daX7_next (181, .aload_n 0, 1) (List.mem_of_getElem? (i := 93) rfl)
theorem dX7_next_182 : decode cX7_next 182 = .ok (.getfield 200, 3) := daX7_next (182, .getfield 200, 3) (List.mem_of_getElem? (i := 94) rfl)
theorem dX7_next_185 : decode cX7_next 185 = .ok (.imul, 1) := daX7_next (185, .imul, 1) (List.mem_of_getElem? (i := 95) rfl)
theorem dX7_next_186 : decode cX7_next 186 = .ok (.aload_n 0, 1) := daX7_next (186, .aload_n 0, 1) (List.mem_of_getElem? (i := 96) rfl)
theorem dX7_next_187 : decode cX7_next 187 = .ok (.aload_n 0, 1) := daX7_next (187, .aload_n 0, 1) (List.mem_of_getElem? (i := 97) rfl)
theorem dX7_next_188 : decode cX7_next 188 = .ok (.getfield 183, 3) := daX7_next (188, .getfield 183, 3) (List.mem_of_getElem? (i := 98) rfl)
theorem dX7_next_191 : decode cX7_next 191 = .ok (.invokevirtual 189, 3) := daX7_next (191, .invokevirtual 189, 3) (List.mem_of_getElem? (i := 99) rfl)
theorem dX7_next_194 : decode cX7_next 194 = .ok (.iadd, 1) := daX7_next (194, .iadd, 1) (List.mem_of_getElem? (i := 100) rfl)
theorem dX7_next_195 : decode cX7_next 195 = .ok (.bipush 48, 2) := daX7_next (195, .bipush 48, 2) (List.mem_of_getElem? (i := 101) rfl)
theorem dX7_next_197 : decode cX7_next 197 = .ok (.isub, 1) := daX7_next (197, .isub, 1) (List.mem_of_getElem? (i := 102) rfl)
theorem dX7_next_198 : decode cX7_next 198 = .ok (.goto 7, 3) := daX7_next (198, .goto 7, 3) (List.mem_of_getElem? (i := 103) rfl)
theorem dX7_next_201 : decode cX7_next 201 = .ok (.aload_n 0, 1) := daX7_next (201, .aload_n 0, 1) (List.mem_of_getElem? (i := 104) rfl)
theorem dX7_next_202 : decode cX7_next 202 = .ok (.getfield 200, 3) := daX7_next (202, .getfield 200, 3) (List.mem_of_getElem? (i := 105) rfl)
theorem dX7_next_205 : decode cX7_next 205 = .ok (.putfield 200, 3) := daX7_next (205, .putfield 200, 3) (List.mem_of_getElem? (i := 106) rfl)
theorem dX7_next_208 : decode cX7_next 208 = .ok (.aload_n 0, 1) := daX7_next (208, .aload_n 0, 1) (List.mem_of_getElem? (i := 107) rfl)
theorem dX7_next_209 : decode cX7_next 209 = .ok (.dup, 1) := daX7_next (209, .dup, 1) (List.mem_of_getElem? (i := 108) rfl)
theorem dX7_next_210 : decode cX7_next 210 = .ok (.getfield 183, 3) := daX7_next (210, .getfield 183, 3) (List.mem_of_getElem? (i := 109) rfl)
theorem dX7_next_213 : decode cX7_next 213 = .ok (.iconst 1, 1) := daX7_next (213, .iconst 1, 1) (List.mem_of_getElem? (i := 110) rfl)
theorem dX7_next_214 : decode cX7_next 214 = .ok (.iadd, 1) := daX7_next (214, .iadd, 1) (List.mem_of_getElem? (i := 111) rfl)
theorem dX7_next_215 : decode cX7_next 215 = .ok (.putfield 183, 3) := daX7_next (215, .putfield 183, 3) (List.mem_of_getElem? (i := 112) rfl)
theorem dX7_next_218 : decode cX7_next 218 = .ok (.goto (-71), 3) := daX7_next (218, .goto (-71), 3) (List.mem_of_getElem? (i := 113) rfl)
theorem dX7_next_221 : decode cX7_next 221 = .ok (.aload_n 0, 1) := daX7_next (221, .aload_n 0, 1) (List.mem_of_getElem? (i := 114) rfl)
theorem dX7_next_222 : decode cX7_next 222 = .ok (.iload_n 1, 1) := daX7_next (222, .iload_n 1, 1) (List.mem_of_getElem? (i := 115) rfl)
theorem dX7_next_223 : decode cX7_next 223 = .ok (.bipush 45, 2) := daX7_next (223, .bipush 45, 2) (List.mem_of_getElem? (i := 116) rfl)
theorem dX7_next_225 : decode cX7_next 225 = .ok (.if_icmp .ne 11, 3) := daX7_next (225, .if_icmp .ne 11, 3) (List.mem_of_getElem? (i := 117) rfl)
theorem dX7_next_228 : decode cX7_next 228 = .ok (.aload_n 0, 1) := daX7_next (228, .aload_n 0, 1) (List.mem_of_getElem? (i := 118) rfl)
theorem dX7_next_229 : decode cX7_next 229 = .ok (.getfield 200, 3) := daX7_next (229, .getfield 200, 3) (List.mem_of_getElem? (i := 119) rfl)
theorem dX7_next_232 : decode cX7_next 232 = .ok (.ineg, 1) := daX7_next (232, .ineg, 1) (List.mem_of_getElem? (i := 120) rfl)
theorem dX7_next_233 : decode cX7_next 233 = .ok (.goto 7, 3) := daX7_next (233, .goto 7, 3) (List.mem_of_getElem? (i := 121) rfl)
theorem dX7_next_236 : decode cX7_next 236 = .ok (.aload_n 0, 1) := daX7_next (236, .aload_n 0, 1) (List.mem_of_getElem? (i := 122) rfl)
theorem dX7_next_237 : decode cX7_next 237 = .ok (.getfield 200, 3) := daX7_next (237, .getfield 200, 3) (List.mem_of_getElem? (i := 123) rfl)
theorem dX7_next_240 : decode cX7_next 240 = .ok (.putfield 200, 3) := daX7_next (240, .putfield 200, 3) (List.mem_of_getElem? (i := 124) rfl)
theorem dX7_next_243 : decode cX7_next 243 = .ok (.aload_n 0, 1) := daX7_next (243, .aload_n 0, 1) (List.mem_of_getElem? (i := 125) rfl)
theorem dX7_next_244 : decode cX7_next 244 = .ok (.getfield 183, 3) := daX7_next (244, .getfield 183, 3) (List.mem_of_getElem? (i := 126) rfl)
theorem dX7_next_247 : decode cX7_next 247 = .ok (.iload_n 2, 1) := daX7_next (247, .iload_n 2, 1) (List.mem_of_getElem? (i := 127) rfl)
theorem dX7_next_248 : decode cX7_next 248 = .ok (.if_icmp .eq 13, 3) := daX7_next (248, .if_icmp .eq 13, 3) (List.mem_of_getElem? (i := 128) rfl)
theorem dX7_next_251 : decode cX7_next 251 = .ok (.aload_n 0, 1) := daX7_next (251, .aload_n 0, 1) (List.mem_of_getElem? (i := 129) rfl)
theorem dX7_next_252 : decode cX7_next 252 = .ok (.getfield 183, 3) := daX7_next (252, .getfield 183, 3) (List.mem_of_getElem? (i := 130) rfl)
theorem dX7_next_255 : decode cX7_next 255 = .ok (.iload_n 2, 1) := daX7_next (255, .iload_n 2, 1) (List.mem_of_getElem? (i := 131) rfl)
theorem dX7_next_256 : decode cX7_next 256 = .ok (.isub, 1) := daX7_next (256, .isub, 1) (List.mem_of_getElem? (i := 132) rfl)
theorem dX7_next_257 : decode cX7_next 257 = .ok (.iconst 4, 1) := daX7_next (257, .iconst 4, 1) (List.mem_of_getElem? (i := 133) rfl)
theorem dX7_next_258 : decode cX7_next 258 = .ok (.if_icmp .le 12, 3) := daX7_next (258, .if_icmp .le 12, 3) (List.mem_of_getElem? (i := 134) rfl)
theorem dX7_next_261 : decode cX7_next 261 = .ok (.aload_n 0, 1) := daX7_next (261, .aload_n 0, 1) (List.mem_of_getElem? (i := 135) rfl)
theorem dX7_next_262 : decode cX7_next 262 = .ok (.iconst 1, 1) := daX7_next (262, .iconst 1, 1) (List.mem_of_getElem? (i := 136) rfl)
theorem dX7_next_263 : decode cX7_next 263 = .ok (.aload_n 0, 1) := daX7_next (263, .aload_n 0, 1) (List.mem_of_getElem? (i := 137) rfl)
theorem dX7_next_264 : decode cX7_next 264 = .ok (.getfield 186, 3) := daX7_next (264, .getfield 186, 3) (List.mem_of_getElem? (i := 138) rfl)
theorem dX7_next_267 : decode cX7_next 267 = .ok (.invokevirtual 207, 3) := daX7_next (267, .invokevirtual 207, 3) (List.mem_of_getElem? (i := 139) rfl)
theorem dX7_next_270 : decode cX7_next 270 = .ok (.goto 145, 3) := daX7_next (270, .goto 145, 3) (List.mem_of_getElem? (i := 140) rfl)
theorem dX7_next_273 : decode cX7_next 273 = .ok (.iload_n 1, 1) := daX7_next (273, .iload_n 1, 1) (List.mem_of_getElem? (i := 141) rfl)
theorem dX7_next_274 : decode cX7_next 274 = .ok (.i2l, 1) := daX7_next (274, .i2l, 1) (List.mem_of_getElem? (i := 142) rfl)
theorem dX7_next_275 : decode cX7_next 275 = .ok (.ldc2_w 211, 3) := daX7_next (275, .ldc2_w 211, 3) (List.mem_of_getElem? (i := 143) rfl)
theorem dX7_next_278 : decode cX7_next 278 = .ok (.ldc2_w 213, 3) := daX7_next (278, .ldc2_w 213, 3) (List.mem_of_getElem? (i := 144) rfl)
theorem dX7_next_281 : decode cX7_next 281 = .ok (.invokestatic 144, 3) := daX7_next (281, .invokestatic 144, 3) (List.mem_of_getElem? (i := 145) rfl)
theorem dX7_next_284 : decode cX7_next 284 = .ok (.ifCond .eq 38, 3) := daX7_next (284, .ifCond .eq 38, 3) (List.mem_of_getElem? (i := 146) rfl)
theorem dX7_next_287 : decode cX7_next 287 = .ok (.aload_n 0, 1) := daX7_next (287, .aload_n 0, 1) (List.mem_of_getElem? (i := 147) rfl)
theorem dX7_next_288 : decode cX7_next 288 = .ok (.iconst 3, 1) := daX7_next (288, .iconst 3, 1) (List.mem_of_getElem? (i := 148) rfl)
theorem dX7_next_289 : decode cX7_next 289 = .ok (.putfield 193, 3) := daX7_next (289, .putfield 193, 3) (List.mem_of_getElem? (i := 149) rfl)
theorem dX7_next_292 : decode cX7_next 292 = .ok (.aload_n 0, 1) := daX7_next (292, .aload_n 0, 1) (List.mem_of_getElem? (i := 150) rfl)
theorem dX7_next_293 : decode cX7_next 293 = .ok (.dup, 1) := daX7_next (293, .dup, 1) (List.mem_of_getElem? (i := 151) rfl)
theorem dX7_next_294 : decode cX7_next 294 = .ok (.getfield 183, 3) := daX7_next (294, .getfield 183, 3) (List.mem_of_getElem? (i := 152) rfl)
theorem dX7_next_297 : decode cX7_next 297 = .ok (.bipush 6, 2) := daX7_next (297, .bipush 6, 2) (List.mem_of_getElem? (i := 153) rfl)
theorem dX7_next_299 : decode cX7_next 299 = .ok (.iadd, 1) := daX7_next (299, .iadd, 1) (List.mem_of_getElem? (i := 154) rfl)
theorem dX7_next_300 : decode cX7_next 300 = .ok (.putfield 183, 3) := daX7_next (300, .putfield 183, 3) (List.mem_of_getElem? (i := 155) rfl)
theorem dX7_next_303 : decode cX7_next 303 = .ok (.aload_n 0, 1) := daX7_next (303, .aload_n 0, 1) (List.mem_of_getElem? (i := 156) rfl)
theorem dX7_next_304 : decode cX7_next 304 = .ok (.invokevirtual 215, 3) := daX7_next (304, .invokevirtual 215, 3) (List.mem_of_getElem? (i := 157) rfl)
theorem dX7_next_307 : decode cX7_next 307 = .ok (.ifCond .ne 108, 3) := daX7_next (307, .ifCond .ne 108, 3) (List.mem_of_getElem? (i := 158) rfl)
theorem dX7_next_310 : decode cX7_next 310 = .ok (.aload_n 0, 1) := daX7_next (310, .aload_n 0, 1) (List.mem_of_getElem? (i := 159) rfl)
theorem dX7_next_311 : decode cX7_next 311 = .ok (.iconst 1, 1) := daX7_next (311, .iconst 1, 1) (List.mem_of_getElem? (i := 160) rfl)
theorem dX7_next_312 : decode cX7_next 312 = .ok (.aload_n 0, 1) := daX7_next (312, .aload_n 0, 1) (List.mem_of_getElem? (i := 161) rfl)
theorem dX7_next_313 : decode cX7_next 313 = .ok (.getfield 186, 3) := daX7_next (313, .getfield 186, 3) (List.mem_of_getElem? (i := 162) rfl)
theorem dX7_next_316 : decode cX7_next 316 = .ok (.invokevirtual 207, 3) := daX7_next (316, .invokevirtual 207, 3) (List.mem_of_getElem? (i := 163) rfl)
theorem dX7_next_319 : decode cX7_next 319 = .ok (.goto 96, 3) := daX7_next (319, .goto 96, 3) (List.mem_of_getElem? (i := 164) rfl)
theorem dX7_next_322 : decode cX7_next 322 = .ok (.iload_n 1, 1) := daX7_next (322, .iload_n 1, 1) (List.mem_of_getElem? (i := 165) rfl)
theorem dX7_next_323 : decode cX7_next 323 = .ok (.bipush 46, 2) := daX7_next (323, .bipush 46, 2) (List.mem_of_getElem? (i := 166) rfl)
theorem dX7_next_325 : decode cX7_next 325 = .ok (.if_icmp .ne 51, 3) := daX7_next (325, .if_icmp .ne 51, 3) (List.mem_of_getElem? (i := 167) rfl)
theorem dX7_next_328 : decode cX7_next 328 = .ok (.aload_n 0, 1) := daX7_next (328, .aload_n 0, 1) (List.mem_of_getElem? (i := 168) rfl)
theorem dX7_next_329 : decode cX7_next 329 = .ok (.aload_n 0, 1) := daX7_next (329, .aload_n 0, 1) (List.mem_of_getElem? (i := 169) rfl)
theorem dX7_next_330 : decode cX7_next 330 = .ok (.getfield 183, 3) := daX7_next (330, .getfield 183, 3) (List.mem_of_getElem? (i := 170) rfl)
theorem dX7_next_333 : decode cX7_next 333 = .ok (.iconst 1, 1) := daX7_next (333, .iconst 1, 1) (List.mem_of_getElem? (i := 171) rfl)
theorem dX7_next_334 : decode cX7_next 334 = .ok (.iadd, 1) := daX7_next (334, .iadd, 1) (List.mem_of_getElem? (i := 172) rfl)
theorem dX7_next_335 : decode cX7_next 335 = .ok (.invokevirtual 189, 3) := daX7_next (335, .invokevirtual 189, 3) (List.mem_of_getElem? (i := 173) rfl)
theorem dX7_next_338 : decode cX7_next 338 = .ok (.bipush 46, 2) := daX7_next (338, .bipush 46, 2) (List.mem_of_getElem? (i := 174) rfl)
theorem dX7_next_340 : decode cX7_next 340 = .ok (.if_icmp .ne 36, 3) := daX7_next (340, .if_icmp .ne 36, 3) (List.mem_of_getElem? (i := 175) rfl)
theorem dX7_next_343 : decode cX7_next 343 = .ok (.aload_n 0, 1) := daX7_next (343, .aload_n 0, 1) (List.mem_of_getElem? (i := 176) rfl)
theorem dX7_next_344 : decode cX7_next 344 = .ok (.aload_n 0, 1) := daX7_next (344, .aload_n 0, 1) (List.mem_of_getElem? (i := 177) rfl)
theorem dX7_next_345 : decode cX7_next 345 = .ok (.getfield 183, 3) := daX7_next (345, .getfield 183, 3) (List.mem_of_getElem? (i := 178) rfl)
theorem dX7_next_348 : decode cX7_next 348 = .ok (.iconst 2, 1) := daX7_next (348, .iconst 2, 1) (List.mem_of_getElem? (i := 179) rfl)
theorem dX7_next_349 : decode cX7_next 349 = .ok (.iadd, 1) := daX7_next (349, .iadd, 1) (List.mem_of_getElem? (i := 180) rfl)
theorem dX7_next_350 : decode cX7_next 350 = .ok (.invokevirtual 189, 3) := daX7_next (350, .invokevirtual 189, 3) (List.mem_of_getElem? (i := 181) rfl)
theorem dX7_next_353 : decode cX7_next 353 = .ok (.bipush 46, 2) := daX7_next (353, .bipush 46, 2) (List.mem_of_getElem? (i := 182) rfl)
theorem dX7_next_355 : decode cX7_next 355 = .ok (.if_icmp .ne 21, 3) := daX7_next (355, .if_icmp .ne 21, 3) (List.mem_of_getElem? (i := 183) rfl)
theorem dX7_next_358 : decode cX7_next 358 = .ok (.aload_n 0, 1) := daX7_next (358, .aload_n 0, 1) (List.mem_of_getElem? (i := 184) rfl)
theorem dX7_next_359 : decode cX7_next 359 = .ok (.iconst 5, 1) := daX7_next (359, .iconst 5, 1) (List.mem_of_getElem? (i := 185) rfl)
theorem dX7_next_360 : decode cX7_next 360 = .ok (.putfield 193, 3) := daX7_next (360, .putfield 193, 3) (List.mem_of_getElem? (i := 186) rfl)
theorem dX7_next_363 : decode cX7_next 363 = .ok (.aload_n 0, 1) := daX7_next (363, .aload_n 0, 1) (List.mem_of_getElem? (i := 187) rfl)
theorem dX7_next_364 : decode cX7_next 364 = .ok (.dup, 1) := daX7_next (364, .dup, 1) (List.mem_of_getElem? (i := 188) rfl)
theorem dX7_next_365 : decode cX7_next 365 = .ok (.getfield 183, 3) := daX7_next (365, .getfield 183, 3) (List.mem_of_getElem? (i := 189) rfl)
theorem dX7_next_368 : decode cX7_next 368 = .ok (.iconst 3, 1) := daX7_next (368, .iconst 3, 1) (List.mem_of_getElem? (i := 190) rfl)
theorem dX7_next_369 : decode cX7_next 369 = .ok (.iadd, 1) := daX7_next (369, .iadd, 1) (List.mem_of_getElem? (i := 191) rfl)
theorem dX7_next_370 : decode cX7_next 370 = .ok (.putfield 183, 3) := daX7_next (370, .putfield 183, 3) (List.mem_of_getElem? (i := 192) rfl)
theorem dX7_next_373 : decode cX7_next 373 = .ok (.goto 42, 3) := daX7_next (373, .goto 42, 3) (List.mem_of_getElem? (i := 193) rfl)
theorem dX7_next_376 : decode cX7_next 376 = .ok (.iload_n 1, 1) := daX7_next (376, .iload_n 1, 1) (List.mem_of_getElem? (i := 194) rfl)
theorem dX7_next_377 : decode cX7_next 377 = .ok (.invokestatic 219, 3) := daX7_next (377, .invokestatic 219, 3) (List.mem_of_getElem? (i := 195) rfl)
theorem dX7_next_380 : decode cX7_next 380 = .ok (.ifCond .eq 26, 3) := daX7_next (380, .ifCond .eq 26, 3) (List.mem_of_getElem? (i := 196) rfl)
theorem dX7_next_383 : decode cX7_next 383 = .ok (.aload_n 0, 1) := daX7_next (383, .aload_n 0, 1) (List.mem_of_getElem? (i := 197) rfl)
theorem dX7_next_384 : decode cX7_next 384 = .ok (.iconst 4, 1) := daX7_next (384, .iconst 4, 1) (List.mem_of_getElem? (i := 198) rfl)
theorem dX7_next_385 : decode cX7_next 385 = .ok (.putfield 193, 3) := daX7_next (385, .putfield 193, 3) (List.mem_of_getElem? (i := 199) rfl)
theorem dX7_next_388 : decode cX7_next 388 = .ok (.aload_n 0, 1) := daX7_next (388, .aload_n 0, 1) (List.mem_of_getElem? (i := 200) rfl)
theorem dX7_next_389 : decode cX7_next 389 = .ok (.iload_n 1, 1) := daX7_next (389, .iload_n 1, 1) (List.mem_of_getElem? (i := 201) rfl)
theorem dX7_next_390 : decode cX7_next 390 = .ok (.putfield 200, 3) := daX7_next (390, .putfield 200, 3) (List.mem_of_getElem? (i := 202) rfl)
theorem dX7_next_393 : decode cX7_next 393 = .ok (.aload_n 0, 1) := daX7_next (393, .aload_n 0, 1) (List.mem_of_getElem? (i := 203) rfl)
theorem dX7_next_394 : decode cX7_next 394 = .ok (.dup, 1) := daX7_next (394, .dup, 1) (List.mem_of_getElem? (i := 204) rfl)
theorem dX7_next_395 : decode cX7_next 395 = .ok (.getfield 183, 3) := daX7_next (395, .getfield 183, 3) (List.mem_of_getElem? (i := 205) rfl)
theorem dX7_next_398 : decode cX7_next 398 = .ok (.iconst 1, 1) := daX7_next (398, .iconst 1, 1) (List.mem_of_getElem? (i := 206) rfl)
theorem dX7_next_399 : decode cX7_next 399 = .ok (.iadd, 1) := daX7_next (399, .iadd, 1) (List.mem_of_getElem? (i := 207) rfl)
theorem dX7_next_400 : decode cX7_next 400 = .ok (.putfield 183, 3) := daX7_next (400, .putfield 183, 3) (List.mem_of_getElem? (i := 208) rfl)
theorem dX7_next_403 : decode cX7_next 403 = .ok (.goto 12, 3) := daX7_next (403, .goto 12, 3) (List.mem_of_getElem? (i := 209) rfl)
theorem dX7_next_406 : decode cX7_next 406 = .ok (.aload_n 0, 1) := daX7_next (406, .aload_n 0, 1) (List.mem_of_getElem? (i := 210) rfl)
theorem dX7_next_407 : decode cX7_next 407 = .ok (.iconst 1, 1) := daX7_next (407, .iconst 1, 1) (List.mem_of_getElem? (i := 211) rfl)
theorem dX7_next_408 : decode cX7_next 408 = .ok (.aload_n 0, 1) := daX7_next (408, .aload_n 0, 1) (List.mem_of_getElem? (i := 212) rfl)
theorem dX7_next_409 : decode cX7_next 409 = .ok (.getfield 186, 3) := daX7_next (409, .getfield 186, 3) (List.mem_of_getElem? (i := 213) rfl)
theorem dX7_next_412 : decode cX7_next 412 = .ok (.invokevirtual 207, 3) := daX7_next (412, .invokevirtual 207, 3) (List.mem_of_getElem? (i := 214) rfl)
theorem dX7_next_415 : decode cX7_next 415 = .ok (.return_, 1) := daX7_next (415, .return_, 1) (List.mem_of_getElem? (i := 215) rfl)
def rmX7_next : Room := { frames := 2, cells := 0, slots := 0, locals := 41 }
theorem zdX7_next : yX7_next.cls = RX7 ∧ yX7_next.cls ≠ "java/lang/invoke/MethodHandle" ∧ yX7_next.cls ≠ "java/lang/invoke/VarHandle" ∧ (parseMethodDescriptor yX7_next.desc).map (fun d => d.parameters.length) = some 0 := by decide +kernel
theorem kiX7_next_X7 : ∀ w ∈ wsX70, w ∈ wsX7_next := fun _ h => (List.mem_cons_of_mem _ (List.mem_append_right _ h))
theorem kfX7_next_183 : Cond.fieldLink RX7 183 "ShapeJudgeModel" "at" "I" ∈ wsX7_next := (List.mem_of_getElem? (i := 1) rfl)
theorem kfX7_next_186 : Cond.fieldLink RX7 186 "ShapeJudgeModel" "from" "I" ∈ wsX7_next := (List.mem_of_getElem? (i := 2) rfl)
theorem kcX7_next_196 : Cond.constantLong RX7 196 (65) ∈ wsX7_next := (List.mem_of_getElem? (i := 4) rfl)
theorem kcX7_next_198 : Cond.constantLong RX7 198 (90) ∈ wsX7_next := (List.mem_of_getElem? (i := 5) rfl)
theorem kfX7_next_193 : Cond.fieldLink RX7 193 "ShapeJudgeModel" "sort" "I" ∈ wsX7_next := (List.mem_of_getElem? (i := 3) rfl)
theorem kfX7_next_200 : Cond.fieldLink RX7 200 "ShapeJudgeModel" "value" "I" ∈ wsX7_next := (List.mem_of_getElem? (i := 6) rfl)
theorem kcX7_next_203 : Cond.constantLong RX7 203 (48) ∈ wsX7_next := (List.mem_of_getElem? (i := 7) rfl)
theorem kcX7_next_205 : Cond.constantLong RX7 205 (57) ∈ wsX7_next := (List.mem_of_getElem? (i := 8) rfl)
theorem kcX7_next_211 : Cond.constantLong RX7 211 (97) ∈ wsX7_next := (List.mem_of_getElem? (i := 9) rfl)
theorem kcX7_next_213 : Cond.constantLong RX7 213 (122) ∈ wsX7_next := (List.mem_of_getElem? (i := 10) rfl)
def t_X7_next_0  (m1 : Mem) : Option ((Mem) ⊕ (Mem)) :=
  (s_X7_look m1 (m1 0 38)).bind fun r3 => (if r3 = 32 then (bn (sto m1 0 38 ((m1 0 38) + 1)) fun m4 => some (.inl m4)) else (some (.inr m1)))
def l_X7_next_0  (n : Nat) (m1 : Mem) : Option (Mem) := zlp n (fun a => t_X7_next_0  a) m1
def t_X7_next_147 (x15 : Int32) (m17 : Mem) : Option ((Mem) ⊕ (Mem)) :=
  (s_X7_look m17 (m17 0 38)).bind fun r19 => (s_X7_in (r19.toInt64) 48 57).bind fun r21 => (if r21 = 0 then (some (.inr m17)) else ((if 4 ≤ ((m17 0 38) - x15) then (bn (sto m17 0 41 (m17 0 41)) fun m22 => bn (sto m22 0 38 ((m22 0 38) + 1)) fun m23 => some (.inl m23)) else ((s_X7_look m17 (m17 0 38)).bind fun r25 => bn (sto m17 0 41 ((((10 : Int32) * (m17 0 41)) + r25) - 48)) fun m26 => bn (sto m26 0 38 ((m26 0 38) + 1)) fun m27 => some (.inl m27)))))
def l_X7_next_147 (x15 : Int32) (n : Nat) (m17 : Mem) : Option (Mem) := zlp n (fun a => t_X7_next_147 x15 a) m17
def t_X7_next_147_2 (x89 : Int32) (m91 : Mem) : Option ((Mem) ⊕ (Mem)) :=
  (s_X7_look m91 (m91 0 38)).bind fun r93 => (s_X7_in (r93.toInt64) 48 57).bind fun r95 => (if r95 = 0 then (some (.inr m91)) else ((if 4 ≤ ((m91 0 38) - x89) then (bn (sto m91 0 41 (m91 0 41)) fun m96 => bn (sto m96 0 38 ((m96 0 38) + 1)) fun m97 => some (.inl m97)) else ((s_X7_look m91 (m91 0 38)).bind fun r99 => bn (sto m91 0 41 ((((10 : Int32) * (m91 0 41)) + r99) - 48)) fun m100 => bn (sto m100 0 38 ((m100 0 38) + 1)) fun m101 => some (.inl m101)))))
def l_X7_next_147_2 (x89 : Int32) (n : Nat) (m91 : Mem) : Option (Mem) := zlp n (fun a => t_X7_next_147_2 x89 a) m91
def s_X7_next (m : Mem)  : Option (Mem) :=
  ((l_X7_next_0  FU m).bind fun m6 => bn (sto m6 0 39 (m6 0 38)) fun m7 => (s_X7_look m7 (m7 0 38)).bind fun r9 => (if 0 ≤ r9 then ((s_X7_in (r9.toInt64) 65 90).bind fun r11 => (if r11 = 0 then ((if r9 = 45 then (bn (sto m7 0 40 2) fun m12 => (((if r9 = 45 then (some 1) else (some 0)) : Option (Int32)).bind fun y13 => bn (sto m12 0 38 ((m12 0 38) + y13)) fun m14 => bn (m14 0 38) fun x15 => bn (sto m14 0 41 0) fun m16 => ((l_X7_next_147 x15 FU m16).bind fun m30 => (((if r9 = 45 then (some (-(m30 0 41))) else (some (m30 0 41))) : Option (Int32)).bind fun y31 => bn (sto m30 0 41 y31) fun m32 => (if (m32 0 38) = x15 then ((s_X7_fails m32 1 (m32 0 39)).bind fun m34 => some m34) else ((if ((m32 0 38) - x15) ≤ 4 then (some m32) else ((s_X7_fails m32 1 (m32 0 39)).bind fun m36 => some m36)))))))) else ((s_X7_in (r9.toInt64) 48 57).bind fun r42 => (if r42 = 0 then ((s_X7_in (r9.toInt64) 97 122).bind fun r44 => (if r44 = 0 then ((if r9 = 46 then ((s_X7_look m7 ((m7 0 38) + 1)).bind fun r54 => (if r54 = 46 then ((s_X7_look m7 ((m7 0 38) + 2)).bind fun r64 => (if r64 = 46 then (bn (sto m7 0 40 5) fun m73 => bn (sto m73 0 38 ((m73 0 38) + 3)) fun m74 => some m74) else ((s_X7_isSign r9).bind fun r66 => (if r66 = 0 then ((s_X7_fails m7 1 (m7 0 39)).bind fun m68 => some m68) else (bn (sto m7 0 40 4) fun m69 => bn (sto m69 0 41 r9) fun m70 => bn (sto m70 0 38 ((m70 0 38) + 1)) fun m71 => some m71))))) else ((s_X7_isSign r9).bind fun r56 => (if r56 = 0 then ((s_X7_fails m7 1 (m7 0 39)).bind fun m58 => some m58) else (bn (sto m7 0 40 4) fun m59 => bn (sto m59 0 41 r9) fun m60 => bn (sto m60 0 38 ((m60 0 38) + 1)) fun m61 => some m61))))) else ((s_X7_isSign r9).bind fun r46 => (if r46 = 0 then ((s_X7_fails m7 1 (m7 0 39)).bind fun m48 => some m48) else (bn (sto m7 0 40 4) fun m49 => bn (sto m49 0 41 r9) fun m50 => bn (sto m50 0 38 ((m50 0 38) + 1)) fun m51 => some m51))))) else (bn (sto m7 0 40 3) fun m78 => bn (sto m78 0 38 ((m78 0 38) + 6)) fun m79 => (s_X7_isClosed m79).bind fun r81 => (if r81 = 0 then ((s_X7_fails m79 1 (m79 0 39)).bind fun m83 => some m83) else (some m79))))) else (bn (sto m7 0 40 2) fun m86 => (((if r9 = 45 then (some 1) else (some 0)) : Option (Int32)).bind fun y87 => bn (sto m86 0 38 ((m86 0 38) + y87)) fun m88 => bn (m88 0 38) fun x89 => bn (sto m88 0 41 0) fun m90 => ((l_X7_next_147_2 x89 FU m90).bind fun m104 => (((if r9 = 45 then (some (-(m104 0 41))) else (some (m104 0 41))) : Option (Int32)).bind fun y105 => bn (sto m104 0 41 y105) fun m106 => (if (m106 0 38) = x89 then ((s_X7_fails m106 1 (m106 0 39)).bind fun m108 => some m108) else ((if ((m106 0 38) - x89) ≤ 4 then (some m106) else ((s_X7_fails m106 1 (m106 0 39)).bind fun m110 => some m110)))))))))))) else (bn (sto m7 0 40 1) fun m117 => bn (sto m117 0 41 r9) fun m118 => bn (sto m118 0 38 ((m118 0 38) + 1)) fun m119 => some m119))) else (bn (sto m7 0 40 0) fun m121 => some m121)))
set_option maxRecDepth 100000 in
set_option maxHeartbeats 4000000 in
theorem w_X7_next_0 {K : ZK} (C : zOK MM K cX7_next 3 none RX7 wsX7_next rmX7_next)   {o0 : Mem} (hk : zGo MM K o0 [(0, .ref ((zw K).2.1 0))] 26 []) : ∀ (n : Nat) (m1 : Mem), l_X7_next_0  n m1 = some o0 → zGo MM K m1 [(0, .ref ((zw K).2.1 0))] 0 [] := by
  intro n
  induction n with
  | zero =>
    intro m1 hf
    cases hf
  | succ n ih =>
    intro m1 hf
    obtain ⟨z, hf, hz⟩ := zlp_el hf
    replace hf : t_X7_next_0  m1 = some z := hf
    unfold t_X7_next_0 at hf
    refine z_aload_n C 0 dX7_next_0 rfl rfl ?_
    refine z_aload_n C 0 dX7_next_1 rfl rfl ?_
    refine z_geti C (Nat.le_of_ble_eq_true rfl) rfl rfl 38 (Nat.le_of_ble_eq_true rfl) rfl kiX7_next_X7 kfX7_next_183 dX7_next_2 ?_
    obtain ⟨r3, hc2, hf⟩ := zb_el hf
    refine z_cVi C (c_X7_look _ _ hc2) rfl gX7_next_X7_look rfl rfl zdX7_look rfl (Nat.le_of_ble_eq_true rfl) rfl rfl rfl ⟨Nat.le_of_ble_eq_true rfl, Nat.le_of_ble_eq_true rfl⟩ (Nat.le_of_ble_eq_true rfl) dX7_next_5 rfl ?_
    refine z_bipush C (v := 32) dX7_next_8 rfl ?_
    refine z_icmp_ne (tgt := 26) C dX7_next_10 (by decide) (fun c5 => ?_) (fun c5 => ?_)
    · replace hf := if_f c5 hf
      cases hf
      replace hz := zlz_r hz
      cases hz
      exact z_sub [0] rfl hk
    · replace hf := if_t c5 hf
      refine z_aload_n C 0 dX7_next_13 rfl rfl ?_
      refine z_dup_a C dX7_next_14 ?_
      refine z_geti C (Nat.le_of_ble_eq_true rfl) rfl rfl 38 (Nat.le_of_ble_eq_true rfl) rfl kiX7_next_X7 kfX7_next_183 dX7_next_15 ?_
      refine z_iconst C (v := 1) dX7_next_18 rfl ?_
      refine z_iadd C dX7_next_19 ?_
      refine z_puti C (Nat.le_of_ble_eq_true rfl) rfl rfl 38 (Nat.le_of_ble_eq_true rfl) rfl kiX7_next_X7 kfX7_next_183 tyX7 tyX7_ok nmX7 rfl rfl dX7_next_20 ?_
      refine z_nm (fun m4 e_m4 => ?_)
      replace hf := bn_to e_m4 hf
      refine z_goto (tgt := 0) C dX7_next_23 (by decide) ?_
      cases hf
      exact z_sub [0] rfl (ih m4 hz)
set_option maxRecDepth 100000 in
set_option maxHeartbeats 4000000 in
theorem w_X7_next_147 {K : ZK} (C : zOK MM K cX7_next 3 none RX7 wsX7_next rmX7_next) {r9 : Int32} {x15 : Int32}  {o0 : Mem} (hk : zGo MM K o0 [(0, .ref ((zw K).2.1 0)), (1, .int r9), (2, .int x15)] 221 []) : ∀ (n : Nat) (m17 : Mem), l_X7_next_147 x15 n m17 = some o0 → zGo MM K m17 [(0, .ref ((zw K).2.1 0)), (1, .int r9), (2, .int x15)] 147 [] := by
  intro n
  induction n with
  | zero =>
    intro m17 hf
    cases hf
  | succ n ih =>
    intro m17 hf
    obtain ⟨z, hf, hz⟩ := zlp_el hf
    replace hf : t_X7_next_147 x15 m17 = some z := hf
    unfold t_X7_next_147 at hf
    refine z_aload_n C 0 dX7_next_147 rfl rfl ?_
    refine z_aload_n C 0 dX7_next_148 rfl rfl ?_
    refine z_geti C (Nat.le_of_ble_eq_true rfl) rfl rfl 38 (Nat.le_of_ble_eq_true rfl) rfl kiX7_next_X7 kfX7_next_183 dX7_next_149 ?_
    obtain ⟨r19, hc18, hf⟩ := zb_el hf
    refine z_cVi C (c_X7_look _ _ hc18) rfl gX7_next_X7_look rfl rfl zdX7_look rfl (Nat.le_of_ble_eq_true rfl) rfl rfl rfl ⟨Nat.le_of_ble_eq_true rfl, Nat.le_of_ble_eq_true rfl⟩ (Nat.le_of_ble_eq_true rfl) dX7_next_152 rfl ?_
    refine z_i2l C dX7_next_155 ?_
    refine z_ldc2 C (v := 48) dX7_next_156 kcX7_next_203 ?_
    refine z_ldc2 C (v := 57) dX7_next_159 kcX7_next_205 ?_
    obtain ⟨r21, hc20, hf⟩ := zb_el hf
    refine z_cSi C (c_X7_in _ _ hc20) rfl gX7_next_X7_in rfl rfl zdX7_in.2 rfl ⟨Nat.le_of_ble_eq_true rfl, Nat.le_of_ble_eq_true rfl⟩ (Nat.le_of_ble_eq_true rfl) dX7_next_162 rfl ?_
    refine z_if_eq (tgt := 221) C dX7_next_165 (by decide) (fun c29 => ?_) (fun c29 => ?_)
    · replace hf := if_t c29 hf
      cases hf
      replace hz := zlz_r hz
      cases hz
      exact z_sub [0, 1, 2] rfl hk
    · replace hf := if_f c29 hf
      refine z_aload_n C 0 dX7_next_168 rfl rfl ?_
      refine z_aload_n C 0 dX7_next_169 rfl rfl ?_
      refine z_geti C (Nat.le_of_ble_eq_true rfl) rfl rfl 38 (Nat.le_of_ble_eq_true rfl) rfl kiX7_next_X7 kfX7_next_183 dX7_next_170 ?_
      refine z_iload_n C 2 dX7_next_173 rfl rfl ?_
      refine z_isub C dX7_next_174 ?_
      refine z_iconst C (v := 4) dX7_next_175 rfl ?_
      refine z_icmp_ge (tgt := 201) C dX7_next_176 (by decide) (fun c28 => ?_) (fun c28 => ?_)
      · replace hf := if_t c28 hf
        refine z_aload_n C 0 dX7_next_201 rfl rfl ?_
        refine z_geti C (Nat.le_of_ble_eq_true rfl) rfl rfl 41 (Nat.le_of_ble_eq_true rfl) rfl kiX7_next_X7 kfX7_next_200 dX7_next_202 ?_
        refine z_puti C (Nat.le_of_ble_eq_true rfl) rfl rfl 41 (Nat.le_of_ble_eq_true rfl) rfl kiX7_next_X7 kfX7_next_200 tyX7 tyX7_ok nmX7 rfl rfl dX7_next_205 ?_
        refine z_nm (fun m22 e_m22 => ?_)
        replace hf := bn_to e_m22 hf
        refine z_aload_n C 0 dX7_next_208 rfl rfl ?_
        refine z_dup_a C dX7_next_209 ?_
        refine z_geti C (Nat.le_of_ble_eq_true rfl) rfl rfl 38 (Nat.le_of_ble_eq_true rfl) rfl kiX7_next_X7 kfX7_next_183 dX7_next_210 ?_
        refine z_iconst C (v := 1) dX7_next_213 rfl ?_
        refine z_iadd C dX7_next_214 ?_
        refine z_puti C (Nat.le_of_ble_eq_true rfl) rfl rfl 38 (Nat.le_of_ble_eq_true rfl) rfl kiX7_next_X7 kfX7_next_183 tyX7 tyX7_ok nmX7 rfl rfl dX7_next_215 ?_
        refine z_nm (fun m23 e_m23 => ?_)
        replace hf := bn_to e_m23 hf
        refine z_goto (tgt := 147) C dX7_next_218 (by decide) ?_
        cases hf
        exact z_sub [0, 1, 2] rfl (ih m23 hz)
      · replace hf := if_f c28 hf
        refine z_bipush C (v := 10) dX7_next_179 rfl ?_
        refine z_aload_n C 0 dX7_next_181 rfl rfl ?_
        refine z_geti C (Nat.le_of_ble_eq_true rfl) rfl rfl 41 (Nat.le_of_ble_eq_true rfl) rfl kiX7_next_X7 kfX7_next_200 dX7_next_182 ?_
        refine z_imul C dX7_next_185 ?_
        refine z_aload_n C 0 dX7_next_186 rfl rfl ?_
        refine z_aload_n C 0 dX7_next_187 rfl rfl ?_
        refine z_geti C (Nat.le_of_ble_eq_true rfl) rfl rfl 38 (Nat.le_of_ble_eq_true rfl) rfl kiX7_next_X7 kfX7_next_183 dX7_next_188 ?_
        obtain ⟨r25, hc24, hf⟩ := zb_el hf
        refine z_cVi C (c_X7_look _ _ hc24) rfl gX7_next_X7_look rfl rfl zdX7_look rfl (Nat.le_of_ble_eq_true rfl) rfl rfl rfl ⟨Nat.le_of_ble_eq_true rfl, Nat.le_of_ble_eq_true rfl⟩ (Nat.le_of_ble_eq_true rfl) dX7_next_191 rfl ?_
        refine z_iadd C dX7_next_194 ?_
        refine z_bipush C (v := 48) dX7_next_195 rfl ?_
        refine z_isub C dX7_next_197 ?_
        refine z_goto (tgt := 205) C dX7_next_198 (by decide) ?_
        refine z_puti C (Nat.le_of_ble_eq_true rfl) rfl rfl 41 (Nat.le_of_ble_eq_true rfl) rfl kiX7_next_X7 kfX7_next_200 tyX7 tyX7_ok nmX7 rfl rfl dX7_next_205 ?_
        refine z_nm (fun m26 e_m26 => ?_)
        replace hf := bn_to e_m26 hf
        refine z_aload_n C 0 dX7_next_208 rfl rfl ?_
        refine z_dup_a C dX7_next_209 ?_
        refine z_geti C (Nat.le_of_ble_eq_true rfl) rfl rfl 38 (Nat.le_of_ble_eq_true rfl) rfl kiX7_next_X7 kfX7_next_183 dX7_next_210 ?_
        refine z_iconst C (v := 1) dX7_next_213 rfl ?_
        refine z_iadd C dX7_next_214 ?_
        refine z_puti C (Nat.le_of_ble_eq_true rfl) rfl rfl 38 (Nat.le_of_ble_eq_true rfl) rfl kiX7_next_X7 kfX7_next_183 tyX7 tyX7_ok nmX7 rfl rfl dX7_next_215 ?_
        refine z_nm (fun m27 e_m27 => ?_)
        replace hf := bn_to e_m27 hf
        refine z_goto (tgt := 147) C dX7_next_218 (by decide) ?_
        cases hf
        exact z_sub [0, 1, 2] rfl (ih m27 hz)
set_option maxRecDepth 100000 in
set_option maxHeartbeats 4000000 in
theorem w_X7_next_147_2 {K : ZK} (C : zOK MM K cX7_next 3 none RX7 wsX7_next rmX7_next) {r9 : Int32} {x89 : Int32}  {o0 : Mem} (hk : zGo MM K o0 [(0, .ref ((zw K).2.1 0)), (1, .int r9), (2, .int x89)] 221 []) : ∀ (n : Nat) (m91 : Mem), l_X7_next_147_2 x89 n m91 = some o0 → zGo MM K m91 [(0, .ref ((zw K).2.1 0)), (1, .int r9), (2, .int x89)] 147 [] := by
  intro n
  induction n with
  | zero =>
    intro m91 hf
    cases hf
  | succ n ih =>
    intro m91 hf
    obtain ⟨z, hf, hz⟩ := zlp_el hf
    replace hf : t_X7_next_147_2 x89 m91 = some z := hf
    unfold t_X7_next_147_2 at hf
    refine z_aload_n C 0 dX7_next_147 rfl rfl ?_
    refine z_aload_n C 0 dX7_next_148 rfl rfl ?_
    refine z_geti C (Nat.le_of_ble_eq_true rfl) rfl rfl 38 (Nat.le_of_ble_eq_true rfl) rfl kiX7_next_X7 kfX7_next_183 dX7_next_149 ?_
    obtain ⟨r93, hc92, hf⟩ := zb_el hf
    refine z_cVi C (c_X7_look _ _ hc92) rfl gX7_next_X7_look rfl rfl zdX7_look rfl (Nat.le_of_ble_eq_true rfl) rfl rfl rfl ⟨Nat.le_of_ble_eq_true rfl, Nat.le_of_ble_eq_true rfl⟩ (Nat.le_of_ble_eq_true rfl) dX7_next_152 rfl ?_
    refine z_i2l C dX7_next_155 ?_
    refine z_ldc2 C (v := 48) dX7_next_156 kcX7_next_203 ?_
    refine z_ldc2 C (v := 57) dX7_next_159 kcX7_next_205 ?_
    obtain ⟨r95, hc94, hf⟩ := zb_el hf
    refine z_cSi C (c_X7_in _ _ hc94) rfl gX7_next_X7_in rfl rfl zdX7_in.2 rfl ⟨Nat.le_of_ble_eq_true rfl, Nat.le_of_ble_eq_true rfl⟩ (Nat.le_of_ble_eq_true rfl) dX7_next_162 rfl ?_
    refine z_if_eq (tgt := 221) C dX7_next_165 (by decide) (fun c103 => ?_) (fun c103 => ?_)
    · replace hf := if_t c103 hf
      cases hf
      replace hz := zlz_r hz
      cases hz
      exact z_sub [0, 1, 2] rfl hk
    · replace hf := if_f c103 hf
      refine z_aload_n C 0 dX7_next_168 rfl rfl ?_
      refine z_aload_n C 0 dX7_next_169 rfl rfl ?_
      refine z_geti C (Nat.le_of_ble_eq_true rfl) rfl rfl 38 (Nat.le_of_ble_eq_true rfl) rfl kiX7_next_X7 kfX7_next_183 dX7_next_170 ?_
      refine z_iload_n C 2 dX7_next_173 rfl rfl ?_
      refine z_isub C dX7_next_174 ?_
      refine z_iconst C (v := 4) dX7_next_175 rfl ?_
      refine z_icmp_ge (tgt := 201) C dX7_next_176 (by decide) (fun c102 => ?_) (fun c102 => ?_)
      · replace hf := if_t c102 hf
        refine z_aload_n C 0 dX7_next_201 rfl rfl ?_
        refine z_geti C (Nat.le_of_ble_eq_true rfl) rfl rfl 41 (Nat.le_of_ble_eq_true rfl) rfl kiX7_next_X7 kfX7_next_200 dX7_next_202 ?_
        refine z_puti C (Nat.le_of_ble_eq_true rfl) rfl rfl 41 (Nat.le_of_ble_eq_true rfl) rfl kiX7_next_X7 kfX7_next_200 tyX7 tyX7_ok nmX7 rfl rfl dX7_next_205 ?_
        refine z_nm (fun m96 e_m96 => ?_)
        replace hf := bn_to e_m96 hf
        refine z_aload_n C 0 dX7_next_208 rfl rfl ?_
        refine z_dup_a C dX7_next_209 ?_
        refine z_geti C (Nat.le_of_ble_eq_true rfl) rfl rfl 38 (Nat.le_of_ble_eq_true rfl) rfl kiX7_next_X7 kfX7_next_183 dX7_next_210 ?_
        refine z_iconst C (v := 1) dX7_next_213 rfl ?_
        refine z_iadd C dX7_next_214 ?_
        refine z_puti C (Nat.le_of_ble_eq_true rfl) rfl rfl 38 (Nat.le_of_ble_eq_true rfl) rfl kiX7_next_X7 kfX7_next_183 tyX7 tyX7_ok nmX7 rfl rfl dX7_next_215 ?_
        refine z_nm (fun m97 e_m97 => ?_)
        replace hf := bn_to e_m97 hf
        refine z_goto (tgt := 147) C dX7_next_218 (by decide) ?_
        cases hf
        exact z_sub [0, 1, 2] rfl (ih m97 hz)
      · replace hf := if_f c102 hf
        refine z_bipush C (v := 10) dX7_next_179 rfl ?_
        refine z_aload_n C 0 dX7_next_181 rfl rfl ?_
        refine z_geti C (Nat.le_of_ble_eq_true rfl) rfl rfl 41 (Nat.le_of_ble_eq_true rfl) rfl kiX7_next_X7 kfX7_next_200 dX7_next_182 ?_
        refine z_imul C dX7_next_185 ?_
        refine z_aload_n C 0 dX7_next_186 rfl rfl ?_
        refine z_aload_n C 0 dX7_next_187 rfl rfl ?_
        refine z_geti C (Nat.le_of_ble_eq_true rfl) rfl rfl 38 (Nat.le_of_ble_eq_true rfl) rfl kiX7_next_X7 kfX7_next_183 dX7_next_188 ?_
        obtain ⟨r99, hc98, hf⟩ := zb_el hf
        refine z_cVi C (c_X7_look _ _ hc98) rfl gX7_next_X7_look rfl rfl zdX7_look rfl (Nat.le_of_ble_eq_true rfl) rfl rfl rfl ⟨Nat.le_of_ble_eq_true rfl, Nat.le_of_ble_eq_true rfl⟩ (Nat.le_of_ble_eq_true rfl) dX7_next_191 rfl ?_
        refine z_iadd C dX7_next_194 ?_
        refine z_bipush C (v := 48) dX7_next_195 rfl ?_
        refine z_isub C dX7_next_197 ?_
        refine z_goto (tgt := 205) C dX7_next_198 (by decide) ?_
        refine z_puti C (Nat.le_of_ble_eq_true rfl) rfl rfl 41 (Nat.le_of_ble_eq_true rfl) rfl kiX7_next_X7 kfX7_next_200 tyX7 tyX7_ok nmX7 rfl rfl dX7_next_205 ?_
        refine z_nm (fun m100 e_m100 => ?_)
        replace hf := bn_to e_m100 hf
        refine z_aload_n C 0 dX7_next_208 rfl rfl ?_
        refine z_dup_a C dX7_next_209 ?_
        refine z_geti C (Nat.le_of_ble_eq_true rfl) rfl rfl 38 (Nat.le_of_ble_eq_true rfl) rfl kiX7_next_X7 kfX7_next_183 dX7_next_210 ?_
        refine z_iconst C (v := 1) dX7_next_213 rfl ?_
        refine z_iadd C dX7_next_214 ?_
        refine z_puti C (Nat.le_of_ble_eq_true rfl) rfl rfl 38 (Nat.le_of_ble_eq_true rfl) rfl kiX7_next_X7 kfX7_next_183 tyX7 tyX7_ok nmX7 rfl rfl dX7_next_215 ?_
        refine z_nm (fun m101 e_m101 => ?_)
        replace hf := bn_to e_m101 hf
        refine z_goto (tgt := 147) C dX7_next_218 (by decide) ?_
        cases hf
        exact z_sub [0, 1, 2] rfl (ih m101 hz)
set_option maxRecDepth 100000 in
set_option maxHeartbeats 4000000 in
theorem c_X7_next (l : Launch) (w : ZW) {m : Mem}  {m9 : Mem}  (hf : s_X7_next m  = some m9) : zCv MM l w yX7_next wsX7_next rmX7_next [.ref (w.2.1 0)] m m9 := by
  refine z_met_v MM_ok (own := RX7) (by decide +kernel) rfl rfl (Nat.le_of_ble_eq_true rfl) ?_
  intro K C hKw hKl hret
  subst hKw
  subst hKl
  unfold s_X7_next at hf
  show zGo MM K m [(0, .ref ((zw K).2.1 0))] 0 []
  obtain ⟨m6, hg, hf⟩ := zb_el hf
  refine z_sub [0] rfl (w_X7_next_0 C  ?_ _ _ hg)
  clear hg
  refine z_aload_n C 0 dX7_next_26 rfl rfl ?_
  refine z_aload_n C 0 dX7_next_27 rfl rfl ?_
  refine z_geti C (Nat.le_of_ble_eq_true rfl) rfl rfl 38 (Nat.le_of_ble_eq_true rfl) rfl kiX7_next_X7 kfX7_next_183 dX7_next_28 ?_
  refine z_puti C (Nat.le_of_ble_eq_true rfl) rfl rfl 39 (Nat.le_of_ble_eq_true rfl) rfl kiX7_next_X7 kfX7_next_186 tyX7 tyX7_ok nmX7 rfl rfl dX7_next_31 ?_
  refine z_nm (fun m7 e_m7 => ?_)
  replace hf := bn_to e_m7 hf
  refine z_aload_n C 0 dX7_next_34 rfl rfl ?_
  refine z_aload_n C 0 dX7_next_35 rfl rfl ?_
  refine z_geti C (Nat.le_of_ble_eq_true rfl) rfl rfl 38 (Nat.le_of_ble_eq_true rfl) rfl kiX7_next_X7 kfX7_next_183 dX7_next_36 ?_
  obtain ⟨r9, hc8, hf⟩ := zb_el hf
  refine z_cVi C (c_X7_look _ _ hc8) rfl gX7_next_X7_look rfl rfl zdX7_look rfl (Nat.le_of_ble_eq_true rfl) rfl rfl rfl ⟨Nat.le_of_ble_eq_true rfl, Nat.le_of_ble_eq_true rfl⟩ (Nat.le_of_ble_eq_true rfl) dX7_next_39 rfl ?_
  refine z_istore_n C (lv2 := [(0, .ref ((zw K).2.1 0)), (1, .int r9)]) [1, 0] dX7_next_42 rfl (Nat.le_of_ble_eq_true rfl) rfl ?_
  refine z_iload_n C 1 dX7_next_43 rfl rfl ?_
  refine z_if_ge (tgt := 55) C dX7_next_44 (by decide) (fun c122 => ?_) (fun c122 => ?_)
  · replace hf := if_t c122 hf
    refine z_iload_n C 1 dX7_next_55 rfl rfl ?_
    refine z_i2l C dX7_next_56 ?_
    refine z_ldc2 C (v := 65) dX7_next_57 kcX7_next_196 ?_
    refine z_ldc2 C (v := 90) dX7_next_60 kcX7_next_198 ?_
    obtain ⟨r11, hc10, hf⟩ := zb_el hf
    refine z_cSi C (c_X7_in _ _ hc10) rfl gX7_next_X7_in rfl rfl zdX7_in.2 rfl ⟨Nat.le_of_ble_eq_true rfl, Nat.le_of_ble_eq_true rfl⟩ (Nat.le_of_ble_eq_true rfl) dX7_next_63 rfl ?_
    refine z_if_eq (tgt := 92) C dX7_next_66 (by decide) (fun c120 => ?_) (fun c120 => ?_)
    · replace hf := if_t c120 hf
      refine z_iload_n C 1 dX7_next_92 rfl rfl ?_
      refine z_bipush C (v := 45) dX7_next_93 rfl ?_
      refine z_icmp_eq (tgt := 112) C dX7_next_95 (by decide) (fun c116 => ?_) (fun c116 => ?_)
      · replace hf := if_t c116 hf
        refine z_aload_n C 0 dX7_next_112 rfl rfl ?_
        refine z_iconst C (v := 2) dX7_next_113 rfl ?_
        refine z_puti C (Nat.le_of_ble_eq_true rfl) rfl rfl 40 (Nat.le_of_ble_eq_true rfl) rfl kiX7_next_X7 kfX7_next_193 tyX7 tyX7_ok nmX7 rfl rfl dX7_next_114 ?_
        refine z_nm (fun m12 e_m12 => ?_)
        replace hf := bn_to e_m12 hf
        refine z_aload_n C 0 dX7_next_117 rfl rfl ?_
        refine z_dup_a C dX7_next_118 ?_
        refine z_geti C (Nat.le_of_ble_eq_true rfl) rfl rfl 38 (Nat.le_of_ble_eq_true rfl) rfl kiX7_next_X7 kfX7_next_183 dX7_next_119 ?_
        refine z_iload_n C 1 dX7_next_122 rfl rfl ?_
        refine z_bipush C (v := 45) dX7_next_123 rfl ?_
        obtain ⟨y13, hg, hf⟩ := zb_el hf
        have hj : zGo MM K m12 [(0, .ref ((zw K).2.1 0)), (1, .int r9)] 133 [.int y13, .int (m12 0 38), .ref ((zw K).2.1 0)] := by
          refine z_iadd C dX7_next_133 ?_
          refine z_puti C (Nat.le_of_ble_eq_true rfl) rfl rfl 38 (Nat.le_of_ble_eq_true rfl) rfl kiX7_next_X7 kfX7_next_183 tyX7 tyX7_ok nmX7 rfl rfl dX7_next_134 ?_
          refine z_nm (fun m14 e_m14 => ?_)
          replace hf := bn_to e_m14 hf
          refine z_aload_n C 0 dX7_next_137 rfl rfl ?_
          refine z_geti C (Nat.le_of_ble_eq_true rfl) rfl rfl 38 (Nat.le_of_ble_eq_true rfl) rfl kiX7_next_X7 kfX7_next_183 dX7_next_138 ?_
          refine z_topi (fun x15 e_x15 => ?_)
          replace hf := bn_to e_x15 hf
          refine z_istore_n C (lv2 := [(0, .ref ((zw K).2.1 0)), (1, .int r9), (2, .int x15)]) [1, 2, 0] dX7_next_141 rfl (Nat.le_of_ble_eq_true rfl) rfl ?_
          refine z_aload_n C 0 dX7_next_142 rfl rfl ?_
          refine z_iconst C (v := 0) dX7_next_143 rfl ?_
          refine z_puti C (Nat.le_of_ble_eq_true rfl) rfl rfl 41 (Nat.le_of_ble_eq_true rfl) rfl kiX7_next_X7 kfX7_next_200 tyX7 tyX7_ok nmX7 rfl rfl dX7_next_144 ?_
          refine z_nm (fun m16 e_m16 => ?_)
          replace hf := bn_to e_m16 hf
          obtain ⟨m30, hg, hf⟩ := zb_el hf
          refine z_sub [0, 1, 2] rfl (w_X7_next_147 C  ?_ _ _ hg)
          clear hg
          refine z_aload_n C 0 dX7_next_221 rfl rfl ?_
          refine z_iload_n C 1 dX7_next_222 rfl rfl ?_
          refine z_bipush C (v := 45) dX7_next_223 rfl ?_
          obtain ⟨y31, hg, hf⟩ := zb_el hf
          have hj : zGo MM K m30 [(0, .ref ((zw K).2.1 0)), (2, .int x15)] 240 [.int y31, .ref ((zw K).2.1 0)] := by
            refine z_puti C (Nat.le_of_ble_eq_true rfl) rfl rfl 41 (Nat.le_of_ble_eq_true rfl) rfl kiX7_next_X7 kfX7_next_200 tyX7 tyX7_ok nmX7 rfl rfl dX7_next_240 ?_
            refine z_nm (fun m32 e_m32 => ?_)
            replace hf := bn_to e_m32 hf
            refine z_aload_n C 0 dX7_next_243 rfl rfl ?_
            refine z_geti C (Nat.le_of_ble_eq_true rfl) rfl rfl 38 (Nat.le_of_ble_eq_true rfl) rfl kiX7_next_X7 kfX7_next_183 dX7_next_244 ?_
            refine z_iload_n C 1 dX7_next_247 rfl rfl ?_
            refine z_icmp_eq (tgt := 261) C dX7_next_248 (by decide) (fun c38 => ?_) (fun c38 => ?_)
            · replace hf := if_t c38 hf
              refine z_aload_n C 0 dX7_next_261 rfl rfl ?_
              refine z_iconst C (v := 1) dX7_next_262 rfl ?_
              refine z_aload_n C 0 dX7_next_263 rfl rfl ?_
              refine z_geti C (Nat.le_of_ble_eq_true rfl) rfl rfl 39 (Nat.le_of_ble_eq_true rfl) rfl kiX7_next_X7 kfX7_next_186 dX7_next_264 ?_
              obtain ⟨m34, hc33, hf⟩ := zb_el hf
              refine z_cVv C (c_X7_fails _ _ hc33) rfl gX7_next_X7_fails rfl rfl zdX7_fails rfl (Nat.le_of_ble_eq_true rfl) rfl rfl rfl ⟨Nat.le_of_ble_eq_true rfl, Nat.le_of_ble_eq_true rfl⟩ (Nat.le_of_ble_eq_true rfl) dX7_next_267 rfl ?_
              refine z_goto (tgt := 415) C dX7_next_270 (by decide) ?_
              have e1 := Option.some.inj hf
              subst e1
              exact hret _ _ dX7_next_415
            · replace hf := if_f c38 hf
              refine z_aload_n C 0 dX7_next_251 rfl rfl ?_
              refine z_geti C (Nat.le_of_ble_eq_true rfl) rfl rfl 38 (Nat.le_of_ble_eq_true rfl) rfl kiX7_next_X7 kfX7_next_183 dX7_next_252 ?_
              refine z_iload_n C 1 dX7_next_255 rfl rfl ?_
              refine z_isub C dX7_next_256 ?_
              refine z_iconst C (v := 4) dX7_next_257 rfl ?_
              refine z_icmp_le (tgt := 270) C dX7_next_258 (by decide) (fun c37 => ?_) (fun c37 => ?_)
              · replace hf := if_t c37 hf
                refine z_goto (tgt := 415) C dX7_next_270 (by decide) ?_
                have e1 := Option.some.inj hf
                subst e1
                exact hret _ _ dX7_next_415
              · replace hf := if_f c37 hf
                refine z_aload_n C 0 dX7_next_261 rfl rfl ?_
                refine z_iconst C (v := 1) dX7_next_262 rfl ?_
                refine z_aload_n C 0 dX7_next_263 rfl rfl ?_
                refine z_geti C (Nat.le_of_ble_eq_true rfl) rfl rfl 39 (Nat.le_of_ble_eq_true rfl) rfl kiX7_next_X7 kfX7_next_186 dX7_next_264 ?_
                obtain ⟨m36, hc35, hf⟩ := zb_el hf
                refine z_cVv C (c_X7_fails _ _ hc35) rfl gX7_next_X7_fails rfl rfl zdX7_fails rfl (Nat.le_of_ble_eq_true rfl) rfl rfl rfl ⟨Nat.le_of_ble_eq_true rfl, Nat.le_of_ble_eq_true rfl⟩ (Nat.le_of_ble_eq_true rfl) dX7_next_267 rfl ?_
                refine z_goto (tgt := 415) C dX7_next_270 (by decide) ?_
                have e1 := Option.some.inj hf
                subst e1
                exact hret _ _ dX7_next_415
          replace hf := hg
          clear hg
          refine z_icmp_ne (tgt := 236) C dX7_next_225 (by decide) (fun c39 => ?_) (fun c39 => ?_)
          · replace hf := if_f c39 hf
            refine z_aload_n C 0 dX7_next_236 rfl rfl ?_
            refine z_geti C (Nat.le_of_ble_eq_true rfl) rfl rfl 41 (Nat.le_of_ble_eq_true rfl) rfl kiX7_next_X7 kfX7_next_200 dX7_next_237 ?_
            cases hf
            exact z_sub [0, 2] rfl hj
          · replace hf := if_t c39 hf
            refine z_aload_n C 0 dX7_next_228 rfl rfl ?_
            refine z_geti C (Nat.le_of_ble_eq_true rfl) rfl rfl 41 (Nat.le_of_ble_eq_true rfl) rfl kiX7_next_X7 kfX7_next_200 dX7_next_229 ?_
            refine z_ineg C dX7_next_232 ?_
            refine z_goto (tgt := 240) C dX7_next_233 (by decide) ?_
            cases hf
            exact z_sub [0, 2] rfl hj
        replace hf := hg
        clear hg
        refine z_icmp_ne (tgt := 132) C dX7_next_125 (by decide) (fun c40 => ?_) (fun c40 => ?_)
        · replace hf := if_f c40 hf
          refine z_iconst C (v := 0) dX7_next_132 rfl ?_
          cases hf
          exact z_sub [0, 1] rfl hj
        · replace hf := if_t c40 hf
          refine z_iconst C (v := 1) dX7_next_128 rfl ?_
          refine z_goto (tgt := 133) C dX7_next_129 (by decide) ?_
          cases hf
          exact z_sub [0, 1] rfl hj
      · replace hf := if_f c116 hf
        refine z_iload_n C 1 dX7_next_98 rfl rfl ?_
        refine z_i2l C dX7_next_99 ?_
        refine z_ldc2 C (v := 48) dX7_next_100 kcX7_next_203 ?_
        refine z_ldc2 C (v := 57) dX7_next_103 kcX7_next_205 ?_
        obtain ⟨r42, hc41, hf⟩ := zb_el hf
        refine z_cSi C (c_X7_in _ _ hc41) rfl gX7_next_X7_in rfl rfl zdX7_in.2 rfl ⟨Nat.le_of_ble_eq_true rfl, Nat.le_of_ble_eq_true rfl⟩ (Nat.le_of_ble_eq_true rfl) dX7_next_106 rfl ?_
        refine z_if_eq (tgt := 273) C dX7_next_109 (by decide) (fun c115 => ?_) (fun c115 => ?_)
        · replace hf := if_t c115 hf
          refine z_iload_n C 1 dX7_next_273 rfl rfl ?_
          refine z_i2l C dX7_next_274 ?_
          refine z_ldc2 C (v := 97) dX7_next_275 kcX7_next_211 ?_
          refine z_ldc2 C (v := 122) dX7_next_278 kcX7_next_213 ?_
          obtain ⟨r44, hc43, hf⟩ := zb_el hf
          refine z_cSi C (c_X7_in _ _ hc43) rfl gX7_next_X7_in rfl rfl zdX7_in.2 rfl ⟨Nat.le_of_ble_eq_true rfl, Nat.le_of_ble_eq_true rfl⟩ (Nat.le_of_ble_eq_true rfl) dX7_next_281 rfl ?_
          refine z_if_eq (tgt := 322) C dX7_next_284 (by decide) (fun c85 => ?_) (fun c85 => ?_)
          · replace hf := if_t c85 hf
            refine z_iload_n C 1 dX7_next_322 rfl rfl ?_
            refine z_bipush C (v := 46) dX7_next_323 rfl ?_
            refine z_icmp_ne (tgt := 376) C dX7_next_325 (by decide) (fun c77 => ?_) (fun c77 => ?_)
            · replace hf := if_f c77 hf
              refine z_iload_n C 1 dX7_next_376 rfl rfl ?_
              obtain ⟨r46, hc45, hf⟩ := zb_el hf
              refine z_cSi C (c_X7_isSign _ _ hc45) rfl gX7_next_X7_isSign rfl rfl zdX7_isSign.2 rfl ⟨Nat.le_of_ble_eq_true rfl, Nat.le_of_ble_eq_true rfl⟩ (Nat.le_of_ble_eq_true rfl) dX7_next_377 rfl ?_
              refine z_if_eq (tgt := 406) C dX7_next_380 (by decide) (fun c52 => ?_) (fun c52 => ?_)
              · replace hf := if_t c52 hf
                refine z_aload_n C 0 dX7_next_406 rfl rfl ?_
                refine z_iconst C (v := 1) dX7_next_407 rfl ?_
                refine z_aload_n C 0 dX7_next_408 rfl rfl ?_
                refine z_geti C (Nat.le_of_ble_eq_true rfl) rfl rfl 39 (Nat.le_of_ble_eq_true rfl) rfl kiX7_next_X7 kfX7_next_186 dX7_next_409 ?_
                obtain ⟨m48, hc47, hf⟩ := zb_el hf
                refine z_cVv C (c_X7_fails _ _ hc47) rfl gX7_next_X7_fails rfl rfl zdX7_fails rfl (Nat.le_of_ble_eq_true rfl) rfl rfl rfl ⟨Nat.le_of_ble_eq_true rfl, Nat.le_of_ble_eq_true rfl⟩ (Nat.le_of_ble_eq_true rfl) dX7_next_412 rfl ?_
                have e1 := Option.some.inj hf
                subst e1
                exact hret _ _ dX7_next_415
              · replace hf := if_f c52 hf
                refine z_aload_n C 0 dX7_next_383 rfl rfl ?_
                refine z_iconst C (v := 4) dX7_next_384 rfl ?_
                refine z_puti C (Nat.le_of_ble_eq_true rfl) rfl rfl 40 (Nat.le_of_ble_eq_true rfl) rfl kiX7_next_X7 kfX7_next_193 tyX7 tyX7_ok nmX7 rfl rfl dX7_next_385 ?_
                refine z_nm (fun m49 e_m49 => ?_)
                replace hf := bn_to e_m49 hf
                refine z_aload_n C 0 dX7_next_388 rfl rfl ?_
                refine z_iload_n C 1 dX7_next_389 rfl rfl ?_
                refine z_puti C (Nat.le_of_ble_eq_true rfl) rfl rfl 41 (Nat.le_of_ble_eq_true rfl) rfl kiX7_next_X7 kfX7_next_200 tyX7 tyX7_ok nmX7 rfl rfl dX7_next_390 ?_
                refine z_nm (fun m50 e_m50 => ?_)
                replace hf := bn_to e_m50 hf
                refine z_aload_n C 0 dX7_next_393 rfl rfl ?_
                refine z_dup_a C dX7_next_394 ?_
                refine z_geti C (Nat.le_of_ble_eq_true rfl) rfl rfl 38 (Nat.le_of_ble_eq_true rfl) rfl kiX7_next_X7 kfX7_next_183 dX7_next_395 ?_
                refine z_iconst C (v := 1) dX7_next_398 rfl ?_
                refine z_iadd C dX7_next_399 ?_
                refine z_puti C (Nat.le_of_ble_eq_true rfl) rfl rfl 38 (Nat.le_of_ble_eq_true rfl) rfl kiX7_next_X7 kfX7_next_183 tyX7 tyX7_ok nmX7 rfl rfl dX7_next_400 ?_
                refine z_nm (fun m51 e_m51 => ?_)
                replace hf := bn_to e_m51 hf
                refine z_goto (tgt := 415) C dX7_next_403 (by decide) ?_
                have e1 := Option.some.inj hf
                subst e1
                exact hret _ _ dX7_next_415
            · replace hf := if_t c77 hf
              refine z_aload_n C 0 dX7_next_328 rfl rfl ?_
              refine z_aload_n C 0 dX7_next_329 rfl rfl ?_
              refine z_geti C (Nat.le_of_ble_eq_true rfl) rfl rfl 38 (Nat.le_of_ble_eq_true rfl) rfl kiX7_next_X7 kfX7_next_183 dX7_next_330 ?_
              refine z_iconst C (v := 1) dX7_next_333 rfl ?_
              refine z_iadd C dX7_next_334 ?_
              obtain ⟨r54, hc53, hf⟩ := zb_el hf
              refine z_cVi C (c_X7_look _ _ hc53) rfl gX7_next_X7_look rfl rfl zdX7_look rfl (Nat.le_of_ble_eq_true rfl) rfl rfl rfl ⟨Nat.le_of_ble_eq_true rfl, Nat.le_of_ble_eq_true rfl⟩ (Nat.le_of_ble_eq_true rfl) dX7_next_335 rfl ?_
              refine z_bipush C (v := 46) dX7_next_338 rfl ?_
              refine z_icmp_ne (tgt := 376) C dX7_next_340 (by decide) (fun c76 => ?_) (fun c76 => ?_)
              · replace hf := if_f c76 hf
                refine z_iload_n C 1 dX7_next_376 rfl rfl ?_
                obtain ⟨r56, hc55, hf⟩ := zb_el hf
                refine z_cSi C (c_X7_isSign _ _ hc55) rfl gX7_next_X7_isSign rfl rfl zdX7_isSign.2 rfl ⟨Nat.le_of_ble_eq_true rfl, Nat.le_of_ble_eq_true rfl⟩ (Nat.le_of_ble_eq_true rfl) dX7_next_377 rfl ?_
                refine z_if_eq (tgt := 406) C dX7_next_380 (by decide) (fun c62 => ?_) (fun c62 => ?_)
                · replace hf := if_t c62 hf
                  refine z_aload_n C 0 dX7_next_406 rfl rfl ?_
                  refine z_iconst C (v := 1) dX7_next_407 rfl ?_
                  refine z_aload_n C 0 dX7_next_408 rfl rfl ?_
                  refine z_geti C (Nat.le_of_ble_eq_true rfl) rfl rfl 39 (Nat.le_of_ble_eq_true rfl) rfl kiX7_next_X7 kfX7_next_186 dX7_next_409 ?_
                  obtain ⟨m58, hc57, hf⟩ := zb_el hf
                  refine z_cVv C (c_X7_fails _ _ hc57) rfl gX7_next_X7_fails rfl rfl zdX7_fails rfl (Nat.le_of_ble_eq_true rfl) rfl rfl rfl ⟨Nat.le_of_ble_eq_true rfl, Nat.le_of_ble_eq_true rfl⟩ (Nat.le_of_ble_eq_true rfl) dX7_next_412 rfl ?_
                  have e1 := Option.some.inj hf
                  subst e1
                  exact hret _ _ dX7_next_415
                · replace hf := if_f c62 hf
                  refine z_aload_n C 0 dX7_next_383 rfl rfl ?_
                  refine z_iconst C (v := 4) dX7_next_384 rfl ?_
                  refine z_puti C (Nat.le_of_ble_eq_true rfl) rfl rfl 40 (Nat.le_of_ble_eq_true rfl) rfl kiX7_next_X7 kfX7_next_193 tyX7 tyX7_ok nmX7 rfl rfl dX7_next_385 ?_
                  refine z_nm (fun m59 e_m59 => ?_)
                  replace hf := bn_to e_m59 hf
                  refine z_aload_n C 0 dX7_next_388 rfl rfl ?_
                  refine z_iload_n C 1 dX7_next_389 rfl rfl ?_
                  refine z_puti C (Nat.le_of_ble_eq_true rfl) rfl rfl 41 (Nat.le_of_ble_eq_true rfl) rfl kiX7_next_X7 kfX7_next_200 tyX7 tyX7_ok nmX7 rfl rfl dX7_next_390 ?_
                  refine z_nm (fun m60 e_m60 => ?_)
                  replace hf := bn_to e_m60 hf
                  refine z_aload_n C 0 dX7_next_393 rfl rfl ?_
                  refine z_dup_a C dX7_next_394 ?_
                  refine z_geti C (Nat.le_of_ble_eq_true rfl) rfl rfl 38 (Nat.le_of_ble_eq_true rfl) rfl kiX7_next_X7 kfX7_next_183 dX7_next_395 ?_
                  refine z_iconst C (v := 1) dX7_next_398 rfl ?_
                  refine z_iadd C dX7_next_399 ?_
                  refine z_puti C (Nat.le_of_ble_eq_true rfl) rfl rfl 38 (Nat.le_of_ble_eq_true rfl) rfl kiX7_next_X7 kfX7_next_183 tyX7 tyX7_ok nmX7 rfl rfl dX7_next_400 ?_
                  refine z_nm (fun m61 e_m61 => ?_)
                  replace hf := bn_to e_m61 hf
                  refine z_goto (tgt := 415) C dX7_next_403 (by decide) ?_
                  have e1 := Option.some.inj hf
                  subst e1
                  exact hret _ _ dX7_next_415
              · replace hf := if_t c76 hf
                refine z_aload_n C 0 dX7_next_343 rfl rfl ?_
                refine z_aload_n C 0 dX7_next_344 rfl rfl ?_
                refine z_geti C (Nat.le_of_ble_eq_true rfl) rfl rfl 38 (Nat.le_of_ble_eq_true rfl) rfl kiX7_next_X7 kfX7_next_183 dX7_next_345 ?_
                refine z_iconst C (v := 2) dX7_next_348 rfl ?_
                refine z_iadd C dX7_next_349 ?_
                obtain ⟨r64, hc63, hf⟩ := zb_el hf
                refine z_cVi C (c_X7_look _ _ hc63) rfl gX7_next_X7_look rfl rfl zdX7_look rfl (Nat.le_of_ble_eq_true rfl) rfl rfl rfl ⟨Nat.le_of_ble_eq_true rfl, Nat.le_of_ble_eq_true rfl⟩ (Nat.le_of_ble_eq_true rfl) dX7_next_350 rfl ?_
                refine z_bipush C (v := 46) dX7_next_353 rfl ?_
                refine z_icmp_ne (tgt := 376) C dX7_next_355 (by decide) (fun c75 => ?_) (fun c75 => ?_)
                · replace hf := if_f c75 hf
                  refine z_iload_n C 1 dX7_next_376 rfl rfl ?_
                  obtain ⟨r66, hc65, hf⟩ := zb_el hf
                  refine z_cSi C (c_X7_isSign _ _ hc65) rfl gX7_next_X7_isSign rfl rfl zdX7_isSign.2 rfl ⟨Nat.le_of_ble_eq_true rfl, Nat.le_of_ble_eq_true rfl⟩ (Nat.le_of_ble_eq_true rfl) dX7_next_377 rfl ?_
                  refine z_if_eq (tgt := 406) C dX7_next_380 (by decide) (fun c72 => ?_) (fun c72 => ?_)
                  · replace hf := if_t c72 hf
                    refine z_aload_n C 0 dX7_next_406 rfl rfl ?_
                    refine z_iconst C (v := 1) dX7_next_407 rfl ?_
                    refine z_aload_n C 0 dX7_next_408 rfl rfl ?_
                    refine z_geti C (Nat.le_of_ble_eq_true rfl) rfl rfl 39 (Nat.le_of_ble_eq_true rfl) rfl kiX7_next_X7 kfX7_next_186 dX7_next_409 ?_
                    obtain ⟨m68, hc67, hf⟩ := zb_el hf
                    refine z_cVv C (c_X7_fails _ _ hc67) rfl gX7_next_X7_fails rfl rfl zdX7_fails rfl (Nat.le_of_ble_eq_true rfl) rfl rfl rfl ⟨Nat.le_of_ble_eq_true rfl, Nat.le_of_ble_eq_true rfl⟩ (Nat.le_of_ble_eq_true rfl) dX7_next_412 rfl ?_
                    have e1 := Option.some.inj hf
                    subst e1
                    exact hret _ _ dX7_next_415
                  · replace hf := if_f c72 hf
                    refine z_aload_n C 0 dX7_next_383 rfl rfl ?_
                    refine z_iconst C (v := 4) dX7_next_384 rfl ?_
                    refine z_puti C (Nat.le_of_ble_eq_true rfl) rfl rfl 40 (Nat.le_of_ble_eq_true rfl) rfl kiX7_next_X7 kfX7_next_193 tyX7 tyX7_ok nmX7 rfl rfl dX7_next_385 ?_
                    refine z_nm (fun m69 e_m69 => ?_)
                    replace hf := bn_to e_m69 hf
                    refine z_aload_n C 0 dX7_next_388 rfl rfl ?_
                    refine z_iload_n C 1 dX7_next_389 rfl rfl ?_
                    refine z_puti C (Nat.le_of_ble_eq_true rfl) rfl rfl 41 (Nat.le_of_ble_eq_true rfl) rfl kiX7_next_X7 kfX7_next_200 tyX7 tyX7_ok nmX7 rfl rfl dX7_next_390 ?_
                    refine z_nm (fun m70 e_m70 => ?_)
                    replace hf := bn_to e_m70 hf
                    refine z_aload_n C 0 dX7_next_393 rfl rfl ?_
                    refine z_dup_a C dX7_next_394 ?_
                    refine z_geti C (Nat.le_of_ble_eq_true rfl) rfl rfl 38 (Nat.le_of_ble_eq_true rfl) rfl kiX7_next_X7 kfX7_next_183 dX7_next_395 ?_
                    refine z_iconst C (v := 1) dX7_next_398 rfl ?_
                    refine z_iadd C dX7_next_399 ?_
                    refine z_puti C (Nat.le_of_ble_eq_true rfl) rfl rfl 38 (Nat.le_of_ble_eq_true rfl) rfl kiX7_next_X7 kfX7_next_183 tyX7 tyX7_ok nmX7 rfl rfl dX7_next_400 ?_
                    refine z_nm (fun m71 e_m71 => ?_)
                    replace hf := bn_to e_m71 hf
                    refine z_goto (tgt := 415) C dX7_next_403 (by decide) ?_
                    have e1 := Option.some.inj hf
                    subst e1
                    exact hret _ _ dX7_next_415
                · replace hf := if_t c75 hf
                  refine z_aload_n C 0 dX7_next_358 rfl rfl ?_
                  refine z_iconst C (v := 5) dX7_next_359 rfl ?_
                  refine z_puti C (Nat.le_of_ble_eq_true rfl) rfl rfl 40 (Nat.le_of_ble_eq_true rfl) rfl kiX7_next_X7 kfX7_next_193 tyX7 tyX7_ok nmX7 rfl rfl dX7_next_360 ?_
                  refine z_nm (fun m73 e_m73 => ?_)
                  replace hf := bn_to e_m73 hf
                  refine z_aload_n C 0 dX7_next_363 rfl rfl ?_
                  refine z_dup_a C dX7_next_364 ?_
                  refine z_geti C (Nat.le_of_ble_eq_true rfl) rfl rfl 38 (Nat.le_of_ble_eq_true rfl) rfl kiX7_next_X7 kfX7_next_183 dX7_next_365 ?_
                  refine z_iconst C (v := 3) dX7_next_368 rfl ?_
                  refine z_iadd C dX7_next_369 ?_
                  refine z_puti C (Nat.le_of_ble_eq_true rfl) rfl rfl 38 (Nat.le_of_ble_eq_true rfl) rfl kiX7_next_X7 kfX7_next_183 tyX7 tyX7_ok nmX7 rfl rfl dX7_next_370 ?_
                  refine z_nm (fun m74 e_m74 => ?_)
                  replace hf := bn_to e_m74 hf
                  refine z_goto (tgt := 415) C dX7_next_373 (by decide) ?_
                  have e1 := Option.some.inj hf
                  subst e1
                  exact hret _ _ dX7_next_415
          · replace hf := if_f c85 hf
            refine z_aload_n C 0 dX7_next_287 rfl rfl ?_
            refine z_iconst C (v := 3) dX7_next_288 rfl ?_
            refine z_puti C (Nat.le_of_ble_eq_true rfl) rfl rfl 40 (Nat.le_of_ble_eq_true rfl) rfl kiX7_next_X7 kfX7_next_193 tyX7 tyX7_ok nmX7 rfl rfl dX7_next_289 ?_
            refine z_nm (fun m78 e_m78 => ?_)
            replace hf := bn_to e_m78 hf
            refine z_aload_n C 0 dX7_next_292 rfl rfl ?_
            refine z_dup_a C dX7_next_293 ?_
            refine z_geti C (Nat.le_of_ble_eq_true rfl) rfl rfl 38 (Nat.le_of_ble_eq_true rfl) rfl kiX7_next_X7 kfX7_next_183 dX7_next_294 ?_
            refine z_bipush C (v := 6) dX7_next_297 rfl ?_
            refine z_iadd C dX7_next_299 ?_
            refine z_puti C (Nat.le_of_ble_eq_true rfl) rfl rfl 38 (Nat.le_of_ble_eq_true rfl) rfl kiX7_next_X7 kfX7_next_183 tyX7 tyX7_ok nmX7 rfl rfl dX7_next_300 ?_
            refine z_nm (fun m79 e_m79 => ?_)
            replace hf := bn_to e_m79 hf
            refine z_aload_n C 0 dX7_next_303 rfl rfl ?_
            obtain ⟨r81, hc80, hf⟩ := zb_el hf
            refine z_cVi C (c_X7_isClosed _ _ hc80) rfl gX7_next_X7_isClosed rfl rfl zdX7_isClosed rfl (Nat.le_of_ble_eq_true rfl) rfl rfl rfl ⟨Nat.le_of_ble_eq_true rfl, Nat.le_of_ble_eq_true rfl⟩ (Nat.le_of_ble_eq_true rfl) dX7_next_304 rfl ?_
            refine z_if_ne (tgt := 415) C dX7_next_307 (by decide) (fun c84 => ?_) (fun c84 => ?_)
            · replace hf := if_f c84 hf
              have e1 := Option.some.inj hf
              subst e1
              exact hret _ _ dX7_next_415
            · replace hf := if_t c84 hf
              refine z_aload_n C 0 dX7_next_310 rfl rfl ?_
              refine z_iconst C (v := 1) dX7_next_311 rfl ?_
              refine z_aload_n C 0 dX7_next_312 rfl rfl ?_
              refine z_geti C (Nat.le_of_ble_eq_true rfl) rfl rfl 39 (Nat.le_of_ble_eq_true rfl) rfl kiX7_next_X7 kfX7_next_186 dX7_next_313 ?_
              obtain ⟨m83, hc82, hf⟩ := zb_el hf
              refine z_cVv C (c_X7_fails _ _ hc82) rfl gX7_next_X7_fails rfl rfl zdX7_fails rfl (Nat.le_of_ble_eq_true rfl) rfl rfl rfl ⟨Nat.le_of_ble_eq_true rfl, Nat.le_of_ble_eq_true rfl⟩ (Nat.le_of_ble_eq_true rfl) dX7_next_316 rfl ?_
              refine z_goto (tgt := 415) C dX7_next_319 (by decide) ?_
              have e1 := Option.some.inj hf
              subst e1
              exact hret _ _ dX7_next_415
        · replace hf := if_f c115 hf
          refine z_aload_n C 0 dX7_next_112 rfl rfl ?_
          refine z_iconst C (v := 2) dX7_next_113 rfl ?_
          refine z_puti C (Nat.le_of_ble_eq_true rfl) rfl rfl 40 (Nat.le_of_ble_eq_true rfl) rfl kiX7_next_X7 kfX7_next_193 tyX7 tyX7_ok nmX7 rfl rfl dX7_next_114 ?_
          refine z_nm (fun m86 e_m86 => ?_)
          replace hf := bn_to e_m86 hf
          refine z_aload_n C 0 dX7_next_117 rfl rfl ?_
          refine z_dup_a C dX7_next_118 ?_
          refine z_geti C (Nat.le_of_ble_eq_true rfl) rfl rfl 38 (Nat.le_of_ble_eq_true rfl) rfl kiX7_next_X7 kfX7_next_183 dX7_next_119 ?_
          refine z_iload_n C 1 dX7_next_122 rfl rfl ?_
          refine z_bipush C (v := 45) dX7_next_123 rfl ?_
          obtain ⟨y87, hg, hf⟩ := zb_el hf
          have hj : zGo MM K m86 [(0, .ref ((zw K).2.1 0)), (1, .int r9)] 133 [.int y87, .int (m86 0 38), .ref ((zw K).2.1 0)] := by
            refine z_iadd C dX7_next_133 ?_
            refine z_puti C (Nat.le_of_ble_eq_true rfl) rfl rfl 38 (Nat.le_of_ble_eq_true rfl) rfl kiX7_next_X7 kfX7_next_183 tyX7 tyX7_ok nmX7 rfl rfl dX7_next_134 ?_
            refine z_nm (fun m88 e_m88 => ?_)
            replace hf := bn_to e_m88 hf
            refine z_aload_n C 0 dX7_next_137 rfl rfl ?_
            refine z_geti C (Nat.le_of_ble_eq_true rfl) rfl rfl 38 (Nat.le_of_ble_eq_true rfl) rfl kiX7_next_X7 kfX7_next_183 dX7_next_138 ?_
            refine z_topi (fun x89 e_x89 => ?_)
            replace hf := bn_to e_x89 hf
            refine z_istore_n C (lv2 := [(0, .ref ((zw K).2.1 0)), (1, .int r9), (2, .int x89)]) [1, 2, 0] dX7_next_141 rfl (Nat.le_of_ble_eq_true rfl) rfl ?_
            refine z_aload_n C 0 dX7_next_142 rfl rfl ?_
            refine z_iconst C (v := 0) dX7_next_143 rfl ?_
            refine z_puti C (Nat.le_of_ble_eq_true rfl) rfl rfl 41 (Nat.le_of_ble_eq_true rfl) rfl kiX7_next_X7 kfX7_next_200 tyX7 tyX7_ok nmX7 rfl rfl dX7_next_144 ?_
            refine z_nm (fun m90 e_m90 => ?_)
            replace hf := bn_to e_m90 hf
            obtain ⟨m104, hg, hf⟩ := zb_el hf
            refine z_sub [0, 1, 2] rfl (w_X7_next_147_2 C  ?_ _ _ hg)
            clear hg
            refine z_aload_n C 0 dX7_next_221 rfl rfl ?_
            refine z_iload_n C 1 dX7_next_222 rfl rfl ?_
            refine z_bipush C (v := 45) dX7_next_223 rfl ?_
            obtain ⟨y105, hg, hf⟩ := zb_el hf
            have hj : zGo MM K m104 [(0, .ref ((zw K).2.1 0)), (2, .int x89)] 240 [.int y105, .ref ((zw K).2.1 0)] := by
              refine z_puti C (Nat.le_of_ble_eq_true rfl) rfl rfl 41 (Nat.le_of_ble_eq_true rfl) rfl kiX7_next_X7 kfX7_next_200 tyX7 tyX7_ok nmX7 rfl rfl dX7_next_240 ?_
              refine z_nm (fun m106 e_m106 => ?_)
              replace hf := bn_to e_m106 hf
              refine z_aload_n C 0 dX7_next_243 rfl rfl ?_
              refine z_geti C (Nat.le_of_ble_eq_true rfl) rfl rfl 38 (Nat.le_of_ble_eq_true rfl) rfl kiX7_next_X7 kfX7_next_183 dX7_next_244 ?_
              refine z_iload_n C 1 dX7_next_247 rfl rfl ?_
              refine z_icmp_eq (tgt := 261) C dX7_next_248 (by decide) (fun c112 => ?_) (fun c112 => ?_)
              · replace hf := if_t c112 hf
                refine z_aload_n C 0 dX7_next_261 rfl rfl ?_
                refine z_iconst C (v := 1) dX7_next_262 rfl ?_
                refine z_aload_n C 0 dX7_next_263 rfl rfl ?_
                refine z_geti C (Nat.le_of_ble_eq_true rfl) rfl rfl 39 (Nat.le_of_ble_eq_true rfl) rfl kiX7_next_X7 kfX7_next_186 dX7_next_264 ?_
                obtain ⟨m108, hc107, hf⟩ := zb_el hf
                refine z_cVv C (c_X7_fails _ _ hc107) rfl gX7_next_X7_fails rfl rfl zdX7_fails rfl (Nat.le_of_ble_eq_true rfl) rfl rfl rfl ⟨Nat.le_of_ble_eq_true rfl, Nat.le_of_ble_eq_true rfl⟩ (Nat.le_of_ble_eq_true rfl) dX7_next_267 rfl ?_
                refine z_goto (tgt := 415) C dX7_next_270 (by decide) ?_
                have e1 := Option.some.inj hf
                subst e1
                exact hret _ _ dX7_next_415
              · replace hf := if_f c112 hf
                refine z_aload_n C 0 dX7_next_251 rfl rfl ?_
                refine z_geti C (Nat.le_of_ble_eq_true rfl) rfl rfl 38 (Nat.le_of_ble_eq_true rfl) rfl kiX7_next_X7 kfX7_next_183 dX7_next_252 ?_
                refine z_iload_n C 1 dX7_next_255 rfl rfl ?_
                refine z_isub C dX7_next_256 ?_
                refine z_iconst C (v := 4) dX7_next_257 rfl ?_
                refine z_icmp_le (tgt := 270) C dX7_next_258 (by decide) (fun c111 => ?_) (fun c111 => ?_)
                · replace hf := if_t c111 hf
                  refine z_goto (tgt := 415) C dX7_next_270 (by decide) ?_
                  have e1 := Option.some.inj hf
                  subst e1
                  exact hret _ _ dX7_next_415
                · replace hf := if_f c111 hf
                  refine z_aload_n C 0 dX7_next_261 rfl rfl ?_
                  refine z_iconst C (v := 1) dX7_next_262 rfl ?_
                  refine z_aload_n C 0 dX7_next_263 rfl rfl ?_
                  refine z_geti C (Nat.le_of_ble_eq_true rfl) rfl rfl 39 (Nat.le_of_ble_eq_true rfl) rfl kiX7_next_X7 kfX7_next_186 dX7_next_264 ?_
                  obtain ⟨m110, hc109, hf⟩ := zb_el hf
                  refine z_cVv C (c_X7_fails _ _ hc109) rfl gX7_next_X7_fails rfl rfl zdX7_fails rfl (Nat.le_of_ble_eq_true rfl) rfl rfl rfl ⟨Nat.le_of_ble_eq_true rfl, Nat.le_of_ble_eq_true rfl⟩ (Nat.le_of_ble_eq_true rfl) dX7_next_267 rfl ?_
                  refine z_goto (tgt := 415) C dX7_next_270 (by decide) ?_
                  have e1 := Option.some.inj hf
                  subst e1
                  exact hret _ _ dX7_next_415
            replace hf := hg
            clear hg
            refine z_icmp_ne (tgt := 236) C dX7_next_225 (by decide) (fun c113 => ?_) (fun c113 => ?_)
            · replace hf := if_f c113 hf
              refine z_aload_n C 0 dX7_next_236 rfl rfl ?_
              refine z_geti C (Nat.le_of_ble_eq_true rfl) rfl rfl 41 (Nat.le_of_ble_eq_true rfl) rfl kiX7_next_X7 kfX7_next_200 dX7_next_237 ?_
              cases hf
              exact z_sub [0, 2] rfl hj
            · replace hf := if_t c113 hf
              refine z_aload_n C 0 dX7_next_228 rfl rfl ?_
              refine z_geti C (Nat.le_of_ble_eq_true rfl) rfl rfl 41 (Nat.le_of_ble_eq_true rfl) rfl kiX7_next_X7 kfX7_next_200 dX7_next_229 ?_
              refine z_ineg C dX7_next_232 ?_
              refine z_goto (tgt := 240) C dX7_next_233 (by decide) ?_
              cases hf
              exact z_sub [0, 2] rfl hj
          replace hf := hg
          clear hg
          refine z_icmp_ne (tgt := 132) C dX7_next_125 (by decide) (fun c114 => ?_) (fun c114 => ?_)
          · replace hf := if_f c114 hf
            refine z_iconst C (v := 0) dX7_next_132 rfl ?_
            cases hf
            exact z_sub [0, 1] rfl hj
          · replace hf := if_t c114 hf
            refine z_iconst C (v := 1) dX7_next_128 rfl ?_
            refine z_goto (tgt := 133) C dX7_next_129 (by decide) ?_
            cases hf
            exact z_sub [0, 1] rfl hj
    · replace hf := if_f c120 hf
      refine z_aload_n C 0 dX7_next_69 rfl rfl ?_
      refine z_iconst C (v := 1) dX7_next_70 rfl ?_
      refine z_puti C (Nat.le_of_ble_eq_true rfl) rfl rfl 40 (Nat.le_of_ble_eq_true rfl) rfl kiX7_next_X7 kfX7_next_193 tyX7 tyX7_ok nmX7 rfl rfl dX7_next_71 ?_
      refine z_nm (fun m117 e_m117 => ?_)
      replace hf := bn_to e_m117 hf
      refine z_aload_n C 0 dX7_next_74 rfl rfl ?_
      refine z_iload_n C 1 dX7_next_75 rfl rfl ?_
      refine z_puti C (Nat.le_of_ble_eq_true rfl) rfl rfl 41 (Nat.le_of_ble_eq_true rfl) rfl kiX7_next_X7 kfX7_next_200 tyX7 tyX7_ok nmX7 rfl rfl dX7_next_76 ?_
      refine z_nm (fun m118 e_m118 => ?_)
      replace hf := bn_to e_m118 hf
      refine z_aload_n C 0 dX7_next_79 rfl rfl ?_
      refine z_dup_a C dX7_next_80 ?_
      refine z_geti C (Nat.le_of_ble_eq_true rfl) rfl rfl 38 (Nat.le_of_ble_eq_true rfl) rfl kiX7_next_X7 kfX7_next_183 dX7_next_81 ?_
      refine z_iconst C (v := 1) dX7_next_84 rfl ?_
      refine z_iadd C dX7_next_85 ?_
      refine z_puti C (Nat.le_of_ble_eq_true rfl) rfl rfl 38 (Nat.le_of_ble_eq_true rfl) rfl kiX7_next_X7 kfX7_next_183 tyX7 tyX7_ok nmX7 rfl rfl dX7_next_86 ?_
      refine z_nm (fun m119 e_m119 => ?_)
      replace hf := bn_to e_m119 hf
      refine z_goto (tgt := 415) C dX7_next_89 (by decide) ?_
      have e1 := Option.some.inj hf
      subst e1
      exact hret _ _ dX7_next_415
  · replace hf := if_f c122 hf
    refine z_aload_n C 0 dX7_next_47 rfl rfl ?_
    refine z_iconst C (v := 0) dX7_next_48 rfl ?_
    refine z_puti C (Nat.le_of_ble_eq_true rfl) rfl rfl 40 (Nat.le_of_ble_eq_true rfl) rfl kiX7_next_X7 kfX7_next_193 tyX7 tyX7_ok nmX7 rfl rfl dX7_next_49 ?_
    refine z_nm (fun m121 e_m121 => ?_)
    replace hf := bn_to e_m121 hf
    refine z_goto (tgt := 415) C dX7_next_52 (by decide) ?_
    have e1 := Option.some.inj hf
    subst e1
    exact hret _ _ dX7_next_415
