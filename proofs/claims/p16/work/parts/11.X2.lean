theorem dX2_presentEdges_0 : decode cX2_presentEdges 0 = .ok (.iconst 1, 1) := by decide +kernel
theorem dX2_presentEdges_1 : decode cX2_presentEdges 1 = .ok (.aload_n 0, 1) := by decide +kernel
theorem dX2_presentEdges_2 : decode cX2_presentEdges 2 = .ok (.getfield 24, 3) := by decide +kernel
theorem dX2_presentEdges_5 : decode cX2_presentEdges 5 = .ok (.getfield 71, 3) := by decide +kernel
theorem dX2_presentEdges_8 : decode cX2_presentEdges 8 = .ok (.iload_n 1, 1) := by decide +kernel
theorem dX2_presentEdges_9 : decode cX2_presentEdges 9 = .ok (.iaload, 1) := by decide +kernel
theorem dX2_presentEdges_10 : decode cX2_presentEdges 10 = .ok (.ishl, 1) := by decide +kernel
theorem dX2_presentEdges_11 : decode cX2_presentEdges 11 = .ok (.iconst 1, 1) := by decide +kernel
theorem dX2_presentEdges_12 : decode cX2_presentEdges 12 = .ok (.isub, 1) := by decide +kernel
theorem dX2_presentEdges_13 : decode cX2_presentEdges 13 = .ok (.istore_n 2, 1) := by decide +kernel
theorem dX2_presentEdges_14 : decode cX2_presentEdges 14 = .ok (.iload_n 1, 1) := by decide +kernel
theorem dX2_presentEdges_15 : decode cX2_presentEdges 15 = .ok (.aload_n 0, 1) := by decide +kernel
theorem dX2_presentEdges_16 : decode cX2_presentEdges 16 = .ok (.getfield 74, 3) := by decide +kernel
theorem dX2_presentEdges_19 : decode cX2_presentEdges 19 = .ok (.if_icmp .ne 14, 3) := by decide +kernel
theorem dX2_presentEdges_22 : decode cX2_presentEdges 22 = .ok (.iload_n 2, 1) := by decide +kernel
theorem dX2_presentEdges_23 : decode cX2_presentEdges 23 = .ok (.aload_n 0, 1) := by decide +kernel
theorem dX2_presentEdges_24 : decode cX2_presentEdges 24 = .ok (.getfield 77, 3) := by decide +kernel
theorem dX2_presentEdges_27 : decode cX2_presentEdges 27 = .ok (.iconst (-1), 1) := by decide +kernel
theorem dX2_presentEdges_28 : decode cX2_presentEdges 28 = .ok (.ixor, 1) := by decide +kernel
theorem dX2_presentEdges_29 : decode cX2_presentEdges 29 = .ok (.iand, 1) := by decide +kernel
theorem dX2_presentEdges_30 : decode cX2_presentEdges 30 = .ok (.goto 4, 3) := by decide +kernel
theorem dX2_presentEdges_33 : decode cX2_presentEdges 33 = .ok (.iload_n 2, 1) := by decide +kernel
theorem dX2_presentEdges_34 : decode cX2_presentEdges 34 = .ok (.ireturn, 1) := by decide +kernel
def rmX2_presentEdges : Room := { frames := 0, cells := 0, slots := 0, locals := 0 }
theorem zdX2_presentEdges : yX2_presentEdges.cls = RX2 ∧ yX2_presentEdges.cls ≠ "java/lang/invoke/MethodHandle" ∧ yX2_presentEdges.cls ≠ "java/lang/invoke/VarHandle" ∧ (parseMethodDescriptor yX2_presentEdges.desc).map (fun d => d.parameters.length) = some 1 := by decide +kernel
theorem kiX2_presentEdges_X2 : ∀ w ∈ wsX20, w ∈ wsX2_presentEdges := fun _ h => (List.mem_cons_of_mem _ (List.mem_append_left _ (List.mem_append_right _ h)))
theorem kfX2_presentEdges_24 : Cond.fieldLink RX2 24 "ShapeJudge$Judge" "graph" "LShapeJudge$Graph;" ∈ wsX2_presentEdges := (List.mem_of_getElem? (i := 1) rfl)
theorem kiX2_presentEdges_X1 : ∀ w ∈ wsX10, w ∈ wsX2_presentEdges := fun _ h => (List.mem_cons_of_mem _ (List.mem_append_right _ h))
theorem kfX2_presentEdges_71 : Cond.fieldLink RX2 71 "ShapeJudge$Graph" "degrees" "[I" ∈ wsX2_presentEdges := (List.mem_of_getElem? (i := 2) rfl)
theorem kfX2_presentEdges_74 : Cond.fieldLink RX2 74 "ShapeJudge$Judge" "thinNode" "I" ∈ wsX2_presentEdges := (List.mem_of_getElem? (i := 3) rfl)
theorem kfX2_presentEdges_77 : Cond.fieldLink RX2 77 "ShapeJudge$Judge" "goneEdges" "I" ∈ wsX2_presentEdges := (List.mem_of_getElem? (i := 4) rfl)
def s_X2_presentEdges (m : Mem) (a1 : Int32) : Option (Int32) :=
  ck (zin a1 10 = true) (bn (((1 : Int32) <<< ((m 4 (Int32.toNatClampNeg a1)) &&& 31)) - 1) fun x2 => (if a1 = (m 39 8) then (some (x2 &&& ((m 39 9) ^^^ (-1)))) else (some x2)))
set_option maxRecDepth 100000 in
set_option maxHeartbeats 4000000 in
theorem c_X2_presentEdges (l : Launch) (w : ZW) {m : Mem} {a1 : Int32} {r9 : Int32}  (hf : s_X2_presentEdges m a1 = some r9) : zCi MX l w yX2_presentEdges wsX2_presentEdges rmX2_presentEdges [.ref (w.2.1 39), .int a1] m m r9 := by
  refine z_met_i MX_ok (own := RX2) (by decide +kernel) rfl rfl (Nat.le_of_ble_eq_true rfl) ?_
  intro K C hKw hKl hret
  subst hKw
  subst hKl
  unfold s_X2_presentEdges at hf
  show zGo MX K m [(0, .ref ((zw K).2.1 39)), (1, .int a1)] 0 []
  refine z_iconst C (v := 1) dX2_presentEdges_0 rfl ?_
  refine z_aload_n C 0 dX2_presentEdges_1 rfl rfl ?_
  refine z_getr C (t := 1) (Nat.le_of_ble_eq_true rfl) rfl rfl 0 (Nat.le_of_ble_eq_true rfl) rfl kiX2_presentEdges_X2 kfX2_presentEdges_24 dX2_presentEdges_2 ?_
  refine z_getr C (t := 4) (Nat.le_of_ble_eq_true rfl) rfl rfl 4 (Nat.le_of_ble_eq_true rfl) rfl kiX2_presentEdges_X1 kfX2_presentEdges_71 dX2_presentEdges_5 ?_
  refine z_iload_n C 1 dX2_presentEdges_8 rfl rfl ?_
  obtain ⟨hi1, hf⟩ := ck_el hf
  refine z_iald C (k := 4) (Nat.le_of_ble_eq_true rfl) rfl hi1 dX2_presentEdges_9 ?_
  refine z_ishl C dX2_presentEdges_10 ?_
  refine z_iconst C (v := 1) dX2_presentEdges_11 rfl ?_
  refine z_isub C dX2_presentEdges_12 ?_
  refine z_topi (fun x2 e_x2 => ?_)
  replace hf := bn_to e_x2 hf
  refine z_istore_n C (lv2 := [(0, .ref ((zw K).2.1 39)), (1, .int a1), (2, .int x2)]) [1, 2, 0] dX2_presentEdges_13 rfl (Nat.le_of_ble_eq_true rfl) rfl ?_
  refine z_iload_n C 1 dX2_presentEdges_14 rfl rfl ?_
  refine z_aload_n C 0 dX2_presentEdges_15 rfl rfl ?_
  refine z_geti C (Nat.le_of_ble_eq_true rfl) rfl rfl 8 (Nat.le_of_ble_eq_true rfl) rfl kiX2_presentEdges_X2 kfX2_presentEdges_74 dX2_presentEdges_16 ?_
  refine z_icmp_ne (tgt := 33) C dX2_presentEdges_19 (by decide) (fun c3 => ?_) (fun c3 => ?_)
  · replace hf := if_f c3 hf
    refine z_iload_n C 2 dX2_presentEdges_33 rfl rfl ?_
    cases hf
    exact hret _ _ dX2_presentEdges_34
  · replace hf := if_t c3 hf
    refine z_iload_n C 2 dX2_presentEdges_22 rfl rfl ?_
    refine z_aload_n C 0 dX2_presentEdges_23 rfl rfl ?_
    refine z_geti C (Nat.le_of_ble_eq_true rfl) rfl rfl 9 (Nat.le_of_ble_eq_true rfl) rfl kiX2_presentEdges_X2 kfX2_presentEdges_77 dX2_presentEdges_24 ?_
    refine z_iconst C (v := (-1)) dX2_presentEdges_27 (by decide) ?_
    refine z_ixor C dX2_presentEdges_28 ?_
    refine z_iand C dX2_presentEdges_29 ?_
    refine z_goto (tgt := 34) C dX2_presentEdges_30 (by decide) ?_
    cases hf
    exact hret _ _ dX2_presentEdges_34
set_option maxRecDepth 20000 in
theorem ggX2_wantedEdges_X2_presentEdges : GoodIn wsX2_wantedEdges wsX2_presentEdges := goodIn_sub (List.forall_mem_cons.mpr ⟨(List.mem_of_getElem? (i := 10) rfl), (List.forall_mem_append.mpr ⟨(List.forall_mem_append.mpr ⟨(List.forall_mem_cons.mpr ⟨(List.mem_of_getElem? (i := 1) rfl), (List.forall_mem_cons.mpr ⟨(List.mem_of_getElem? (i := 2) rfl), (List.forall_mem_cons.mpr ⟨(List.mem_of_getElem? (i := 11) rfl), (List.forall_mem_cons.mpr ⟨(List.mem_of_getElem? (i := 12) rfl), (fun _ h => absurd h List.not_mem_nil)⟩)⟩)⟩)⟩), (fun _ h => (List.mem_cons_of_mem _ (List.mem_append_left _ (List.mem_append_left _ (List.mem_append_right _ h)))))⟩), (fun _ h => (List.mem_cons_of_mem _ (List.mem_append_left _ (List.mem_append_right _ h))))⟩)⟩) (by decide +kernel)
set_option maxRecDepth 20000 in
theorem gX2_wantedEdges_X2_presentEdges : GoodIn wsX2_wantedEdges (wsV RX2 86 RX2 yX2_presentEdges wsX2_presentEdges) := goodIn_app (goodIn_sub (List.forall_mem_cons.mpr ⟨(List.mem_of_getElem? (i := 6) rfl), (List.forall_mem_cons.mpr ⟨(List.mem_of_getElem? (i := 7) rfl), (List.forall_mem_cons.mpr ⟨(List.mem_of_getElem? (i := 8) rfl), (List.forall_mem_cons.mpr ⟨(List.mem_of_getElem? (i := 9) rfl), (fun _ h => absurd h List.not_mem_nil)⟩)⟩)⟩)⟩) (by decide +kernel)) ggX2_wantedEdges_X2_presentEdges
set_option maxRecDepth 100000 in
theorem daX2_wantedEdges : ∀ q ∈ ([(0, .iconst 0, 1), (1, .istore_n 3, 1), (2, .iconst 0, 1), (3, .istore 4, 2), (5, .iload 4, 2), (7, .aload_n 0, 1), (8, .getfield 24, 3), (11, .getfield 71, 3), (14, .iload_n 1, 1), (15, .iaload, 1), (16, .if_icmp .ge 45, 3), (19, .aload_n 0, 1), (20, .getfield 28, 3), (23, .getfield 80, 3), (26, .iload_n 2, 1), (27, .iaload, 1), (28, .aload_n 0, 1), (29, .getfield 24, 3), (32, .getfield 83, 3), (35, .iload_n 1, 1), (36, .iconst 5, 1), (37, .imul, 1), (38, .iload 4, 2), (40, .iadd, 1), (41, .iaload, 1), (42, .ishr, 1), (43, .iconst 1, 1), (44, .iand, 1), (45, .ifCond .eq 10, 3), (48, .iload_n 3, 1), (49, .iconst 1, 1), (50, .iload 4, 2), (52, .ishl, 1), (53, .ior, 1), (54, .istore_n 3, 1), (55, .iinc 4 1, 3), (58, .goto (-53), 3), (61, .iload_n 3, 1), (62, .aload_n 0, 1), (63, .iload_n 1, 1), (64, .invokevirtual 86, 3), (67, .iand, 1), (68, .ireturn, 1)] : List (Nat × Instr × Nat)), decode cX2_wantedEdges q.1 = .ok q.2 := by decide +kernel
theorem dX2_wantedEdges_0 : decode cX2_wantedEdges 0 = .ok (.iconst 0, 1) := daX2_wantedEdges (0, .iconst 0, 1) (List.mem_of_getElem? (i := 0) rfl)
theorem dX2_wantedEdges_1 : decode cX2_wantedEdges 1 = .ok (.istore_n 3, 1) := daX2_wantedEdges (1, .istore_n 3, 1) (List.mem_of_getElem? (i := 1) rfl)
theorem dX2_wantedEdges_2 : decode cX2_wantedEdges 2 = .ok (.iconst 0, 1) := daX2_wantedEdges (2, .iconst 0, 1) (List.mem_of_getElem? (i := 2) rfl)
theorem dX2_wantedEdges_3 : decode cX2_wantedEdges 3 = .ok (.istore 4, 2) := daX2_wantedEdges (3, .istore 4, 2) (List.mem_of_getElem? (i := 3) rfl)
theorem dX2_wantedEdges_5 : decode cX2_wantedEdges 5 = .ok (.iload 4, 2) := daX2_wantedEdges (5, .iload 4, 2) (List.mem_of_getElem? (i := 4) rfl)
theorem dX2_wantedEdges_7 : decode cX2_wantedEdges 7 = .ok (.aload_n 0, 1) := daX2_wantedEdges (7, .aload_n 0, 1) (List.mem_of_getElem? (i := 5) rfl)
theorem dX2_wantedEdges_8 : decode cX2_wantedEdges 8 = .ok (.getfield 24, 3) := daX2_wantedEdges (8, .getfield 24, 3) (List.mem_of_getElem? (i := 6) rfl)
theorem dX2_wantedEdges_11 : decode cX2_wantedEdges 11 = .ok (.getfield 71, 3) := daX2_wantedEdges (11, .getfield 71, 3) (List.mem_of_getElem? (i := 7) rfl)
theorem dX2_wantedEdges_14 : decode cX2_wantedEdges 14 = .ok (.iload_n 1, 1) := daX2_wantedEdges (14, .iload_n 1, 1) (List.mem_of_getElem? (i := 8) rfl)
theorem dX2_wantedEdges_15 : decode cX2_wantedEdges 15 = .ok (.iaload, 1) := daX2_wantedEdges (15, .iaload, 1) (List.mem_of_getElem? (i := 9) rfl)
theorem dX2_wantedEdges_16 : decode cX2_wantedEdges 16 = .ok (.if_icmp .ge 45, 3) := daX2_wantedEdges (16, .if_icmp .ge 45, 3) (List.mem_of_getElem? (i := 10) rfl)
theorem dX2_wantedEdges_19 : decode cX2_wantedEdges 19 = .ok (.aload_n 0, 1) := daX2_wantedEdges (19, .aload_n 0, 1) (List.mem_of_getElem? (i := 11) rfl)
theorem dX2_wantedEdges_20 : decode cX2_wantedEdges 20 = .ok (.getfield 28, 3) := daX2_wantedEdges (20, .getfield 28, 3) (List.mem_of_getElem? (i := 12) rfl)
theorem dX2_wantedEdges_23 : decode cX2_wantedEdges 23 = .ok (.getfield 80, 3) := daX2_wantedEdges (23, .getfield 80, 3) (List.mem_of_getElem? (i := 13) rfl)
theorem dX2_wantedEdges_26 : decode cX2_wantedEdges 26 = .ok (.iload_n 2, 1) := daX2_wantedEdges (26, .iload_n 2, 1) (List.mem_of_getElem? (i := 14) rfl)
theorem dX2_wantedEdges_27 : decode cX2_wantedEdges 27 = .ok (.iaload, 1) := daX2_wantedEdges (27, .iaload, 1) (List.mem_of_getElem? (i := 15) rfl)
theorem dX2_wantedEdges_28 : decode cX2_wantedEdges 28 = .ok (.aload_n 0, 1) := daX2_wantedEdges (28, .aload_n 0, 1) (List.mem_of_getElem? (i := 16) rfl)
theorem dX2_wantedEdges_29 : decode cX2_wantedEdges 29 = .ok (.getfield 24, 3) := daX2_wantedEdges (29, .getfield 24, 3) (List.mem_of_getElem? (i := 17) rfl)
theorem dX2_wantedEdges_32 : decode cX2_wantedEdges 32 = .ok (.getfield 83, 3) := daX2_wantedEdges (32, .getfield 83, 3) (List.mem_of_getElem? (i := 18) rfl)
theorem dX2_wantedEdges_35 : decode cX2_wantedEdges 35 = .ok (.iload_n 1, 1) := daX2_wantedEdges (35, .iload_n 1, 1) (List.mem_of_getElem? (i := 19) rfl)
theorem dX2_wantedEdges_36 : decode cX2_wantedEdges 36 = .ok (.iconst 5, 1) := daX2_wantedEdges (36, .iconst 5, 1) (List.mem_of_getElem? (i := 20) rfl)
theorem dX2_wantedEdges_37 : decode cX2_wantedEdges 37 = .ok (.imul, 1) := daX2_wantedEdges (37, .imul, 1) (List.mem_of_getElem? (i := 21) rfl)
theorem dX2_wantedEdges_38 : decode cX2_wantedEdges 38 = .ok (.iload 4, 2) := daX2_wantedEdges (38, .iload 4, 2) (List.mem_of_getElem? (i := 22) rfl)
theorem dX2_wantedEdges_40 : decode cX2_wantedEdges 40 = .ok (.iadd, 1) := daX2_wantedEdges (40, .iadd, 1) (List.mem_of_getElem? (i := 23) rfl)
theorem dX2_wantedEdges_41 : decode cX2_wantedEdges 41 = .ok (.iaload, 1) := daX2_wantedEdges (41, .iaload, 1) (List.mem_of_getElem? (i := 24) rfl)
theorem dX2_wantedEdges_42 : decode cX2_wantedEdges 42 = .ok (.ishr, 1) := daX2_wantedEdges (42, .ishr, 1) (List.mem_of_getElem? (i := 25) rfl)
theorem dX2_wantedEdges_43 : decode cX2_wantedEdges 43 = .ok (.iconst 1, 1) := daX2_wantedEdges (43, .iconst 1, 1) (List.mem_of_getElem? (i := 26) rfl)
theorem dX2_wantedEdges_44 : decode cX2_wantedEdges 44 = .ok (.iand, 1) := daX2_wantedEdges (44, .iand, 1) (List.mem_of_getElem? (i := 27) rfl)
theorem dX2_wantedEdges_45 : decode cX2_wantedEdges 45 = .ok (.ifCond .eq 10, 3) := daX2_wantedEdges (45, .ifCond .eq 10, 3) (List.mem_of_getElem? (i := 28) rfl)
theorem dX2_wantedEdges_48 : decode cX2_wantedEdges 48 = .ok (.iload_n 3, 1) := daX2_wantedEdges (48, .iload_n 3, 1) (List.mem_of_getElem? (i := 29) rfl)
theorem dX2_wantedEdges_49 : decode cX2_wantedEdges 49 = .ok (.iconst 1, 1) := daX2_wantedEdges (49, .iconst 1, 1) (List.mem_of_getElem? (i := 30) rfl)
theorem dX2_wantedEdges_50 : decode cX2_wantedEdges 50 = .ok (.iload 4, 2) := daX2_wantedEdges (50, .iload 4, 2) (List.mem_of_getElem? (i := 31) rfl)
theorem dX2_wantedEdges_52 : decode cX2_wantedEdges 52 = .ok (.ishl, 1) := daX2_wantedEdges (52, .ishl, 1) (List.mem_of_getElem? (i := 32) rfl)
theorem dX2_wantedEdges_53 : decode cX2_wantedEdges 53 = .ok (.ior, 1) := daX2_wantedEdges (53, .ior, 1) (List.mem_of_getElem? (i := 33) rfl)
theorem dX2_wantedEdges_54 : decode cX2_wantedEdges 54 = .ok (.istore_n 3, 1) := daX2_wantedEdges (54, .istore_n 3, 1) (List.mem_of_getElem? (i := 34) rfl)
theorem dX2_wantedEdges_55 : decode cX2_wantedEdges 55 = .ok (.iinc 4 1, 3) := daX2_wantedEdges (55, .iinc 4 1, 3) (List.mem_of_getElem? (i := 35) rfl)
theorem dX2_wantedEdges_58 : decode cX2_wantedEdges 58 = .ok (.goto (-53), 3) := daX2_wantedEdges (58, .goto (-53), 3) (List.mem_of_getElem? (i := 36) rfl)
theorem dX2_wantedEdges_61 : decode cX2_wantedEdges 61 = .ok (.iload_n 3, 1) := daX2_wantedEdges (61, .iload_n 3, 1) (List.mem_of_getElem? (i := 37) rfl)
theorem dX2_wantedEdges_62 : decode cX2_wantedEdges 62 = .ok (.aload_n 0, 1) := daX2_wantedEdges (62, .aload_n 0, 1) (List.mem_of_getElem? (i := 38) rfl)
theorem dX2_wantedEdges_63 : decode cX2_wantedEdges 63 = .ok (.iload_n 1, 1) := daX2_wantedEdges (63, .iload_n 1, 1) (List.mem_of_getElem? (i := 39) rfl)
theorem dX2_wantedEdges_64 : decode cX2_wantedEdges 64 = .ok (.invokevirtual 86, 3) := daX2_wantedEdges (64, .invokevirtual 86, 3) (List.mem_of_getElem? (i := 40) rfl)
theorem dX2_wantedEdges_67 : decode cX2_wantedEdges 67 = .ok (.iand, 1) := daX2_wantedEdges (67, .iand, 1) (List.mem_of_getElem? (i := 41) rfl)
theorem dX2_wantedEdges_68 : decode cX2_wantedEdges 68 = .ok (.ireturn, 1) := daX2_wantedEdges (68, .ireturn, 1) (List.mem_of_getElem? (i := 42) rfl)
def rmX2_wantedEdges : Room := { frames := 1, cells := 0, slots := 0, locals := 22 }
theorem zdX2_wantedEdges : yX2_wantedEdges.cls = RX2 ∧ yX2_wantedEdges.cls ≠ "java/lang/invoke/MethodHandle" ∧ yX2_wantedEdges.cls ≠ "java/lang/invoke/VarHandle" ∧ (parseMethodDescriptor yX2_wantedEdges.desc).map (fun d => d.parameters.length) = some 2 := by decide +kernel
theorem kiX2_wantedEdges_X2 : ∀ w ∈ wsX20, w ∈ wsX2_wantedEdges := fun _ h => (List.mem_cons_of_mem _ (List.mem_append_left _ (List.mem_append_left _ (List.mem_append_right _ h))))
theorem kfX2_wantedEdges_24 : Cond.fieldLink RX2 24 "ShapeJudge$Judge" "graph" "LShapeJudge$Graph;" ∈ wsX2_wantedEdges := (List.mem_of_getElem? (i := 1) rfl)
theorem kiX2_wantedEdges_X1 : ∀ w ∈ wsX10, w ∈ wsX2_wantedEdges := fun _ h => (List.mem_cons_of_mem _ (List.mem_append_left _ (List.mem_append_right _ h)))
theorem kfX2_wantedEdges_71 : Cond.fieldLink RX2 71 "ShapeJudge$Graph" "degrees" "[I" ∈ wsX2_wantedEdges := (List.mem_of_getElem? (i := 2) rfl)
theorem kfX2_wantedEdges_28 : Cond.fieldLink RX2 28 "ShapeJudge$Judge" "book" "LShapeJudge$Book;" ∈ wsX2_wantedEdges := (List.mem_of_getElem? (i := 3) rfl)
theorem kiX2_wantedEdges_X0 : ∀ w ∈ wsX00, w ∈ wsX2_wantedEdges := fun _ h => (List.mem_cons_of_mem _ (List.mem_append_right _ h))
theorem kfX2_wantedEdges_80 : Cond.fieldLink RX2 80 "ShapeJudge$Book" "names" "[I" ∈ wsX2_wantedEdges := (List.mem_of_getElem? (i := 4) rfl)
theorem kfX2_wantedEdges_83 : Cond.fieldLink RX2 83 "ShapeJudge$Graph" "edgeName" "[I" ∈ wsX2_wantedEdges := (List.mem_of_getElem? (i := 5) rfl)
def t_X2_wantedEdges_5 (m : Mem) (a1 : Int32) (a2 : Int32) (i1 : Int32) (i2 : Int32) : Option ((Int32 × Int32) ⊕ (Int32)) :=
  ck (zin a1 10 = true) ((if (m 4 (Int32.toNatClampNeg a1)) ≤ i2 then (some (.inr i1)) else (zbk (m 39 1) fun b4 => ck (zin a2 6 = true) (ck (zin ((a1 * 5) + i2) 50 = true) ((if (((m (b4 + 4) (Int32.toNatClampNeg a2)) >>> ((m 5 (Int32.toNatClampNeg ((a1 * 5) + i2))) &&& 31)) &&& 1) = 0 then (bn (i2 + 1) fun x7 => some (.inl (i1, x7))) else (bn (i1 ||| ((1 : Int32) <<< (i2 &&& 31))) fun x8 => bn (i2 + 1) fun x9 => some (.inl (x8, x9)))))))))
def l_X2_wantedEdges_5 (m : Mem) (a1 : Int32) (a2 : Int32) (n : Nat) (i1 : Int32) (i2 : Int32) : Option (Int32) := zlp n (fun a => t_X2_wantedEdges_5 m a1 a2 a.1 a.2) (i1, i2)
def s_X2_wantedEdges (m : Mem) (a1 : Int32) (a2 : Int32) : Option (Int32) :=
  ((l_X2_wantedEdges_5 m a1 a2 FU 0 0).bind fun y12 => (s_X2_presentEdges m a1).bind fun r14 => some (y12 &&& r14))
set_option maxRecDepth 100000 in
set_option maxHeartbeats 4000000 in
theorem w_X2_wantedEdges_5 {K : ZK} (C : zOK MX K cX2_wantedEdges 5 (some .int) RX2 wsX2_wantedEdges rmX2_wantedEdges) {m : Mem} {a1 : Int32} {a2 : Int32}  {o0 : Int32} (hk : zGo MX K m [(0, .ref ((zw K).2.1 39)), (1, .int a1), (3, .int o0)] 61 []) : ∀ (n : Nat) (i1 : Int32) (i2 : Int32), l_X2_wantedEdges_5 m a1 a2 n i1 i2 = some o0 → zGo MX K m [(0, .ref ((zw K).2.1 39)), (1, .int a1), (2, .int a2), (3, .int i1), (4, .int i2)] 5 [] := by
  intro n
  induction n with
  | zero =>
    intro i1 i2 hf
    cases hf
  | succ n ih =>
    intro i1 i2 hf
    obtain ⟨z, hf, hz⟩ := zlp_el hf
    replace hf : t_X2_wantedEdges_5 m a1 a2 i1 i2 = some z := hf
    unfold t_X2_wantedEdges_5 at hf
    refine z_iload C 4 dX2_wantedEdges_5 rfl ?_
    refine z_aload_n C 0 dX2_wantedEdges_7 rfl rfl ?_
    refine z_getr C (t := 1) (Nat.le_of_ble_eq_true rfl) rfl rfl 0 (Nat.le_of_ble_eq_true rfl) rfl kiX2_wantedEdges_X2 kfX2_wantedEdges_24 dX2_wantedEdges_8 ?_
    refine z_getr C (t := 4) (Nat.le_of_ble_eq_true rfl) rfl rfl 4 (Nat.le_of_ble_eq_true rfl) rfl kiX2_wantedEdges_X1 kfX2_wantedEdges_71 dX2_wantedEdges_11 ?_
    refine z_iload_n C 1 dX2_wantedEdges_14 rfl rfl ?_
    obtain ⟨hi3, hf⟩ := ck_el hf
    refine z_iald C (k := 4) (Nat.le_of_ble_eq_true rfl) rfl hi3 dX2_wantedEdges_15 ?_
    refine z_icmp_ge (tgt := 61) C dX2_wantedEdges_16 (by decide) (fun c11 => ?_) (fun c11 => ?_)
    · replace hf := if_t c11 hf
      cases hf
      replace hz := zlz_r hz
      cases hz
      exact z_sub [0, 1, 3] rfl hk
    · replace hf := if_f c11 hf
      refine z_aload_n C 0 dX2_wantedEdges_19 rfl rfl ?_
      obtain ⟨b4, hb4, e_b4, hf⟩ := zbk_el hf
      refine z_getb C (b := b4) (Nat.le_of_ble_eq_true rfl) rfl rfl 1 (Nat.le_of_ble_eq_true rfl) rfl kiX2_wantedEdges_X2 kfX2_wantedEdges_28 (isb_lt hb4) e_b4 dX2_wantedEdges_20 ?_
      refine z_getr C (t := b4 + 4) (isb_k0 hb4) (isb_L0 hb4) rfl 6 (Nat.le_of_ble_eq_true rfl) rfl kiX2_wantedEdges_X0 kfX2_wantedEdges_80 dX2_wantedEdges_23 ?_
      refine z_iload_n C 2 dX2_wantedEdges_26 rfl rfl ?_
      obtain ⟨hi5, hf⟩ := ck_el hf
      refine z_iald C (k := (b4 + 4)) (isb_k4 hb4) (isb_L4 hb4) hi5 dX2_wantedEdges_27 ?_
      refine z_aload_n C 0 dX2_wantedEdges_28 rfl rfl ?_
      refine z_getr C (t := 1) (Nat.le_of_ble_eq_true rfl) rfl rfl 0 (Nat.le_of_ble_eq_true rfl) rfl kiX2_wantedEdges_X2 kfX2_wantedEdges_24 dX2_wantedEdges_29 ?_
      refine z_getr C (t := 5) (Nat.le_of_ble_eq_true rfl) rfl rfl 5 (Nat.le_of_ble_eq_true rfl) rfl kiX2_wantedEdges_X1 kfX2_wantedEdges_83 dX2_wantedEdges_32 ?_
      refine z_iload_n C 1 dX2_wantedEdges_35 rfl rfl ?_
      refine z_iconst C (v := 5) dX2_wantedEdges_36 rfl ?_
      refine z_imul C dX2_wantedEdges_37 ?_
      refine z_iload C 4 dX2_wantedEdges_38 rfl ?_
      refine z_iadd C dX2_wantedEdges_40 ?_
      obtain ⟨hi6, hf⟩ := ck_el hf
      refine z_iald C (k := 5) (Nat.le_of_ble_eq_true rfl) rfl hi6 dX2_wantedEdges_41 ?_
      refine z_ishr C dX2_wantedEdges_42 ?_
      refine z_iconst C (v := 1) dX2_wantedEdges_43 rfl ?_
      refine z_iand C dX2_wantedEdges_44 ?_
      refine z_if_eq (tgt := 55) C dX2_wantedEdges_45 (by decide) (fun c10 => ?_) (fun c10 => ?_)
      · replace hf := if_t c10 hf
        obtain ⟨x7, e_x7⟩ : ∃ y : Int32, y = i2 + 1 := ⟨_, rfl⟩
        replace hf := bn_to e_x7 hf
        refine z_iinc C (lv2 := [(0, .ref ((zw K).2.1 39)), (1, .int a1), (2, .int a2), (3, .int i1), (4, .int x7)]) 4 [1, 2, 3, 4, 0] dX2_wantedEdges_55 rfl rfl (Nat.le_of_ble_eq_true rfl) e_x7 rfl ?_
        refine z_goto (tgt := 5) C dX2_wantedEdges_58 (by decide) ?_
        cases hf
        exact z_sub [0, 1, 2, 3, 4] rfl (ih i1 x7 hz)
      · replace hf := if_f c10 hf
        refine z_iload_n C 3 dX2_wantedEdges_48 rfl rfl ?_
        refine z_iconst C (v := 1) dX2_wantedEdges_49 rfl ?_
        refine z_iload C 4 dX2_wantedEdges_50 rfl ?_
        refine z_ishl C dX2_wantedEdges_52 ?_
        refine z_ior C dX2_wantedEdges_53 ?_
        refine z_topi (fun x8 e_x8 => ?_)
        replace hf := bn_to e_x8 hf
        refine z_istore_n C (lv2 := [(0, .ref ((zw K).2.1 39)), (1, .int a1), (2, .int a2), (3, .int x8), (4, .int i2)]) [1, 2, 3, 0, 4] dX2_wantedEdges_54 rfl (Nat.le_of_ble_eq_true rfl) rfl ?_
        obtain ⟨x9, e_x9⟩ : ∃ y : Int32, y = i2 + 1 := ⟨_, rfl⟩
        replace hf := bn_to e_x9 hf
        refine z_iinc C (lv2 := [(0, .ref ((zw K).2.1 39)), (1, .int a1), (2, .int a2), (3, .int x8), (4, .int x9)]) 4 [1, 2, 3, 4, 0] dX2_wantedEdges_55 rfl rfl (Nat.le_of_ble_eq_true rfl) e_x9 rfl ?_
        refine z_goto (tgt := 5) C dX2_wantedEdges_58 (by decide) ?_
        cases hf
        exact z_sub [0, 1, 2, 3, 4] rfl (ih x8 x9 hz)
set_option maxRecDepth 100000 in
set_option maxHeartbeats 4000000 in
theorem c_X2_wantedEdges (l : Launch) (w : ZW) {m : Mem} {a1 : Int32} {a2 : Int32} {r9 : Int32}  (hf : s_X2_wantedEdges m a1 a2 = some r9) : zCi MX l w yX2_wantedEdges wsX2_wantedEdges rmX2_wantedEdges [.ref (w.2.1 39), .int a1, .int a2] m m r9 := by
  refine z_met_i MX_ok (own := RX2) (by decide +kernel) rfl rfl (Nat.le_of_ble_eq_true rfl) ?_
  intro K C hKw hKl hret
  subst hKw
  subst hKl
  unfold s_X2_wantedEdges at hf
  show zGo MX K m [(0, .ref ((zw K).2.1 39)), (1, .int a1), (2, .int a2)] 0 []
  refine z_iconst C (v := 0) dX2_wantedEdges_0 rfl ?_
  refine z_istore_n C (lv2 := [(0, .ref ((zw K).2.1 39)), (1, .int a1), (2, .int a2), (3, .int 0)]) [1, 2, 3, 0] dX2_wantedEdges_1 rfl (Nat.le_of_ble_eq_true rfl) rfl ?_
  refine z_iconst C (v := 0) dX2_wantedEdges_2 rfl ?_
  refine z_istore C (lv2 := [(0, .ref ((zw K).2.1 39)), (1, .int a1), (2, .int a2), (3, .int 0), (4, .int 0)]) [1, 2, 3, 4, 0] dX2_wantedEdges_3 (Nat.le_of_ble_eq_true rfl) rfl ?_
  obtain ⟨y12, hg, hf⟩ := zb_el hf
  refine z_sub [0, 1, 2, 3, 4] rfl (w_X2_wantedEdges_5 C  ?_ _ _ _ hg)
  clear hg
  refine z_iload_n C 2 dX2_wantedEdges_61 rfl rfl ?_
  refine z_aload_n C 0 dX2_wantedEdges_62 rfl rfl ?_
  refine z_iload_n C 1 dX2_wantedEdges_63 rfl rfl ?_
  obtain ⟨r14, hc13, hf⟩ := zb_el hf
  refine z_cVi C (c_X2_presentEdges _ _ hc13) rfl gX2_wantedEdges_X2_presentEdges rfl rfl zdX2_presentEdges rfl (Nat.le_of_ble_eq_true rfl) rfl rfl rfl ⟨Nat.le_of_ble_eq_true rfl, Nat.le_of_ble_eq_true rfl⟩ (Nat.le_of_ble_eq_true rfl) dX2_wantedEdges_64 rfl ?_
  refine z_iand C dX2_wantedEdges_67 ?_
  cases hf
  exact hret _ _ dX2_wantedEdges_68
set_option maxRecDepth 100000 in
theorem daX2_passes : ∀ q ∈ ([(0, .aload_n 0, 1), (1, .getfield 28, 3), (4, .getfield 129, 3), (7, .iload_n 2, 1), (8, .iaload, 1), (9, .istore 4, 2), (11, .aload_n 0, 1), (12, .getfield 28, 3), (15, .getfield 132, 3), (18, .iload_n 2, 1), (19, .iaload, 1), (20, .tableswitch 91 0 2 #[28, 30, 59], 28), (48, .iconst 1, 1), (49, .ireturn, 1), (50, .iload 4, 2), (52, .ifCond .lt 25, 3), (55, .iload 4, 2), (57, .bipush 6, 2), (59, .if_icmp .ge 18, 3), (62, .aload_n 3, 1), (63, .iload 4, 2), (65, .iaload, 1), (66, .iload_n 1, 1), (67, .ishr, 1), (68, .iconst 1, 1), (69, .iand, 1), (70, .ifCond .eq 7, 3), (73, .iconst 1, 1), (74, .goto 4, 3), (77, .iconst 0, 1), (78, .ireturn, 1), (79, .iload 4, 2), (81, .ifCond .lt 28, 3), (84, .iload 4, 2), (86, .bipush 6, 2), (88, .if_icmp .ge 21, 3), (91, .aload_n 0, 1), (92, .getfield 9, 3), (95, .iload 4, 2), (97, .iaload, 1), (98, .iload_n 1, 1), (99, .ishr, 1), (100, .iconst 1, 1), (101, .iand, 1), (102, .ifCond .ne 7, 3), (105, .iconst 1, 1), (106, .goto 4, 3), (109, .iconst 0, 1), (110, .ireturn, 1), (111, .aload_n 0, 1), (112, .getfield 24, 3), (115, .getfield 135, 3), (118, .iload_n 1, 1), (119, .baload, 1), (120, .ifCond .eq 42, 3), (123, .aload_n 0, 1), (124, .getfield 24, 3), (127, .getfield 138, 3), (130, .iload_n 1, 1), (131, .iaload, 1), (132, .iload 4, 2), (134, .if_icmp .lt 28, 3), (137, .aload_n 0, 1), (138, .getfield 24, 3), (141, .getfield 138, 3), (144, .iload_n 1, 1), (145, .iaload, 1), (146, .aload_n 0, 1), (147, .getfield 28, 3), (150, .getfield 141, 3), (153, .iload_n 2, 1), (154, .iaload, 1), (155, .if_icmp .gt 7, 3), (158, .iconst 1, 1), (159, .goto 4, 3), (162, .iconst 0, 1), (163, .ireturn, 1)] : List (Nat × Instr × Nat)), decode cX2_passes q.1 = .ok q.2 := by decide +kernel
theorem dX2_passes_0 : decode cX2_passes 0 = .ok (.aload_n 0, 1) := daX2_passes (0, .aload_n 0, 1) (List.mem_of_getElem? (i := 0) rfl)
theorem dX2_passes_1 : decode cX2_passes 1 = .ok (.getfield 28, 3) := daX2_passes (1, .getfield 28, 3) (List.mem_of_getElem? (i := 1) rfl)
theorem dX2_passes_4 : decode cX2_passes 4 = .ok (.getfield 129, 3) := daX2_passes (4, .getfield 129, 3) (List.mem_of_getElem? (i := 2) rfl)
theorem dX2_passes_7 : decode cX2_passes 7 = .ok (.iload_n 2, 1) := daX2_passes (7, .iload_n 2, 1) (List.mem_of_getElem? (i := 3) rfl)
theorem dX2_passes_8 : decode cX2_passes 8 = .ok (.iaload, 1) := daX2_passes (8, .iaload, 1) (List.mem_of_getElem? (i := 4) rfl)
theorem dX2_passes_9 : decode cX2_passes 9 = .ok (.istore 4, 2) := daX2_passes (9, .istore 4, 2) (List.mem_of_getElem? (i := 5) rfl)
theorem dX2_passes_11 : decode cX2_passes 11 = .ok (.aload_n 0, 1) := daX2_passes (11, .aload_n 0, 1) (List.mem_of_getElem? (i := 6) rfl)
theorem dX2_passes_12 : decode cX2_passes 12 = .ok (.getfield 28, 3) := daX2_passes (12, .getfield 28, 3) (List.mem_of_getElem? (i := 7) rfl)
theorem dX2_passes_15 : decode cX2_passes 15 = .ok (.getfield 132, 3) := daX2_passes (15, .getfield 132, 3) (List.mem_of_getElem? (i := 8) rfl)
theorem dX2_passes_18 : decode cX2_passes 18 = .ok (.iload_n 2, 1) := daX2_passes (18, .iload_n 2, 1) (List.mem_of_getElem? (i := 9) rfl)
theorem dX2_passes_19 : decode cX2_passes 19 = .ok (.iaload, 1) := daX2_passes (19, .iaload, 1) (List.mem_of_getElem? (i := 10) rfl)
theorem dX2_passes_20 : decode cX2_passes 20 = .ok (.tableswitch 91 0 2 #[28, 30, 59], 28) := daX2_passes (20, .tableswitch 91 0 2 #[28, 30, 59], 28) (List.mem_of_getElem? (i := 11) rfl)
theorem dX2_passes_48 : decode cX2_passes 48 = .ok (.iconst 1, 1) := daX2_passes (48, .iconst 1, 1) (List.mem_of_getElem? (i := 12) rfl)
theorem dX2_passes_49 : decode cX2_passes 49 = .ok (.ireturn, 1) := daX2_passes (49, .ireturn, 1) (List.mem_of_getElem? (i := 13) rfl)
theorem dX2_passes_50 : decode cX2_passes 50 = .ok (.iload 4, 2) := daX2_passes (50, .iload 4, 2) (List.mem_of_getElem? (i := 14) rfl)
theorem dX2_passes_52 : decode cX2_passes 52 = .ok (.ifCond .lt 25, 3) := daX2_passes (52, .ifCond .lt 25, 3) (List.mem_of_getElem? (i := 15) rfl)
theorem dX2_passes_55 : decode cX2_passes 55 = .ok (.iload 4, 2) := daX2_passes (55, .iload 4, 2) (List.mem_of_getElem? (i := 16) rfl)
theorem dX2_passes_57 : decode cX2_passes 57 = .ok (.bipush 6, 2) := daX2_passes (57, .bipush 6, 2) (List.mem_of_getElem? (i := 17) rfl)
theorem dX2_passes_59 : decode cX2_passes 59 = .ok (.if_icmp .ge 18, 3) := daX2_passes (59, .if_icmp .ge 18, 3) (List.mem_of_getElem? (i := 18) rfl)
theorem dX2_passes_62 : decode cX2_passes 62 = .ok (.aload_n 3, 1) := daX2_passes (62, .aload_n 3, 1) (List.mem_of_getElem? (i := 19) rfl)
theorem dX2_passes_63 : decode cX2_passes 63 = .ok (.iload 4, 2) := daX2_passes (63, .iload 4, 2) (List.mem_of_getElem? (i := 20) rfl)
theorem dX2_passes_65 : decode cX2_passes 65 = .ok (.iaload, 1) := daX2_passes (65, .iaload, 1) (List.mem_of_getElem? (i := 21) rfl)
theorem dX2_passes_66 : decode cX2_passes 66 = .ok (.iload_n 1, 1) := daX2_passes (66, .iload_n 1, 1) (List.mem_of_getElem? (i := 22) rfl)
theorem dX2_passes_67 : decode cX2_passes 67 = .ok (.ishr, 1) := daX2_passes (67, .ishr, 1) (List.mem_of_getElem? (i := 23) rfl)
theorem dX2_passes_68 : decode cX2_passes 68 = .ok (.iconst 1, 1) := daX2_passes (68, .iconst 1, 1) (List.mem_of_getElem? (i := 24) rfl)
theorem dX2_passes_69 : decode cX2_passes 69 = .ok (.iand, 1) := daX2_passes (69, .iand, 1) (List.mem_of_getElem? (i := 25) rfl)
theorem dX2_passes_70 : decode cX2_passes 70 = .ok (.ifCond .eq 7, 3) := daX2_passes (70, .ifCond .eq 7, 3) (List.mem_of_getElem? (i := 26) rfl)
theorem dX2_passes_73 : decode cX2_passes 73 = .ok (.iconst 1, 1) := daX2_passes (73, .iconst 1, 1) (List.mem_of_getElem? (i := 27) rfl)
theorem dX2_passes_74 : decode cX2_passes 74 = .ok (.goto 4, 3) := daX2_passes (74, .goto 4, 3) (List.mem_of_getElem? (i := 28) rfl)
theorem dX2_passes_77 : decode cX2_passes 77 = .ok (.iconst 0, 1) := daX2_passes (77, .iconst 0, 1) (List.mem_of_getElem? (i := 29) rfl)
theorem dX2_passes_78 : decode cX2_passes 78 = .ok (.ireturn, 1) := daX2_passes (78, .ireturn, 1) (List.mem_of_getElem? (i := 30) rfl)
theorem dX2_passes_79 : decode cX2_passes 79 = .ok (.iload 4, 2) := daX2_passes (79, .iload 4, 2) (List.mem_of_getElem? (i := 31) rfl)
theorem dX2_passes_81 : decode cX2_passes 81 = .ok (.ifCond .lt 28, 3) := daX2_passes (81, .ifCond .lt 28, 3) (List.mem_of_getElem? (i := 32) rfl)
theorem dX2_passes_84 : decode cX2_passes 84 = .ok (.iload 4, 2) := daX2_passes (84, .iload 4, 2) (List.mem_of_getElem? (i := 33) rfl)
theorem dX2_passes_86 : decode cX2_passes 86 = .ok (.bipush 6, 2) := daX2_passes (86, .bipush 6, 2) (List.mem_of_getElem? (i := 34) rfl)
theorem dX2_passes_88 : decode cX2_passes 88 = .ok (.if_icmp .ge 21, 3) := daX2_passes (88, .if_icmp .ge 21, 3) (List.mem_of_getElem? (i := 35) rfl)
theorem dX2_passes_91 : decode cX2_passes 91 = .ok (.aload_n 0, 1) := daX2_passes (91, .aload_n 0, 1) (List.mem_of_getElem? (i := 36) rfl)
theorem dX2_passes_92 : decode cX2_passes 92 = .ok (.getfield 9, 3) := daX2_passes (92, .getfield 9, 3) (List.mem_of_getElem? (i := 37) rfl)
theorem dX2_passes_95 : decode cX2_passes 95 = .ok (.iload 4, 2) := daX2_passes (95, .iload 4, 2) (List.mem_of_getElem? (i := 38) rfl)
theorem dX2_passes_97 : decode cX2_passes 97 = .ok (.iaload, 1) := daX2_passes (97, .iaload, 1) (List.mem_of_getElem? (i := 39) rfl)
theorem dX2_passes_98 : decode cX2_passes 98 = .ok (.iload_n 1, 1) := daX2_passes (98, .iload_n 1, 1) (List.mem_of_getElem? (i := 40) rfl)
theorem dX2_passes_99 : decode cX2_passes 99 = .ok (.ishr, 1) := daX2_passes (99, .ishr, 1) (List.mem_of_getElem? (i := 41) rfl)
theorem dX2_passes_100 : decode cX2_passes 100 = .ok (.iconst 1, 1) := daX2_passes (100, .iconst 1, 1) (List.mem_of_getElem? (i := 42) rfl)
theorem dX2_passes_101 : decode cX2_passes 101 = .ok (.iand, 1) := daX2_passes (101, .iand, 1) (List.mem_of_getElem? (i := 43) rfl)
theorem dX2_passes_102 : decode cX2_passes 102 = .ok (.ifCond .ne 7, 3) := daX2_passes (102, .ifCond .ne 7, 3) (List.mem_of_getElem? (i := 44) rfl)
theorem dX2_passes_105 : decode cX2_passes 105 = .ok (.iconst 1, 1) := daX2_passes (105, .iconst 1, 1) (List.mem_of_getElem? (i := 45) rfl)
theorem dX2_passes_106 : decode cX2_passes 106 = .ok (.goto 4, 3) := daX2_passes (106, .goto 4, 3) (List.mem_of_getElem? (i := 46) rfl)
theorem dX2_passes_109 : decode cX2_passes 109 = .ok (.iconst 0, 1) := daX2_passes (109, .iconst 0, 1) (List.mem_of_getElem? (i := 47) rfl)
theorem dX2_passes_110 : decode cX2_passes 110 = .ok (.ireturn, 1) := daX2_passes (110, .ireturn, 1) (List.mem_of_getElem? (i := 48) rfl)
theorem dX2_passes_111 : decode cX2_passes 111 = .ok (.aload_n 0, 1) := daX2_passes (111, .aload_n 0, 1) (List.mem_of_getElem? (i := 49) rfl)
theorem dX2_passes_112 : decode cX2_passes 112 = .ok (.getfield 24, 3) := daX2_passes (112, .getfield 24, 3) (List.mem_of_getElem? (i := 50) rfl)
theorem dX2_passes_115 : decode cX2_passes 115 = .ok (.getfield 135, 3) := daX2_passes (115, .getfield 135, 3) (List.mem_of_getElem? (i := 51) rfl)
theorem dX2_passes_118 : decode cX2_passes 118 = .ok (.iload_n 1, 1) := daX2_passes (118, .iload_n 1, 1) (List.mem_of_getElem? (i := 52) rfl)
theorem dX2_passes_119 : decode cX2_passes 119 = .ok (.baload, 1) := daX2_passes (119, .baload, 1) (List.mem_of_getElem? (i := 53) rfl)
theorem dX2_passes_120 : decode cX2_passes 120 = .ok (.ifCond .eq 42, 3) := daX2_passes (120, .ifCond .eq 42, 3) (List.mem_of_getElem? (i := 54) rfl)
theorem dX2_passes_123 : decode cX2_passes 123 = .ok (.aload_n 0, 1) := daX2_passes (123, .aload_n 0, 1) (List.mem_of_getElem? (i := 55) rfl)
theorem dX2_passes_124 : decode cX2_passes 124 = .ok (.getfield 24, 3) := daX2_passes (124, .getfield 24, 3) (List.mem_of_getElem? (i := 56) rfl)
theorem dX2_passes_127 : decode cX2_passes 127 = .ok (.getfield 138, 3) := daX2_passes (127, .getfield 138, 3) (List.mem_of_getElem? (i := 57) rfl)
theorem dX2_passes_130 : decode cX2_passes 130 = .ok (.iload_n 1, 1) := daX2_passes (130, .iload_n 1, 1) (List.mem_of_getElem? (i := 58) rfl)
theorem dX2_passes_131 : decode cX2_passes 131 = .ok (.iaload, 1) := daX2_passes (131, .iaload, 1) (List.mem_of_getElem? (i := 59) rfl)
theorem dX2_passes_132 : decode cX2_passes 132 = .ok (.iload 4, 2) := daX2_passes (132, .iload 4, 2) (List.mem_of_getElem? (i := 60) rfl)
theorem dX2_passes_134 : decode cX2_passes 134 = .ok (.if_icmp .lt 28, 3) := daX2_passes (134, .if_icmp .lt 28, 3) (List.mem_of_getElem? (i := 61) rfl)
theorem dX2_passes_137 : decode cX2_passes 137 = .ok (.aload_n 0, 1) := daX2_passes (137, .aload_n 0, 1) (List.mem_of_getElem? (i := 62) rfl)
theorem dX2_passes_138 : decode cX2_passes 138 = .ok (.getfield 24, 3) := daX2_passes (138, .getfield 24, 3) (List.mem_of_getElem? (i := 63) rfl)
theorem dX2_passes_141 : decode cX2_passes 141 = .ok (.getfield 138, 3) := daX2_passes (141, .getfield 138, 3) (List.mem_of_getElem? (i := 64) rfl)
theorem dX2_passes_144 : decode cX2_passes 144 = .ok (.iload_n 1, 1) := daX2_passes (144, .iload_n 1, 1) (List.mem_of_getElem? (i := 65) rfl)
theorem dX2_passes_145 : decode cX2_passes 145 = .ok (.iaload, 1) := daX2_passes (145, .iaload, 1) (List.mem_of_getElem? (i := 66) rfl)
theorem dX2_passes_146 : decode cX2_passes 146 = .ok (.aload_n 0, 1) := daX2_passes (146, .aload_n 0, 1) (List.mem_of_getElem? (i := 67) rfl)
theorem dX2_passes_147 : decode cX2_passes 147 = .ok (.getfield 28, 3) := daX2_passes (147, .getfield 28, 3) (List.mem_of_getElem? (i := 68) rfl)
theorem dX2_passes_150 : decode cX2_passes 150 = .ok (.getfield 141, 3) := daX2_passes (150, .getfield 141, 3) (List.mem_of_getElem? (i := 69) rfl)
theorem dX2_passes_153 : decode cX2_passes 153 = .ok (.iload_n 2, 1) := daX2_passes (153, .iload_n 2, 1) (List.mem_of_getElem? (i := 70) rfl)
theorem dX2_passes_154 : decode cX2_passes 154 = .ok (.iaload, 1) := daX2_passes (154, .iaload, 1) (List.mem_of_getElem? (i := 71) rfl)
theorem dX2_passes_155 : decode cX2_passes 155 = .ok (.if_icmp .gt 7, 3) := daX2_passes (155, .if_icmp .gt 7, 3) (List.mem_of_getElem? (i := 72) rfl)
theorem dX2_passes_158 : decode cX2_passes 158 = .ok (.iconst 1, 1) := daX2_passes (158, .iconst 1, 1) (List.mem_of_getElem? (i := 73) rfl)
theorem dX2_passes_159 : decode cX2_passes 159 = .ok (.goto 4, 3) := daX2_passes (159, .goto 4, 3) (List.mem_of_getElem? (i := 74) rfl)
theorem dX2_passes_162 : decode cX2_passes 162 = .ok (.iconst 0, 1) := daX2_passes (162, .iconst 0, 1) (List.mem_of_getElem? (i := 75) rfl)
theorem dX2_passes_163 : decode cX2_passes 163 = .ok (.ireturn, 1) := daX2_passes (163, .ireturn, 1) (List.mem_of_getElem? (i := 76) rfl)
def rmX2_passes : Room := { frames := 0, cells := 0, slots := 0, locals := 0 }
theorem zdX2_passes : yX2_passes.cls = RX2 ∧ yX2_passes.cls ≠ "java/lang/invoke/MethodHandle" ∧ yX2_passes.cls ≠ "java/lang/invoke/VarHandle" ∧ (parseMethodDescriptor yX2_passes.desc).map (fun d => d.parameters.length) = some 3 := by decide +kernel
theorem kiX2_passes_X2 : ∀ w ∈ wsX20, w ∈ wsX2_passes := fun _ h => (List.mem_cons_of_mem _ (List.mem_append_left _ (List.mem_append_left _ (List.mem_append_right _ h))))
theorem kfX2_passes_28 : Cond.fieldLink RX2 28 "ShapeJudge$Judge" "book" "LShapeJudge$Book;" ∈ wsX2_passes := (List.mem_of_getElem? (i := 1) rfl)
theorem kiX2_passes_X0 : ∀ w ∈ wsX00, w ∈ wsX2_passes := fun _ h => (List.mem_cons_of_mem _ (List.mem_append_left _ (List.mem_append_right _ h)))
theorem kfX2_passes_129 : Cond.fieldLink RX2 129 "ShapeJudge$Book" "partFirst" "[I" ∈ wsX2_passes := (List.mem_of_getElem? (i := 2) rfl)
theorem kfX2_passes_132 : Cond.fieldLink RX2 132 "ShapeJudge$Book" "partTest" "[I" ∈ wsX2_passes := (List.mem_of_getElem? (i := 3) rfl)
theorem kfX2_passes_9 : Cond.fieldLink RX2 9 "ShapeJudge$Judge" "fitting" "[I" ∈ wsX2_passes := (List.mem_of_getElem? (i := 4) rfl)
theorem kfX2_passes_24 : Cond.fieldLink RX2 24 "ShapeJudge$Judge" "graph" "LShapeJudge$Graph;" ∈ wsX2_passes := (List.mem_of_getElem? (i := 5) rfl)
theorem kiX2_passes_X1 : ∀ w ∈ wsX10, w ∈ wsX2_passes := fun _ h => (List.mem_cons_of_mem _ (List.mem_append_right _ h))
theorem kfX2_passes_135 : Cond.fieldLink RX2 135 "ShapeJudge$Graph" "valued" "[Z" ∈ wsX2_passes := (List.mem_of_getElem? (i := 6) rfl)
theorem kfX2_passes_138 : Cond.fieldLink RX2 138 "ShapeJudge$Graph" "values" "[I" ∈ wsX2_passes := (List.mem_of_getElem? (i := 7) rfl)
theorem kfX2_passes_141 : Cond.fieldLink RX2 141 "ShapeJudge$Book" "partSecond" "[I" ∈ wsX2_passes := (List.mem_of_getElem? (i := 8) rfl)
def s_X2_passes (m : Mem) (a1 : Int32) (a2 : Int32) (tr3 : Nat) : Option (Int32) :=
  zbk (m 39 1) fun b1 => ck (zin a2 36 = true) (bn (m (b1 + 11) (Int32.toNatClampNeg a2)) fun x3 => zbk (m 39 1) fun b4 => ck (zin a2 36 = true) ((if (m (b4 + 10) (Int32.toNatClampNeg a2)) = 0 then (some 1) else ((if (m (b4 + 10) (Int32.toNatClampNeg a2)) = 1 then ((if x3 < 0 then (some 0) else ((if 6 ≤ x3 then (some 0) else (ck (zin x3 6 = true) ((if (((m tr3 (Int32.toNatClampNeg x3)) >>> (a1 &&& 31)) &&& 1) = 0 then (some 0) else (some 1)))))))) else ((if (m (b4 + 10) (Int32.toNatClampNeg a2)) = 2 then ((if x3 < 0 then (some 0) else ((if 6 ≤ x3 then (some 0) else (ck (zin x3 6 = true) ((if (((m 40 (Int32.toNatClampNeg x3)) >>> (a1 &&& 31)) &&& 1) = 0 then (some 1) else (some 0)))))))) else (ck (zin a1 10 = true) ((if (m 2 (Int32.toNatClampNeg a1)) = 0 then (some 0) else (ck (zin a1 10 = true) ((if (m 3 (Int32.toNatClampNeg a1)) < x3 then (some 0) else (ck (zin a1 10 = true) (zbk (m 39 1) fun b20 => ck (zin a2 36 = true) ((if (m (b20 + 12) (Int32.toNatClampNeg a2)) < (m 3 (Int32.toNatClampNeg a1)) then (some 0) else (some 1))))))))))))))))))
set_option maxRecDepth 100000 in
set_option maxHeartbeats 4000000 in
theorem c_X2_passes (l : Launch) (w : ZW) {m : Mem} {a1 : Int32} {a2 : Int32} {tr3 : Nat} {r9 : Int32} (htr3 : istr tr3) (hf : s_X2_passes m a1 a2 tr3 = some r9) : zCi MX l w yX2_passes wsX2_passes rmX2_passes [.ref (w.2.1 39), .int a1, .int a2, .ref (w.2.1 tr3)] m m r9 := by
  refine z_met_z MX_ok (own := RX2) (by decide +kernel) rfl rfl (Nat.le_of_ble_eq_true rfl) ?_
  intro K C hKw hKl hret
  subst hKw
  subst hKl
  unfold s_X2_passes at hf
  show zGo MX K m [(0, .ref ((zw K).2.1 39)), (1, .int a1), (2, .int a2), (3, .ref ((zw K).2.1 tr3))] 0 []
  refine z_aload_n C 0 dX2_passes_0 rfl rfl ?_
  obtain ⟨b1, hb1, e_b1, hf⟩ := zbk_el hf
  refine z_getb C (b := b1) (Nat.le_of_ble_eq_true rfl) rfl rfl 1 (Nat.le_of_ble_eq_true rfl) rfl kiX2_passes_X2 kfX2_passes_28 (isb_lt hb1) e_b1 dX2_passes_1 ?_
  refine z_getr C (t := b1 + 11) (isb_k0 hb1) (isb_L0 hb1) rfl 13 (Nat.le_of_ble_eq_true rfl) rfl kiX2_passes_X0 kfX2_passes_129 dX2_passes_4 ?_
  refine z_iload_n C 2 dX2_passes_7 rfl rfl ?_
  obtain ⟨hi2, hf⟩ := ck_el hf
  refine z_iald C (k := (b1 + 11)) (isb_k11 hb1) (isb_L11 hb1) hi2 dX2_passes_8 ?_
  refine z_topi (fun x3 e_x3 => ?_)
  replace hf := bn_to e_x3 hf
  refine z_istore C (lv2 := [(0, .ref ((zw K).2.1 39)), (1, .int a1), (2, .int a2), (3, .ref ((zw K).2.1 tr3)), (4, .int x3)]) [1, 2, 3, 4, 0] dX2_passes_9 (Nat.le_of_ble_eq_true rfl) rfl ?_
  refine z_aload_n C 0 dX2_passes_11 rfl rfl ?_
  obtain ⟨b4, hb4, e_b4, hf⟩ := zbk_el hf
  refine z_getb C (b := b4) (Nat.le_of_ble_eq_true rfl) rfl rfl 1 (Nat.le_of_ble_eq_true rfl) rfl kiX2_passes_X2 kfX2_passes_28 (isb_lt hb4) e_b4 dX2_passes_12 ?_
  refine z_getr C (t := b4 + 10) (isb_k0 hb4) (isb_L0 hb4) rfl 12 (Nat.le_of_ble_eq_true rfl) rfl kiX2_passes_X0 kfX2_passes_132 dX2_passes_15 ?_
  refine z_iload_n C 2 dX2_passes_18 rfl rfl ?_
  obtain ⟨hi5, hf⟩ := ck_el hf
  refine z_iald C (k := (b4 + 10)) (isb_k10 hb4) (isb_L10 hb4) hi5 dX2_passes_19 ?_
  refine zby (c := (m (b4 + 10) (Int32.toNatClampNeg a2)) = 0) (fun c6 => ?_) (fun c6 => ?_)
  · replace hf := if_t c6 hf
    refine z_tab (v := 0) (tgt := 48) (off := 28) C c6 dX2_passes_20 (by decide) (by decide) rfl (by decide) ?_
    refine z_iconst C (v := 1) dX2_passes_48 rfl ?_
    cases hf
    exact hret _ _ dX2_passes_49 (Or.inr rfl)
  · replace hf := if_f c6 hf
    refine zby (c := (m (b4 + 10) (Int32.toNatClampNeg a2)) = 1) (fun c7 => ?_) (fun c7 => ?_)
    · replace hf := if_t c7 hf
      refine z_tab (v := 1) (tgt := 50) (off := 30) C c7 dX2_passes_20 (by decide) (by decide) rfl (by decide) ?_
      refine z_iload C 4 dX2_passes_50 rfl ?_
      refine z_if_lt (tgt := 77) C dX2_passes_52 (by decide) (fun c11 => ?_) (fun c11 => ?_)
      · replace hf := if_t c11 hf
        refine z_iconst C (v := 0) dX2_passes_77 rfl ?_
        cases hf
        exact hret _ _ dX2_passes_78 (Or.inl rfl)
      · replace hf := if_f c11 hf
        refine z_iload C 4 dX2_passes_55 rfl ?_
        refine z_bipush C (v := 6) dX2_passes_57 rfl ?_
        refine z_icmp_ge (tgt := 77) C dX2_passes_59 (by decide) (fun c10 => ?_) (fun c10 => ?_)
        · replace hf := if_t c10 hf
          refine z_iconst C (v := 0) dX2_passes_77 rfl ?_
          cases hf
          exact hret _ _ dX2_passes_78 (Or.inl rfl)
        · replace hf := if_f c10 hf
          refine z_aload_n C 3 dX2_passes_62 rfl rfl ?_
          refine z_iload C 4 dX2_passes_63 rfl ?_
          obtain ⟨hi8, hf⟩ := ck_el hf
          refine z_iald C (k := tr3) (istr_k htr3) (istr_L htr3) hi8 dX2_passes_65 ?_
          refine z_iload_n C 1 dX2_passes_66 rfl rfl ?_
          refine z_ishr C dX2_passes_67 ?_
          refine z_iconst C (v := 1) dX2_passes_68 rfl ?_
          refine z_iand C dX2_passes_69 ?_
          refine z_if_eq (tgt := 77) C dX2_passes_70 (by decide) (fun c9 => ?_) (fun c9 => ?_)
          · replace hf := if_t c9 hf
            refine z_iconst C (v := 0) dX2_passes_77 rfl ?_
            cases hf
            exact hret _ _ dX2_passes_78 (Or.inl rfl)
          · replace hf := if_f c9 hf
            refine z_iconst C (v := 1) dX2_passes_73 rfl ?_
            refine z_goto (tgt := 78) C dX2_passes_74 (by decide) ?_
            cases hf
            exact hret _ _ dX2_passes_78 (Or.inr rfl)
    · replace hf := if_f c7 hf
      refine zby (c := (m (b4 + 10) (Int32.toNatClampNeg a2)) = 2) (fun c12 => ?_) (fun c12 => ?_)
      · replace hf := if_t c12 hf
        refine z_tab (v := 2) (tgt := 79) (off := 59) C c12 dX2_passes_20 (by decide) (by decide) rfl (by decide) ?_
        refine z_iload C 4 dX2_passes_79 rfl ?_
        refine z_if_lt (tgt := 109) C dX2_passes_81 (by decide) (fun c16 => ?_) (fun c16 => ?_)
        · replace hf := if_t c16 hf
          refine z_iconst C (v := 0) dX2_passes_109 rfl ?_
          cases hf
          exact hret _ _ dX2_passes_110 (Or.inl rfl)
        · replace hf := if_f c16 hf
          refine z_iload C 4 dX2_passes_84 rfl ?_
          refine z_bipush C (v := 6) dX2_passes_86 rfl ?_
          refine z_icmp_ge (tgt := 109) C dX2_passes_88 (by decide) (fun c15 => ?_) (fun c15 => ?_)
          · replace hf := if_t c15 hf
            refine z_iconst C (v := 0) dX2_passes_109 rfl ?_
            cases hf
            exact hret _ _ dX2_passes_110 (Or.inl rfl)
          · replace hf := if_f c15 hf
            refine z_aload_n C 0 dX2_passes_91 rfl rfl ?_
            refine z_getr C (t := 40) (Nat.le_of_ble_eq_true rfl) rfl rfl 2 (Nat.le_of_ble_eq_true rfl) rfl kiX2_passes_X2 kfX2_passes_9 dX2_passes_92 ?_
            refine z_iload C 4 dX2_passes_95 rfl ?_
            obtain ⟨hi13, hf⟩ := ck_el hf
            refine z_iald C (k := 40) (Nat.le_of_ble_eq_true rfl) rfl hi13 dX2_passes_97 ?_
            refine z_iload_n C 1 dX2_passes_98 rfl rfl ?_
            refine z_ishr C dX2_passes_99 ?_
            refine z_iconst C (v := 1) dX2_passes_100 rfl ?_
            refine z_iand C dX2_passes_101 ?_
            refine z_if_ne (tgt := 109) C dX2_passes_102 (by decide) (fun c14 => ?_) (fun c14 => ?_)
            · replace hf := if_f c14 hf
              refine z_iconst C (v := 0) dX2_passes_109 rfl ?_
              cases hf
              exact hret _ _ dX2_passes_110 (Or.inl rfl)
            · replace hf := if_t c14 hf
              refine z_iconst C (v := 1) dX2_passes_105 rfl ?_
              refine z_goto (tgt := 110) C dX2_passes_106 (by decide) ?_
              cases hf
              exact hret _ _ dX2_passes_110 (Or.inr rfl)
      · replace hf := if_f c12 hf
        refine z_tabd (tgt := 111) C dX2_passes_20 (ztab_out (n := 3) (Nat.le_of_ble_eq_true rfl) (lt_s (lt_s (lt_s lt_0 c6) c7) c12)) (by decide) ?_
        refine z_aload_n C 0 dX2_passes_111 rfl rfl ?_
        refine z_getr C (t := 1) (Nat.le_of_ble_eq_true rfl) rfl rfl 0 (Nat.le_of_ble_eq_true rfl) rfl kiX2_passes_X2 kfX2_passes_24 dX2_passes_112 ?_
        refine z_getr C (t := 2) (Nat.le_of_ble_eq_true rfl) rfl rfl 2 (Nat.le_of_ble_eq_true rfl) rfl kiX2_passes_X1 kfX2_passes_135 dX2_passes_115 ?_
        refine z_iload_n C 1 dX2_passes_118 rfl rfl ?_
        obtain ⟨hi17, hf⟩ := ck_el hf
        refine z_zald C (k := 2) (Nat.le_of_ble_eq_true rfl) rfl hi17 dX2_passes_119 ?_
        refine z_if_eq (tgt := 162) C dX2_passes_120 (by decide) (fun c24 => ?_) (fun c24 => ?_)
        · replace hf := if_t c24 hf
          refine z_iconst C (v := 0) dX2_passes_162 rfl ?_
          cases hf
          exact hret _ _ dX2_passes_163 (Or.inl rfl)
        · replace hf := if_f c24 hf
          refine z_aload_n C 0 dX2_passes_123 rfl rfl ?_
          refine z_getr C (t := 1) (Nat.le_of_ble_eq_true rfl) rfl rfl 0 (Nat.le_of_ble_eq_true rfl) rfl kiX2_passes_X2 kfX2_passes_24 dX2_passes_124 ?_
          refine z_getr C (t := 3) (Nat.le_of_ble_eq_true rfl) rfl rfl 3 (Nat.le_of_ble_eq_true rfl) rfl kiX2_passes_X1 kfX2_passes_138 dX2_passes_127 ?_
          refine z_iload_n C 1 dX2_passes_130 rfl rfl ?_
          obtain ⟨hi18, hf⟩ := ck_el hf
          refine z_iald C (k := 3) (Nat.le_of_ble_eq_true rfl) rfl hi18 dX2_passes_131 ?_
          refine z_iload C 4 dX2_passes_132 rfl ?_
          refine z_icmp_lt (tgt := 162) C dX2_passes_134 (by decide) (fun c23 => ?_) (fun c23 => ?_)
          · replace hf := if_t c23 hf
            refine z_iconst C (v := 0) dX2_passes_162 rfl ?_
            cases hf
            exact hret _ _ dX2_passes_163 (Or.inl rfl)
          · replace hf := if_f c23 hf
            refine z_aload_n C 0 dX2_passes_137 rfl rfl ?_
            refine z_getr C (t := 1) (Nat.le_of_ble_eq_true rfl) rfl rfl 0 (Nat.le_of_ble_eq_true rfl) rfl kiX2_passes_X2 kfX2_passes_24 dX2_passes_138 ?_
            refine z_getr C (t := 3) (Nat.le_of_ble_eq_true rfl) rfl rfl 3 (Nat.le_of_ble_eq_true rfl) rfl kiX2_passes_X1 kfX2_passes_138 dX2_passes_141 ?_
            refine z_iload_n C 1 dX2_passes_144 rfl rfl ?_
            obtain ⟨hi19, hf⟩ := ck_el hf
            refine z_iald C (k := 3) (Nat.le_of_ble_eq_true rfl) rfl hi19 dX2_passes_145 ?_
            refine z_aload_n C 0 dX2_passes_146 rfl rfl ?_
            obtain ⟨b20, hb20, e_b20, hf⟩ := zbk_el hf
            refine z_getb C (b := b20) (Nat.le_of_ble_eq_true rfl) rfl rfl 1 (Nat.le_of_ble_eq_true rfl) rfl kiX2_passes_X2 kfX2_passes_28 (isb_lt hb20) e_b20 dX2_passes_147 ?_
            refine z_getr C (t := b20 + 12) (isb_k0 hb20) (isb_L0 hb20) rfl 14 (Nat.le_of_ble_eq_true rfl) rfl kiX2_passes_X0 kfX2_passes_141 dX2_passes_150 ?_
            refine z_iload_n C 2 dX2_passes_153 rfl rfl ?_
            obtain ⟨hi21, hf⟩ := ck_el hf
            refine z_iald C (k := (b20 + 12)) (isb_k12 hb20) (isb_L12 hb20) hi21 dX2_passes_154 ?_
            refine z_icmp_gt (tgt := 162) C dX2_passes_155 (by decide) (fun c22 => ?_) (fun c22 => ?_)
            · replace hf := if_t c22 hf
              refine z_iconst C (v := 0) dX2_passes_162 rfl ?_
              cases hf
              exact hret _ _ dX2_passes_163 (Or.inl rfl)
            · replace hf := if_f c22 hf
              refine z_iconst C (v := 1) dX2_passes_158 rfl ?_
              refine z_goto (tgt := 163) C dX2_passes_159 (by decide) ?_
              cases hf
              exact hret _ _ dX2_passes_163 (Or.inr rfl)
set_option maxRecDepth 20000 in
theorem ggX2_setsTaken_X2_presentEdges : GoodIn wsX2_setsTaken wsX2_presentEdges := goodIn_sub (List.forall_mem_cons.mpr ⟨(List.mem_of_getElem? (i := 12) rfl), (List.forall_mem_append.mpr ⟨(List.forall_mem_append.mpr ⟨(List.forall_mem_cons.mpr ⟨(List.mem_of_getElem? (i := 1) rfl), (List.forall_mem_cons.mpr ⟨(List.mem_of_getElem? (i := 2) rfl), (List.forall_mem_cons.mpr ⟨(List.mem_of_getElem? (i := 13) rfl), (List.forall_mem_cons.mpr ⟨(List.mem_of_getElem? (i := 14) rfl), (fun _ h => absurd h List.not_mem_nil)⟩)⟩)⟩)⟩), (fun _ h => (List.mem_cons_of_mem _ (List.mem_append_left _ (List.mem_append_left _ (List.mem_append_right _ h)))))⟩), (fun _ h => (List.mem_cons_of_mem _ (List.mem_append_left _ (List.mem_append_right _ h))))⟩)⟩) (by decide +kernel)
set_option maxRecDepth 20000 in
theorem gX2_setsTaken_X2_presentEdges : GoodIn wsX2_setsTaken (wsV RX2 86 RX2 yX2_presentEdges wsX2_presentEdges) := goodIn_app (goodIn_sub (List.forall_mem_cons.mpr ⟨(List.mem_of_getElem? (i := 8) rfl), (List.forall_mem_cons.mpr ⟨(List.mem_of_getElem? (i := 9) rfl), (List.forall_mem_cons.mpr ⟨(List.mem_of_getElem? (i := 10) rfl), (List.forall_mem_cons.mpr ⟨(List.mem_of_getElem? (i := 11) rfl), (fun _ h => absurd h List.not_mem_nil)⟩)⟩)⟩)⟩) (by decide +kernel)) ggX2_setsTaken_X2_presentEdges
set_option maxRecDepth 20000 in
theorem ggX2_setsTaken_X2_passes : GoodIn wsX2_setsTaken wsX2_passes := goodIn_sub (List.forall_mem_cons.mpr ⟨(List.mem_of_getElem? (i := 18) rfl), (List.forall_mem_append.mpr ⟨(List.forall_mem_append.mpr ⟨(List.forall_mem_append.mpr ⟨(List.forall_mem_cons.mpr ⟨(List.mem_of_getElem? (i := 5) rfl), (List.forall_mem_cons.mpr ⟨(List.mem_of_getElem? (i := 19) rfl), (List.forall_mem_cons.mpr ⟨(List.mem_of_getElem? (i := 20) rfl), (List.forall_mem_cons.mpr ⟨(List.mem_of_getElem? (i := 21) rfl), (List.forall_mem_cons.mpr ⟨(List.mem_of_getElem? (i := 1) rfl), (List.forall_mem_cons.mpr ⟨(List.mem_of_getElem? (i := 22) rfl), (List.forall_mem_cons.mpr ⟨(List.mem_of_getElem? (i := 23) rfl), (List.forall_mem_cons.mpr ⟨(List.mem_of_getElem? (i := 24) rfl), (fun _ h => absurd h List.not_mem_nil)⟩)⟩)⟩)⟩)⟩)⟩)⟩)⟩), (fun _ h => (List.mem_cons_of_mem _ (List.mem_append_left _ (List.mem_append_left _ (List.mem_append_right _ h)))))⟩), (fun _ h => (List.mem_cons_of_mem _ (List.mem_append_right _ h)))⟩), (fun _ h => (List.mem_cons_of_mem _ (List.mem_append_left _ (List.mem_append_right _ h))))⟩)⟩) (by decide +kernel)
set_option maxRecDepth 20000 in
theorem gX2_setsTaken_X2_passes : GoodIn wsX2_setsTaken (wsV RX2 126 RX2 yX2_passes wsX2_passes) := goodIn_app (goodIn_sub (List.forall_mem_cons.mpr ⟨(List.mem_of_getElem? (i := 15) rfl), (List.forall_mem_cons.mpr ⟨(List.mem_of_getElem? (i := 16) rfl), (List.forall_mem_cons.mpr ⟨(List.mem_of_getElem? (i := 17) rfl), (List.forall_mem_cons.mpr ⟨(List.mem_of_getElem? (i := 11) rfl), (fun _ h => absurd h List.not_mem_nil)⟩)⟩)⟩)⟩) (by decide +kernel)) ggX2_setsTaken_X2_passes
set_option maxRecDepth 100000 in
theorem daX2_setsTaken : ∀ q ∈ ([(0, .aload_n 0, 1), (1, .iload_n 1, 1), (2, .invokevirtual 86, 3), (5, .istore 4, 2), (7, .iconst 1, 1), (8, .iload_n 2, 1), (9, .bipush 6, 2), (11, .irem, 1), (12, .ishl, 1), (13, .istore 5, 2), (15, .iconst 0, 1), (16, .istore 6, 2), (18, .iconst 0, 1), (19, .istore 7, 2), (21, .iload 7, 2), (23, .aload_n 0, 1), (24, .getfield 24, 3), (27, .getfield 71, 3), (30, .iload_n 1, 1), (31, .iaload, 1), (32, .if_icmp .ge 92, 3), (35, .iload_n 1, 1), (36, .iconst 5, 1), (37, .imul, 1), (38, .iload 7, 2), (40, .iadd, 1), (41, .istore 8, 2), (43, .iload 4, 2), (45, .iload 7, 2), (47, .ishr, 1), (48, .iconst 1, 1), (49, .iand, 1), (50, .ifCond .eq 68, 3), (53, .aload_n 0, 1), (54, .getfield 18, 3), (57, .iload 7, 2), (59, .iaload, 1), (60, .iload 5, 2), (62, .iand, 1), (63, .ifCond .eq 55, 3), (66, .aload_n 0, 1), (67, .getfield 24, 3), (70, .getfield 83, 3), (73, .iload 8, 2), (75, .iaload, 1), (76, .aload_n 0, 1), (77, .getfield 28, 3), (80, .getfield 120, 3), (83, .iload_n 2, 1), (84, .iaload, 1), (85, .if_icmp .ne 33, 3), (88, .aload_n 0, 1), (89, .aload_n 0, 1), (90, .getfield 24, 3), (93, .getfield 123, 3), (96, .iload 8, 2), (98, .iaload, 1), (99, .iload_n 2, 1), (100, .aload_n 3, 1), (101, .invokevirtual 126, 3), (104, .ifCond .eq 14, 3), (107, .iload 6, 2), (109, .iconst 1, 1), (110, .iconst 1, 1), (111, .iload 7, 2), (113, .ishl, 1), (114, .ishl, 1), (115, .ior, 1), (116, .istore 6, 2), (118, .iinc 7 1, 3), (121, .goto (-100), 3), (124, .iload 6, 2), (126, .ireturn, 1)] : List (Nat × Instr × Nat)), decode cX2_setsTaken q.1 = .ok q.2 := by decide +kernel
theorem dX2_setsTaken_0 : decode cX2_setsTaken 0 = .ok (.aload_n 0, 1) := daX2_setsTaken (0, .aload_n 0, 1) (List.mem_of_getElem? (i := 0) rfl)
theorem dX2_setsTaken_1 : decode cX2_setsTaken 1 = .ok (.iload_n 1, 1) := daX2_setsTaken (1, .iload_n 1, 1) (List.mem_of_getElem? (i := 1) rfl)
theorem dX2_setsTaken_2 : decode cX2_setsTaken 2 = .ok (.invokevirtual 86, 3) := daX2_setsTaken (2, .invokevirtual 86, 3) (List.mem_of_getElem? (i := 2) rfl)
theorem dX2_setsTaken_5 : decode cX2_setsTaken 5 = .ok (.istore 4, 2) := daX2_setsTaken (5, .istore 4, 2) (List.mem_of_getElem? (i := 3) rfl)
theorem dX2_setsTaken_7 : decode cX2_setsTaken 7 = .ok (.iconst 1, 1) := daX2_setsTaken (7, .iconst 1, 1) (List.mem_of_getElem? (i := 4) rfl)
theorem dX2_setsTaken_8 : decode cX2_setsTaken 8 = .ok (.iload_n 2, 1) := daX2_setsTaken (8, .iload_n 2, 1) (List.mem_of_getElem? (i := 5) rfl)
theorem dX2_setsTaken_9 : decode cX2_setsTaken 9 = .ok (.bipush 6, 2) := daX2_setsTaken (9, .bipush 6, 2) (List.mem_of_getElem? (i := 6) rfl)
theorem dX2_setsTaken_11 : decode cX2_setsTaken 11 = .ok (.irem, 1) := daX2_setsTaken (11, .irem, 1) (List.mem_of_getElem? (i := 7) rfl)
theorem dX2_setsTaken_12 : decode cX2_setsTaken 12 = .ok (.ishl, 1) := daX2_setsTaken (12, .ishl, 1) (List.mem_of_getElem? (i := 8) rfl)
theorem dX2_setsTaken_13 : decode cX2_setsTaken 13 = .ok (.istore 5, 2) := daX2_setsTaken (13, .istore 5, 2) (List.mem_of_getElem? (i := 9) rfl)
theorem dX2_setsTaken_15 : decode cX2_setsTaken 15 = .ok (.iconst 0, 1) := daX2_setsTaken (15, .iconst 0, 1) (List.mem_of_getElem? (i := 10) rfl)
theorem dX2_setsTaken_16 : decode cX2_setsTaken 16 = .ok (.istore 6, 2) := daX2_setsTaken (16, .istore 6, 2) (List.mem_of_getElem? (i := 11) rfl)
theorem dX2_setsTaken_18 : decode cX2_setsTaken 18 = .ok (.iconst 0, 1) := daX2_setsTaken (18, .iconst 0, 1) (List.mem_of_getElem? (i := 12) rfl)
theorem dX2_setsTaken_19 : decode cX2_setsTaken 19 = .ok (.istore 7, 2) := daX2_setsTaken (19, .istore 7, 2) (List.mem_of_getElem? (i := 13) rfl)
theorem dX2_setsTaken_21 : decode cX2_setsTaken 21 = .ok (.iload 7, 2) := daX2_setsTaken (21, .iload 7, 2) (List.mem_of_getElem? (i := 14) rfl)
theorem dX2_setsTaken_23 : decode cX2_setsTaken 23 = .ok (.aload_n 0, 1) := daX2_setsTaken (23, .aload_n 0, 1) (List.mem_of_getElem? (i := 15) rfl)
theorem dX2_setsTaken_24 : decode cX2_setsTaken 24 = .ok (.getfield 24, 3) := daX2_setsTaken (24, .getfield 24, 3) (List.mem_of_getElem? (i := 16) rfl)
theorem dX2_setsTaken_27 : decode cX2_setsTaken 27 = .ok (.getfield 71, 3) := daX2_setsTaken (27, .getfield 71, 3) (List.mem_of_getElem? (i := 17) rfl)
theorem dX2_setsTaken_30 : decode cX2_setsTaken 30 = .ok (.iload_n 1, 1) := daX2_setsTaken (30, .iload_n 1, 1) (List.mem_of_getElem? (i := 18) rfl)
theorem dX2_setsTaken_31 : decode cX2_setsTaken 31 = .ok (.iaload, 1) := daX2_setsTaken (31, .iaload, 1) (List.mem_of_getElem? (i := 19) rfl)
theorem dX2_setsTaken_32 : decode cX2_setsTaken 32 = .ok (.if_icmp .ge 92, 3) := daX2_setsTaken (32, .if_icmp .ge 92, 3) (List.mem_of_getElem? (i := 20) rfl)
theorem dX2_setsTaken_35 : decode cX2_setsTaken 35 = .ok (.iload_n 1, 1) := daX2_setsTaken (35, .iload_n 1, 1) (List.mem_of_getElem? (i := 21) rfl)
theorem dX2_setsTaken_36 : decode cX2_setsTaken 36 = .ok (.iconst 5, 1) := daX2_setsTaken (36, .iconst 5, 1) (List.mem_of_getElem? (i := 22) rfl)
theorem dX2_setsTaken_37 : decode cX2_setsTaken 37 = .ok (.imul, 1) := daX2_setsTaken (37, .imul, 1) (List.mem_of_getElem? (i := 23) rfl)
theorem dX2_setsTaken_38 : decode cX2_setsTaken 38 = .ok (.iload 7, 2) := daX2_setsTaken (38, .iload 7, 2) (List.mem_of_getElem? (i := 24) rfl)
theorem dX2_setsTaken_40 : decode cX2_setsTaken 40 = .ok (.iadd, 1) := daX2_setsTaken (40, .iadd, 1) (List.mem_of_getElem? (i := 25) rfl)
theorem dX2_setsTaken_41 : decode cX2_setsTaken 41 = .ok (.istore 8, 2) := daX2_setsTaken (41, .istore 8, 2) (List.mem_of_getElem? (i := 26) rfl)
theorem dX2_setsTaken_43 : decode cX2_setsTaken 43 = .ok (.iload 4, 2) := daX2_setsTaken (43, .iload 4, 2) (List.mem_of_getElem? (i := 27) rfl)
theorem dX2_setsTaken_45 : decode cX2_setsTaken 45 = .ok (.iload 7, 2) := daX2_setsTaken (45, .iload 7, 2) (List.mem_of_getElem? (i := 28) rfl)
theorem dX2_setsTaken_47 : decode cX2_setsTaken 47 = .ok (.ishr, 1) := daX2_setsTaken (47, .ishr, 1) (List.mem_of_getElem? (i := 29) rfl)
theorem dX2_setsTaken_48 : decode cX2_setsTaken 48 = .ok (.iconst 1, 1) := daX2_setsTaken (48, .iconst 1, 1) (List.mem_of_getElem? (i := 30) rfl)
theorem dX2_setsTaken_49 : decode cX2_setsTaken 49 = .ok (.iand, 1) := daX2_setsTaken (49, .iand, 1) (List.mem_of_getElem? (i := 31) rfl)
theorem dX2_setsTaken_50 : decode cX2_setsTaken 50 = .ok (.ifCond .eq 68, 3) := daX2_setsTaken (50, .ifCond .eq 68, 3) (List.mem_of_getElem? (i := 32) rfl)
theorem dX2_setsTaken_53 : decode cX2_setsTaken 53 = .ok (.aload_n 0, 1) := daX2_setsTaken (53, .aload_n 0, 1) (List.mem_of_getElem? (i := 33) rfl)
theorem dX2_setsTaken_54 : decode cX2_setsTaken 54 = .ok (.getfield 18, 3) := daX2_setsTaken (54, .getfield 18, 3) (List.mem_of_getElem? (i := 34) rfl)
theorem dX2_setsTaken_57 : decode cX2_setsTaken 57 = .ok (.iload 7, 2) := daX2_setsTaken (57, .iload 7, 2) (List.mem_of_getElem? (i := 35) rfl)
theorem dX2_setsTaken_59 : decode cX2_setsTaken 59 = .ok (.iaload, 1) := daX2_setsTaken (59, .iaload, 1) (List.mem_of_getElem? (i := 36) rfl)
theorem dX2_setsTaken_60 : decode cX2_setsTaken 60 = .ok (.iload 5, 2) := daX2_setsTaken (60, .iload 5, 2) (List.mem_of_getElem? (i := 37) rfl)
theorem dX2_setsTaken_62 : decode cX2_setsTaken 62 = .ok (.iand, 1) := daX2_setsTaken (62, .iand, 1) (List.mem_of_getElem? (i := 38) rfl)
theorem dX2_setsTaken_63 : decode cX2_setsTaken 63 = .ok (.ifCond .eq 55, 3) := daX2_setsTaken (63, .ifCond .eq 55, 3) (List.mem_of_getElem? (i := 39) rfl)
theorem dX2_setsTaken_66 : decode cX2_setsTaken 66 = .ok (.aload_n 0, 1) := daX2_setsTaken (66, .aload_n 0, 1) (List.mem_of_getElem? (i := 40) rfl)
theorem dX2_setsTaken_67 : decode cX2_setsTaken 67 = .ok (.getfield 24, 3) := daX2_setsTaken (67, .getfield 24, 3) (List.mem_of_getElem? (i := 41) rfl)
theorem dX2_setsTaken_70 : decode cX2_setsTaken 70 = .ok (.getfield 83, 3) := daX2_setsTaken (70, .getfield 83, 3) (List.mem_of_getElem? (i := 42) rfl)
theorem dX2_setsTaken_73 : decode cX2_setsTaken 73 = .ok (.iload 8, 2) := daX2_setsTaken (73, .iload 8, 2) (List.mem_of_getElem? (i := 43) rfl)
theorem dX2_setsTaken_75 : decode cX2_setsTaken 75 = .ok (.iaload, 1) := daX2_setsTaken (75, .iaload, 1) (List.mem_of_getElem? (i := 44) rfl)
theorem dX2_setsTaken_76 : decode cX2_setsTaken 76 = .ok (.aload_n 0, 1) := daX2_setsTaken (76, .aload_n 0, 1) (List.mem_of_getElem? (i := 45) rfl)
theorem dX2_setsTaken_77 : decode cX2_setsTaken 77 = .ok (.getfield 28, 3) := daX2_setsTaken (77, .getfield 28, 3) (List.mem_of_getElem? (i := 46) rfl)
theorem dX2_setsTaken_80 : decode cX2_setsTaken 80 = .ok (.getfield 120, 3) := daX2_setsTaken (80, .getfield 120, 3) (List.mem_of_getElem? (i := 47) rfl)
theorem dX2_setsTaken_83 : decode cX2_setsTaken 83 = .ok (.iload_n 2, 1) := daX2_setsTaken (83, .iload_n 2, 1) (List.mem_of_getElem? (i := 48) rfl)
theorem dX2_setsTaken_84 : decode cX2_setsTaken 84 = .ok (.iaload, 1) := daX2_setsTaken (84, .iaload, 1) (List.mem_of_getElem? (i := 49) rfl)
theorem dX2_setsTaken_85 : decode cX2_setsTaken 85 = .ok (.if_icmp .ne 33, 3) := daX2_setsTaken (85, .if_icmp .ne 33, 3) (List.mem_of_getElem? (i := 50) rfl)
theorem dX2_setsTaken_88 : decode cX2_setsTaken 88 = .ok (.aload_n 0, 1) := daX2_setsTaken (88, .aload_n 0, 1) (List.mem_of_getElem? (i := 51) rfl)
theorem dX2_setsTaken_89 : decode cX2_setsTaken 89 = .ok (.aload_n 0, 1) := daX2_setsTaken (89, .aload_n 0, 1) (List.mem_of_getElem? (i := 52) rfl)
theorem dX2_setsTaken_90 : decode cX2_setsTaken 90 = .ok (.getfield 24, 3) := daX2_setsTaken (90, .getfield 24, 3) (List.mem_of_getElem? (i := 53) rfl)
theorem dX2_setsTaken_93 : decode cX2_setsTaken 93 = .ok (.getfield 123, 3) := daX2_setsTaken (93, .getfield 123, 3) (List.mem_of_getElem? (i := 54) rfl)
theorem dX2_setsTaken_96 : decode cX2_setsTaken 96 = .ok (.iload 8, 2) := daX2_setsTaken (96, .iload 8, 2) (List.mem_of_getElem? (i := 55) rfl)
theorem dX2_setsTaken_98 : decode cX2_setsTaken 98 = .ok (.iaload, 1) := daX2_setsTaken (98, .iaload, 1) (List.mem_of_getElem? (i := 56) rfl)
theorem dX2_setsTaken_99 : decode cX2_setsTaken 99 = .ok (.iload_n 2, 1) := daX2_setsTaken (99, .iload_n 2, 1) (List.mem_of_getElem? (i := 57) rfl)
theorem dX2_setsTaken_100 : decode cX2_setsTaken 100 = .ok (.aload_n 3, 1) := daX2_setsTaken (100, .aload_n 3, 1) (List.mem_of_getElem? (i := 58) rfl)
theorem dX2_setsTaken_101 : decode cX2_setsTaken 101 = .ok (.invokevirtual 126, 3) := daX2_setsTaken (101, .invokevirtual 126, 3) (List.mem_of_getElem? (i := 59) rfl)
theorem dX2_setsTaken_104 : decode cX2_setsTaken 104 = .ok (.ifCond .eq 14, 3) := daX2_setsTaken (104, .ifCond .eq 14, 3) (List.mem_of_getElem? (i := 60) rfl)
theorem dX2_setsTaken_107 : decode cX2_setsTaken 107 = .ok (.iload 6, 2) := daX2_setsTaken (107, .iload 6, 2) (List.mem_of_getElem? (i := 61) rfl)
theorem dX2_setsTaken_109 : decode cX2_setsTaken 109 = .ok (.iconst 1, 1) := daX2_setsTaken (109, .iconst 1, 1) (List.mem_of_getElem? (i := 62) rfl)
theorem dX2_setsTaken_110 : decode cX2_setsTaken 110 = .ok (.iconst 1, 1) := daX2_setsTaken (110, .iconst 1, 1) (List.mem_of_getElem? (i := 63) rfl)
theorem dX2_setsTaken_111 : decode cX2_setsTaken 111 = .ok (.iload 7, 2) := daX2_setsTaken (111, .iload 7, 2) (List.mem_of_getElem? (i := 64) rfl)
theorem dX2_setsTaken_113 : decode cX2_setsTaken 113 = .ok (.ishl, 1) := daX2_setsTaken (113, .ishl, 1) (List.mem_of_getElem? (i := 65) rfl)
theorem dX2_setsTaken_114 : decode cX2_setsTaken 114 = .ok (.ishl, 1) := daX2_setsTaken (114, .ishl, 1) (List.mem_of_getElem? (i := 66) rfl)
theorem dX2_setsTaken_115 : decode cX2_setsTaken 115 = .ok (.ior, 1) := daX2_setsTaken (115, .ior, 1) (List.mem_of_getElem? (i := 67) rfl)
theorem dX2_setsTaken_116 : decode cX2_setsTaken 116 = .ok (.istore 6, 2) := daX2_setsTaken (116, .istore 6, 2) (List.mem_of_getElem? (i := 68) rfl)
theorem dX2_setsTaken_118 : decode cX2_setsTaken 118 = .ok (.iinc 7 1, 3) := daX2_setsTaken (118, .iinc 7 1, 3) (List.mem_of_getElem? (i := 69) rfl)
theorem dX2_setsTaken_121 : decode cX2_setsTaken 121 = .ok (.goto (-100), 3) := daX2_setsTaken (121, .goto (-100), 3) (List.mem_of_getElem? (i := 70) rfl)
theorem dX2_setsTaken_124 : decode cX2_setsTaken 124 = .ok (.iload 6, 2) := daX2_setsTaken (124, .iload 6, 2) (List.mem_of_getElem? (i := 71) rfl)
theorem dX2_setsTaken_126 : decode cX2_setsTaken 126 = .ok (.ireturn, 1) := daX2_setsTaken (126, .ireturn, 1) (List.mem_of_getElem? (i := 72) rfl)
def rmX2_setsTaken : Room := { frames := 1, cells := 0, slots := 0, locals := 24 }
theorem zdX2_setsTaken : yX2_setsTaken.cls = RX2 ∧ yX2_setsTaken.cls ≠ "java/lang/invoke/MethodHandle" ∧ yX2_setsTaken.cls ≠ "java/lang/invoke/VarHandle" ∧ (parseMethodDescriptor yX2_setsTaken.desc).map (fun d => d.parameters.length) = some 3 := by decide +kernel
theorem kiX2_setsTaken_X2 : ∀ w ∈ wsX20, w ∈ wsX2_setsTaken := fun _ h => (List.mem_cons_of_mem _ (List.mem_append_left _ (List.mem_append_left _ (List.mem_append_right _ h))))
theorem kfX2_setsTaken_24 : Cond.fieldLink RX2 24 "ShapeJudge$Judge" "graph" "LShapeJudge$Graph;" ∈ wsX2_setsTaken := (List.mem_of_getElem? (i := 1) rfl)
theorem kiX2_setsTaken_X1 : ∀ w ∈ wsX10, w ∈ wsX2_setsTaken := fun _ h => (List.mem_cons_of_mem _ (List.mem_append_left _ (List.mem_append_right _ h)))
theorem kfX2_setsTaken_71 : Cond.fieldLink RX2 71 "ShapeJudge$Graph" "degrees" "[I" ∈ wsX2_setsTaken := (List.mem_of_getElem? (i := 2) rfl)
theorem kfX2_setsTaken_18 : Cond.fieldLink RX2 18 "ShapeJudge$Judge" "allowed" "[I" ∈ wsX2_setsTaken := (List.mem_of_getElem? (i := 3) rfl)
theorem kfX2_setsTaken_83 : Cond.fieldLink RX2 83 "ShapeJudge$Graph" "edgeName" "[I" ∈ wsX2_setsTaken := (List.mem_of_getElem? (i := 4) rfl)
theorem kfX2_setsTaken_28 : Cond.fieldLink RX2 28 "ShapeJudge$Judge" "book" "LShapeJudge$Book;" ∈ wsX2_setsTaken := (List.mem_of_getElem? (i := 5) rfl)
theorem kiX2_setsTaken_X0 : ∀ w ∈ wsX00, w ∈ wsX2_setsTaken := fun _ h => (List.mem_cons_of_mem _ (List.mem_append_right _ h))
theorem kfX2_setsTaken_120 : Cond.fieldLink RX2 120 "ShapeJudge$Book" "partName" "[I" ∈ wsX2_setsTaken := (List.mem_of_getElem? (i := 6) rfl)
theorem kfX2_setsTaken_123 : Cond.fieldLink RX2 123 "ShapeJudge$Graph" "edgeTo" "[I" ∈ wsX2_setsTaken := (List.mem_of_getElem? (i := 7) rfl)
def t_X2_setsTaken_21 (m : Mem) (a1 : Int32) (a2 : Int32) (tr3 : Nat) (r2 : Int32) (x3 : Int32) (i4 : Int32) (i5 : Int32) : Option ((Int32 × Int32) ⊕ (Int32)) :=
  ck (zin a1 10 = true) ((if (m 4 (Int32.toNatClampNeg a1)) ≤ i5 then (some (.inr i4)) else (bn ((a1 * 5) + i5) fun x7 => (if ((r2 >>> (i5 &&& 31)) &&& 1) = 0 then (bn (i5 + 1) fun x8 => some (.inl (i4, x8))) else (ck (zin i5 5 = true) ((if ((m 42 (Int32.toNatClampNeg i5)) &&& x3) = 0 then (bn (i5 + 1) fun x10 => some (.inl (i4, x10))) else (ck (zin x7 50 = true) (zbk (m 39 1) fun b12 => ck (zin a2 36 = true) ((if (m 5 (Int32.toNatClampNeg x7)) = (m (b12 + 9) (Int32.toNatClampNeg a2)) then (ck (zin x7 50 = true) ((s_X2_passes m (m 6 (Int32.toNatClampNeg x7)) a2 tr3).bind fun r17 => (if r17 = 0 then (bn (i5 + 1) fun x18 => some (.inl (i4, x18))) else (bn (i4 ||| ((1 : Int32) <<< (((1 : Int32) <<< (i5 &&& 31)) &&& 31))) fun x19 => bn (i5 + 1) fun x20 => some (.inl (x19, x20)))))) else (bn (i5 + 1) fun x14 => some (.inl (i4, x14))))))))))))))
def l_X2_setsTaken_21 (m : Mem) (a1 : Int32) (a2 : Int32) (tr3 : Nat) (r2 : Int32) (x3 : Int32) (n : Nat) (i4 : Int32) (i5 : Int32) : Option (Int32) := zlp n (fun a => t_X2_setsTaken_21 m a1 a2 tr3 r2 x3 a.1 a.2) (i4, i5)
def s_X2_setsTaken (m : Mem) (a1 : Int32) (a2 : Int32) (tr3 : Nat) : Option (Int32) :=
  (s_X2_presentEdges m a1).bind fun r2 => bn ((1 : Int32) <<< ((a2 - a2 / 6 * 6) &&& 31)) fun x3 => ((l_X2_setsTaken_21 m a1 a2 tr3 r2 x3 FU 0 0).bind fun y26 => some y26)
set_option maxRecDepth 100000 in
set_option maxHeartbeats 4000000 in
theorem w_X2_setsTaken_21 {K : ZK} (C : zOK MX K cX2_setsTaken 9 (some .int) RX2 wsX2_setsTaken rmX2_setsTaken) {m : Mem} {a1 : Int32} {a2 : Int32} {tr3 : Nat} {r2 : Int32} {x3 : Int32} (htr3 : istr tr3) {o0 : Int32} (hk : zGo MX K m [(6, .int o0)] 124 []) : ∀ (n : Nat) (i4 : Int32) (i5 : Int32), l_X2_setsTaken_21 m a1 a2 tr3 r2 x3 n i4 i5 = some o0 → zGo MX K m [(0, .ref ((zw K).2.1 39)), (1, .int a1), (2, .int a2), (3, .ref ((zw K).2.1 tr3)), (4, .int r2), (5, .int x3), (6, .int i4), (7, .int i5)] 21 [] := by
  intro n
  induction n with
  | zero =>
    intro i4 i5 hf
    cases hf
  | succ n ih =>
    intro i4 i5 hf
    obtain ⟨z, hf, hz⟩ := zlp_el hf
    replace hf : t_X2_setsTaken_21 m a1 a2 tr3 r2 x3 i4 i5 = some z := hf
    unfold t_X2_setsTaken_21 at hf
    refine z_iload C 7 dX2_setsTaken_21 rfl ?_
    refine z_aload_n C 0 dX2_setsTaken_23 rfl rfl ?_
    refine z_getr C (t := 1) (Nat.le_of_ble_eq_true rfl) rfl rfl 0 (Nat.le_of_ble_eq_true rfl) rfl kiX2_setsTaken_X2 kfX2_setsTaken_24 dX2_setsTaken_24 ?_
    refine z_getr C (t := 4) (Nat.le_of_ble_eq_true rfl) rfl rfl 4 (Nat.le_of_ble_eq_true rfl) rfl kiX2_setsTaken_X1 kfX2_setsTaken_71 dX2_setsTaken_27 ?_
    refine z_iload_n C 1 dX2_setsTaken_30 rfl rfl ?_
    obtain ⟨hi6, hf⟩ := ck_el hf
    refine z_iald C (k := 4) (Nat.le_of_ble_eq_true rfl) rfl hi6 dX2_setsTaken_31 ?_
    refine z_icmp_ge (tgt := 124) C dX2_setsTaken_32 (by decide) (fun c25 => ?_) (fun c25 => ?_)
    · replace hf := if_t c25 hf
      cases hf
      replace hz := zlz_r hz
      cases hz
      exact z_sub [6] rfl hk
    · replace hf := if_f c25 hf
      refine z_iload_n C 1 dX2_setsTaken_35 rfl rfl ?_
      refine z_iconst C (v := 5) dX2_setsTaken_36 rfl ?_
      refine z_imul C dX2_setsTaken_37 ?_
      refine z_iload C 7 dX2_setsTaken_38 rfl ?_
      refine z_iadd C dX2_setsTaken_40 ?_
      refine z_topi (fun x7 e_x7 => ?_)
      replace hf := bn_to e_x7 hf
      refine z_istore C (lv2 := [(0, .ref ((zw K).2.1 39)), (1, .int a1), (2, .int a2), (3, .ref ((zw K).2.1 tr3)), (4, .int r2), (5, .int x3), (6, .int i4), (7, .int i5), (8, .int x7)]) [1, 2, 3, 4, 5, 6, 7, 8, 0] dX2_setsTaken_41 (Nat.le_of_ble_eq_true rfl) rfl ?_
      refine z_iload C 4 dX2_setsTaken_43 rfl ?_
      refine z_iload C 7 dX2_setsTaken_45 rfl ?_
      refine z_ishr C dX2_setsTaken_47 ?_
      refine z_iconst C (v := 1) dX2_setsTaken_48 rfl ?_
      refine z_iand C dX2_setsTaken_49 ?_
      refine z_if_eq (tgt := 118) C dX2_setsTaken_50 (by decide) (fun c24 => ?_) (fun c24 => ?_)
      · replace hf := if_t c24 hf
        obtain ⟨x8, e_x8⟩ : ∃ y : Int32, y = i5 + 1 := ⟨_, rfl⟩
        replace hf := bn_to e_x8 hf
        refine z_iinc C (lv2 := [(0, .ref ((zw K).2.1 39)), (1, .int a1), (2, .int a2), (3, .ref ((zw K).2.1 tr3)), (4, .int r2), (5, .int x3), (6, .int i4), (7, .int x8), (8, .int x7)]) 7 [1, 2, 3, 4, 5, 6, 7, 0, 8] dX2_setsTaken_118 rfl rfl (Nat.le_of_ble_eq_true rfl) e_x8 rfl ?_
        refine z_goto (tgt := 21) C dX2_setsTaken_121 (by decide) ?_
        cases hf
        exact z_sub [0, 1, 2, 3, 4, 5, 6, 7] rfl (ih i4 x8 hz)
      · replace hf := if_f c24 hf
        refine z_aload_n C 0 dX2_setsTaken_53 rfl rfl ?_
        refine z_getr C (t := 42) (Nat.le_of_ble_eq_true rfl) rfl rfl 6 (Nat.le_of_ble_eq_true rfl) rfl kiX2_setsTaken_X2 kfX2_setsTaken_18 dX2_setsTaken_54 ?_
        refine z_iload C 7 dX2_setsTaken_57 rfl ?_
        obtain ⟨hi9, hf⟩ := ck_el hf
        refine z_iald C (k := 42) (Nat.le_of_ble_eq_true rfl) rfl hi9 dX2_setsTaken_59 ?_
        refine z_iload C 5 dX2_setsTaken_60 rfl ?_
        refine z_iand C dX2_setsTaken_62 ?_
        refine z_if_eq (tgt := 118) C dX2_setsTaken_63 (by decide) (fun c23 => ?_) (fun c23 => ?_)
        · replace hf := if_t c23 hf
          obtain ⟨x10, e_x10⟩ : ∃ y : Int32, y = i5 + 1 := ⟨_, rfl⟩
          replace hf := bn_to e_x10 hf
          refine z_iinc C (lv2 := [(0, .ref ((zw K).2.1 39)), (1, .int a1), (2, .int a2), (3, .ref ((zw K).2.1 tr3)), (4, .int r2), (5, .int x3), (6, .int i4), (7, .int x10), (8, .int x7)]) 7 [1, 2, 3, 4, 5, 6, 7, 0, 8] dX2_setsTaken_118 rfl rfl (Nat.le_of_ble_eq_true rfl) e_x10 rfl ?_
          refine z_goto (tgt := 21) C dX2_setsTaken_121 (by decide) ?_
          cases hf
          exact z_sub [0, 1, 2, 3, 4, 5, 6, 7] rfl (ih i4 x10 hz)
        · replace hf := if_f c23 hf
          refine z_aload_n C 0 dX2_setsTaken_66 rfl rfl ?_
          refine z_getr C (t := 1) (Nat.le_of_ble_eq_true rfl) rfl rfl 0 (Nat.le_of_ble_eq_true rfl) rfl kiX2_setsTaken_X2 kfX2_setsTaken_24 dX2_setsTaken_67 ?_
          refine z_getr C (t := 5) (Nat.le_of_ble_eq_true rfl) rfl rfl 5 (Nat.le_of_ble_eq_true rfl) rfl kiX2_setsTaken_X1 kfX2_setsTaken_83 dX2_setsTaken_70 ?_
          refine z_iload C 8 dX2_setsTaken_73 rfl ?_
          obtain ⟨hi11, hf⟩ := ck_el hf
          refine z_iald C (k := 5) (Nat.le_of_ble_eq_true rfl) rfl hi11 dX2_setsTaken_75 ?_
          refine z_aload_n C 0 dX2_setsTaken_76 rfl rfl ?_
          obtain ⟨b12, hb12, e_b12, hf⟩ := zbk_el hf
          refine z_getb C (b := b12) (Nat.le_of_ble_eq_true rfl) rfl rfl 1 (Nat.le_of_ble_eq_true rfl) rfl kiX2_setsTaken_X2 kfX2_setsTaken_28 (isb_lt hb12) e_b12 dX2_setsTaken_77 ?_
          refine z_getr C (t := b12 + 9) (isb_k0 hb12) (isb_L0 hb12) rfl 11 (Nat.le_of_ble_eq_true rfl) rfl kiX2_setsTaken_X0 kfX2_setsTaken_120 dX2_setsTaken_80 ?_
          refine z_iload_n C 2 dX2_setsTaken_83 rfl rfl ?_
          obtain ⟨hi13, hf⟩ := ck_el hf
          refine z_iald C (k := (b12 + 9)) (isb_k9 hb12) (isb_L9 hb12) hi13 dX2_setsTaken_84 ?_
          refine z_icmp_ne (tgt := 118) C dX2_setsTaken_85 (by decide) (fun c22 => ?_) (fun c22 => ?_)
          · replace hf := if_f c22 hf
            obtain ⟨x14, e_x14⟩ : ∃ y : Int32, y = i5 + 1 := ⟨_, rfl⟩
            replace hf := bn_to e_x14 hf
            refine z_iinc C (lv2 := [(0, .ref ((zw K).2.1 39)), (1, .int a1), (2, .int a2), (3, .ref ((zw K).2.1 tr3)), (4, .int r2), (5, .int x3), (6, .int i4), (7, .int x14), (8, .int x7)]) 7 [1, 2, 3, 4, 5, 6, 7, 0, 8] dX2_setsTaken_118 rfl rfl (Nat.le_of_ble_eq_true rfl) e_x14 rfl ?_
            refine z_goto (tgt := 21) C dX2_setsTaken_121 (by decide) ?_
            cases hf
            exact z_sub [0, 1, 2, 3, 4, 5, 6, 7] rfl (ih i4 x14 hz)
          · replace hf := if_t c22 hf
            refine z_aload_n C 0 dX2_setsTaken_88 rfl rfl ?_
            refine z_aload_n C 0 dX2_setsTaken_89 rfl rfl ?_
            refine z_getr C (t := 1) (Nat.le_of_ble_eq_true rfl) rfl rfl 0 (Nat.le_of_ble_eq_true rfl) rfl kiX2_setsTaken_X2 kfX2_setsTaken_24 dX2_setsTaken_90 ?_
            refine z_getr C (t := 6) (Nat.le_of_ble_eq_true rfl) rfl rfl 6 (Nat.le_of_ble_eq_true rfl) rfl kiX2_setsTaken_X1 kfX2_setsTaken_123 dX2_setsTaken_93 ?_
            refine z_iload C 8 dX2_setsTaken_96 rfl ?_
            obtain ⟨hi15, hf⟩ := ck_el hf
            refine z_iald C (k := 6) (Nat.le_of_ble_eq_true rfl) rfl hi15 dX2_setsTaken_98 ?_
            refine z_iload_n C 2 dX2_setsTaken_99 rfl rfl ?_
            refine z_aload_n C 3 dX2_setsTaken_100 rfl rfl ?_
            obtain ⟨r17, hc16, hf⟩ := zb_el hf
            refine z_cVi C (c_X2_passes _ _ htr3 hc16) rfl gX2_setsTaken_X2_passes rfl rfl zdX2_passes rfl (Nat.le_of_ble_eq_true rfl) rfl rfl rfl ⟨Nat.le_of_ble_eq_true rfl, Nat.le_of_ble_eq_true rfl⟩ (Nat.le_of_ble_eq_true rfl) dX2_setsTaken_101 rfl ?_
            refine z_if_eq (tgt := 118) C dX2_setsTaken_104 (by decide) (fun c21 => ?_) (fun c21 => ?_)
            · replace hf := if_t c21 hf
              obtain ⟨x18, e_x18⟩ : ∃ y : Int32, y = i5 + 1 := ⟨_, rfl⟩
              replace hf := bn_to e_x18 hf
              refine z_iinc C (lv2 := [(0, .ref ((zw K).2.1 39)), (1, .int a1), (2, .int a2), (3, .ref ((zw K).2.1 tr3)), (4, .int r2), (5, .int x3), (6, .int i4), (7, .int x18), (8, .int x7)]) 7 [1, 2, 3, 4, 5, 6, 7, 0, 8] dX2_setsTaken_118 rfl rfl (Nat.le_of_ble_eq_true rfl) e_x18 rfl ?_
              refine z_goto (tgt := 21) C dX2_setsTaken_121 (by decide) ?_
              cases hf
              exact z_sub [0, 1, 2, 3, 4, 5, 6, 7] rfl (ih i4 x18 hz)
            · replace hf := if_f c21 hf
              refine z_iload C 6 dX2_setsTaken_107 rfl ?_
              refine z_iconst C (v := 1) dX2_setsTaken_109 rfl ?_
              refine z_iconst C (v := 1) dX2_setsTaken_110 rfl ?_
              refine z_iload C 7 dX2_setsTaken_111 rfl ?_
              refine z_ishl C dX2_setsTaken_113 ?_
              refine z_ishl C dX2_setsTaken_114 ?_
              refine z_ior C dX2_setsTaken_115 ?_
              refine z_topi (fun x19 e_x19 => ?_)
              replace hf := bn_to e_x19 hf
              refine z_istore C (lv2 := [(0, .ref ((zw K).2.1 39)), (1, .int a1), (2, .int a2), (3, .ref ((zw K).2.1 tr3)), (4, .int r2), (5, .int x3), (6, .int x19), (7, .int i5), (8, .int x7)]) [1, 2, 3, 4, 5, 6, 0, 7, 8] dX2_setsTaken_116 (Nat.le_of_ble_eq_true rfl) rfl ?_
              obtain ⟨x20, e_x20⟩ : ∃ y : Int32, y = i5 + 1 := ⟨_, rfl⟩
              replace hf := bn_to e_x20 hf
              refine z_iinc C (lv2 := [(0, .ref ((zw K).2.1 39)), (1, .int a1), (2, .int a2), (3, .ref ((zw K).2.1 tr3)), (4, .int r2), (5, .int x3), (6, .int x19), (7, .int x20), (8, .int x7)]) 7 [1, 2, 3, 4, 5, 6, 7, 0, 8] dX2_setsTaken_118 rfl rfl (Nat.le_of_ble_eq_true rfl) e_x20 rfl ?_
              refine z_goto (tgt := 21) C dX2_setsTaken_121 (by decide) ?_
              cases hf
              exact z_sub [0, 1, 2, 3, 4, 5, 6, 7] rfl (ih x19 x20 hz)
set_option maxRecDepth 100000 in
set_option maxHeartbeats 4000000 in
theorem c_X2_setsTaken (l : Launch) (w : ZW) {m : Mem} {a1 : Int32} {a2 : Int32} {tr3 : Nat} {r9 : Int32} (htr3 : istr tr3) (hf : s_X2_setsTaken m a1 a2 tr3 = some r9) : zCi MX l w yX2_setsTaken wsX2_setsTaken rmX2_setsTaken [.ref (w.2.1 39), .int a1, .int a2, .ref (w.2.1 tr3)] m m r9 := by
  refine z_met_i MX_ok (own := RX2) (by decide +kernel) rfl rfl (Nat.le_of_ble_eq_true rfl) ?_
  intro K C hKw hKl hret
  subst hKw
  subst hKl
  unfold s_X2_setsTaken at hf
  show zGo MX K m [(0, .ref ((zw K).2.1 39)), (1, .int a1), (2, .int a2), (3, .ref ((zw K).2.1 tr3))] 0 []
  refine z_aload_n C 0 dX2_setsTaken_0 rfl rfl ?_
  refine z_iload_n C 1 dX2_setsTaken_1 rfl rfl ?_
  obtain ⟨r2, hc1, hf⟩ := zb_el hf
  refine z_cVi C (c_X2_presentEdges _ _ hc1) rfl gX2_setsTaken_X2_presentEdges rfl rfl zdX2_presentEdges rfl (Nat.le_of_ble_eq_true rfl) rfl rfl rfl ⟨Nat.le_of_ble_eq_true rfl, Nat.le_of_ble_eq_true rfl⟩ (Nat.le_of_ble_eq_true rfl) dX2_setsTaken_2 rfl ?_
  refine z_istore C (lv2 := [(0, .ref ((zw K).2.1 39)), (1, .int a1), (2, .int a2), (3, .ref ((zw K).2.1 tr3)), (4, .int r2)]) [1, 2, 3, 4, 0] dX2_setsTaken_5 (Nat.le_of_ble_eq_true rfl) rfl ?_
  refine z_iconst C (v := 1) dX2_setsTaken_7 rfl ?_
  refine z_iload_n C 2 dX2_setsTaken_8 rfl rfl ?_
  refine z_bipush C (v := 6) dX2_setsTaken_9 rfl ?_
  refine z_irem C dX2_setsTaken_11 (by decide) ?_
  refine z_ishl C dX2_setsTaken_12 ?_
  refine z_topi (fun x3 e_x3 => ?_)
  replace hf := bn_to e_x3 hf
  refine z_istore C (lv2 := [(0, .ref ((zw K).2.1 39)), (1, .int a1), (2, .int a2), (3, .ref ((zw K).2.1 tr3)), (4, .int r2), (5, .int x3)]) [1, 2, 3, 4, 5, 0] dX2_setsTaken_13 (Nat.le_of_ble_eq_true rfl) rfl ?_
  refine z_iconst C (v := 0) dX2_setsTaken_15 rfl ?_
  refine z_istore C (lv2 := [(0, .ref ((zw K).2.1 39)), (1, .int a1), (2, .int a2), (3, .ref ((zw K).2.1 tr3)), (4, .int r2), (5, .int x3), (6, .int 0)]) [1, 2, 3, 4, 5, 6, 0] dX2_setsTaken_16 (Nat.le_of_ble_eq_true rfl) rfl ?_
  refine z_iconst C (v := 0) dX2_setsTaken_18 rfl ?_
  refine z_istore C (lv2 := [(0, .ref ((zw K).2.1 39)), (1, .int a1), (2, .int a2), (3, .ref ((zw K).2.1 tr3)), (4, .int r2), (5, .int x3), (6, .int 0), (7, .int 0)]) [1, 2, 3, 4, 5, 6, 7, 0] dX2_setsTaken_19 (Nat.le_of_ble_eq_true rfl) rfl ?_
  obtain ⟨y26, hg, hf⟩ := zb_el hf
  refine z_sub [0, 1, 2, 3, 4, 5, 6, 7] rfl (w_X2_setsTaken_21 C htr3 ?_ _ _ _ hg)
  clear hg
  refine z_iload C 0 dX2_setsTaken_124 rfl ?_
  cases hf
  exact hret _ _ dX2_setsTaken_126
theorem dX2_both_0 : decode cX2_both 0 = .ok (.iconst 0, 1) := by decide +kernel
theorem dX2_both_1 : decode cX2_both 1 = .ok (.istore_n 2, 1) := by decide +kernel
theorem dX2_both_2 : decode cX2_both 2 = .ok (.iconst 0, 1) := by decide +kernel
theorem dX2_both_3 : decode cX2_both 3 = .ok (.istore_n 3, 1) := by decide +kernel
theorem dX2_both_4 : decode cX2_both 4 = .ok (.iload_n 3, 1) := by decide +kernel
theorem dX2_both_5 : decode cX2_both 5 = .ok (.getstatic 117, 3) := by decide +kernel
theorem dX2_both_8 : decode cX2_both 8 = .ok (.arraylength, 1) := by decide +kernel
theorem dX2_both_9 : decode cX2_both 9 = .ok (.if_icmp .ge 35, 3) := by decide +kernel
theorem dX2_both_12 : decode cX2_both 12 = .ok (.iload_n 0, 1) := by decide +kernel
theorem dX2_both_13 : decode cX2_both 13 = .ok (.iload_n 3, 1) := by decide +kernel
theorem dX2_both_14 : decode cX2_both 14 = .ok (.iushr, 1) := by decide +kernel
theorem dX2_both_15 : decode cX2_both 15 = .ok (.ifCond .eq 29, 3) := by decide +kernel
theorem dX2_both_18 : decode cX2_both 18 = .ok (.iload_n 0, 1) := by decide +kernel
theorem dX2_both_19 : decode cX2_both 19 = .ok (.iload_n 3, 1) := by decide +kernel
theorem dX2_both_20 : decode cX2_both 20 = .ok (.iushr, 1) := by decide +kernel
theorem dX2_both_21 : decode cX2_both 21 = .ok (.iconst 1, 1) := by decide +kernel
theorem dX2_both_22 : decode cX2_both 22 = .ok (.iand, 1) := by decide +kernel
theorem dX2_both_23 : decode cX2_both 23 = .ok (.ifCond .eq 15, 3) := by decide +kernel
theorem dX2_both_26 : decode cX2_both 26 = .ok (.iload_n 2, 1) := by decide +kernel
theorem dX2_both_27 : decode cX2_both 27 = .ok (.iload_n 1, 1) := by decide +kernel
theorem dX2_both_28 : decode cX2_both 28 = .ok (.getstatic 117, 3) := by decide +kernel
theorem dX2_both_31 : decode cX2_both 31 = .ok (.iload_n 3, 1) := by decide +kernel
theorem dX2_both_32 : decode cX2_both 32 = .ok (.iaload, 1) := by decide +kernel
theorem dX2_both_33 : decode cX2_both 33 = .ok (.iand, 1) := by decide +kernel
theorem dX2_both_34 : decode cX2_both 34 = .ok (.iload_n 3, 1) := by decide +kernel
theorem dX2_both_35 : decode cX2_both 35 = .ok (.ishl, 1) := by decide +kernel
theorem dX2_both_36 : decode cX2_both 36 = .ok (.ior, 1) := by decide +kernel
theorem dX2_both_37 : decode cX2_both 37 = .ok (.istore_n 2, 1) := by decide +kernel
theorem dX2_both_38 : decode cX2_both 38 = .ok (.iinc 3 1, 3) := by decide +kernel
theorem dX2_both_41 : decode cX2_both 41 = .ok (.goto (-37), 3) := by decide +kernel
theorem dX2_both_44 : decode cX2_both 44 = .ok (.iload_n 2, 1) := by decide +kernel
theorem dX2_both_45 : decode cX2_both 45 = .ok (.ireturn, 1) := by decide +kernel
def rmX2_both : Room := { frames := 0, cells := 0, slots := 0, locals := 0 }
theorem zdX2_both : yX2_both.cls = RX2 ∧ yX2_both.cls ≠ "java/lang/invoke/MethodHandle" ∧ yX2_both.cls ≠ "java/lang/invoke/VarHandle" ∧ (parseMethodDescriptor yX2_both.desc).map (fun d => d.parameters.length) = some 2 := by decide +kernel
theorem kfX2_both_117 : Cond.fieldLink RX2 117 "ShapeJudge$Judge" "APART" "[I" ∈ wsX2_both := (List.mem_of_getElem? (i := 1) rfl)
def t_X2_both_4 (a1 : Int32) (a2 : Int32) (i1 : Int32) (i2 : Int32) : Option ((Int32 × Int32) ⊕ (Int32)) :=
  (if 32 ≤ i2 then (some (.inr i1)) else ((if (zus a1 i2) = 0 then (some (.inr i1)) else ((if ((zus a1 i2) &&& 1) = 0 then (bn (i2 + 1) fun x3 => some (.inl (i1, x3))) else (ck (zin i2 32 = true) (bn (i1 ||| ((a2 &&& (apt (Int32.toNatClampNeg i2))) <<< (i2 &&& 31))) fun x5 => bn (i2 + 1) fun x6 => some (.inl (x5, x6)))))))))
def l_X2_both_4 (a1 : Int32) (a2 : Int32) (n : Nat) (i1 : Int32) (i2 : Int32) : Option (Int32) := zlp n (fun a => t_X2_both_4 a1 a2 a.1 a.2) (i1, i2)
def s_X2_both (a1 : Int32) (a2 : Int32) : Option (Int32) :=
  ((l_X2_both_4 a1 a2 FU 0 0).bind fun y10 => some y10)
set_option maxRecDepth 100000 in
set_option maxHeartbeats 4000000 in
theorem w_X2_both_4 {K : ZK} (C : zOK MX K cX2_both 4 (some .int) RX2 wsX2_both rmX2_both) {m : Mem} {a1 : Int32} {a2 : Int32}  {o0 : Int32} (hk : zGo MX K m [(2, .int o0)] 44 []) : ∀ (n : Nat) (i1 : Int32) (i2 : Int32), l_X2_both_4 a1 a2 n i1 i2 = some o0 → zGo MX K m [(0, .int a1), (1, .int a2), (2, .int i1), (3, .int i2)] 4 [] := by
  intro n
  induction n with
  | zero =>
    intro i1 i2 hf
    cases hf
  | succ n ih =>
    intro i1 i2 hf
    obtain ⟨z, hf, hz⟩ := zlp_el hf
    replace hf : t_X2_both_4 a1 a2 i1 i2 = some z := hf
    unfold t_X2_both_4 at hf
    refine z_iload_n C 3 dX2_both_4 rfl rfl ?_
    refine z_gapt C kfX2_both_117 dX2_both_5 ?_
    refine z_aptn C dX2_both_8 ?_
    refine z_icmp_ge (tgt := 44) C dX2_both_9 (by decide) (fun c9 => ?_) (fun c9 => ?_)
    · replace hf := if_t c9 hf
      cases hf
      replace hz := zlz_r hz
      cases hz
      exact z_sub [2] rfl hk
    · replace hf := if_f c9 hf
      refine z_iload_n C 0 dX2_both_12 rfl rfl ?_
      refine z_iload_n C 3 dX2_both_13 rfl rfl ?_
      refine z_iushr C dX2_both_14 ?_
      refine z_if_eq (tgt := 44) C dX2_both_15 (by decide) (fun c8 => ?_) (fun c8 => ?_)
      · replace hf := if_t c8 hf
        cases hf
        replace hz := zlz_r hz
        cases hz
        exact z_sub [2] rfl hk
      · replace hf := if_f c8 hf
        refine z_iload_n C 0 dX2_both_18 rfl rfl ?_
        refine z_iload_n C 3 dX2_both_19 rfl rfl ?_
        refine z_iushr C dX2_both_20 ?_
        refine z_iconst C (v := 1) dX2_both_21 rfl ?_
        refine z_iand C dX2_both_22 ?_
        refine z_if_eq (tgt := 38) C dX2_both_23 (by decide) (fun c7 => ?_) (fun c7 => ?_)
        · replace hf := if_t c7 hf
          obtain ⟨x3, e_x3⟩ : ∃ y : Int32, y = i2 + 1 := ⟨_, rfl⟩
          replace hf := bn_to e_x3 hf
          refine z_iinc C (lv2 := [(0, .int a1), (1, .int a2), (2, .int i1), (3, .int x3)]) 3 [1, 2, 3, 0] dX2_both_38 rfl rfl (Nat.le_of_ble_eq_true rfl) e_x3 rfl ?_
          refine z_goto (tgt := 4) C dX2_both_41 (by decide) ?_
          cases hf
          exact z_sub [0, 1, 2, 3] rfl (ih i1 x3 hz)
        · replace hf := if_f c7 hf
          refine z_iload_n C 2 dX2_both_26 rfl rfl ?_
          refine z_iload_n C 1 dX2_both_27 rfl rfl ?_
          refine z_gapt C kfX2_both_117 dX2_both_28 ?_
          refine z_iload_n C 3 dX2_both_31 rfl rfl ?_
          obtain ⟨hi4, hf⟩ := ck_el hf
          refine z_aptl C hi4 dX2_both_32 ?_
          refine z_iand C dX2_both_33 ?_
          refine z_iload_n C 3 dX2_both_34 rfl rfl ?_
          refine z_ishl C dX2_both_35 ?_
          refine z_ior C dX2_both_36 ?_
          refine z_topi (fun x5 e_x5 => ?_)
          replace hf := bn_to e_x5 hf
          refine z_istore_n C (lv2 := [(0, .int a1), (1, .int a2), (2, .int x5), (3, .int i2)]) [1, 2, 0, 3] dX2_both_37 rfl (Nat.le_of_ble_eq_true rfl) rfl ?_
          obtain ⟨x6, e_x6⟩ : ∃ y : Int32, y = i2 + 1 := ⟨_, rfl⟩
          replace hf := bn_to e_x6 hf
          refine z_iinc C (lv2 := [(0, .int a1), (1, .int a2), (2, .int x5), (3, .int x6)]) 3 [1, 2, 3, 0] dX2_both_38 rfl rfl (Nat.le_of_ble_eq_true rfl) e_x6 rfl ?_
          refine z_goto (tgt := 4) C dX2_both_41 (by decide) ?_
          cases hf
          exact z_sub [0, 1, 2, 3] rfl (ih x5 x6 hz)
set_option maxRecDepth 100000 in
set_option maxHeartbeats 4000000 in
theorem c_X2_both (l : Launch) (w : ZW) {m : Mem} {a1 : Int32} {a2 : Int32} {r9 : Int32}  (hf : s_X2_both a1 a2 = some r9) : zCi MX l w yX2_both wsX2_both rmX2_both [.int a1, .int a2] m m r9 := by
  refine z_met_i MX_ok (own := RX2) (by decide +kernel) rfl rfl (Nat.le_of_ble_eq_true rfl) ?_
  intro K C hKw hKl hret
  subst hKw
  subst hKl
  unfold s_X2_both at hf
  show zGo MX K m [(0, .int a1), (1, .int a2)] 0 []
  refine z_iconst C (v := 0) dX2_both_0 rfl ?_
  refine z_istore_n C (lv2 := [(0, .int a1), (1, .int a2), (2, .int 0)]) [1, 2, 0] dX2_both_1 rfl (Nat.le_of_ble_eq_true rfl) rfl ?_
  refine z_iconst C (v := 0) dX2_both_2 rfl ?_
  refine z_istore_n C (lv2 := [(0, .int a1), (1, .int a2), (2, .int 0), (3, .int 0)]) [1, 2, 3, 0] dX2_both_3 rfl (Nat.le_of_ble_eq_true rfl) rfl ?_
  obtain ⟨y10, hg, hf⟩ := zb_el hf
  refine z_sub [0, 1, 2, 3] rfl (w_X2_both_4 C  ?_ _ _ _ hg)
  clear hg
  refine z_iload_n C 0 dX2_both_44 rfl rfl ?_
  cases hf
  exact hret _ _ dX2_both_45
set_option maxRecDepth 20000 in
theorem ggX2_times_X2_both : GoodIn wsX2_times wsX2_both := goodIn_sub (List.forall_mem_cons.mpr ⟨(List.mem_of_getElem? (i := 4) rfl), (List.forall_mem_cons.mpr ⟨(List.mem_of_getElem? (i := 5) rfl), (fun _ h => absurd h List.not_mem_nil)⟩)⟩) (by decide +kernel)
set_option maxRecDepth 20000 in
theorem gX2_times_X2_both : GoodIn wsX2_times (va_wsS RX2 114 yX2_both wsX2_both) := goodIn_app (goodIn_sub (List.forall_mem_cons.mpr ⟨(List.mem_of_getElem? (i := 1) rfl), (List.forall_mem_cons.mpr ⟨(List.mem_of_getElem? (i := 2) rfl), (List.forall_mem_cons.mpr ⟨(List.mem_of_getElem? (i := 3) rfl), (fun _ h => absurd h List.not_mem_nil)⟩)⟩)⟩) (by decide +kernel)) ggX2_times_X2_both
theorem dX2_times_0 : decode cX2_times 0 = .ok (.iload_n 2, 1) := by decide +kernel
theorem dX2_times_1 : decode cX2_times 1 = .ok (.bipush 8, 2) := by decide +kernel
theorem dX2_times_3 : decode cX2_times 3 = .ok (.idiv, 1) := by decide +kernel
theorem dX2_times_4 : decode cX2_times 4 = .ok (.istore_n 3, 1) := by decide +kernel
theorem dX2_times_5 : decode cX2_times 5 = .ok (.iload_n 2, 1) := by decide +kernel
theorem dX2_times_6 : decode cX2_times 6 = .ok (.bipush 8, 2) := by decide +kernel
theorem dX2_times_8 : decode cX2_times 8 = .ok (.irem, 1) := by decide +kernel
theorem dX2_times_9 : decode cX2_times 9 = .ok (.istore 4, 2) := by decide +kernel
theorem dX2_times_11 : decode cX2_times 11 = .ok (.iconst 1, 1) := by decide +kernel
theorem dX2_times_12 : decode cX2_times 12 = .ok (.istore 5, 2) := by decide +kernel
theorem dX2_times_14 : decode cX2_times 14 = .ok (.iload_n 3, 1) := by decide +kernel
theorem dX2_times_15 : decode cX2_times 15 = .ok (.ifCond .ne 7, 3) := by decide +kernel
theorem dX2_times_18 : decode cX2_times 18 = .ok (.iconst 1, 1) := by decide +kernel
theorem dX2_times_19 : decode cX2_times 19 = .ok (.goto 4, 3) := by decide +kernel
theorem dX2_times_22 : decode cX2_times 22 = .ok (.iconst 0, 1) := by decide +kernel
theorem dX2_times_23 : decode cX2_times 23 = .ok (.istore 6, 2) := by decide +kernel
theorem dX2_times_25 : decode cX2_times 25 = .ok (.iconst 1, 1) := by decide +kernel
theorem dX2_times_26 : decode cX2_times 26 = .ok (.istore 7, 2) := by decide +kernel
theorem dX2_times_28 : decode cX2_times 28 = .ok (.iload 7, 2) := by decide +kernel
theorem dX2_times_30 : decode cX2_times 30 = .ok (.iload 4, 2) := by decide +kernel
theorem dX2_times_32 : decode cX2_times 32 = .ok (.if_icmp .gt 30, 3) := by decide +kernel
theorem dX2_times_35 : decode cX2_times 35 = .ok (.iload 5, 2) := by decide +kernel
theorem dX2_times_37 : decode cX2_times 37 = .ok (.iload_n 1, 1) := by decide +kernel
theorem dX2_times_38 : decode cX2_times 38 = .ok (.invokestatic 114, 3) := by decide +kernel
theorem dX2_times_41 : decode cX2_times 41 = .ok (.istore 5, 2) := by decide +kernel
theorem dX2_times_43 : decode cX2_times 43 = .ok (.iload 7, 2) := by decide +kernel
theorem dX2_times_45 : decode cX2_times 45 = .ok (.iload_n 3, 1) := by decide +kernel
theorem dX2_times_46 : decode cX2_times 46 = .ok (.if_icmp .lt 10, 3) := by decide +kernel
theorem dX2_times_49 : decode cX2_times 49 = .ok (.iload 6, 2) := by decide +kernel
theorem dX2_times_51 : decode cX2_times 51 = .ok (.iload 5, 2) := by decide +kernel
theorem dX2_times_53 : decode cX2_times 53 = .ok (.ior, 1) := by decide +kernel
theorem dX2_times_54 : decode cX2_times 54 = .ok (.istore 6, 2) := by decide +kernel
theorem dX2_times_56 : decode cX2_times 56 = .ok (.iinc 7 1, 3) := by decide +kernel
theorem dX2_times_59 : decode cX2_times 59 = .ok (.goto (-31), 3) := by decide +kernel
theorem dX2_times_62 : decode cX2_times 62 = .ok (.iload 6, 2) := by decide +kernel
theorem dX2_times_64 : decode cX2_times 64 = .ok (.ireturn, 1) := by decide +kernel
def rmX2_times : Room := { frames := 1, cells := 0, slots := 0, locals := 23 }
theorem zdX2_times : yX2_times.cls = RX2 ∧ yX2_times.cls ≠ "java/lang/invoke/MethodHandle" ∧ yX2_times.cls ≠ "java/lang/invoke/VarHandle" ∧ (parseMethodDescriptor yX2_times.desc).map (fun d => d.parameters.length) = some 2 := by decide +kernel
def t_X2_times_28 (a1 : Int32) (x1 : Int32) (x2 : Int32) (i4 : Int32) (i5 : Int32) (i6 : Int32) : Option ((Int32 × Int32 × Int32) ⊕ (Int32)) :=
  (if x2 < i6 then (some (.inr i5)) else ((s_X2_both i4 a1).bind fun r8 => (if i6 < x1 then (bn (i6 + 1) fun x9 => some (.inl (r8, i5, x9))) else (bn (i5 ||| r8) fun x10 => bn (i6 + 1) fun x11 => some (.inl (r8, x10, x11))))))
def l_X2_times_28 (a1 : Int32) (x1 : Int32) (x2 : Int32) (n : Nat) (i4 : Int32) (i5 : Int32) (i6 : Int32) : Option (Int32) := zlp n (fun a => t_X2_times_28 a1 x1 x2 a.1 a.2.1 a.2.2) (i4, i5, i6)
def s_X2_times (a1 : Int32) (a2 : Int32) : Option (Int32) :=
  bn (a2 / 8) fun x1 => bn (a2 - a2 / 8 * 8) fun x2 => (((if x1 = 0 then (some 1) else (some 0)) : Option (Int32)).bind fun y3 => ((l_X2_times_28 a1 x1 x2 FU 1 y3 1).bind fun y14 => some y14))
set_option maxRecDepth 100000 in
set_option maxHeartbeats 4000000 in
theorem w_X2_times_28 {K : ZK} (C : zOK MX K cX2_times 8 (some .int) RX2 wsX2_times rmX2_times) {m : Mem} {a1 : Int32} {x1 : Int32} {x2 : Int32}  {o0 : Int32} (hk : zGo MX K m [(6, .int o0)] 62 []) : ∀ (n : Nat) (i4 : Int32) (i5 : Int32) (i6 : Int32), l_X2_times_28 a1 x1 x2 n i4 i5 i6 = some o0 → zGo MX K m [(1, .int a1), (3, .int x1), (4, .int x2), (5, .int i4), (6, .int i5), (7, .int i6)] 28 [] := by
  intro n
  induction n with
  | zero =>
    intro i4 i5 i6 hf
    cases hf
  | succ n ih =>
    intro i4 i5 i6 hf
    obtain ⟨z, hf, hz⟩ := zlp_el hf
    replace hf : t_X2_times_28 a1 x1 x2 i4 i5 i6 = some z := hf
    unfold t_X2_times_28 at hf
    refine z_iload C 5 dX2_times_28 rfl ?_
    refine z_iload C 2 dX2_times_30 rfl ?_
    refine z_icmp_gt (tgt := 62) C dX2_times_32 (by decide) (fun c13 => ?_) (fun c13 => ?_)
    · replace hf := if_t c13 hf
      cases hf
      replace hz := zlz_r hz
      cases hz
      exact z_sub [4] rfl hk
    · replace hf := if_f c13 hf
      refine z_iload C 3 dX2_times_35 rfl ?_
      refine z_iload_n C 0 dX2_times_37 rfl rfl ?_
      obtain ⟨r8, hc7, hf⟩ := zb_el hf
      refine z_cSi C (c_X2_both _ _ hc7) rfl gX2_times_X2_both rfl rfl zdX2_both.2 rfl ⟨Nat.le_of_ble_eq_true rfl, Nat.le_of_ble_eq_true rfl⟩ (Nat.le_of_ble_eq_true rfl) dX2_times_38 rfl ?_
      refine z_istore C (lv2 := [(1, .int a1), (3, .int x1), (4, .int x2), (5, .int r8), (6, .int i5), (7, .int i6)]) [1, 2, 3, 0, 4, 5] dX2_times_41 (Nat.le_of_ble_eq_true rfl) rfl ?_
      refine z_iload C 5 dX2_times_43 rfl ?_
      refine z_iload_n C 1 dX2_times_45 rfl rfl ?_
      refine z_icmp_lt (tgt := 56) C dX2_times_46 (by decide) (fun c12 => ?_) (fun c12 => ?_)
      · replace hf := if_t c12 hf
        obtain ⟨x9, e_x9⟩ : ∃ y : Int32, y = i6 + 1 := ⟨_, rfl⟩
        replace hf := bn_to e_x9 hf
        refine z_iinc C (lv2 := [(1, .int a1), (3, .int x1), (4, .int x2), (5, .int r8), (6, .int i5), (7, .int x9)]) 5 [1, 2, 3, 4, 5, 0] dX2_times_56 rfl rfl (Nat.le_of_ble_eq_true rfl) e_x9 rfl ?_
        refine z_goto (tgt := 28) C dX2_times_59 (by decide) ?_
        cases hf
        exact z_sub [0, 1, 2, 3, 4, 5] rfl (ih r8 i5 x9 hz)
      · replace hf := if_f c12 hf
        refine z_iload C 4 dX2_times_49 rfl ?_
        refine z_iload C 3 dX2_times_51 rfl ?_
        refine z_ior C dX2_times_53 ?_
        refine z_topi (fun x10 e_x10 => ?_)
        replace hf := bn_to e_x10 hf
        refine z_istore C (lv2 := [(1, .int a1), (3, .int x1), (4, .int x2), (5, .int r8), (6, .int x10), (7, .int i6)]) [1, 2, 3, 4, 0, 5] dX2_times_54 (Nat.le_of_ble_eq_true rfl) rfl ?_
        obtain ⟨x11, e_x11⟩ : ∃ y : Int32, y = i6 + 1 := ⟨_, rfl⟩
        replace hf := bn_to e_x11 hf
        refine z_iinc C (lv2 := [(1, .int a1), (3, .int x1), (4, .int x2), (5, .int r8), (6, .int x10), (7, .int x11)]) 5 [1, 2, 3, 4, 5, 0] dX2_times_56 rfl rfl (Nat.le_of_ble_eq_true rfl) e_x11 rfl ?_
        refine z_goto (tgt := 28) C dX2_times_59 (by decide) ?_
        cases hf
        exact z_sub [0, 1, 2, 3, 4, 5] rfl (ih r8 x10 x11 hz)
set_option maxRecDepth 100000 in
set_option maxHeartbeats 4000000 in
theorem c_X2_times (l : Launch) (w : ZW) {m : Mem} {a1 : Int32} {a2 : Int32} {r9 : Int32}  (hf : s_X2_times a1 a2 = some r9) : zCi MX l w yX2_times wsX2_times rmX2_times [.ref (w.2.1 39), .int a1, .int a2] m m r9 := by
  refine z_met_i MX_ok (own := RX2) (by decide +kernel) rfl rfl (Nat.le_of_ble_eq_true rfl) ?_
  intro K C hKw hKl hret
  subst hKw
  subst hKl
  unfold s_X2_times at hf
  show zGo MX K m [(0, .ref ((zw K).2.1 39)), (1, .int a1), (2, .int a2)] 0 []
  refine z_iload_n C 2 dX2_times_0 rfl rfl ?_
  refine z_bipush C (v := 8) dX2_times_1 rfl ?_
  refine z_idiv C dX2_times_3 (by decide) ?_
  refine z_topi (fun x1 e_x1 => ?_)
  replace hf := bn_to e_x1 hf
  refine z_istore_n C (lv2 := [(0, .ref ((zw K).2.1 39)), (1, .int a1), (2, .int a2), (3, .int x1)]) [1, 2, 3, 0] dX2_times_4 rfl (Nat.le_of_ble_eq_true rfl) rfl ?_
  refine z_iload_n C 2 dX2_times_5 rfl rfl ?_
  refine z_bipush C (v := 8) dX2_times_6 rfl ?_
  refine z_irem C dX2_times_8 (by decide) ?_
  refine z_topi (fun x2 e_x2 => ?_)
  replace hf := bn_to e_x2 hf
  refine z_istore C (lv2 := [(0, .ref ((zw K).2.1 39)), (1, .int a1), (2, .int a2), (3, .int x1), (4, .int x2)]) [1, 2, 3, 4, 0] dX2_times_9 (Nat.le_of_ble_eq_true rfl) rfl ?_
  refine z_iconst C (v := 1) dX2_times_11 rfl ?_
  refine z_istore C (lv2 := [(0, .ref ((zw K).2.1 39)), (1, .int a1), (2, .int a2), (3, .int x1), (4, .int x2), (5, .int 1)]) [1, 2, 3, 4, 5, 0] dX2_times_12 (Nat.le_of_ble_eq_true rfl) rfl ?_
  refine z_iload_n C 3 dX2_times_14 rfl rfl ?_
  obtain ⟨y3, hg, hf⟩ := zb_el hf
  have hj : zGo MX K m [(1, .int a1), (3, .int x1), (4, .int x2), (5, .int 1)] 23 [.int y3] := by
    refine z_istore C (lv2 := [(1, .int a1), (3, .int x1), (4, .int x2), (5, .int 1), (6, .int y3)]) [1, 2, 3, 4, 0] dX2_times_23 (Nat.le_of_ble_eq_true rfl) rfl ?_
    refine z_iconst C (v := 1) dX2_times_25 rfl ?_
    refine z_istore C (lv2 := [(1, .int a1), (3, .int x1), (4, .int x2), (5, .int 1), (6, .int y3), (7, .int 1)]) [1, 2, 3, 4, 5, 0] dX2_times_26 (Nat.le_of_ble_eq_true rfl) rfl ?_
    obtain ⟨y14, hg, hf⟩ := zb_el hf
    refine z_sub [0, 1, 2, 3, 4, 5] rfl (w_X2_times_28 C  ?_ _ _ _ _ hg)
    clear hg
    refine z_iload C 0 dX2_times_62 rfl ?_
    cases hf
    exact hret _ _ dX2_times_64
  replace hf := hg
  clear hg
  refine z_if_ne (tgt := 22) C dX2_times_15 (by decide) (fun c15 => ?_) (fun c15 => ?_)
  · replace hf := if_f c15 hf
    refine z_iconst C (v := 0) dX2_times_22 rfl ?_
    cases hf
    exact z_sub [1, 3, 4, 5] rfl hj
  · replace hf := if_t c15 hf
    refine z_iconst C (v := 1) dX2_times_18 rfl ?_
    refine z_goto (tgt := 23) C dX2_times_19 (by decide) ?_
    cases hf
    exact z_sub [1, 3, 4, 5] rfl hj
set_option maxRecDepth 20000 in
theorem ggX2_setsDealt_X2_setsTaken : GoodIn wsX2_setsDealt wsX2_setsTaken := goodIn_sub (List.forall_mem_cons.mpr ⟨(List.mem_of_getElem? (i := 9) rfl), (List.forall_mem_append.mpr ⟨(List.forall_mem_append.mpr ⟨(List.forall_mem_append.mpr ⟨(List.forall_mem_cons.mpr ⟨(List.mem_of_getElem? (i := 10) rfl), (List.forall_mem_cons.mpr ⟨(List.mem_of_getElem? (i := 11) rfl), (List.forall_mem_cons.mpr ⟨(List.mem_of_getElem? (i := 12) rfl), (List.forall_mem_cons.mpr ⟨(List.mem_of_getElem? (i := 13) rfl), (List.forall_mem_cons.mpr ⟨(List.mem_of_getElem? (i := 1) rfl), (List.forall_mem_cons.mpr ⟨(List.mem_of_getElem? (i := 14) rfl), (List.forall_mem_cons.mpr ⟨(List.mem_of_getElem? (i := 15) rfl), (List.forall_mem_cons.mpr ⟨(List.mem_of_getElem? (i := 16) rfl), (List.forall_mem_cons.mpr ⟨(List.mem_of_getElem? (i := 17) rfl), (List.forall_mem_cons.mpr ⟨(List.mem_of_getElem? (i := 18) rfl), (List.forall_mem_cons.mpr ⟨(List.mem_of_getElem? (i := 8) rfl), (List.forall_mem_cons.mpr ⟨(List.mem_of_getElem? (i := 19) rfl), (List.forall_mem_cons.mpr ⟨(List.mem_of_getElem? (i := 20) rfl), (List.forall_mem_cons.mpr ⟨(List.mem_of_getElem? (i := 21) rfl), (List.forall_mem_cons.mpr ⟨(List.mem_of_getElem? (i := 22) rfl), (List.forall_mem_cons.mpr ⟨(List.mem_of_getElem? (i := 23) rfl), (List.forall_mem_cons.mpr ⟨(List.mem_of_getElem? (i := 24) rfl), (List.forall_mem_cons.mpr ⟨(List.mem_of_getElem? (i := 25) rfl), (List.forall_mem_cons.mpr ⟨(List.mem_of_getElem? (i := 26) rfl), (List.forall_mem_cons.mpr ⟨(List.mem_of_getElem? (i := 27) rfl), (List.forall_mem_cons.mpr ⟨(List.mem_of_getElem? (i := 28) rfl), (List.forall_mem_cons.mpr ⟨(List.mem_of_getElem? (i := 29) rfl), (List.forall_mem_cons.mpr ⟨(List.mem_of_getElem? (i := 30) rfl), (List.forall_mem_cons.mpr ⟨(List.mem_of_getElem? (i := 31) rfl), (fun _ h => absurd h List.not_mem_nil)⟩)⟩)⟩)⟩)⟩)⟩)⟩)⟩)⟩)⟩)⟩)⟩)⟩)⟩)⟩)⟩)⟩)⟩)⟩)⟩)⟩)⟩)⟩)⟩), (fun _ h => (List.mem_cons_of_mem _ (List.mem_append_left _ (List.mem_append_left _ (List.mem_append_right _ h)))))⟩), (fun _ h => (List.mem_cons_of_mem _ (List.mem_append_right _ h)))⟩), (fun _ h => (List.mem_cons_of_mem _ (List.mem_append_left _ (List.mem_append_right _ h))))⟩)⟩) (by decide +kernel)
set_option maxRecDepth 20000 in
theorem gX2_setsDealt_X2_setsTaken : GoodIn wsX2_setsDealt (wsV RX2 108 RX2 yX2_setsTaken wsX2_setsTaken) := goodIn_app (goodIn_sub (List.forall_mem_cons.mpr ⟨(List.mem_of_getElem? (i := 5) rfl), (List.forall_mem_cons.mpr ⟨(List.mem_of_getElem? (i := 6) rfl), (List.forall_mem_cons.mpr ⟨(List.mem_of_getElem? (i := 7) rfl), (List.forall_mem_cons.mpr ⟨(List.mem_of_getElem? (i := 8) rfl), (fun _ h => absurd h List.not_mem_nil)⟩)⟩)⟩)⟩) (by decide +kernel)) ggX2_setsDealt_X2_setsTaken
set_option maxRecDepth 20000 in
theorem ggX2_setsDealt_X2_times : GoodIn wsX2_setsDealt wsX2_times := goodIn_sub (List.forall_mem_cons.mpr ⟨(List.mem_of_getElem? (i := 35) rfl), (List.forall_mem_cons.mpr ⟨(List.mem_of_getElem? (i := 36) rfl), (List.forall_mem_cons.mpr ⟨(List.mem_of_getElem? (i := 37) rfl), (List.forall_mem_cons.mpr ⟨(List.mem_of_getElem? (i := 8) rfl), (List.forall_mem_cons.mpr ⟨(List.mem_of_getElem? (i := 38) rfl), (List.forall_mem_cons.mpr ⟨(List.mem_of_getElem? (i := 39) rfl), (fun _ h => absurd h List.not_mem_nil)⟩)⟩)⟩)⟩)⟩)⟩) (by decide +kernel)
set_option maxRecDepth 20000 in
theorem gX2_setsDealt_X2_times : GoodIn wsX2_setsDealt (wsV RX2 111 RX2 yX2_times wsX2_times) := goodIn_app (goodIn_sub (List.forall_mem_cons.mpr ⟨(List.mem_of_getElem? (i := 32) rfl), (List.forall_mem_cons.mpr ⟨(List.mem_of_getElem? (i := 33) rfl), (List.forall_mem_cons.mpr ⟨(List.mem_of_getElem? (i := 34) rfl), (List.forall_mem_cons.mpr ⟨(List.mem_of_getElem? (i := 8) rfl), (fun _ h => absurd h List.not_mem_nil)⟩)⟩)⟩)⟩) (by decide +kernel)) ggX2_setsDealt_X2_times
set_option maxRecDepth 20000 in
theorem ggX2_setsDealt_X2_both : GoodIn wsX2_setsDealt wsX2_both := goodIn_sub (List.forall_mem_cons.mpr ⟨(List.mem_of_getElem? (i := 38) rfl), (List.forall_mem_cons.mpr ⟨(List.mem_of_getElem? (i := 39) rfl), (fun _ h => absurd h List.not_mem_nil)⟩)⟩) (by decide +kernel)
set_option maxRecDepth 20000 in
theorem gX2_setsDealt_X2_both : GoodIn wsX2_setsDealt (va_wsS RX2 114 yX2_both wsX2_both) := goodIn_app (goodIn_sub (List.forall_mem_cons.mpr ⟨(List.mem_of_getElem? (i := 36) rfl), (List.forall_mem_cons.mpr ⟨(List.mem_of_getElem? (i := 37) rfl), (List.forall_mem_cons.mpr ⟨(List.mem_of_getElem? (i := 8) rfl), (fun _ h => absurd h List.not_mem_nil)⟩)⟩)⟩) (by decide +kernel)) ggX2_setsDealt_X2_both
set_option maxRecDepth 100000 in
theorem daX2_setsDealt : ∀ q ∈ ([(0, .iconst 0, 1), (1, .istore 4, 2), (3, .aload_n 0, 1), (4, .getfield 28, 3), (7, .getfield 102, 3), (10, .iload_n 2, 1), (11, .iaload, 1), (12, .istore 5, 2), (14, .iload 5, 2), (16, .aload_n 0, 1), (17, .getfield 28, 3), (20, .getfield 102, 3), (23, .iload_n 2, 1), (24, .iconst 1, 1), (25, .iadd, 1), (26, .iaload, 1), (27, .if_icmp .ge 208, 3), (30, .iload 5, 2), (32, .aload_n 0, 1), (33, .getfield 28, 3), (36, .getfield 105, 3), (39, .arraylength, 1), (40, .if_icmp .ge 195, 3), (43, .aload_n 0, 1), (44, .getfield 28, 3), (47, .getfield 105, 3), (50, .iload 5, 2), (52, .iaload, 1), (53, .istore 6, 2), (55, .iload 6, 2), (57, .bipush 64, 2), (59, .irem, 1), (60, .istore 7, 2), (62, .iload 6, 2), (64, .bipush 64, 2), (66, .idiv, 1), (67, .tableswitch 134 0 2 #[25, 61, 94], 25), (92, .iload 4, 2), (94, .aload_n 0, 1), (95, .getfield 21, 3), (98, .arraylength, 1), (99, .if_icmp .ge 130, 3), (102, .aload_n 0, 1), (103, .getfield 21, 3), (106, .iload 4, 2), (108, .aload_n 0, 1), (109, .iload_n 1, 1), (110, .iload_n 2, 1), (111, .bipush 6, 2), (113, .imul, 1), (114, .iload 7, 2), (116, .iadd, 1), (117, .aload_n 3, 1), (118, .invokevirtual 108, 3), (121, .iastore, 1), (122, .iinc 4 1, 3), (125, .goto 104, 3), (128, .iload 4, 2), (130, .iconst 1, 1), (131, .if_icmp .lt 98, 3), (134, .aload_n 0, 1), (135, .getfield 21, 3), (138, .iload 4, 2), (140, .iconst 1, 1), (141, .isub, 1), (142, .aload_n 0, 1), (143, .aload_n 0, 1), (144, .getfield 21, 3), (147, .iload 4, 2), (149, .iconst 1, 1), (150, .isub, 1), (151, .iaload, 1), (152, .iload 7, 2), (154, .invokevirtual 111, 3), (157, .iastore, 1), (158, .goto 71, 3), (161, .iload 4, 2), (163, .iconst 2, 1), (164, .if_icmp .lt 65, 3), (167, .iinc 4 (-1), 3), (170, .aload_n 0, 1), (171, .getfield 21, 3), (174, .iload 4, 2), (176, .iconst 1, 1), (177, .isub, 1), (178, .aload_n 0, 1), (179, .getfield 21, 3), (182, .iload 4, 2), (184, .iconst 1, 1), (185, .isub, 1), (186, .iaload, 1), (187, .aload_n 0, 1), (188, .getfield 21, 3), (191, .iload 4, 2), (193, .iaload, 1), (194, .invokestatic 114, 3), (197, .iastore, 1), (198, .goto 31, 3), (201, .iload 4, 2), (203, .iconst 2, 1), (204, .if_icmp .lt 25, 3), (207, .iinc 4 (-1), 3), (210, .aload_n 0, 1), (211, .getfield 21, 3), (214, .iload 4, 2), (216, .iconst 1, 1), (217, .isub, 1), (218, .dup2, 1), (219, .iaload, 1), (220, .aload_n 0, 1), (221, .getfield 21, 3), (224, .iload 4, 2), (226, .iaload, 1), (227, .ior, 1), (228, .iastore, 1), (229, .iinc 5 1, 3), (232, .goto (-218), 3), (235, .iload 4, 2), (237, .ifCond .ne 7, 3), (240, .iconst 1, 1), (241, .goto 9, 3), (244, .aload_n 0, 1), (245, .getfield 21, 3), (248, .iconst 0, 1), (249, .iaload, 1), (250, .ireturn, 1)] : List (Nat × Instr × Nat)), decode cX2_setsDealt q.1 = .ok q.2 := by decide +kernel
theorem dX2_setsDealt_0 : decode cX2_setsDealt 0 = .ok (.iconst 0, 1) := daX2_setsDealt (0, .iconst 0, 1) (List.mem_of_getElem? (i := 0) rfl)
theorem dX2_setsDealt_1 : decode cX2_setsDealt 1 = .ok (.istore 4, 2) := daX2_setsDealt (1, .istore 4, 2) (List.mem_of_getElem? (i := 1) rfl)
theorem dX2_setsDealt_3 : decode cX2_setsDealt 3 = .ok (.aload_n 0, 1) := daX2_setsDealt (3, .aload_n 0, 1) (List.mem_of_getElem? (i := 2) rfl)
theorem dX2_setsDealt_4 : decode cX2_setsDealt 4 = .ok (.getfield 28, 3) := daX2_setsDealt (4, .getfield 28, 3) (List.mem_of_getElem? (i := 3) rfl)
theorem dX2_setsDealt_7 : decode cX2_setsDealt 7 = .ok (.getfield 102, 3) := daX2_setsDealt (7, .getfield 102, 3) (List.mem_of_getElem? (i := 4) rfl)
theorem dX2_setsDealt_10 : decode cX2_setsDealt 10 = .ok (.iload_n 2, 1) := daX2_setsDealt (10, .iload_n 2, 1) (List.mem_of_getElem? (i := 5) rfl)
theorem dX2_setsDealt_11 : decode cX2_setsDealt 11 = .ok (.iaload, 1) := daX2_setsDealt (11, .iaload, 1) (List.mem_of_getElem? (i := 6) rfl)
theorem dX2_setsDealt_12 : decode cX2_setsDealt 12 = .ok (.istore 5, 2) := daX2_setsDealt (12, .istore 5, 2) (List.mem_of_getElem? (i := 7) rfl)
theorem dX2_setsDealt_14 : decode cX2_setsDealt 14 = .ok (.iload 5, 2) := daX2_setsDealt (14, .iload 5, 2) (List.mem_of_getElem? (i := 8) rfl)
theorem dX2_setsDealt_16 : decode cX2_setsDealt 16 = .ok (.aload_n 0, 1) := daX2_setsDealt (16, .aload_n 0, 1) (List.mem_of_getElem? (i := 9) rfl)
theorem dX2_setsDealt_17 : decode cX2_setsDealt 17 = .ok (.getfield 28, 3) := daX2_setsDealt (17, .getfield 28, 3) (List.mem_of_getElem? (i := 10) rfl)
theorem dX2_setsDealt_20 : decode cX2_setsDealt 20 = .ok (.getfield 102, 3) := daX2_setsDealt (20, .getfield 102, 3) (List.mem_of_getElem? (i := 11) rfl)
theorem dX2_setsDealt_23 : decode cX2_setsDealt 23 = .ok (.iload_n 2, 1) := daX2_setsDealt (23, .iload_n 2, 1) (List.mem_of_getElem? (i := 12) rfl)
theorem dX2_setsDealt_24 : decode cX2_setsDealt 24 = .ok (.iconst 1, 1) := daX2_setsDealt (24, .iconst 1, 1) (List.mem_of_getElem? (i := 13) rfl)
theorem dX2_setsDealt_25 : decode cX2_setsDealt 25 = .ok (.iadd, 1) := daX2_setsDealt (25, .iadd, 1) (List.mem_of_getElem? (i := 14) rfl)
theorem dX2_setsDealt_26 : decode cX2_setsDealt 26 = .ok (.iaload, 1) := daX2_setsDealt (26, .iaload, 1) (List.mem_of_getElem? (i := 15) rfl)
theorem dX2_setsDealt_27 : decode cX2_setsDealt 27 = .ok (.if_icmp .ge 208, 3) := daX2_setsDealt (27, .if_icmp .ge 208, 3) (List.mem_of_getElem? (i := 16) rfl)
theorem dX2_setsDealt_30 : decode cX2_setsDealt 30 = .ok (.iload 5, 2) := daX2_setsDealt (30, .iload 5, 2) (List.mem_of_getElem? (i := 17) rfl)
theorem dX2_setsDealt_32 : decode cX2_setsDealt 32 = .ok (.aload_n 0, 1) := daX2_setsDealt (32, .aload_n 0, 1) (List.mem_of_getElem? (i := 18) rfl)
theorem dX2_setsDealt_33 : decode cX2_setsDealt 33 = .ok (.getfield 28, 3) := daX2_setsDealt (33, .getfield 28, 3) (List.mem_of_getElem? (i := 19) rfl)
theorem dX2_setsDealt_36 : decode cX2_setsDealt 36 = .ok (.getfield 105, 3) := daX2_setsDealt (36, .getfield 105, 3) (List.mem_of_getElem? (i := 20) rfl)
theorem dX2_setsDealt_39 : decode cX2_setsDealt 39 = .ok (.arraylength, 1) := daX2_setsDealt (39, .arraylength, 1) (List.mem_of_getElem? (i := 21) rfl)
theorem dX2_setsDealt_40 : decode cX2_setsDealt 40 = .ok (.if_icmp .ge 195, 3) := daX2_setsDealt (40, .if_icmp .ge 195, 3) (List.mem_of_getElem? (i := 22) rfl)
theorem dX2_setsDealt_43 : decode cX2_setsDealt 43 = .ok (.aload_n 0, 1) := daX2_setsDealt (43, .aload_n 0, 1) (List.mem_of_getElem? (i := 23) rfl)
theorem dX2_setsDealt_44 : decode cX2_setsDealt 44 = .ok (.getfield 28, 3) := daX2_setsDealt (44, .getfield 28, 3) (List.mem_of_getElem? (i := 24) rfl)
theorem dX2_setsDealt_47 : decode cX2_setsDealt 47 = .ok (.getfield 105, 3) := daX2_setsDealt (47, .getfield 105, 3) (List.mem_of_getElem? (i := 25) rfl)
theorem dX2_setsDealt_50 : decode cX2_setsDealt 50 = .ok (.iload 5, 2) := daX2_setsDealt (50, .iload 5, 2) (List.mem_of_getElem? (i := 26) rfl)
theorem dX2_setsDealt_52 : decode cX2_setsDealt 52 = .ok (.iaload, 1) := daX2_setsDealt (52, .iaload, 1) (List.mem_of_getElem? (i := 27) rfl)
theorem dX2_setsDealt_53 : decode cX2_setsDealt 53 = .ok (.istore 6, 2) := daX2_setsDealt (53, .istore 6, 2) (List.mem_of_getElem? (i := 28) rfl)
theorem dX2_setsDealt_55 : decode cX2_setsDealt 55 = .ok (.iload 6, 2) := daX2_setsDealt (55, .iload 6, 2) (List.mem_of_getElem? (i := 29) rfl)
theorem dX2_setsDealt_57 : decode cX2_setsDealt 57 = .ok (.bipush 64, 2) := daX2_setsDealt (57, .bipush 64, 2) (List.mem_of_getElem? (i := 30) rfl)
theorem dX2_setsDealt_59 : decode cX2_setsDealt 59 = .ok (.irem, 1) := daX2_setsDealt (59, .irem, 1) (List.mem_of_getElem? (i := 31) rfl)
theorem dX2_setsDealt_60 : decode cX2_setsDealt 60 = .ok (.istore 7, 2) := daX2_setsDealt (60, .istore 7, 2) (List.mem_of_getElem? (i := 32) rfl)
theorem dX2_setsDealt_62 : decode cX2_setsDealt 62 = .ok (.iload 6, 2) := daX2_setsDealt (62, .iload 6, 2) (List.mem_of_getElem? (i := 33) rfl)
theorem dX2_setsDealt_64 : decode cX2_setsDealt 64 = .ok (.bipush 64, 2) := daX2_setsDealt (64, .bipush 64, 2) (List.mem_of_getElem? (i := 34) rfl)
theorem dX2_setsDealt_66 : decode cX2_setsDealt 66 = .ok (.idiv, 1) := daX2_setsDealt (66, .idiv, 1) (List.mem_of_getElem? (i := 35) rfl)
theorem dX2_setsDealt_67 : decode cX2_setsDealt 67 = .ok (.tableswitch 134 0 2 #[25, 61, 94], 25) := daX2_setsDealt (67, .tableswitch 134 0 2 #[25, 61, 94], 25) (List.mem_of_getElem? (i := 36) rfl)
theorem dX2_setsDealt_92 : decode cX2_setsDealt 92 = .ok (.iload 4, 2) := daX2_setsDealt (92, .iload 4, 2) (List.mem_of_getElem? (i := 37) rfl)
theorem dX2_setsDealt_94 : decode cX2_setsDealt 94 = .ok (.aload_n 0, 1) := daX2_setsDealt (94, .aload_n 0, 1) (List.mem_of_getElem? (i := 38) rfl)
theorem dX2_setsDealt_95 : decode cX2_setsDealt 95 = .ok (.getfield 21, 3) := daX2_setsDealt (95, .getfield 21, 3) (List.mem_of_getElem? (i := 39) rfl)
theorem dX2_setsDealt_98 : decode cX2_setsDealt 98 = .ok (.arraylength, 1) := daX2_setsDealt (98, .arraylength, 1) (List.mem_of_getElem? (i := 40) rfl)
theorem dX2_setsDealt_99 : decode cX2_setsDealt 99 = .ok (.if_icmp .ge 130, 3) := daX2_setsDealt (99, .if_icmp .ge 130, 3) (List.mem_of_getElem? (i := 41) rfl)
theorem dX2_setsDealt_102 : decode cX2_setsDealt 102 = .ok (.aload_n 0, 1) := daX2_setsDealt (102, .aload_n 0, 1) (List.mem_of_getElem? (i := 42) rfl)
theorem dX2_setsDealt_103 : decode cX2_setsDealt 103 = .ok (.getfield 21, 3) := daX2_setsDealt (103, .getfield 21, 3) (List.mem_of_getElem? (i := 43) rfl)
theorem dX2_setsDealt_106 : decode cX2_setsDealt 106 = .ok (.iload 4, 2) := daX2_setsDealt (106, .iload 4, 2) (List.mem_of_getElem? (i := 44) rfl)
theorem dX2_setsDealt_108 : decode cX2_setsDealt 108 = .ok (.aload_n 0, 1) := daX2_setsDealt (108, .aload_n 0, 1) (List.mem_of_getElem? (i := 45) rfl)
theorem dX2_setsDealt_109 : decode cX2_setsDealt 109 = .ok (.iload_n 1, 1) := daX2_setsDealt (109, .iload_n 1, 1) (List.mem_of_getElem? (i := 46) rfl)
theorem dX2_setsDealt_110 : decode cX2_setsDealt 110 = .ok (.iload_n 2, 1) := daX2_setsDealt (110, .iload_n 2, 1) (List.mem_of_getElem? (i := 47) rfl)
theorem dX2_setsDealt_111 : decode cX2_setsDealt 111 = .ok (.bipush 6, 2) := daX2_setsDealt (111, .bipush 6, 2) (List.mem_of_getElem? (i := 48) rfl)
theorem dX2_setsDealt_113 : decode cX2_setsDealt 113 = .ok (.imul, 1) := daX2_setsDealt (113, .imul, 1) (List.mem_of_getElem? (i := 49) rfl)
theorem dX2_setsDealt_114 : decode cX2_setsDealt 114 = .ok (.iload 7, 2) := daX2_setsDealt (114, .iload 7, 2) (List.mem_of_getElem? (i := 50) rfl)
theorem dX2_setsDealt_116 : decode cX2_setsDealt 116 = .ok (.iadd, 1) := daX2_setsDealt (116, .iadd, 1) (List.mem_of_getElem? (i := 51) rfl)
theorem dX2_setsDealt_117 : decode cX2_setsDealt 117 = .ok (.aload_n 3, 1) := daX2_setsDealt (117, .aload_n 3, 1) (List.mem_of_getElem? (i := 52) rfl)
theorem dX2_setsDealt_118 : decode cX2_setsDealt 118 = .ok (.invokevirtual 108, 3) := daX2_setsDealt (118, .invokevirtual 108, 3) (List.mem_of_getElem? (i := 53) rfl)
theorem dX2_setsDealt_121 : decode cX2_setsDealt 121 = .ok (.iastore, 1) := daX2_setsDealt (121, .iastore, 1) (List.mem_of_getElem? (i := 54) rfl)
theorem dX2_setsDealt_122 : decode cX2_setsDealt 122 = .ok (.iinc 4 1, 3) := daX2_setsDealt (122, .iinc 4 1, 3) (List.mem_of_getElem? (i := 55) rfl)
theorem dX2_setsDealt_125 : decode cX2_setsDealt 125 = .ok (.goto 104, 3) := daX2_setsDealt (125, .goto 104, 3) (List.mem_of_getElem? (i := 56) rfl)
theorem dX2_setsDealt_128 : decode cX2_setsDealt 128 = .ok (.iload 4, 2) := daX2_setsDealt (128, .iload 4, 2) (List.mem_of_getElem? (i := 57) rfl)
theorem dX2_setsDealt_130 : decode cX2_setsDealt 130 = .ok (.iconst 1, 1) := daX2_setsDealt (130, .iconst 1, 1) (List.mem_of_getElem? (i := 58) rfl)
theorem dX2_setsDealt_131 : decode cX2_setsDealt 131 = .ok (.if_icmp .lt 98, 3) := daX2_setsDealt (131, .if_icmp .lt 98, 3) (List.mem_of_getElem? (i := 59) rfl)
theorem dX2_setsDealt_134 : decode cX2_setsDealt 134 = .ok (.aload_n 0, 1) := daX2_setsDealt (134, .aload_n 0, 1) (List.mem_of_getElem? (i := 60) rfl)
theorem dX2_setsDealt_135 : decode cX2_setsDealt 135 = .ok (.getfield 21, 3) := daX2_setsDealt (135, .getfield 21, 3) (List.mem_of_getElem? (i := 61) rfl)
theorem dX2_setsDealt_138 : decode cX2_setsDealt 138 = .ok (.iload 4, 2) := daX2_setsDealt (138, .iload 4, 2) (List.mem_of_getElem? (i := 62) rfl)
theorem dX2_setsDealt_140 : decode cX2_setsDealt 140 = .ok (.iconst 1, 1) := daX2_setsDealt (140, .iconst 1, 1) (List.mem_of_getElem? (i := 63) rfl)
theorem dX2_setsDealt_141 : decode cX2_setsDealt 141 = .ok (.isub, 1) := daX2_setsDealt (141, .isub, 1) (List.mem_of_getElem? (i := 64) rfl)
theorem dX2_setsDealt_142 : decode cX2_setsDealt 142 = .ok (.aload_n 0, 1) := daX2_setsDealt (142, .aload_n 0, 1) (List.mem_of_getElem? (i := 65) rfl)
theorem dX2_setsDealt_143 : decode cX2_setsDealt 143 = .ok (.aload_n 0, 1) := daX2_setsDealt (143, .aload_n 0, 1) (List.mem_of_getElem? (i := 66) rfl)
theorem dX2_setsDealt_144 : decode cX2_setsDealt 144 = .ok (.getfield 21, 3) := daX2_setsDealt (144, .getfield 21, 3) (List.mem_of_getElem? (i := 67) rfl)
theorem dX2_setsDealt_147 : decode cX2_setsDealt 147 = .ok (.iload 4, 2) := daX2_setsDealt (147, .iload 4, 2) (List.mem_of_getElem? (i := 68) rfl)
theorem dX2_setsDealt_149 : decode cX2_setsDealt 149 = .ok (.iconst 1, 1) := daX2_setsDealt (149, .iconst 1, 1) (List.mem_of_getElem? (i := 69) rfl)
theorem dX2_setsDealt_150 : decode cX2_setsDealt 150 = .ok (.isub, 1) := daX2_setsDealt (150, .isub, 1) (List.mem_of_getElem? (i := 70) rfl)
theorem dX2_setsDealt_151 : decode cX2_setsDealt 151 = .ok (.iaload, 1) := daX2_setsDealt (151, .iaload, 1) (List.mem_of_getElem? (i := 71) rfl)
theorem dX2_setsDealt_152 : decode cX2_setsDealt 152 = .ok (.iload 7, 2) := daX2_setsDealt (152, .iload 7, 2) (List.mem_of_getElem? (i := 72) rfl)
theorem dX2_setsDealt_154 : decode cX2_setsDealt 154 = .ok (.invokevirtual 111, 3) := daX2_setsDealt (154, .invokevirtual 111, 3) (List.mem_of_getElem? (i := 73) rfl)
theorem dX2_setsDealt_157 : decode cX2_setsDealt 157 = .ok (.iastore, 1) := daX2_setsDealt (157, .iastore, 1) (List.mem_of_getElem? (i := 74) rfl)
theorem dX2_setsDealt_158 : decode cX2_setsDealt 158 = .ok (.goto 71, 3) := daX2_setsDealt (158, .goto 71, 3) (List.mem_of_getElem? (i := 75) rfl)
theorem dX2_setsDealt_161 : decode cX2_setsDealt 161 = .ok (.iload 4, 2) := daX2_setsDealt (161, .iload 4, 2) (List.mem_of_getElem? (i := 76) rfl)
theorem dX2_setsDealt_163 : decode cX2_setsDealt 163 = .ok (.iconst 2, 1) := daX2_setsDealt (163, .iconst 2, 1) (List.mem_of_getElem? (i := 77) rfl)
theorem dX2_setsDealt_164 : decode cX2_setsDealt 164 = .ok (.if_icmp .lt 65, 3) := daX2_setsDealt (164, .if_icmp .lt 65, 3) (List.mem_of_getElem? (i := 78) rfl)
theorem dX2_setsDealt_167 : decode cX2_setsDealt 167 = .ok (.iinc 4 (-1), 3) := daX2_setsDealt (167, .iinc 4 (-1), 3) (List.mem_of_getElem? (i := 79) rfl)
theorem dX2_setsDealt_170 : decode cX2_setsDealt 170 = .ok (.aload_n 0, 1) := daX2_setsDealt (170, .aload_n 0, 1) (List.mem_of_getElem? (i := 80) rfl)
theorem dX2_setsDealt_171 : decode cX2_setsDealt 171 = .ok (.getfield 21, 3) := daX2_setsDealt (171, .getfield 21, 3) (List.mem_of_getElem? (i := 81) rfl)
theorem dX2_setsDealt_174 : decode cX2_setsDealt 174 = .ok (.iload 4, 2) := daX2_setsDealt (174, .iload 4, 2) (List.mem_of_getElem? (i := 82) rfl)
theorem dX2_setsDealt_176 : decode cX2_setsDealt 176 = .ok (.iconst 1, 1) := daX2_setsDealt (176, .iconst 1, 1) (List.mem_of_getElem? (i := 83) rfl)
theorem dX2_setsDealt_177 : decode cX2_setsDealt 177 = .ok (.isub, 1) := daX2_setsDealt (177, .isub, 1) (List.mem_of_getElem? (i := 84) rfl)
theorem dX2_setsDealt_178 : decode cX2_setsDealt 178 = .ok (.aload_n 0, 1) := daX2_setsDealt (178, .aload_n 0, 1) (List.mem_of_getElem? (i := 85) rfl)
theorem dX2_setsDealt_179 : decode cX2_setsDealt 179 = .ok (.getfield 21, 3) := daX2_setsDealt (179, .getfield 21, 3) (List.mem_of_getElem? (i := 86) rfl)
theorem dX2_setsDealt_182 : decode cX2_setsDealt 182 = .ok (.iload 4, 2) := daX2_setsDealt (182, .iload 4, 2) (List.mem_of_getElem? (i := 87) rfl)
theorem dX2_setsDealt_184 : decode cX2_setsDealt 184 = .ok (.iconst 1, 1) := daX2_setsDealt (184, .iconst 1, 1) (List.mem_of_getElem? (i := 88) rfl)
theorem dX2_setsDealt_185 : decode cX2_setsDealt 185 = .ok (.isub, 1) := daX2_setsDealt (185, .isub, 1) (List.mem_of_getElem? (i := 89) rfl)
theorem dX2_setsDealt_186 : decode cX2_setsDealt 186 = .ok (.iaload, 1) := daX2_setsDealt (186, .iaload, 1) (List.mem_of_getElem? (i := 90) rfl)
theorem dX2_setsDealt_187 : decode cX2_setsDealt 187 = .ok (.aload_n 0, 1) := daX2_setsDealt (187, .aload_n 0, 1) (List.mem_of_getElem? (i := 91) rfl)
theorem dX2_setsDealt_188 : decode cX2_setsDealt 188 = .ok (.getfield 21, 3) := daX2_setsDealt (188, .getfield 21, 3) (List.mem_of_getElem? (i := 92) rfl)
theorem dX2_setsDealt_191 : decode cX2_setsDealt 191 = .ok (.iload 4, 2) := daX2_setsDealt (191, .iload 4, 2) (List.mem_of_getElem? (i := 93) rfl)
theorem dX2_setsDealt_193 : decode cX2_setsDealt 193 = .ok (.iaload, 1) := daX2_setsDealt (193, .iaload, 1) (List.mem_of_getElem? (i := 94) rfl)
theorem dX2_setsDealt_194 : decode cX2_setsDealt 194 = .ok (.invokestatic 114, 3) := daX2_setsDealt (194, .invokestatic 114, 3) (List.mem_of_getElem? (i := 95) rfl)
theorem dX2_setsDealt_197 : decode cX2_setsDealt 197 = .ok (.iastore, 1) := daX2_setsDealt (197, .iastore, 1) (List.mem_of_getElem? (i := 96) rfl)
theorem dX2_setsDealt_198 : decode cX2_setsDealt 198 = .ok (.goto 31, 3) := daX2_setsDealt (198, .goto 31, 3) (List.mem_of_getElem? (i := 97) rfl)
theorem dX2_setsDealt_201 : decode cX2_setsDealt 201 = .ok (.iload 4, 2) := daX2_setsDealt (201, .iload 4, 2) (List.mem_of_getElem? (i := 98) rfl)
theorem dX2_setsDealt_203 : decode cX2_setsDealt 203 = .ok (.iconst 2, 1) := daX2_setsDealt (203, .iconst 2, 1) (List.mem_of_getElem? (i := 99) rfl)
theorem dX2_setsDealt_204 : decode cX2_setsDealt 204 = .ok (.if_icmp .lt 25, 3) := daX2_setsDealt (204, .if_icmp .lt 25, 3) (List.mem_of_getElem? (i := 100) rfl)
theorem dX2_setsDealt_207 : decode cX2_setsDealt 207 = .ok (.iinc 4 (-1), 3) := daX2_setsDealt (207, .iinc 4 (-1), 3) (List.mem_of_getElem? (i := 101) rfl)
theorem dX2_setsDealt_210 : decode cX2_setsDealt 210 = .ok (.aload_n 0, 1) := daX2_setsDealt (210, .aload_n 0, 1) (List.mem_of_getElem? (i := 102) rfl)
theorem dX2_setsDealt_211 : decode cX2_setsDealt 211 = .ok (.getfield 21, 3) := daX2_setsDealt (211, .getfield 21, 3) (List.mem_of_getElem? (i := 103) rfl)
theorem dX2_setsDealt_214 : decode cX2_setsDealt 214 = .ok (.iload 4, 2) := daX2_setsDealt (214, .iload 4, 2) (List.mem_of_getElem? (i := 104) rfl)
theorem dX2_setsDealt_216 : decode cX2_setsDealt 216 = .ok (.iconst 1, 1) := daX2_setsDealt (216, .iconst 1, 1) (List.mem_of_getElem? (i := 105) rfl)
theorem dX2_setsDealt_217 : decode cX2_setsDealt 217 = .ok (.isub, 1) := daX2_setsDealt (217, .isub, 1) (List.mem_of_getElem? (i := 106) rfl)
theorem dX2_setsDealt_218 : decode cX2_setsDealt 218 = .ok (.dup2, 1) := daX2_setsDealt (218, .dup2, 1) (List.mem_of_getElem? (i := 107) rfl)
theorem dX2_setsDealt_219 : decode cX2_setsDealt 219 = .ok (.iaload, 1) := daX2_setsDealt (219, .iaload, 1) (List.mem_of_getElem? (i := 108) rfl)
theorem dX2_setsDealt_220 : decode cX2_setsDealt 220 = .ok (.aload_n 0, 1) := daX2_setsDealt (220, .aload_n 0, 1) (List.mem_of_getElem? (i := 109) rfl)
theorem dX2_setsDealt_221 : decode cX2_setsDealt 221 = .ok (.getfield 21, 3) := daX2_setsDealt (221, .getfield 21, 3) (List.mem_of_getElem? (i := 110) rfl)
theorem dX2_setsDealt_224 : decode cX2_setsDealt 224 = .ok (.iload 4, 2) := daX2_setsDealt (224, .iload 4, 2) (List.mem_of_getElem? (i := 111) rfl)
theorem dX2_setsDealt_226 : decode cX2_setsDealt 226 = .ok (.iaload, 1) := daX2_setsDealt (226, .iaload, 1) (List.mem_of_getElem? (i := 112) rfl)
theorem dX2_setsDealt_227 : decode cX2_setsDealt 227 = .ok (.ior, 1) := daX2_setsDealt (227, .ior, 1) (List.mem_of_getElem? (i := 113) rfl)
theorem dX2_setsDealt_228 : decode cX2_setsDealt 228 = .ok (.iastore, 1) := daX2_setsDealt (228, .iastore, 1) (List.mem_of_getElem? (i := 114) rfl)
theorem dX2_setsDealt_229 : decode cX2_setsDealt 229 = .ok (.iinc 5 1, 3) := daX2_setsDealt (229, .iinc 5 1, 3) (List.mem_of_getElem? (i := 115) rfl)
theorem dX2_setsDealt_232 : decode cX2_setsDealt 232 = .ok (.goto (-218), 3) := daX2_setsDealt (232, .goto (-218), 3) (List.mem_of_getElem? (i := 116) rfl)
theorem dX2_setsDealt_235 : decode cX2_setsDealt 235 = .ok (.iload 4, 2) := daX2_setsDealt (235, .iload 4, 2) (List.mem_of_getElem? (i := 117) rfl)
theorem dX2_setsDealt_237 : decode cX2_setsDealt 237 = .ok (.ifCond .ne 7, 3) := daX2_setsDealt (237, .ifCond .ne 7, 3) (List.mem_of_getElem? (i := 118) rfl)
theorem dX2_setsDealt_240 : decode cX2_setsDealt 240 = .ok (.iconst 1, 1) := daX2_setsDealt (240, .iconst 1, 1) (List.mem_of_getElem? (i := 119) rfl)
theorem dX2_setsDealt_241 : decode cX2_setsDealt 241 = .ok (.goto 9, 3) := daX2_setsDealt (241, .goto 9, 3) (List.mem_of_getElem? (i := 120) rfl)
theorem dX2_setsDealt_244 : decode cX2_setsDealt 244 = .ok (.aload_n 0, 1) := daX2_setsDealt (244, .aload_n 0, 1) (List.mem_of_getElem? (i := 121) rfl)
theorem dX2_setsDealt_245 : decode cX2_setsDealt 245 = .ok (.getfield 21, 3) := daX2_setsDealt (245, .getfield 21, 3) (List.mem_of_getElem? (i := 122) rfl)
theorem dX2_setsDealt_248 : decode cX2_setsDealt 248 = .ok (.iconst 0, 1) := daX2_setsDealt (248, .iconst 0, 1) (List.mem_of_getElem? (i := 123) rfl)
theorem dX2_setsDealt_249 : decode cX2_setsDealt 249 = .ok (.iaload, 1) := daX2_setsDealt (249, .iaload, 1) (List.mem_of_getElem? (i := 124) rfl)
theorem dX2_setsDealt_250 : decode cX2_setsDealt 250 = .ok (.ireturn, 1) := daX2_setsDealt (250, .ireturn, 1) (List.mem_of_getElem? (i := 125) rfl)
def rmX2_setsDealt : Room := { frames := 2, cells := 0, slots := 0, locals := 52 }
theorem zdX2_setsDealt : yX2_setsDealt.cls = RX2 ∧ yX2_setsDealt.cls ≠ "java/lang/invoke/MethodHandle" ∧ yX2_setsDealt.cls ≠ "java/lang/invoke/VarHandle" ∧ (parseMethodDescriptor yX2_setsDealt.desc).map (fun d => d.parameters.length) = some 3 := by decide +kernel
theorem kiX2_setsDealt_X2 : ∀ w ∈ wsX20, w ∈ wsX2_setsDealt := fun _ h => (List.mem_cons_of_mem _ (List.mem_append_left _ (List.mem_append_left _ (List.mem_append_right _ h))))
theorem kfX2_setsDealt_28 : Cond.fieldLink RX2 28 "ShapeJudge$Judge" "book" "LShapeJudge$Book;" ∈ wsX2_setsDealt := (List.mem_of_getElem? (i := 1) rfl)
theorem kiX2_setsDealt_X0 : ∀ w ∈ wsX00, w ∈ wsX2_setsDealt := fun _ h => (List.mem_cons_of_mem _ (List.mem_append_left _ (List.mem_append_right _ h)))
theorem kfX2_setsDealt_102 : Cond.fieldLink RX2 102 "ShapeJudge$Book" "firstStep" "[I" ∈ wsX2_setsDealt := (List.mem_of_getElem? (i := 2) rfl)
theorem kfX2_setsDealt_105 : Cond.fieldLink RX2 105 "ShapeJudge$Book" "steps" "[I" ∈ wsX2_setsDealt := (List.mem_of_getElem? (i := 3) rfl)
theorem kfX2_setsDealt_21 : Cond.fieldLink RX2 21 "ShapeJudge$Judge" "stack" "[I" ∈ wsX2_setsDealt := (List.mem_of_getElem? (i := 4) rfl)
def t_X2_setsDealt_14 (a1 : Int32) (a2 : Int32) (tr3 : Nat) (i4 : Int32) (i5 : Int32) (m6 : Mem) : Option ((Int32 × Int32 × Mem) ⊕ (Int32 × Mem)) :=
  zbk (m6 39 1) fun b7 => ck (zin (a2 + 1) 7 = true) ((if (m6 (b7 + 7) (Int32.toNatClampNeg (a2 + 1))) ≤ i5 then (some (.inr (i4, m6))) else (zbk (m6 39 1) fun b9 => (if 146 ≤ i5 then (some (.inr (i4, m6))) else (zbk (m6 39 1) fun b10 => ck (zin i5 146 = true) (bn (m6 (b10 + 8) (Int32.toNatClampNeg i5)) fun x12 => bn (x12 - x12 / 64 * 64) fun x13 => (if (x12 / 64) = 0 then ((if 6 ≤ i4 then (bn (i5 + 1) fun x15 => some (.inl (i4, x15, m6))) else ((s_X2_setsTaken m6 a1 ((a2 * 6) + x13) tr3).bind fun r17 => ck (zin i4 6 = true) (bn (sto m6 43 (Int32.toNatClampNeg i4) r17) fun m19 => bn (i4 + 1) fun x20 => bn (i5 + 1) fun x21 => some (.inl (x20, x21, m19)))))) else ((if (x12 / 64) = 1 then ((if i4 < 1 then (bn (i5 + 1) fun x24 => some (.inl (i4, x24, m6))) else (ck (zin (i4 - 1) 6 = true) ((s_X2_times (m6 43 (Int32.toNatClampNeg (i4 - 1))) x13).bind fun r27 => ck (zin (i4 - 1) 6 = true) (bn (sto m6 43 (Int32.toNatClampNeg (i4 - 1)) r27) fun m29 => bn (i5 + 1) fun x30 => some (.inl (i4, x30, m29))))))) else ((if (x12 / 64) = 2 then ((if i4 < 2 then (bn (i5 + 1) fun x33 => some (.inl (i4, x33, m6))) else (bn (i4 + (-1)) fun x34 => ck (zin (x34 - 1) 6 = true) (ck (zin x34 6 = true) ((s_X2_both (m6 43 (Int32.toNatClampNeg (x34 - 1))) (m6 43 (Int32.toNatClampNeg x34))).bind fun r38 => ck (zin (x34 - 1) 6 = true) (bn (sto m6 43 (Int32.toNatClampNeg (x34 - 1)) r38) fun m40 => bn (i5 + 1) fun x41 => some (.inl (x34, x41, m40)))))))) else ((if i4 < 2 then (bn (i5 + 1) fun x43 => some (.inl (i4, x43, m6))) else (bn (i4 + (-1)) fun x44 => ck (zin (x44 - 1) 6 = true) (ck (zin x44 6 = true) (ck (zin (x44 - 1) 6 = true) (bn (sto m6 43 (Int32.toNatClampNeg (x44 - 1)) ((m6 43 (Int32.toNatClampNeg (x44 - 1))) ||| (m6 43 (Int32.toNatClampNeg x44)))) fun m48 => bn (i5 + 1) fun x49 => some (.inl (x44, x49, m48)))))))))))))))))))
def l_X2_setsDealt_14 (a1 : Int32) (a2 : Int32) (tr3 : Nat) (n : Nat) (i4 : Int32) (i5 : Int32) (m6 : Mem) : Option (Int32 × Mem) := zlp n (fun a => t_X2_setsDealt_14 a1 a2 tr3 a.1 a.2.1 a.2.2) (i4, i5, m6)
def s_X2_setsDealt (m : Mem) (a1 : Int32) (a2 : Int32) (tr3 : Nat) : Option (Int32 × Mem) :=
  zbk (m 39 1) fun b1 => ck (zin a2 7 = true) (bn (m (b1 + 7) (Int32.toNatClampNeg a2)) fun x3 => (zb2 (l_X2_setsDealt_14 a1 a2 tr3 FU 0 x3 m) fun y53 m54 => (if y53 = 0 then (some (1, m54)) else (ck (zin 0 6 = true) (some ((m54 43 (Int32.toNatClampNeg 0)), m54))))))
set_option maxRecDepth 100000 in
set_option maxHeartbeats 4000000 in
theorem w_X2_setsDealt_14 {K : ZK} (C : zOK MX K cX2_setsDealt 8 (some .int) RX2 wsX2_setsDealt rmX2_setsDealt) {a1 : Int32} {a2 : Int32} {tr3 : Nat} (htr3 : istr tr3) {o0 : Int32} {o1 : Mem} (hk : zGo MX K o1 [(0, .ref ((zw K).2.1 39)), (4, .int o0)] 235 []) : ∀ (n : Nat) (i4 : Int32) (i5 : Int32) (m6 : Mem), l_X2_setsDealt_14 a1 a2 tr3 n i4 i5 m6 = some (o0, o1) → zGo MX K m6 [(0, .ref ((zw K).2.1 39)), (1, .int a1), (2, .int a2), (3, .ref ((zw K).2.1 tr3)), (4, .int i4), (5, .int i5)] 14 [] := by
  intro n
  induction n with
  | zero =>
    intro i4 i5 m6 hf
    cases hf
  | succ n ih =>
    intro i4 i5 m6 hf
    obtain ⟨z, hf, hz⟩ := zlp_el hf
    replace hf : t_X2_setsDealt_14 a1 a2 tr3 i4 i5 m6 = some z := hf
    unfold t_X2_setsDealt_14 at hf
    refine z_iload C 5 dX2_setsDealt_14 rfl ?_
    refine z_aload_n C 0 dX2_setsDealt_16 rfl rfl ?_
    obtain ⟨b7, hb7, e_b7, hf⟩ := zbk_el hf
    refine z_getb C (b := b7) (Nat.le_of_ble_eq_true rfl) rfl rfl 1 (Nat.le_of_ble_eq_true rfl) rfl kiX2_setsDealt_X2 kfX2_setsDealt_28 (isb_lt hb7) e_b7 dX2_setsDealt_17 ?_
    refine z_getr C (t := b7 + 7) (isb_k0 hb7) (isb_L0 hb7) rfl 9 (Nat.le_of_ble_eq_true rfl) rfl kiX2_setsDealt_X0 kfX2_setsDealt_102 dX2_setsDealt_20 ?_
    refine z_iload_n C 2 dX2_setsDealt_23 rfl rfl ?_
    refine z_iconst C (v := 1) dX2_setsDealt_24 rfl ?_
    refine z_iadd C dX2_setsDealt_25 ?_
    obtain ⟨hi8, hf⟩ := ck_el hf
    refine z_iald C (k := (b7 + 7)) (isb_k7 hb7) (isb_L7 hb7) hi8 dX2_setsDealt_26 ?_
    refine z_icmp_ge (tgt := 235) C dX2_setsDealt_27 (by decide) (fun c52 => ?_) (fun c52 => ?_)
    · replace hf := if_t c52 hf
      cases hf
      replace hz := zlz_r hz
      cases hz
      exact z_sub [0, 4] rfl hk
    · replace hf := if_f c52 hf
      refine z_iload C 5 dX2_setsDealt_30 rfl ?_
      refine z_aload_n C 0 dX2_setsDealt_32 rfl rfl ?_
      obtain ⟨b9, hb9, e_b9, hf⟩ := zbk_el hf
      refine z_getb C (b := b9) (Nat.le_of_ble_eq_true rfl) rfl rfl 1 (Nat.le_of_ble_eq_true rfl) rfl kiX2_setsDealt_X2 kfX2_setsDealt_28 (isb_lt hb9) e_b9 dX2_setsDealt_33 ?_
      refine z_getr C (t := b9 + 8) (isb_k0 hb9) (isb_L0 hb9) rfl 10 (Nat.le_of_ble_eq_true rfl) rfl kiX2_setsDealt_X0 kfX2_setsDealt_105 dX2_setsDealt_36 ?_
      refine z_alen C (k := (b9 + 8)) (v := 146) (isb_k8 hb9) (isb_L8 hb9) (fun _ => rfl) rfl dX2_setsDealt_39 ?_
      refine z_icmp_ge (tgt := 235) C dX2_setsDealt_40 (by decide) (fun c51 => ?_) (fun c51 => ?_)
      · replace hf := if_t c51 hf
        cases hf
        replace hz := zlz_r hz
        cases hz
        exact z_sub [0, 4] rfl hk
      · replace hf := if_f c51 hf
        refine z_aload_n C 0 dX2_setsDealt_43 rfl rfl ?_
        obtain ⟨b10, hb10, e_b10, hf⟩ := zbk_el hf
        refine z_getb C (b := b10) (Nat.le_of_ble_eq_true rfl) rfl rfl 1 (Nat.le_of_ble_eq_true rfl) rfl kiX2_setsDealt_X2 kfX2_setsDealt_28 (isb_lt hb10) e_b10 dX2_setsDealt_44 ?_
        refine z_getr C (t := b10 + 8) (isb_k0 hb10) (isb_L0 hb10) rfl 10 (Nat.le_of_ble_eq_true rfl) rfl kiX2_setsDealt_X0 kfX2_setsDealt_105 dX2_setsDealt_47 ?_
        refine z_iload C 5 dX2_setsDealt_50 rfl ?_
        obtain ⟨hi11, hf⟩ := ck_el hf
        refine z_iald C (k := (b10 + 8)) (isb_k8 hb10) (isb_L8 hb10) hi11 dX2_setsDealt_52 ?_
        refine z_topi (fun x12 e_x12 => ?_)
        replace hf := bn_to e_x12 hf
        refine z_istore C (lv2 := [(0, .ref ((zw K).2.1 39)), (1, .int a1), (2, .int a2), (3, .ref ((zw K).2.1 tr3)), (4, .int i4), (5, .int i5), (6, .int x12)]) [1, 2, 3, 4, 5, 6, 0] dX2_setsDealt_53 (Nat.le_of_ble_eq_true rfl) rfl ?_
        refine z_iload C 6 dX2_setsDealt_55 rfl ?_
        refine z_bipush C (v := 64) dX2_setsDealt_57 rfl ?_
        refine z_irem C dX2_setsDealt_59 (by decide) ?_
        refine z_topi (fun x13 e_x13 => ?_)
        replace hf := bn_to e_x13 hf
        refine z_istore C (lv2 := [(0, .ref ((zw K).2.1 39)), (1, .int a1), (2, .int a2), (3, .ref ((zw K).2.1 tr3)), (4, .int i4), (5, .int i5), (6, .int x12), (7, .int x13)]) [1, 2, 3, 4, 5, 6, 7, 0] dX2_setsDealt_60 (Nat.le_of_ble_eq_true rfl) rfl ?_
        refine z_iload C 6 dX2_setsDealt_62 rfl ?_
        refine z_bipush C (v := 64) dX2_setsDealt_64 rfl ?_
        refine z_idiv C dX2_setsDealt_66 (by decide) ?_
        refine zby (c := (x12 / 64) = 0) (fun c14 => ?_) (fun c14 => ?_)
        · replace hf := if_t c14 hf
          refine z_tab (v := 0) (tgt := 92) (off := 25) C c14 dX2_setsDealt_67 (by decide) (by decide) rfl (by decide) ?_
          refine z_iload C 4 dX2_setsDealt_92 rfl ?_
          refine z_aload_n C 0 dX2_setsDealt_94 rfl rfl ?_
          refine z_getr C (t := 43) (Nat.le_of_ble_eq_true rfl) rfl rfl 7 (Nat.le_of_ble_eq_true rfl) rfl kiX2_setsDealt_X2 kfX2_setsDealt_21 dX2_setsDealt_95 ?_
          refine z_alen C (k := 43) (v := 6) (Nat.le_of_ble_eq_true rfl) rfl (fun _ => rfl) rfl dX2_setsDealt_98 ?_
          refine z_icmp_ge (tgt := 229) C dX2_setsDealt_99 (by decide) (fun c22 => ?_) (fun c22 => ?_)
          · replace hf := if_t c22 hf
            obtain ⟨x15, e_x15⟩ : ∃ y : Int32, y = i5 + 1 := ⟨_, rfl⟩
            replace hf := bn_to e_x15 hf
            refine z_iinc C (lv2 := [(0, .ref ((zw K).2.1 39)), (1, .int a1), (2, .int a2), (3, .ref ((zw K).2.1 tr3)), (4, .int i4), (5, .int x15), (6, .int x12), (7, .int x13)]) 5 [1, 2, 3, 4, 5, 0, 6, 7] dX2_setsDealt_229 rfl rfl (Nat.le_of_ble_eq_true rfl) e_x15 rfl ?_
            refine z_goto (tgt := 14) C dX2_setsDealt_232 (by decide) ?_
            cases hf
            exact z_sub [0, 1, 2, 3, 4, 5] rfl (ih i4 x15 m6 hz)
          · replace hf := if_f c22 hf
            refine z_aload_n C 0 dX2_setsDealt_102 rfl rfl ?_
            refine z_getr C (t := 43) (Nat.le_of_ble_eq_true rfl) rfl rfl 7 (Nat.le_of_ble_eq_true rfl) rfl kiX2_setsDealt_X2 kfX2_setsDealt_21 dX2_setsDealt_103 ?_
            refine z_iload C 4 dX2_setsDealt_106 rfl ?_
            refine z_aload_n C 0 dX2_setsDealt_108 rfl rfl ?_
            refine z_iload_n C 1 dX2_setsDealt_109 rfl rfl ?_
            refine z_iload_n C 2 dX2_setsDealt_110 rfl rfl ?_
            refine z_bipush C (v := 6) dX2_setsDealt_111 rfl ?_
            refine z_imul C dX2_setsDealt_113 ?_
            refine z_iload C 7 dX2_setsDealt_114 rfl ?_
            refine z_iadd C dX2_setsDealt_116 ?_
            refine z_aload_n C 3 dX2_setsDealt_117 rfl rfl ?_
            obtain ⟨r17, hc16, hf⟩ := zb_el hf
            refine z_cVi C (c_X2_setsTaken _ _ htr3 hc16) rfl gX2_setsDealt_X2_setsTaken rfl rfl zdX2_setsTaken rfl (Nat.le_of_ble_eq_true rfl) rfl rfl rfl ⟨Nat.le_of_ble_eq_true rfl, Nat.le_of_ble_eq_true rfl⟩ (Nat.le_of_ble_eq_true rfl) dX2_setsDealt_118 rfl ?_
            obtain ⟨hi18, hf⟩ := ck_el hf
            refine z_iast C (k := 43) (Nat.le_of_ble_eq_true rfl) rfl hi18 dX2_setsDealt_121 ?_
            refine z_nm (fun m19 e_m19 => ?_)
            replace hf := bn_to e_m19 hf
            obtain ⟨x20, e_x20⟩ : ∃ y : Int32, y = i4 + 1 := ⟨_, rfl⟩
            replace hf := bn_to e_x20 hf
            refine z_iinc C (lv2 := [(0, .ref ((zw K).2.1 39)), (1, .int a1), (2, .int a2), (3, .ref ((zw K).2.1 tr3)), (4, .int x20), (5, .int i5), (6, .int x12), (7, .int x13)]) 4 [1, 2, 3, 4, 0, 5, 6, 7] dX2_setsDealt_122 rfl rfl (Nat.le_of_ble_eq_true rfl) e_x20 rfl ?_
            refine z_goto (tgt := 229) C dX2_setsDealt_125 (by decide) ?_
            obtain ⟨x21, e_x21⟩ : ∃ y : Int32, y = i5 + 1 := ⟨_, rfl⟩
            replace hf := bn_to e_x21 hf
            refine z_iinc C (lv2 := [(0, .ref ((zw K).2.1 39)), (1, .int a1), (2, .int a2), (3, .ref ((zw K).2.1 tr3)), (4, .int x20), (5, .int x21), (6, .int x12), (7, .int x13)]) 5 [1, 2, 3, 4, 5, 0, 6, 7] dX2_setsDealt_229 rfl rfl (Nat.le_of_ble_eq_true rfl) e_x21 rfl ?_
            refine z_goto (tgt := 14) C dX2_setsDealt_232 (by decide) ?_
            cases hf
            exact z_sub [0, 1, 2, 3, 4, 5] rfl (ih x20 x21 m19 hz)
        · replace hf := if_f c14 hf
          refine zby (c := (x12 / 64) = 1) (fun c23 => ?_) (fun c23 => ?_)
          · replace hf := if_t c23 hf
            refine z_tab (v := 1) (tgt := 128) (off := 61) C c23 dX2_setsDealt_67 (by decide) (by decide) rfl (by decide) ?_
            refine z_iload C 4 dX2_setsDealt_128 rfl ?_
            refine z_iconst C (v := 1) dX2_setsDealt_130 rfl ?_
            refine z_icmp_lt (tgt := 229) C dX2_setsDealt_131 (by decide) (fun c31 => ?_) (fun c31 => ?_)
            · replace hf := if_t c31 hf
              obtain ⟨x24, e_x24⟩ : ∃ y : Int32, y = i5 + 1 := ⟨_, rfl⟩
              replace hf := bn_to e_x24 hf
              refine z_iinc C (lv2 := [(0, .ref ((zw K).2.1 39)), (1, .int a1), (2, .int a2), (3, .ref ((zw K).2.1 tr3)), (4, .int i4), (5, .int x24), (6, .int x12), (7, .int x13)]) 5 [1, 2, 3, 4, 5, 0, 6, 7] dX2_setsDealt_229 rfl rfl (Nat.le_of_ble_eq_true rfl) e_x24 rfl ?_
              refine z_goto (tgt := 14) C dX2_setsDealt_232 (by decide) ?_
              cases hf
              exact z_sub [0, 1, 2, 3, 4, 5] rfl (ih i4 x24 m6 hz)
            · replace hf := if_f c31 hf
              refine z_aload_n C 0 dX2_setsDealt_134 rfl rfl ?_
              refine z_getr C (t := 43) (Nat.le_of_ble_eq_true rfl) rfl rfl 7 (Nat.le_of_ble_eq_true rfl) rfl kiX2_setsDealt_X2 kfX2_setsDealt_21 dX2_setsDealt_135 ?_
              refine z_iload C 4 dX2_setsDealt_138 rfl ?_
              refine z_iconst C (v := 1) dX2_setsDealt_140 rfl ?_
              refine z_isub C dX2_setsDealt_141 ?_
              refine z_aload_n C 0 dX2_setsDealt_142 rfl rfl ?_
              refine z_aload_n C 0 dX2_setsDealt_143 rfl rfl ?_
              refine z_getr C (t := 43) (Nat.le_of_ble_eq_true rfl) rfl rfl 7 (Nat.le_of_ble_eq_true rfl) rfl kiX2_setsDealt_X2 kfX2_setsDealt_21 dX2_setsDealt_144 ?_
              refine z_iload C 4 dX2_setsDealt_147 rfl ?_
              refine z_iconst C (v := 1) dX2_setsDealt_149 rfl ?_
              refine z_isub C dX2_setsDealt_150 ?_
              obtain ⟨hi25, hf⟩ := ck_el hf
              refine z_iald C (k := 43) (Nat.le_of_ble_eq_true rfl) rfl hi25 dX2_setsDealt_151 ?_
              refine z_iload C 7 dX2_setsDealt_152 rfl ?_
              obtain ⟨r27, hc26, hf⟩ := zb_el hf
              refine z_cVi C (c_X2_times _ _ hc26) rfl gX2_setsDealt_X2_times rfl rfl zdX2_times rfl (Nat.le_of_ble_eq_true rfl) rfl rfl rfl ⟨Nat.le_of_ble_eq_true rfl, Nat.le_of_ble_eq_true rfl⟩ (Nat.le_of_ble_eq_true rfl) dX2_setsDealt_154 rfl ?_
              obtain ⟨hi28, hf⟩ := ck_el hf
              refine z_iast C (k := 43) (Nat.le_of_ble_eq_true rfl) rfl hi28 dX2_setsDealt_157 ?_
              refine z_nm (fun m29 e_m29 => ?_)
              replace hf := bn_to e_m29 hf
              refine z_goto (tgt := 229) C dX2_setsDealt_158 (by decide) ?_
              obtain ⟨x30, e_x30⟩ : ∃ y : Int32, y = i5 + 1 := ⟨_, rfl⟩
              replace hf := bn_to e_x30 hf
              refine z_iinc C (lv2 := [(0, .ref ((zw K).2.1 39)), (1, .int a1), (2, .int a2), (3, .ref ((zw K).2.1 tr3)), (4, .int i4), (5, .int x30), (6, .int x12), (7, .int x13)]) 5 [1, 2, 3, 4, 5, 0, 6, 7] dX2_setsDealt_229 rfl rfl (Nat.le_of_ble_eq_true rfl) e_x30 rfl ?_
              refine z_goto (tgt := 14) C dX2_setsDealt_232 (by decide) ?_
              cases hf
              exact z_sub [0, 1, 2, 3, 4, 5] rfl (ih i4 x30 m29 hz)
          · replace hf := if_f c23 hf
            refine zby (c := (x12 / 64) = 2) (fun c32 => ?_) (fun c32 => ?_)
            · replace hf := if_t c32 hf
              refine z_tab (v := 2) (tgt := 161) (off := 94) C c32 dX2_setsDealt_67 (by decide) (by decide) rfl (by decide) ?_
              refine z_iload C 4 dX2_setsDealt_161 rfl ?_
              refine z_iconst C (v := 2) dX2_setsDealt_163 rfl ?_
              refine z_icmp_lt (tgt := 229) C dX2_setsDealt_164 (by decide) (fun c42 => ?_) (fun c42 => ?_)
              · replace hf := if_t c42 hf
                obtain ⟨x33, e_x33⟩ : ∃ y : Int32, y = i5 + 1 := ⟨_, rfl⟩
                replace hf := bn_to e_x33 hf
                refine z_iinc C (lv2 := [(0, .ref ((zw K).2.1 39)), (1, .int a1), (2, .int a2), (3, .ref ((zw K).2.1 tr3)), (4, .int i4), (5, .int x33), (6, .int x12), (7, .int x13)]) 5 [1, 2, 3, 4, 5, 0, 6, 7] dX2_setsDealt_229 rfl rfl (Nat.le_of_ble_eq_true rfl) e_x33 rfl ?_
                refine z_goto (tgt := 14) C dX2_setsDealt_232 (by decide) ?_
                cases hf
                exact z_sub [0, 1, 2, 3, 4, 5] rfl (ih i4 x33 m6 hz)
              · replace hf := if_f c42 hf
                obtain ⟨x34, e_x34⟩ : ∃ y : Int32, y = i4 + (-1) := ⟨_, rfl⟩
                replace hf := bn_to e_x34 hf
                refine z_iinc C (lv2 := [(0, .ref ((zw K).2.1 39)), (1, .int a1), (2, .int a2), (3, .ref ((zw K).2.1 tr3)), (4, .int x34), (5, .int i5), (6, .int x12), (7, .int x13)]) 4 [1, 2, 3, 4, 0, 5, 6, 7] dX2_setsDealt_167 (by decide) rfl (Nat.le_of_ble_eq_true rfl) e_x34 rfl ?_
                refine z_aload_n C 0 dX2_setsDealt_170 rfl rfl ?_
                refine z_getr C (t := 43) (Nat.le_of_ble_eq_true rfl) rfl rfl 7 (Nat.le_of_ble_eq_true rfl) rfl kiX2_setsDealt_X2 kfX2_setsDealt_21 dX2_setsDealt_171 ?_
                refine z_iload C 4 dX2_setsDealt_174 rfl ?_
                refine z_iconst C (v := 1) dX2_setsDealt_176 rfl ?_
                refine z_isub C dX2_setsDealt_177 ?_
                refine z_aload_n C 0 dX2_setsDealt_178 rfl rfl ?_
                refine z_getr C (t := 43) (Nat.le_of_ble_eq_true rfl) rfl rfl 7 (Nat.le_of_ble_eq_true rfl) rfl kiX2_setsDealt_X2 kfX2_setsDealt_21 dX2_setsDealt_179 ?_
                refine z_iload C 4 dX2_setsDealt_182 rfl ?_
                refine z_iconst C (v := 1) dX2_setsDealt_184 rfl ?_
                refine z_isub C dX2_setsDealt_185 ?_
                obtain ⟨hi35, hf⟩ := ck_el hf
                refine z_iald C (k := 43) (Nat.le_of_ble_eq_true rfl) rfl hi35 dX2_setsDealt_186 ?_
                refine z_aload_n C 0 dX2_setsDealt_187 rfl rfl ?_
                refine z_getr C (t := 43) (Nat.le_of_ble_eq_true rfl) rfl rfl 7 (Nat.le_of_ble_eq_true rfl) rfl kiX2_setsDealt_X2 kfX2_setsDealt_21 dX2_setsDealt_188 ?_
                refine z_iload C 4 dX2_setsDealt_191 rfl ?_
                obtain ⟨hi36, hf⟩ := ck_el hf
                refine z_iald C (k := 43) (Nat.le_of_ble_eq_true rfl) rfl hi36 dX2_setsDealt_193 ?_
                obtain ⟨r38, hc37, hf⟩ := zb_el hf
                refine z_cSi C (c_X2_both _ _ hc37) rfl gX2_setsDealt_X2_both rfl rfl zdX2_both.2 rfl ⟨Nat.le_of_ble_eq_true rfl, Nat.le_of_ble_eq_true rfl⟩ (Nat.le_of_ble_eq_true rfl) dX2_setsDealt_194 rfl ?_
                obtain ⟨hi39, hf⟩ := ck_el hf
                refine z_iast C (k := 43) (Nat.le_of_ble_eq_true rfl) rfl hi39 dX2_setsDealt_197 ?_
                refine z_nm (fun m40 e_m40 => ?_)
                replace hf := bn_to e_m40 hf
                refine z_goto (tgt := 229) C dX2_setsDealt_198 (by decide) ?_
                obtain ⟨x41, e_x41⟩ : ∃ y : Int32, y = i5 + 1 := ⟨_, rfl⟩
                replace hf := bn_to e_x41 hf
                refine z_iinc C (lv2 := [(0, .ref ((zw K).2.1 39)), (1, .int a1), (2, .int a2), (3, .ref ((zw K).2.1 tr3)), (4, .int x34), (5, .int x41), (6, .int x12), (7, .int x13)]) 5 [1, 2, 3, 4, 5, 0, 6, 7] dX2_setsDealt_229 rfl rfl (Nat.le_of_ble_eq_true rfl) e_x41 rfl ?_
                refine z_goto (tgt := 14) C dX2_setsDealt_232 (by decide) ?_
                cases hf
                exact z_sub [0, 1, 2, 3, 4, 5] rfl (ih x34 x41 m40 hz)
            · replace hf := if_f c32 hf
              refine z_tabd (tgt := 201) C dX2_setsDealt_67 (ztab_out (n := 3) (Nat.le_of_ble_eq_true rfl) (lt_s (lt_s (lt_s lt_0 c14) c23) c32)) (by decide) ?_
              refine z_iload C 4 dX2_setsDealt_201 rfl ?_
              refine z_iconst C (v := 2) dX2_setsDealt_203 rfl ?_
              refine z_icmp_lt (tgt := 229) C dX2_setsDealt_204 (by decide) (fun c50 => ?_) (fun c50 => ?_)
              · replace hf := if_t c50 hf
                obtain ⟨x43, e_x43⟩ : ∃ y : Int32, y = i5 + 1 := ⟨_, rfl⟩
                replace hf := bn_to e_x43 hf
                refine z_iinc C (lv2 := [(0, .ref ((zw K).2.1 39)), (1, .int a1), (2, .int a2), (3, .ref ((zw K).2.1 tr3)), (4, .int i4), (5, .int x43), (6, .int x12), (7, .int x13)]) 5 [1, 2, 3, 4, 5, 0, 6, 7] dX2_setsDealt_229 rfl rfl (Nat.le_of_ble_eq_true rfl) e_x43 rfl ?_
                refine z_goto (tgt := 14) C dX2_setsDealt_232 (by decide) ?_
                cases hf
                exact z_sub [0, 1, 2, 3, 4, 5] rfl (ih i4 x43 m6 hz)
              · replace hf := if_f c50 hf
                obtain ⟨x44, e_x44⟩ : ∃ y : Int32, y = i4 + (-1) := ⟨_, rfl⟩
                replace hf := bn_to e_x44 hf
                refine z_iinc C (lv2 := [(0, .ref ((zw K).2.1 39)), (1, .int a1), (2, .int a2), (3, .ref ((zw K).2.1 tr3)), (4, .int x44), (5, .int i5), (6, .int x12), (7, .int x13)]) 4 [1, 2, 3, 4, 0, 5, 6, 7] dX2_setsDealt_207 (by decide) rfl (Nat.le_of_ble_eq_true rfl) e_x44 rfl ?_
                refine z_aload_n C 0 dX2_setsDealt_210 rfl rfl ?_
                refine z_getr C (t := 43) (Nat.le_of_ble_eq_true rfl) rfl rfl 7 (Nat.le_of_ble_eq_true rfl) rfl kiX2_setsDealt_X2 kfX2_setsDealt_21 dX2_setsDealt_211 ?_
                refine z_iload C 4 dX2_setsDealt_214 rfl ?_
                refine z_iconst C (v := 1) dX2_setsDealt_216 rfl ?_
                refine z_isub C dX2_setsDealt_217 ?_
                refine z_dup2 C dX2_setsDealt_218 ?_
                obtain ⟨hi45, hf⟩ := ck_el hf
                refine z_iald C (k := 43) (Nat.le_of_ble_eq_true rfl) rfl hi45 dX2_setsDealt_219 ?_
                refine z_aload_n C 0 dX2_setsDealt_220 rfl rfl ?_
                refine z_getr C (t := 43) (Nat.le_of_ble_eq_true rfl) rfl rfl 7 (Nat.le_of_ble_eq_true rfl) rfl kiX2_setsDealt_X2 kfX2_setsDealt_21 dX2_setsDealt_221 ?_
                refine z_iload C 4 dX2_setsDealt_224 rfl ?_
                obtain ⟨hi46, hf⟩ := ck_el hf
                refine z_iald C (k := 43) (Nat.le_of_ble_eq_true rfl) rfl hi46 dX2_setsDealt_226 ?_
                refine z_ior C dX2_setsDealt_227 ?_
                obtain ⟨hi47, hf⟩ := ck_el hf
                refine z_iast C (k := 43) (Nat.le_of_ble_eq_true rfl) rfl hi47 dX2_setsDealt_228 ?_
                refine z_nm (fun m48 e_m48 => ?_)
                replace hf := bn_to e_m48 hf
                obtain ⟨x49, e_x49⟩ : ∃ y : Int32, y = i5 + 1 := ⟨_, rfl⟩
                replace hf := bn_to e_x49 hf
                refine z_iinc C (lv2 := [(0, .ref ((zw K).2.1 39)), (1, .int a1), (2, .int a2), (3, .ref ((zw K).2.1 tr3)), (4, .int x44), (5, .int x49), (6, .int x12), (7, .int x13)]) 5 [1, 2, 3, 4, 5, 0, 6, 7] dX2_setsDealt_229 rfl rfl (Nat.le_of_ble_eq_true rfl) e_x49 rfl ?_
                refine z_goto (tgt := 14) C dX2_setsDealt_232 (by decide) ?_
                cases hf
                exact z_sub [0, 1, 2, 3, 4, 5] rfl (ih x44 x49 m48 hz)
set_option maxRecDepth 100000 in
set_option maxHeartbeats 4000000 in
theorem c_X2_setsDealt (l : Launch) (w : ZW) {m : Mem} {a1 : Int32} {a2 : Int32} {tr3 : Nat} {r9 : Int32} {m9 : Mem} (htr3 : istr tr3) (hf : s_X2_setsDealt m a1 a2 tr3 = some (r9, m9)) : zCi MX l w yX2_setsDealt wsX2_setsDealt rmX2_setsDealt [.ref (w.2.1 39), .int a1, .int a2, .ref (w.2.1 tr3)] m m9 r9 := by
  refine z_met_i MX_ok (own := RX2) (by decide +kernel) rfl rfl (Nat.le_of_ble_eq_true rfl) ?_
  intro K C hKw hKl hret
  subst hKw
  subst hKl
  unfold s_X2_setsDealt at hf
  show zGo MX K m [(0, .ref ((zw K).2.1 39)), (1, .int a1), (2, .int a2), (3, .ref ((zw K).2.1 tr3))] 0 []
  refine z_iconst C (v := 0) dX2_setsDealt_0 rfl ?_
  refine z_istore C (lv2 := [(0, .ref ((zw K).2.1 39)), (1, .int a1), (2, .int a2), (3, .ref ((zw K).2.1 tr3)), (4, .int 0)]) [1, 2, 3, 4, 0] dX2_setsDealt_1 (Nat.le_of_ble_eq_true rfl) rfl ?_
  refine z_aload_n C 0 dX2_setsDealt_3 rfl rfl ?_
  obtain ⟨b1, hb1, e_b1, hf⟩ := zbk_el hf
  refine z_getb C (b := b1) (Nat.le_of_ble_eq_true rfl) rfl rfl 1 (Nat.le_of_ble_eq_true rfl) rfl kiX2_setsDealt_X2 kfX2_setsDealt_28 (isb_lt hb1) e_b1 dX2_setsDealt_4 ?_
  refine z_getr C (t := b1 + 7) (isb_k0 hb1) (isb_L0 hb1) rfl 9 (Nat.le_of_ble_eq_true rfl) rfl kiX2_setsDealt_X0 kfX2_setsDealt_102 dX2_setsDealt_7 ?_
  refine z_iload_n C 2 dX2_setsDealt_10 rfl rfl ?_
  obtain ⟨hi2, hf⟩ := ck_el hf
  refine z_iald C (k := (b1 + 7)) (isb_k7 hb1) (isb_L7 hb1) hi2 dX2_setsDealt_11 ?_
  refine z_topi (fun x3 e_x3 => ?_)
  replace hf := bn_to e_x3 hf
  refine z_istore C (lv2 := [(0, .ref ((zw K).2.1 39)), (1, .int a1), (2, .int a2), (3, .ref ((zw K).2.1 tr3)), (4, .int 0), (5, .int x3)]) [1, 2, 3, 4, 5, 0] dX2_setsDealt_12 (Nat.le_of_ble_eq_true rfl) rfl ?_
  obtain ⟨y53, m54, hg, hf⟩ := zb2_el hf
  refine z_sub [0, 1, 2, 3, 4, 5] rfl (w_X2_setsDealt_14 C htr3 ?_ _ _ _ _ hg)
  clear hg
  refine z_iload C 1 dX2_setsDealt_235 rfl ?_
  refine z_if_ne (tgt := 244) C dX2_setsDealt_237 (by decide) (fun c56 => ?_) (fun c56 => ?_)
  · replace hf := if_f c56 hf
    refine z_aload_n C 0 dX2_setsDealt_244 rfl rfl ?_
    refine z_getr C (t := 43) (Nat.le_of_ble_eq_true rfl) rfl rfl 7 (Nat.le_of_ble_eq_true rfl) rfl kiX2_setsDealt_X2 kfX2_setsDealt_21 dX2_setsDealt_245 ?_
    refine z_iconst C (v := 0) dX2_setsDealt_248 rfl ?_
    obtain ⟨hi55, hf⟩ := ck_el hf
    refine z_iald C (k := 43) (Nat.le_of_ble_eq_true rfl) rfl hi55 dX2_setsDealt_249 ?_
    cases hf
    exact hret _ _ dX2_setsDealt_250
  · replace hf := if_t c56 hf
    refine z_iconst C (v := 1) dX2_setsDealt_240 rfl ?_
    refine z_goto (tgt := 250) C dX2_setsDealt_241 (by decide) ?_
    cases hf
    exact hret _ _ dX2_setsDealt_250
set_option maxRecDepth 20000 in
theorem ggX2_suits_X2_wantedEdges : GoodIn wsX2_suits wsX2_wantedEdges := goodIn_sub (List.forall_mem_cons.mpr ⟨(List.mem_of_getElem? (i := 7) rfl), (List.forall_mem_append.mpr ⟨(List.forall_mem_append.mpr ⟨(List.forall_mem_append.mpr ⟨(List.forall_mem_cons.mpr ⟨(List.mem_of_getElem? (i := 8) rfl), (List.forall_mem_cons.mpr ⟨(List.mem_of_getElem? (i := 9) rfl), (List.forall_mem_cons.mpr ⟨(List.mem_of_getElem? (i := 1) rfl), (List.forall_mem_cons.mpr ⟨(List.mem_of_getElem? (i := 10) rfl), (List.forall_mem_cons.mpr ⟨(List.mem_of_getElem? (i := 11) rfl), (List.forall_mem_cons.mpr ⟨(List.mem_of_getElem? (i := 12) rfl), (List.forall_mem_cons.mpr ⟨(List.mem_of_getElem? (i := 13) rfl), (List.forall_mem_cons.mpr ⟨(List.mem_of_getElem? (i := 14) rfl), (List.forall_mem_cons.mpr ⟨(List.mem_of_getElem? (i := 6) rfl), (List.forall_mem_cons.mpr ⟨(List.mem_of_getElem? (i := 15) rfl), (List.forall_mem_cons.mpr ⟨(List.mem_of_getElem? (i := 16) rfl), (List.forall_mem_cons.mpr ⟨(List.mem_of_getElem? (i := 17) rfl), (fun _ h => absurd h List.not_mem_nil)⟩)⟩)⟩)⟩)⟩)⟩)⟩)⟩)⟩)⟩)⟩)⟩), (fun _ h => (List.mem_cons_of_mem _ (List.mem_append_left _ (List.mem_append_left _ (List.mem_append_right _ h)))))⟩), (fun _ h => (List.mem_cons_of_mem _ (List.mem_append_right _ h)))⟩), (fun _ h => (List.mem_cons_of_mem _ (List.mem_append_left _ (List.mem_append_right _ h))))⟩)⟩) (by decide +kernel)
set_option maxRecDepth 20000 in
theorem gX2_suits_X2_wantedEdges : GoodIn wsX2_suits (wsV RX2 90 RX2 yX2_wantedEdges wsX2_wantedEdges) := goodIn_app (goodIn_sub (List.forall_mem_cons.mpr ⟨(List.mem_of_getElem? (i := 3) rfl), (List.forall_mem_cons.mpr ⟨(List.mem_of_getElem? (i := 4) rfl), (List.forall_mem_cons.mpr ⟨(List.mem_of_getElem? (i := 5) rfl), (List.forall_mem_cons.mpr ⟨(List.mem_of_getElem? (i := 6) rfl), (fun _ h => absurd h List.not_mem_nil)⟩)⟩)⟩)⟩) (by decide +kernel)) ggX2_suits_X2_wantedEdges
set_option maxRecDepth 20000 in
theorem ggX2_suits_X2_presentEdges : GoodIn wsX2_suits wsX2_presentEdges := goodIn_sub (List.forall_mem_cons.mpr ⟨(List.mem_of_getElem? (i := 15) rfl), (List.forall_mem_append.mpr ⟨(List.forall_mem_append.mpr ⟨(List.forall_mem_cons.mpr ⟨(List.mem_of_getElem? (i := 8) rfl), (List.forall_mem_cons.mpr ⟨(List.mem_of_getElem? (i := 9) rfl), (List.forall_mem_cons.mpr ⟨(List.mem_of_getElem? (i := 16) rfl), (List.forall_mem_cons.mpr ⟨(List.mem_of_getElem? (i := 17) rfl), (fun _ h => absurd h List.not_mem_nil)⟩)⟩)⟩)⟩), (fun _ h => (List.mem_cons_of_mem _ (List.mem_append_left _ (List.mem_append_left _ (List.mem_append_right _ h)))))⟩), (fun _ h => (List.mem_cons_of_mem _ (List.mem_append_right _ h)))⟩)⟩) (by decide +kernel)
set_option maxRecDepth 20000 in
theorem gX2_suits_X2_presentEdges : GoodIn wsX2_suits (wsV RX2 86 RX2 yX2_presentEdges wsX2_presentEdges) := goodIn_app (goodIn_sub (List.forall_mem_cons.mpr ⟨(List.mem_of_getElem? (i := 12) rfl), (List.forall_mem_cons.mpr ⟨(List.mem_of_getElem? (i := 13) rfl), (List.forall_mem_cons.mpr ⟨(List.mem_of_getElem? (i := 14) rfl), (List.forall_mem_cons.mpr ⟨(List.mem_of_getElem? (i := 6) rfl), (fun _ h => absurd h List.not_mem_nil)⟩)⟩)⟩)⟩) (by decide +kernel)) ggX2_suits_X2_presentEdges
set_option maxRecDepth 20000 in
theorem ggX2_suits_X2_setsDealt : GoodIn wsX2_suits wsX2_setsDealt := goodIn_sub (List.forall_mem_cons.mpr ⟨(List.mem_of_getElem? (i := 21) rfl), (List.forall_mem_append.mpr ⟨(List.forall_mem_append.mpr ⟨(List.forall_mem_append.mpr ⟨(List.forall_mem_append.mpr ⟨(show ∀ w ∈ wsX2_setsDealt_r1, w ∈ wsX2_suits from (List.forall_mem_cons.mpr ⟨(List.mem_of_getElem? (i := 1) rfl), (List.forall_mem_cons.mpr ⟨(List.mem_of_getElem? (i := 22) rfl), (List.forall_mem_cons.mpr ⟨(List.mem_of_getElem? (i := 23) rfl), (List.forall_mem_cons.mpr ⟨(List.mem_of_getElem? (i := 24) rfl), (List.forall_mem_cons.mpr ⟨(List.mem_of_getElem? (i := 25) rfl), (List.forall_mem_cons.mpr ⟨(List.mem_of_getElem? (i := 26) rfl), (List.forall_mem_cons.mpr ⟨(List.mem_of_getElem? (i := 27) rfl), (List.forall_mem_cons.mpr ⟨(List.mem_of_getElem? (i := 6) rfl), (List.forall_mem_cons.mpr ⟨(List.mem_of_getElem? (i := 28) rfl), (List.forall_mem_cons.mpr ⟨(List.mem_of_getElem? (i := 8) rfl), (List.forall_mem_cons.mpr ⟨(List.mem_of_getElem? (i := 9) rfl), (List.forall_mem_cons.mpr ⟨(List.mem_of_getElem? (i := 29) rfl), (List.forall_mem_cons.mpr ⟨(List.mem_of_getElem? (i := 11) rfl), (List.forall_mem_cons.mpr ⟨(List.mem_of_getElem? (i := 30) rfl), (List.forall_mem_cons.mpr ⟨(List.mem_of_getElem? (i := 31) rfl), (List.forall_mem_cons.mpr ⟨(List.mem_of_getElem? (i := 12) rfl), (List.forall_mem_cons.mpr ⟨(List.mem_of_getElem? (i := 13) rfl), (List.forall_mem_cons.mpr ⟨(List.mem_of_getElem? (i := 14) rfl), (List.forall_mem_cons.mpr ⟨(List.mem_of_getElem? (i := 15) rfl), (List.forall_mem_cons.mpr ⟨(List.mem_of_getElem? (i := 16) rfl), (List.forall_mem_cons.mpr ⟨(List.mem_of_getElem? (i := 17) rfl), (List.forall_mem_cons.mpr ⟨(List.mem_of_getElem? (i := 32) rfl), (List.forall_mem_cons.mpr ⟨(List.mem_of_getElem? (i := 33) rfl), (List.forall_mem_cons.mpr ⟨(List.mem_of_getElem? (i := 34) rfl), (fun _ h => absurd h List.not_mem_nil)⟩)⟩)⟩)⟩)⟩)⟩)⟩)⟩)⟩)⟩)⟩)⟩)⟩)⟩)⟩)⟩)⟩)⟩)⟩)⟩)⟩)⟩)⟩)⟩)), (show ∀ w ∈ wsX2_setsDealt_r2, w ∈ wsX2_suits from (List.forall_mem_cons.mpr ⟨(List.mem_of_getElem? (i := 35) rfl), (List.forall_mem_cons.mpr ⟨(List.mem_of_getElem? (i := 36) rfl), (List.forall_mem_cons.mpr ⟨(List.mem_of_getElem? (i := 37) rfl), (List.forall_mem_cons.mpr ⟨(List.mem_of_getElem? (i := 38) rfl), (List.forall_mem_cons.mpr ⟨(List.mem_of_getElem? (i := 39) rfl), (List.forall_mem_cons.mpr ⟨(List.mem_of_getElem? (i := 40) rfl), (List.forall_mem_cons.mpr ⟨(List.mem_of_getElem? (i := 41) rfl), (List.forall_mem_cons.mpr ⟨(List.mem_of_getElem? (i := 42) rfl), (List.forall_mem_cons.mpr ⟨(List.mem_of_getElem? (i := 43) rfl), (List.forall_mem_cons.mpr ⟨(List.mem_of_getElem? (i := 44) rfl), (List.forall_mem_cons.mpr ⟨(List.mem_of_getElem? (i := 45) rfl), (List.forall_mem_cons.mpr ⟨(List.mem_of_getElem? (i := 46) rfl), (List.forall_mem_cons.mpr ⟨(List.mem_of_getElem? (i := 47) rfl), (List.forall_mem_cons.mpr ⟨(List.mem_of_getElem? (i := 48) rfl), (List.forall_mem_cons.mpr ⟨(List.mem_of_getElem? (i := 49) rfl), (fun _ h => absurd h List.not_mem_nil)⟩)⟩)⟩)⟩)⟩)⟩)⟩)⟩)⟩)⟩)⟩)⟩)⟩)⟩)⟩))⟩), (fun _ h => (List.mem_cons_of_mem _ (List.mem_append_left _ (List.mem_append_left _ (List.mem_append_right _ h)))))⟩), (fun _ h => (List.mem_cons_of_mem _ (List.mem_append_left _ (List.mem_append_right _ h))))⟩), (fun _ h => (List.mem_cons_of_mem _ (List.mem_append_right _ h)))⟩)⟩) (by decide +kernel)
set_option maxRecDepth 20000 in
theorem gX2_suits_X2_setsDealt : GoodIn wsX2_suits (wsV RX2 98 RX2 yX2_setsDealt wsX2_setsDealt) := goodIn_app (goodIn_sub (List.forall_mem_cons.mpr ⟨(List.mem_of_getElem? (i := 18) rfl), (List.forall_mem_cons.mpr ⟨(List.mem_of_getElem? (i := 19) rfl), (List.forall_mem_cons.mpr ⟨(List.mem_of_getElem? (i := 20) rfl), (List.forall_mem_cons.mpr ⟨(List.mem_of_getElem? (i := 6) rfl), (fun _ h => absurd h List.not_mem_nil)⟩)⟩)⟩)⟩) (by decide +kernel)) ggX2_suits_X2_setsDealt
theorem dX2_suits_0 : decode cX2_suits 0 = .ok (.aload_n 0, 1) := by decide +kernel
theorem dX2_suits_1 : decode cX2_suits 1 = .ok (.iload_n 1, 1) := by decide +kernel
theorem dX2_suits_2 : decode cX2_suits 2 = .ok (.iload_n 2, 1) := by decide +kernel
theorem dX2_suits_3 : decode cX2_suits 3 = .ok (.invokevirtual 90, 3) := by decide +kernel
theorem dX2_suits_6 : decode cX2_suits 6 = .ok (.istore 4, 2) := by decide +kernel
theorem dX2_suits_8 : decode cX2_suits 8 = .ok (.aload_n 0, 1) := by decide +kernel
theorem dX2_suits_9 : decode cX2_suits 9 = .ok (.getfield 28, 3) := by decide +kernel
theorem dX2_suits_12 : decode cX2_suits 12 = .ok (.getfield 94, 3) := by decide +kernel
theorem dX2_suits_15 : decode cX2_suits 15 = .ok (.iload_n 2, 1) := by decide +kernel
theorem dX2_suits_16 : decode cX2_suits 16 = .ok (.baload, 1) := by decide +kernel
theorem dX2_suits_17 : decode cX2_suits 17 = .ok (.ifCond .eq 15, 3) := by decide +kernel
theorem dX2_suits_20 : decode cX2_suits 20 = .ok (.iload 4, 2) := by decide +kernel
theorem dX2_suits_22 : decode cX2_suits 22 = .ok (.aload_n 0, 1) := by decide +kernel
theorem dX2_suits_23 : decode cX2_suits 23 = .ok (.iload_n 1, 1) := by decide +kernel
theorem dX2_suits_24 : decode cX2_suits 24 = .ok (.invokevirtual 86, 3) := by decide +kernel
theorem dX2_suits_27 : decode cX2_suits 27 = .ok (.if_icmp .eq 5, 3) := by decide +kernel
theorem dX2_suits_30 : decode cX2_suits 30 = .ok (.iconst 0, 1) := by decide +kernel
theorem dX2_suits_31 : decode cX2_suits 31 = .ok (.ireturn, 1) := by decide +kernel
theorem dX2_suits_32 : decode cX2_suits 32 = .ok (.aload_n 0, 1) := by decide +kernel
theorem dX2_suits_33 : decode cX2_suits 33 = .ok (.iload_n 1, 1) := by decide +kernel
theorem dX2_suits_34 : decode cX2_suits 34 = .ok (.iload_n 2, 1) := by decide +kernel
theorem dX2_suits_35 : decode cX2_suits 35 = .ok (.aload_n 3, 1) := by decide +kernel
theorem dX2_suits_36 : decode cX2_suits 36 = .ok (.invokevirtual 98, 3) := by decide +kernel
theorem dX2_suits_39 : decode cX2_suits 39 = .ok (.iload 4, 2) := by decide +kernel
theorem dX2_suits_41 : decode cX2_suits 41 = .ok (.iushr, 1) := by decide +kernel
theorem dX2_suits_42 : decode cX2_suits 42 = .ok (.iconst 1, 1) := by decide +kernel
theorem dX2_suits_43 : decode cX2_suits 43 = .ok (.iand, 1) := by decide +kernel
theorem dX2_suits_44 : decode cX2_suits 44 = .ok (.ifCond .eq 7, 3) := by decide +kernel
theorem dX2_suits_47 : decode cX2_suits 47 = .ok (.iconst 1, 1) := by decide +kernel
theorem dX2_suits_48 : decode cX2_suits 48 = .ok (.goto 4, 3) := by decide +kernel
theorem dX2_suits_51 : decode cX2_suits 51 = .ok (.iconst 0, 1) := by decide +kernel
theorem dX2_suits_52 : decode cX2_suits 52 = .ok (.ireturn, 1) := by decide +kernel
def rmX2_suits : Room := { frames := 3, cells := 0, slots := 0, locals := 79 }
theorem zdX2_suits : yX2_suits.cls = RX2 ∧ yX2_suits.cls ≠ "java/lang/invoke/MethodHandle" ∧ yX2_suits.cls ≠ "java/lang/invoke/VarHandle" ∧ (parseMethodDescriptor yX2_suits.desc).map (fun d => d.parameters.length) = some 3 := by decide +kernel
theorem kiX2_suits_X2 : ∀ w ∈ wsX20, w ∈ wsX2_suits := fun _ h => (List.mem_cons_of_mem _ (List.mem_append_left _ (List.mem_append_left _ (List.mem_append_right _ h))))
theorem kfX2_suits_28 : Cond.fieldLink RX2 28 "ShapeJudge$Judge" "book" "LShapeJudge$Book;" ∈ wsX2_suits := (List.mem_of_getElem? (i := 1) rfl)
theorem kiX2_suits_X0 : ∀ w ∈ wsX00, w ∈ wsX2_suits := fun _ h => (List.mem_cons_of_mem _ (List.mem_append_left _ (List.mem_append_right _ h)))
theorem kfX2_suits_94 : Cond.fieldLink RX2 94 "ShapeJudge$Book" "closed" "[Z" ∈ wsX2_suits := (List.mem_of_getElem? (i := 2) rfl)
def s_X2_suits (m : Mem) (a1 : Int32) (a2 : Int32) (tr3 : Nat) : Option (Int32 × Mem) :=
  (s_X2_wantedEdges m a1 a2).bind fun r2 => zbk (m 39 1) fun b3 => ck (zin a2 6 = true) ((if (m (b3 + 3) (Int32.toNatClampNeg a2)) = 0 then (zb2 (s_X2_setsDealt m a1 a2 tr3) fun r6 m7 => (if ((zus r6 r2) &&& 1) = 0 then (some (0, m7)) else (some (1, m7)))) else ((s_X2_presentEdges m a1).bind fun r10 => (if r2 = r10 then (zb2 (s_X2_setsDealt m a1 a2 tr3) fun r12 m13 => (if ((zus r12 r2) &&& 1) = 0 then (some (0, m13)) else (some (1, m13)))) else (some (0, m))))))
set_option maxRecDepth 100000 in
set_option maxHeartbeats 4000000 in
theorem c_X2_suits (l : Launch) (w : ZW) {m : Mem} {a1 : Int32} {a2 : Int32} {tr3 : Nat} {r9 : Int32} {m9 : Mem} (htr3 : istr tr3) (hf : s_X2_suits m a1 a2 tr3 = some (r9, m9)) : zCi MX l w yX2_suits wsX2_suits rmX2_suits [.ref (w.2.1 39), .int a1, .int a2, .ref (w.2.1 tr3)] m m9 r9 := by
  refine z_met_z MX_ok (own := RX2) (by decide +kernel) rfl rfl (Nat.le_of_ble_eq_true rfl) ?_
  intro K C hKw hKl hret
  subst hKw
  subst hKl
  unfold s_X2_suits at hf
  show zGo MX K m [(0, .ref ((zw K).2.1 39)), (1, .int a1), (2, .int a2), (3, .ref ((zw K).2.1 tr3))] 0 []
  refine z_aload_n C 0 dX2_suits_0 rfl rfl ?_
  refine z_iload_n C 1 dX2_suits_1 rfl rfl ?_
  refine z_iload_n C 2 dX2_suits_2 rfl rfl ?_
  obtain ⟨r2, hc1, hf⟩ := zb_el hf
  refine z_cVi C (c_X2_wantedEdges _ _ hc1) rfl gX2_suits_X2_wantedEdges rfl rfl zdX2_wantedEdges rfl (Nat.le_of_ble_eq_true rfl) rfl rfl rfl ⟨Nat.le_of_ble_eq_true rfl, Nat.le_of_ble_eq_true rfl⟩ (Nat.le_of_ble_eq_true rfl) dX2_suits_3 rfl ?_
  refine z_istore C (lv2 := [(0, .ref ((zw K).2.1 39)), (1, .int a1), (2, .int a2), (3, .ref ((zw K).2.1 tr3)), (4, .int r2)]) [1, 2, 3, 4, 0] dX2_suits_6 (Nat.le_of_ble_eq_true rfl) rfl ?_
  refine z_aload_n C 0 dX2_suits_8 rfl rfl ?_
  obtain ⟨b3, hb3, e_b3, hf⟩ := zbk_el hf
  refine z_getb C (b := b3) (Nat.le_of_ble_eq_true rfl) rfl rfl 1 (Nat.le_of_ble_eq_true rfl) rfl kiX2_suits_X2 kfX2_suits_28 (isb_lt hb3) e_b3 dX2_suits_9 ?_
  refine z_getr C (t := b3 + 3) (isb_k0 hb3) (isb_L0 hb3) rfl 5 (Nat.le_of_ble_eq_true rfl) rfl kiX2_suits_X0 kfX2_suits_94 dX2_suits_12 ?_
  refine z_iload_n C 2 dX2_suits_15 rfl rfl ?_
  obtain ⟨hi4, hf⟩ := ck_el hf
  refine z_zald C (k := (b3 + 3)) (isb_k3 hb3) (isb_L3 hb3) hi4 dX2_suits_16 ?_
  refine z_if_eq (tgt := 32) C dX2_suits_17 (by decide) (fun c16 => ?_) (fun c16 => ?_)
  · replace hf := if_t c16 hf
    refine z_aload_n C 0 dX2_suits_32 rfl rfl ?_
    refine z_iload_n C 1 dX2_suits_33 rfl rfl ?_
    refine z_iload_n C 2 dX2_suits_34 rfl rfl ?_
    refine z_aload_n C 3 dX2_suits_35 rfl rfl ?_
    obtain ⟨r6, m7, hc5, hf⟩ := zb2_el hf
    refine z_cVi C (c_X2_setsDealt _ _ htr3 hc5) rfl gX2_suits_X2_setsDealt rfl rfl zdX2_setsDealt rfl (Nat.le_of_ble_eq_true rfl) rfl rfl rfl ⟨Nat.le_of_ble_eq_true rfl, Nat.le_of_ble_eq_true rfl⟩ (Nat.le_of_ble_eq_true rfl) dX2_suits_36 rfl ?_
    refine z_iload C 4 dX2_suits_39 rfl ?_
    refine z_iushr C dX2_suits_41 ?_
    refine z_iconst C (v := 1) dX2_suits_42 rfl ?_
    refine z_iand C dX2_suits_43 ?_
    refine z_if_eq (tgt := 51) C dX2_suits_44 (by decide) (fun c8 => ?_) (fun c8 => ?_)
    · replace hf := if_t c8 hf
      refine z_iconst C (v := 0) dX2_suits_51 rfl ?_
      cases hf
      exact hret _ _ dX2_suits_52 (Or.inl rfl)
    · replace hf := if_f c8 hf
      refine z_iconst C (v := 1) dX2_suits_47 rfl ?_
      refine z_goto (tgt := 52) C dX2_suits_48 (by decide) ?_
      cases hf
      exact hret _ _ dX2_suits_52 (Or.inr rfl)
  · replace hf := if_f c16 hf
    refine z_iload C 4 dX2_suits_20 rfl ?_
    refine z_aload_n C 0 dX2_suits_22 rfl rfl ?_
    refine z_iload_n C 1 dX2_suits_23 rfl rfl ?_
    obtain ⟨r10, hc9, hf⟩ := zb_el hf
    refine z_cVi C (c_X2_presentEdges _ _ hc9) rfl gX2_suits_X2_presentEdges rfl rfl zdX2_presentEdges rfl (Nat.le_of_ble_eq_true rfl) rfl rfl rfl ⟨Nat.le_of_ble_eq_true rfl, Nat.le_of_ble_eq_true rfl⟩ (Nat.le_of_ble_eq_true rfl) dX2_suits_24 rfl ?_
    refine z_icmp_eq (tgt := 32) C dX2_suits_27 (by decide) (fun c15 => ?_) (fun c15 => ?_)
    · replace hf := if_t c15 hf
      refine z_aload_n C 0 dX2_suits_32 rfl rfl ?_
      refine z_iload_n C 1 dX2_suits_33 rfl rfl ?_
      refine z_iload_n C 2 dX2_suits_34 rfl rfl ?_
      refine z_aload_n C 3 dX2_suits_35 rfl rfl ?_
      obtain ⟨r12, m13, hc11, hf⟩ := zb2_el hf
      refine z_cVi C (c_X2_setsDealt _ _ htr3 hc11) rfl gX2_suits_X2_setsDealt rfl rfl zdX2_setsDealt rfl (Nat.le_of_ble_eq_true rfl) rfl rfl rfl ⟨Nat.le_of_ble_eq_true rfl, Nat.le_of_ble_eq_true rfl⟩ (Nat.le_of_ble_eq_true rfl) dX2_suits_36 rfl ?_
      refine z_iload C 4 dX2_suits_39 rfl ?_
      refine z_iushr C dX2_suits_41 ?_
      refine z_iconst C (v := 1) dX2_suits_42 rfl ?_
      refine z_iand C dX2_suits_43 ?_
      refine z_if_eq (tgt := 51) C dX2_suits_44 (by decide) (fun c14 => ?_) (fun c14 => ?_)
      · replace hf := if_t c14 hf
        refine z_iconst C (v := 0) dX2_suits_51 rfl ?_
        cases hf
        exact hret _ _ dX2_suits_52 (Or.inl rfl)
      · replace hf := if_f c14 hf
        refine z_iconst C (v := 1) dX2_suits_47 rfl ?_
        refine z_goto (tgt := 52) C dX2_suits_48 (by decide) ?_
        cases hf
        exact hret _ _ dX2_suits_52 (Or.inr rfl)
    · replace hf := if_f c15 hf
      refine z_iconst C (v := 0) dX2_suits_30 rfl ?_
      cases hf
      exact hret _ _ dX2_suits_31 (Or.inl rfl)
set_option maxRecDepth 20000 in
theorem ggX2_addSuiting_X2_suits : GoodIn wsX2_addSuiting wsX2_suits := goodIn_sub (List.forall_mem_cons.mpr ⟨(List.mem_of_getElem? (i := 10) rfl), (List.forall_mem_append.mpr ⟨(List.forall_mem_append.mpr ⟨(List.forall_mem_append.mpr ⟨(List.forall_mem_append.mpr ⟨(show ∀ w ∈ wsX2_suits_r1, w ∈ wsX2_addSuiting from (List.forall_mem_cons.mpr ⟨(List.mem_of_getElem? (i := 1) rfl), (List.forall_mem_cons.mpr ⟨(List.mem_of_getElem? (i := 11) rfl), (List.forall_mem_cons.mpr ⟨(List.mem_of_getElem? (i := 12) rfl), (List.forall_mem_cons.mpr ⟨(List.mem_of_getElem? (i := 13) rfl), (List.forall_mem_cons.mpr ⟨(List.mem_of_getElem? (i := 14) rfl), (List.forall_mem_cons.mpr ⟨(List.mem_of_getElem? (i := 9) rfl), (List.forall_mem_cons.mpr ⟨(List.mem_of_getElem? (i := 15) rfl), (List.forall_mem_cons.mpr ⟨(List.mem_of_getElem? (i := 3) rfl), (List.forall_mem_cons.mpr ⟨(List.mem_of_getElem? (i := 16) rfl), (List.forall_mem_cons.mpr ⟨(List.mem_of_getElem? (i := 17) rfl), (List.forall_mem_cons.mpr ⟨(List.mem_of_getElem? (i := 18) rfl), (List.forall_mem_cons.mpr ⟨(List.mem_of_getElem? (i := 19) rfl), (List.forall_mem_cons.mpr ⟨(List.mem_of_getElem? (i := 20) rfl), (List.forall_mem_cons.mpr ⟨(List.mem_of_getElem? (i := 21) rfl), (List.forall_mem_cons.mpr ⟨(List.mem_of_getElem? (i := 22) rfl), (List.forall_mem_cons.mpr ⟨(List.mem_of_getElem? (i := 23) rfl), (List.forall_mem_cons.mpr ⟨(List.mem_of_getElem? (i := 24) rfl), (List.forall_mem_cons.mpr ⟨(List.mem_of_getElem? (i := 25) rfl), (List.forall_mem_cons.mpr ⟨(List.mem_of_getElem? (i := 26) rfl), (List.forall_mem_cons.mpr ⟨(List.mem_of_getElem? (i := 27) rfl), (List.forall_mem_cons.mpr ⟨(List.mem_of_getElem? (i := 28) rfl), (List.forall_mem_cons.mpr ⟨(List.mem_of_getElem? (i := 29) rfl), (List.forall_mem_cons.mpr ⟨(List.mem_of_getElem? (i := 30) rfl), (List.forall_mem_cons.mpr ⟨(List.mem_of_getElem? (i := 31) rfl), (fun _ h => absurd h List.not_mem_nil)⟩)⟩)⟩)⟩)⟩)⟩)⟩)⟩)⟩)⟩)⟩)⟩)⟩)⟩)⟩)⟩)⟩)⟩)⟩)⟩)⟩)⟩)⟩)⟩)), (List.forall_mem_append.mpr ⟨(show ∀ w ∈ wsX2_suits_r2, w ∈ wsX2_addSuiting from (List.forall_mem_cons.mpr ⟨(List.mem_of_getElem? (i := 32) rfl), (List.forall_mem_cons.mpr ⟨(List.mem_of_getElem? (i := 33) rfl), (List.forall_mem_cons.mpr ⟨(List.mem_of_getElem? (i := 34) rfl), (List.forall_mem_cons.mpr ⟨(List.mem_of_getElem? (i := 35) rfl), (List.forall_mem_cons.mpr ⟨(List.mem_of_getElem? (i := 36) rfl), (List.forall_mem_cons.mpr ⟨(List.mem_of_getElem? (i := 37) rfl), (List.forall_mem_cons.mpr ⟨(List.mem_of_getElem? (i := 38) rfl), (List.forall_mem_cons.mpr ⟨(List.mem_of_getElem? (i := 39) rfl), (List.forall_mem_cons.mpr ⟨(List.mem_of_getElem? (i := 40) rfl), (List.forall_mem_cons.mpr ⟨(List.mem_of_getElem? (i := 41) rfl), (List.forall_mem_cons.mpr ⟨(List.mem_of_getElem? (i := 42) rfl), (List.forall_mem_cons.mpr ⟨(List.mem_of_getElem? (i := 43) rfl), (List.forall_mem_cons.mpr ⟨(List.mem_of_getElem? (i := 44) rfl), (List.forall_mem_cons.mpr ⟨(List.mem_of_getElem? (i := 45) rfl), (List.forall_mem_cons.mpr ⟨(List.mem_of_getElem? (i := 46) rfl), (List.forall_mem_cons.mpr ⟨(List.mem_of_getElem? (i := 47) rfl), (List.forall_mem_cons.mpr ⟨(List.mem_of_getElem? (i := 48) rfl), (List.forall_mem_cons.mpr ⟨(List.mem_of_getElem? (i := 49) rfl), (List.forall_mem_cons.mpr ⟨(List.mem_of_getElem? (i := 50) rfl), (List.forall_mem_cons.mpr ⟨(List.mem_of_getElem? (i := 51) rfl), (List.forall_mem_cons.mpr ⟨(List.mem_of_getElem? (i := 52) rfl), (List.forall_mem_cons.mpr ⟨(List.mem_of_getElem? (i := 53) rfl), (List.forall_mem_cons.mpr ⟨(List.mem_of_getElem? (i := 54) rfl), (List.forall_mem_cons.mpr ⟨(List.mem_of_getElem? (i := 55) rfl), (fun _ h => absurd h List.not_mem_nil)⟩)⟩)⟩)⟩)⟩)⟩)⟩)⟩)⟩)⟩)⟩)⟩)⟩)⟩)⟩)⟩)⟩)⟩)⟩)⟩)⟩)⟩)⟩)⟩)), (show ∀ w ∈ wsX2_suits_r3, w ∈ wsX2_addSuiting from (List.forall_mem_cons.mpr ⟨(List.mem_of_getElem? (i := 56) rfl), (fun _ h => absurd h List.not_mem_nil)⟩))⟩)⟩), (fun _ h => (List.mem_cons_of_mem _ (List.mem_append_left _ (List.mem_append_left _ (List.mem_append_right _ h)))))⟩), (fun _ h => (List.mem_cons_of_mem _ (List.mem_append_left _ (List.mem_append_right _ h))))⟩), (fun _ h => (List.mem_cons_of_mem _ (List.mem_append_right _ h)))⟩)⟩) (by decide +kernel)
set_option maxRecDepth 20000 in
theorem gX2_addSuiting_X2_suits : GoodIn wsX2_addSuiting (wsV RX2 63 RX2 yX2_suits wsX2_suits) := goodIn_app (goodIn_sub (List.forall_mem_cons.mpr ⟨(List.mem_of_getElem? (i := 6) rfl), (List.forall_mem_cons.mpr ⟨(List.mem_of_getElem? (i := 7) rfl), (List.forall_mem_cons.mpr ⟨(List.mem_of_getElem? (i := 8) rfl), (List.forall_mem_cons.mpr ⟨(List.mem_of_getElem? (i := 9) rfl), (fun _ h => absurd h List.not_mem_nil)⟩)⟩)⟩)⟩) (by decide +kernel)) ggX2_addSuiting_X2_suits
set_option maxRecDepth 100000 in
theorem daX2_addSuiting : ∀ q ∈ ([(0, .iconst 0, 1), (1, .istore_n 1, 1), (2, .iconst 0, 1), (3, .istore_n 2, 1), (4, .iload_n 2, 1), (5, .aload_n 0, 1), (6, .getfield 28, 3), (9, .getfield 57, 3), (12, .if_icmp .ge 68, 3), (15, .iconst 0, 1), (16, .istore_n 3, 1), (17, .iload_n 3, 1), (18, .aload_n 0, 1), (19, .getfield 24, 3), (22, .getfield 48, 3), (25, .if_icmp .ge 49, 3), (28, .aload_n 0, 1), (29, .getfield 15, 3), (32, .iload_n 2, 1), (33, .iaload, 1), (34, .iload_n 3, 1), (35, .ishr, 1), (36, .iconst 1, 1), (37, .iand, 1), (38, .ifCond .ne 30, 3), (41, .aload_n 0, 1), (42, .iload_n 3, 1), (43, .iload_n 2, 1), (44, .aload_n 0, 1), (45, .getfield 15, 3), (48, .invokevirtual 63, 3), (51, .ifCond .eq 17, 3), (54, .aload_n 0, 1), (55, .getfield 15, 3), (58, .iload_n 2, 1), (59, .dup2, 1), (60, .iaload, 1), (61, .iconst 1, 1), (62, .iload_n 3, 1), (63, .ishl, 1), (64, .ior, 1), (65, .iastore, 1), (66, .iconst 1, 1), (67, .istore_n 1, 1), (68, .iinc 3 1, 3), (71, .goto (-54), 3), (74, .iinc 2 1, 3), (77, .goto (-73), 3), (80, .iload_n 1, 1), (81, .ireturn, 1)] : List (Nat × Instr × Nat)), decode cX2_addSuiting q.1 = .ok q.2 := by decide +kernel
theorem dX2_addSuiting_0 : decode cX2_addSuiting 0 = .ok (.iconst 0, 1) := daX2_addSuiting (0, .iconst 0, 1) (List.mem_of_getElem? (i := 0) rfl)
theorem dX2_addSuiting_1 : decode cX2_addSuiting 1 = .ok (.istore_n 1, 1) := daX2_addSuiting (1, .istore_n 1, 1) (List.mem_of_getElem? (i := 1) rfl)
theorem dX2_addSuiting_2 : decode cX2_addSuiting 2 = .ok (.iconst 0, 1) := daX2_addSuiting (2, .iconst 0, 1) (List.mem_of_getElem? (i := 2) rfl)
theorem dX2_addSuiting_3 : decode cX2_addSuiting 3 = .ok (.istore_n 2, 1) := daX2_addSuiting (3, .istore_n 2, 1) (List.mem_of_getElem? (i := 3) rfl)
theorem dX2_addSuiting_4 : decode cX2_addSuiting 4 = .ok (.iload_n 2, 1) := daX2_addSuiting (4, .iload_n 2, 1) (List.mem_of_getElem? (i := 4) rfl)
theorem dX2_addSuiting_5 : decode cX2_addSuiting 5 = .ok (.aload_n 0, 1) := daX2_addSuiting (5, .aload_n 0, 1) (List.mem_of_getElem? (i := 5) rfl)
theorem dX2_addSuiting_6 : decode cX2_addSuiting 6 = .ok (.getfield 28, 3) := daX2_addSuiting (6, .getfield 28, 3) (List.mem_of_getElem? (i := 6) rfl)
theorem dX2_addSuiting_9 : decode cX2_addSuiting 9 = .ok (.getfield 57, 3) := daX2_addSuiting (9, .getfield 57, 3) (List.mem_of_getElem? (i := 7) rfl)
theorem dX2_addSuiting_12 : decode cX2_addSuiting 12 = .ok (.if_icmp .ge 68, 3) := daX2_addSuiting (12, .if_icmp .ge 68, 3) (List.mem_of_getElem? (i := 8) rfl)
theorem dX2_addSuiting_15 : decode cX2_addSuiting 15 = .ok (.iconst 0, 1) := daX2_addSuiting (15, .iconst 0, 1) (List.mem_of_getElem? (i := 9) rfl)
theorem dX2_addSuiting_16 : decode cX2_addSuiting 16 = .ok (.istore_n 3, 1) := daX2_addSuiting (16, .istore_n 3, 1) (List.mem_of_getElem? (i := 10) rfl)
theorem dX2_addSuiting_17 : decode cX2_addSuiting 17 = .ok (.iload_n 3, 1) := daX2_addSuiting (17, .iload_n 3, 1) (List.mem_of_getElem? (i := 11) rfl)
theorem dX2_addSuiting_18 : decode cX2_addSuiting 18 = .ok (.aload_n 0, 1) := daX2_addSuiting (18, .aload_n 0, 1) (List.mem_of_getElem? (i := 12) rfl)
theorem dX2_addSuiting_19 : decode cX2_addSuiting 19 = .ok (.getfield 24, 3) := daX2_addSuiting (19, .getfield 24, 3) (List.mem_of_getElem? (i := 13) rfl)
theorem dX2_addSuiting_22 : decode cX2_addSuiting 22 = .ok (.getfield 48, 3) := daX2_addSuiting (22, .getfield 48, 3) (List.mem_of_getElem? (i := 14) rfl)
theorem dX2_addSuiting_25 : decode cX2_addSuiting 25 = .ok (.if_icmp .ge 49, 3) := daX2_addSuiting (25, .if_icmp .ge 49, 3) (List.mem_of_getElem? (i := 15) rfl)
theorem dX2_addSuiting_28 : decode cX2_addSuiting 28 = .ok (.aload_n 0, 1) := daX2_addSuiting (28, .aload_n 0, 1) (List.mem_of_getElem? (i := 16) rfl)
theorem dX2_addSuiting_29 : decode cX2_addSuiting 29 = .ok (.getfield 15, 3) := daX2_addSuiting (29, .getfield 15, 3) (List.mem_of_getElem? (i := 17) rfl)
theorem dX2_addSuiting_32 : decode cX2_addSuiting 32 = .ok (.iload_n 2, 1) := daX2_addSuiting (32, .iload_n 2, 1) (List.mem_of_getElem? (i := 18) rfl)
theorem dX2_addSuiting_33 : decode cX2_addSuiting 33 = .ok (.iaload, 1) := daX2_addSuiting (33, .iaload, 1) (List.mem_of_getElem? (i := 19) rfl)
theorem dX2_addSuiting_34 : decode cX2_addSuiting 34 = .ok (.iload_n 3, 1) := daX2_addSuiting (34, .iload_n 3, 1) (List.mem_of_getElem? (i := 20) rfl)
theorem dX2_addSuiting_35 : decode cX2_addSuiting 35 = .ok (.ishr, 1) := daX2_addSuiting (35, .ishr, 1) (List.mem_of_getElem? (i := 21) rfl)
theorem dX2_addSuiting_36 : decode cX2_addSuiting 36 = .ok (.iconst 1, 1) := daX2_addSuiting (36, .iconst 1, 1) (List.mem_of_getElem? (i := 22) rfl)
theorem dX2_addSuiting_37 : decode cX2_addSuiting 37 = .ok (.iand, 1) := daX2_addSuiting (37, .iand, 1) (List.mem_of_getElem? (i := 23) rfl)
theorem dX2_addSuiting_38 : decode cX2_addSuiting 38 = .ok (.ifCond .ne 30, 3) := daX2_addSuiting (38, .ifCond .ne 30, 3) (List.mem_of_getElem? (i := 24) rfl)
theorem dX2_addSuiting_41 : decode cX2_addSuiting 41 = .ok (.aload_n 0, 1) := daX2_addSuiting (41, .aload_n 0, 1) (List.mem_of_getElem? (i := 25) rfl)
theorem dX2_addSuiting_42 : decode cX2_addSuiting 42 = .ok (.iload_n 3, 1) := daX2_addSuiting (42, .iload_n 3, 1) (List.mem_of_getElem? (i := 26) rfl)
theorem dX2_addSuiting_43 : decode cX2_addSuiting 43 = .ok (.iload_n 2, 1) := daX2_addSuiting (43, .iload_n 2, 1) (List.mem_of_getElem? (i := 27) rfl)
theorem dX2_addSuiting_44 : decode cX2_addSuiting 44 = .ok (.aload_n 0, 1) := daX2_addSuiting (44, .aload_n 0, 1) (List.mem_of_getElem? (i := 28) rfl)
theorem dX2_addSuiting_45 : decode cX2_addSuiting 45 = .ok (.getfield 15, 3) := daX2_addSuiting (45, .getfield 15, 3) (List.mem_of_getElem? (i := 29) rfl)
theorem dX2_addSuiting_48 : decode cX2_addSuiting 48 = .ok (.invokevirtual 63, 3) := daX2_addSuiting (48, .invokevirtual 63, 3) (List.mem_of_getElem? (i := 30) rfl)
theorem dX2_addSuiting_51 : decode cX2_addSuiting 51 = .ok (.ifCond .eq 17, 3) := daX2_addSuiting (51, .ifCond .eq 17, 3) (List.mem_of_getElem? (i := 31) rfl)
theorem dX2_addSuiting_54 : decode cX2_addSuiting 54 = .ok (.aload_n 0, 1) := daX2_addSuiting (54, .aload_n 0, 1) (List.mem_of_getElem? (i := 32) rfl)
theorem dX2_addSuiting_55 : decode cX2_addSuiting 55 = .ok (.getfield 15, 3) := daX2_addSuiting (55, .getfield 15, 3) (List.mem_of_getElem? (i := 33) rfl)
theorem dX2_addSuiting_58 : decode cX2_addSuiting 58 = .ok (.iload_n 2, 1) := daX2_addSuiting (58, .iload_n 2, 1) (List.mem_of_getElem? (i := 34) rfl)
theorem dX2_addSuiting_59 : decode cX2_addSuiting 59 = .ok (.dup2, 1) := daX2_addSuiting (59, .dup2, 1) (List.mem_of_getElem? (i := 35) rfl)
theorem dX2_addSuiting_60 : decode cX2_addSuiting 60 = .ok (.iaload, 1) := daX2_addSuiting (60, .iaload, 1) (List.mem_of_getElem? (i := 36) rfl)
theorem dX2_addSuiting_61 : decode cX2_addSuiting 61 = .ok (.iconst 1, 1) := daX2_addSuiting (61, .iconst 1, 1) (List.mem_of_getElem? (i := 37) rfl)
theorem dX2_addSuiting_62 : decode cX2_addSuiting 62 = .ok (.iload_n 3, 1) := daX2_addSuiting (62, .iload_n 3, 1) (List.mem_of_getElem? (i := 38) rfl)
theorem dX2_addSuiting_63 : decode cX2_addSuiting 63 = .ok (.ishl, 1) := daX2_addSuiting (63, .ishl, 1) (List.mem_of_getElem? (i := 39) rfl)
theorem dX2_addSuiting_64 : decode cX2_addSuiting 64 = .ok (.ior, 1) := daX2_addSuiting (64, .ior, 1) (List.mem_of_getElem? (i := 40) rfl)
theorem dX2_addSuiting_65 : decode cX2_addSuiting 65 = .ok (.iastore, 1) := daX2_addSuiting (65, .iastore, 1) (List.mem_of_getElem? (i := 41) rfl)
theorem dX2_addSuiting_66 : decode cX2_addSuiting 66 = .ok (.iconst 1, 1) := daX2_addSuiting (66, .iconst 1, 1) (List.mem_of_getElem? (i := 42) rfl)
theorem dX2_addSuiting_67 : decode cX2_addSuiting 67 = .ok (.istore_n 1, 1) := daX2_addSuiting (67, .istore_n 1, 1) (List.mem_of_getElem? (i := 43) rfl)
theorem dX2_addSuiting_68 : decode cX2_addSuiting 68 = .ok (.iinc 3 1, 3) := daX2_addSuiting (68, .iinc 3 1, 3) (List.mem_of_getElem? (i := 44) rfl)
theorem dX2_addSuiting_71 : decode cX2_addSuiting 71 = .ok (.goto (-54), 3) := daX2_addSuiting (71, .goto (-54), 3) (List.mem_of_getElem? (i := 45) rfl)
theorem dX2_addSuiting_74 : decode cX2_addSuiting 74 = .ok (.iinc 2 1, 3) := daX2_addSuiting (74, .iinc 2 1, 3) (List.mem_of_getElem? (i := 46) rfl)
theorem dX2_addSuiting_77 : decode cX2_addSuiting 77 = .ok (.goto (-73), 3) := daX2_addSuiting (77, .goto (-73), 3) (List.mem_of_getElem? (i := 47) rfl)
theorem dX2_addSuiting_80 : decode cX2_addSuiting 80 = .ok (.iload_n 1, 1) := daX2_addSuiting (80, .iload_n 1, 1) (List.mem_of_getElem? (i := 48) rfl)
theorem dX2_addSuiting_81 : decode cX2_addSuiting 81 = .ok (.ireturn, 1) := daX2_addSuiting (81, .ireturn, 1) (List.mem_of_getElem? (i := 49) rfl)
def rmX2_addSuiting : Room := { frames := 4, cells := 0, slots := 0, locals := 103 }
theorem zdX2_addSuiting : yX2_addSuiting.cls = RX2 ∧ yX2_addSuiting.cls ≠ "java/lang/invoke/MethodHandle" ∧ yX2_addSuiting.cls ≠ "java/lang/invoke/VarHandle" ∧ (parseMethodDescriptor yX2_addSuiting.desc).map (fun d => d.parameters.length) = some 0 := by decide +kernel
theorem kiX2_addSuiting_X2 : ∀ w ∈ wsX20, w ∈ wsX2_addSuiting := fun _ h => (List.mem_cons_of_mem _ (List.mem_append_left _ (List.mem_append_left _ (List.mem_append_right _ h))))
theorem kfX2_addSuiting_28 : Cond.fieldLink RX2 28 "ShapeJudge$Judge" "book" "LShapeJudge$Book;" ∈ wsX2_addSuiting := (List.mem_of_getElem? (i := 1) rfl)
theorem kiX2_addSuiting_X0 : ∀ w ∈ wsX00, w ∈ wsX2_addSuiting := fun _ h => (List.mem_cons_of_mem _ (List.mem_append_left _ (List.mem_append_right _ h)))
theorem kfX2_addSuiting_57 : Cond.fieldLink RX2 57 "ShapeJudge$Book" "shapeCount" "I" ∈ wsX2_addSuiting := (List.mem_of_getElem? (i := 2) rfl)
theorem kfX2_addSuiting_24 : Cond.fieldLink RX2 24 "ShapeJudge$Judge" "graph" "LShapeJudge$Graph;" ∈ wsX2_addSuiting := (List.mem_of_getElem? (i := 3) rfl)
theorem kiX2_addSuiting_X1 : ∀ w ∈ wsX10, w ∈ wsX2_addSuiting := fun _ h => (List.mem_cons_of_mem _ (List.mem_append_right _ h))
theorem kfX2_addSuiting_48 : Cond.fieldLink RX2 48 "ShapeJudge$Graph" "nodes" "I" ∈ wsX2_addSuiting := (List.mem_of_getElem? (i := 4) rfl)
theorem kfX2_addSuiting_15 : Cond.fieldLink RX2 15 "ShapeJudge$Judge" "sure" "[I" ∈ wsX2_addSuiting := (List.mem_of_getElem? (i := 5) rfl)
def t_X2_addSuiting_17 (i2 : Int32) (i5 : Int32) (i6 : Int32) (m7 : Mem) : Option ((Int32 × Int32 × Mem) ⊕ (Int32 × Mem)) :=
  (if (m7 1 0) ≤ i6 then (some (.inr (i5, m7))) else (ck (zin i2 6 = true) ((if (((m7 41 (Int32.toNatClampNeg i2)) >>> (i6 &&& 31)) &&& 1) = 0 then (zb2 (s_X2_suits m7 i6 i2 41) fun r11 m12 => (if r11 = 0 then (bn (i6 + 1) fun x13 => some (.inl (i5, x13, m12))) else (ck (zin i2 6 = true) (ck (zin i2 6 = true) (bn (sto m12 41 (Int32.toNatClampNeg i2) ((m12 41 (Int32.toNatClampNeg i2)) ||| ((1 : Int32) <<< (i6 &&& 31)))) fun m16 => bn (i6 + 1) fun x17 => some (.inl (1, x17, m16))))))) else (bn (i6 + 1) fun x9 => some (.inl (i5, x9, m7)))))))
def l_X2_addSuiting_17 (i2 : Int32) (n : Nat) (i5 : Int32) (i6 : Int32) (m7 : Mem) : Option (Int32 × Mem) := zlp n (fun a => t_X2_addSuiting_17 i2 a.1 a.2.1 a.2.2) (i5, i6, m7)
def t_X2_addSuiting_4  (i1 : Int32) (i2 : Int32) (m3 : Mem) : Option ((Int32 × Int32 × Mem) ⊕ (Int32 × Mem)) :=
  zbk (m3 39 1) fun b4 => (if (m3 b4 0) ≤ i2 then (some (.inr (i1, m3))) else ((zb2 (l_X2_addSuiting_17 i2 FU i1 0 m3) fun y21 m22 => bn (i2 + 1) fun x23 => some (.inl (y21, x23, m22)))))
def l_X2_addSuiting_4  (n : Nat) (i1 : Int32) (i2 : Int32) (m3 : Mem) : Option (Int32 × Mem) := zlp n (fun a => t_X2_addSuiting_4  a.1 a.2.1 a.2.2) (i1, i2, m3)
def s_X2_addSuiting (m : Mem)  : Option (Int32 × Mem) :=
  (zb2 (l_X2_addSuiting_4  FU 0 0 m) fun y25 m26 => ck (y25 = 0 ∨ y25 = 1) (some (y25, m26)))
set_option maxRecDepth 100000 in
set_option maxHeartbeats 4000000 in
theorem w_X2_addSuiting_17 {K : ZK} (C : zOK MX K cX2_addSuiting 4 (some .boolean) RX2 wsX2_addSuiting rmX2_addSuiting) {i2 : Int32}  {o0 : Int32} {o1 : Mem} (hk : zGo MX K o1 [(0, .ref ((zw K).2.1 39)), (1, .int o0), (2, .int i2)] 74 []) : ∀ (n : Nat) (i5 : Int32) (i6 : Int32) (m7 : Mem), l_X2_addSuiting_17 i2 n i5 i6 m7 = some (o0, o1) → zGo MX K m7 [(0, .ref ((zw K).2.1 39)), (1, .int i5), (2, .int i2), (3, .int i6)] 17 [] := by
  intro n
  induction n with
  | zero =>
    intro i5 i6 m7 hf
    cases hf
  | succ n ih =>
    intro i5 i6 m7 hf
    obtain ⟨z, hf, hz⟩ := zlp_el hf
    replace hf : t_X2_addSuiting_17 i2 i5 i6 m7 = some z := hf
    unfold t_X2_addSuiting_17 at hf
    refine z_iload_n C 3 dX2_addSuiting_17 rfl rfl ?_
    refine z_aload_n C 0 dX2_addSuiting_18 rfl rfl ?_
    refine z_getr C (t := 1) (Nat.le_of_ble_eq_true rfl) rfl rfl 0 (Nat.le_of_ble_eq_true rfl) rfl kiX2_addSuiting_X2 kfX2_addSuiting_24 dX2_addSuiting_19 ?_
    refine z_geti C (Nat.le_of_ble_eq_true rfl) rfl rfl 0 (Nat.le_of_ble_eq_true rfl) rfl kiX2_addSuiting_X1 kfX2_addSuiting_48 dX2_addSuiting_22 ?_
    refine z_icmp_ge (tgt := 74) C dX2_addSuiting_25 (by decide) (fun c20 => ?_) (fun c20 => ?_)
    · replace hf := if_t c20 hf
      cases hf
      replace hz := zlz_r hz
      cases hz
      exact z_sub [0, 1, 2] rfl hk
    · replace hf := if_f c20 hf
      refine z_aload_n C 0 dX2_addSuiting_28 rfl rfl ?_
      refine z_getr C (t := 41) (Nat.le_of_ble_eq_true rfl) rfl rfl 3 (Nat.le_of_ble_eq_true rfl) rfl kiX2_addSuiting_X2 kfX2_addSuiting_15 dX2_addSuiting_29 ?_
      refine z_iload_n C 2 dX2_addSuiting_32 rfl rfl ?_
      obtain ⟨hi8, hf⟩ := ck_el hf
      refine z_iald C (k := 41) (Nat.le_of_ble_eq_true rfl) rfl hi8 dX2_addSuiting_33 ?_
      refine z_iload_n C 3 dX2_addSuiting_34 rfl rfl ?_
      refine z_ishr C dX2_addSuiting_35 ?_
      refine z_iconst C (v := 1) dX2_addSuiting_36 rfl ?_
      refine z_iand C dX2_addSuiting_37 ?_
      refine z_if_ne (tgt := 68) C dX2_addSuiting_38 (by decide) (fun c19 => ?_) (fun c19 => ?_)
      · replace hf := if_f c19 hf
        obtain ⟨x9, e_x9⟩ : ∃ y : Int32, y = i6 + 1 := ⟨_, rfl⟩
        replace hf := bn_to e_x9 hf
        refine z_iinc C (lv2 := [(0, .ref ((zw K).2.1 39)), (1, .int i5), (2, .int i2), (3, .int x9)]) 3 [1, 2, 3, 0] dX2_addSuiting_68 rfl rfl (Nat.le_of_ble_eq_true rfl) e_x9 rfl ?_
        refine z_goto (tgt := 17) C dX2_addSuiting_71 (by decide) ?_
        cases hf
        exact z_sub [0, 1, 2, 3] rfl (ih i5 x9 m7 hz)
      · replace hf := if_t c19 hf
        refine z_aload_n C 0 dX2_addSuiting_41 rfl rfl ?_
        refine z_iload_n C 3 dX2_addSuiting_42 rfl rfl ?_
        refine z_iload_n C 2 dX2_addSuiting_43 rfl rfl ?_
        refine z_aload_n C 0 dX2_addSuiting_44 rfl rfl ?_
        refine z_getr C (t := 41) (Nat.le_of_ble_eq_true rfl) rfl rfl 3 (Nat.le_of_ble_eq_true rfl) rfl kiX2_addSuiting_X2 kfX2_addSuiting_15 dX2_addSuiting_45 ?_
        obtain ⟨r11, m12, hc10, hf⟩ := zb2_el hf
        refine z_cVi C (c_X2_suits _ _ (Or.inr rfl) hc10) rfl gX2_addSuiting_X2_suits rfl rfl zdX2_suits rfl (Nat.le_of_ble_eq_true rfl) rfl rfl rfl ⟨Nat.le_of_ble_eq_true rfl, Nat.le_of_ble_eq_true rfl⟩ (Nat.le_of_ble_eq_true rfl) dX2_addSuiting_48 rfl ?_
        refine z_if_eq (tgt := 68) C dX2_addSuiting_51 (by decide) (fun c18 => ?_) (fun c18 => ?_)
        · replace hf := if_t c18 hf
          obtain ⟨x13, e_x13⟩ : ∃ y : Int32, y = i6 + 1 := ⟨_, rfl⟩
          replace hf := bn_to e_x13 hf
          refine z_iinc C (lv2 := [(0, .ref ((zw K).2.1 39)), (1, .int i5), (2, .int i2), (3, .int x13)]) 3 [1, 2, 3, 0] dX2_addSuiting_68 rfl rfl (Nat.le_of_ble_eq_true rfl) e_x13 rfl ?_
          refine z_goto (tgt := 17) C dX2_addSuiting_71 (by decide) ?_
          cases hf
          exact z_sub [0, 1, 2, 3] rfl (ih i5 x13 m12 hz)
        · replace hf := if_f c18 hf
          refine z_aload_n C 0 dX2_addSuiting_54 rfl rfl ?_
          refine z_getr C (t := 41) (Nat.le_of_ble_eq_true rfl) rfl rfl 3 (Nat.le_of_ble_eq_true rfl) rfl kiX2_addSuiting_X2 kfX2_addSuiting_15 dX2_addSuiting_55 ?_
          refine z_iload_n C 2 dX2_addSuiting_58 rfl rfl ?_
          refine z_dup2 C dX2_addSuiting_59 ?_
          obtain ⟨hi14, hf⟩ := ck_el hf
          refine z_iald C (k := 41) (Nat.le_of_ble_eq_true rfl) rfl hi14 dX2_addSuiting_60 ?_
          refine z_iconst C (v := 1) dX2_addSuiting_61 rfl ?_
          refine z_iload_n C 3 dX2_addSuiting_62 rfl rfl ?_
          refine z_ishl C dX2_addSuiting_63 ?_
          refine z_ior C dX2_addSuiting_64 ?_
          obtain ⟨hi15, hf⟩ := ck_el hf
          refine z_iast C (k := 41) (Nat.le_of_ble_eq_true rfl) rfl hi15 dX2_addSuiting_65 ?_
          refine z_nm (fun m16 e_m16 => ?_)
          replace hf := bn_to e_m16 hf
          refine z_iconst C (v := 1) dX2_addSuiting_66 rfl ?_
          refine z_istore_n C (lv2 := [(0, .ref ((zw K).2.1 39)), (1, .int 1), (2, .int i2), (3, .int i6)]) [1, 0, 2, 3] dX2_addSuiting_67 rfl (Nat.le_of_ble_eq_true rfl) rfl ?_
          obtain ⟨x17, e_x17⟩ : ∃ y : Int32, y = i6 + 1 := ⟨_, rfl⟩
          replace hf := bn_to e_x17 hf
          refine z_iinc C (lv2 := [(0, .ref ((zw K).2.1 39)), (1, .int 1), (2, .int i2), (3, .int x17)]) 3 [1, 2, 3, 0] dX2_addSuiting_68 rfl rfl (Nat.le_of_ble_eq_true rfl) e_x17 rfl ?_
          refine z_goto (tgt := 17) C dX2_addSuiting_71 (by decide) ?_
          cases hf
          exact z_sub [0, 1, 2, 3] rfl (ih 1 x17 m16 hz)
set_option maxRecDepth 100000 in
set_option maxHeartbeats 4000000 in
theorem w_X2_addSuiting_4 {K : ZK} (C : zOK MX K cX2_addSuiting 4 (some .boolean) RX2 wsX2_addSuiting rmX2_addSuiting)   {o0 : Int32} {o1 : Mem} (hk : zGo MX K o1 [(1, .int o0)] 80 []) : ∀ (n : Nat) (i1 : Int32) (i2 : Int32) (m3 : Mem), l_X2_addSuiting_4  n i1 i2 m3 = some (o0, o1) → zGo MX K m3 [(0, .ref ((zw K).2.1 39)), (1, .int i1), (2, .int i2)] 4 [] := by
  intro n
  induction n with
  | zero =>
    intro i1 i2 m3 hf
    cases hf
  | succ n ih =>
    intro i1 i2 m3 hf
    obtain ⟨z, hf, hz⟩ := zlp_el hf
    replace hf : t_X2_addSuiting_4  i1 i2 m3 = some z := hf
    unfold t_X2_addSuiting_4 at hf
    refine z_iload_n C 2 dX2_addSuiting_4 rfl rfl ?_
    refine z_aload_n C 0 dX2_addSuiting_5 rfl rfl ?_
    obtain ⟨b4, hb4, e_b4, hf⟩ := zbk_el hf
    refine z_getb C (b := b4) (Nat.le_of_ble_eq_true rfl) rfl rfl 1 (Nat.le_of_ble_eq_true rfl) rfl kiX2_addSuiting_X2 kfX2_addSuiting_28 (isb_lt hb4) e_b4 dX2_addSuiting_6 ?_
    refine z_geti C (isb_k0 hb4) (isb_L0 hb4) rfl 0 (Nat.le_of_ble_eq_true rfl) rfl kiX2_addSuiting_X0 kfX2_addSuiting_57 dX2_addSuiting_9 ?_
    refine z_icmp_ge (tgt := 80) C dX2_addSuiting_12 (by decide) (fun c24 => ?_) (fun c24 => ?_)
    · replace hf := if_t c24 hf
      cases hf
      replace hz := zlz_r hz
      cases hz
      exact z_sub [1] rfl hk
    · replace hf := if_f c24 hf
      refine z_iconst C (v := 0) dX2_addSuiting_15 rfl ?_
      refine z_istore_n C (lv2 := [(0, .ref ((zw K).2.1 39)), (1, .int i1), (2, .int i2), (3, .int 0)]) [1, 2, 3, 0] dX2_addSuiting_16 rfl (Nat.le_of_ble_eq_true rfl) rfl ?_
      obtain ⟨y21, m22, hg, hf⟩ := zb2_el hf
      refine z_sub [0, 1, 2, 3] rfl (w_X2_addSuiting_17 C  ?_ _ _ _ _ hg)
      clear hg
      obtain ⟨x23, e_x23⟩ : ∃ y : Int32, y = i2 + 1 := ⟨_, rfl⟩
      replace hf := bn_to e_x23 hf
      refine z_iinc C (lv2 := [(0, .ref ((zw K).2.1 39)), (1, .int y21), (2, .int x23)]) 2 [1, 2, 0] dX2_addSuiting_74 rfl rfl (Nat.le_of_ble_eq_true rfl) e_x23 rfl ?_
      refine z_goto (tgt := 4) C dX2_addSuiting_77 (by decide) ?_
      cases hf
      exact z_sub [0, 1, 2] rfl (ih y21 x23 m22 hz)
set_option maxRecDepth 100000 in
set_option maxHeartbeats 4000000 in
theorem c_X2_addSuiting (l : Launch) (w : ZW) {m : Mem}  {r9 : Int32} {m9 : Mem}  (hf : s_X2_addSuiting m  = some (r9, m9)) : zCi MX l w yX2_addSuiting wsX2_addSuiting rmX2_addSuiting [.ref (w.2.1 39)] m m9 r9 := by
  refine z_met_z MX_ok (own := RX2) (by decide +kernel) rfl rfl (Nat.le_of_ble_eq_true rfl) ?_
  intro K C hKw hKl hret
  subst hKw
  subst hKl
  unfold s_X2_addSuiting at hf
  show zGo MX K m [(0, .ref ((zw K).2.1 39))] 0 []
  refine z_iconst C (v := 0) dX2_addSuiting_0 rfl ?_
  refine z_istore_n C (lv2 := [(0, .ref ((zw K).2.1 39)), (1, .int 0)]) [1, 0] dX2_addSuiting_1 rfl (Nat.le_of_ble_eq_true rfl) rfl ?_
  refine z_iconst C (v := 0) dX2_addSuiting_2 rfl ?_
  refine z_istore_n C (lv2 := [(0, .ref ((zw K).2.1 39)), (1, .int 0), (2, .int 0)]) [1, 2, 0] dX2_addSuiting_3 rfl (Nat.le_of_ble_eq_true rfl) rfl ?_
  obtain ⟨y25, m26, hg, hf⟩ := zb2_el hf
  refine z_sub [0, 1, 2] rfl (w_X2_addSuiting_4 C  ?_ _ _ _ _ hg)
  clear hg
  refine z_iload_n C 0 dX2_addSuiting_80 rfl rfl ?_
  obtain ⟨hz, hf⟩ := ck_el hf
  cases hf
  exact hret _ _ dX2_addSuiting_81 hz
set_option maxRecDepth 20000 in
theorem ggX2_bindToLeastPart_X2_suits : GoodIn wsX2_bindToLeastPart wsX2_suits := goodIn_sub (List.forall_mem_cons.mpr ⟨(List.mem_of_getElem? (i := 9) rfl), (List.forall_mem_append.mpr ⟨(List.forall_mem_append.mpr ⟨(List.forall_mem_append.mpr ⟨(List.forall_mem_append.mpr ⟨(show ∀ w ∈ wsX2_suits_r1, w ∈ wsX2_bindToLeastPart from (List.forall_mem_cons.mpr ⟨(List.mem_of_getElem? (i := 1) rfl), (List.forall_mem_cons.mpr ⟨(List.mem_of_getElem? (i := 10) rfl), (List.forall_mem_cons.mpr ⟨(List.mem_of_getElem? (i := 11) rfl), (List.forall_mem_cons.mpr ⟨(List.mem_of_getElem? (i := 12) rfl), (List.forall_mem_cons.mpr ⟨(List.mem_of_getElem? (i := 13) rfl), (List.forall_mem_cons.mpr ⟨(List.mem_of_getElem? (i := 8) rfl), (List.forall_mem_cons.mpr ⟨(List.mem_of_getElem? (i := 14) rfl), (List.forall_mem_cons.mpr ⟨(List.mem_of_getElem? (i := 15) rfl), (List.forall_mem_cons.mpr ⟨(List.mem_of_getElem? (i := 16) rfl), (List.forall_mem_cons.mpr ⟨(List.mem_of_getElem? (i := 17) rfl), (List.forall_mem_cons.mpr ⟨(List.mem_of_getElem? (i := 18) rfl), (List.forall_mem_cons.mpr ⟨(List.mem_of_getElem? (i := 19) rfl), (List.forall_mem_cons.mpr ⟨(List.mem_of_getElem? (i := 20) rfl), (List.forall_mem_cons.mpr ⟨(List.mem_of_getElem? (i := 21) rfl), (List.forall_mem_cons.mpr ⟨(List.mem_of_getElem? (i := 22) rfl), (List.forall_mem_cons.mpr ⟨(List.mem_of_getElem? (i := 23) rfl), (List.forall_mem_cons.mpr ⟨(List.mem_of_getElem? (i := 24) rfl), (List.forall_mem_cons.mpr ⟨(List.mem_of_getElem? (i := 25) rfl), (List.forall_mem_cons.mpr ⟨(List.mem_of_getElem? (i := 26) rfl), (List.forall_mem_cons.mpr ⟨(List.mem_of_getElem? (i := 27) rfl), (List.forall_mem_cons.mpr ⟨(List.mem_of_getElem? (i := 28) rfl), (List.forall_mem_cons.mpr ⟨(List.mem_of_getElem? (i := 29) rfl), (List.forall_mem_cons.mpr ⟨(List.mem_of_getElem? (i := 30) rfl), (List.forall_mem_cons.mpr ⟨(List.mem_of_getElem? (i := 31) rfl), (fun _ h => absurd h List.not_mem_nil)⟩)⟩)⟩)⟩)⟩)⟩)⟩)⟩)⟩)⟩)⟩)⟩)⟩)⟩)⟩)⟩)⟩)⟩)⟩)⟩)⟩)⟩)⟩)⟩)), (List.forall_mem_append.mpr ⟨(show ∀ w ∈ wsX2_suits_r2, w ∈ wsX2_bindToLeastPart from (List.forall_mem_cons.mpr ⟨(List.mem_of_getElem? (i := 32) rfl), (List.forall_mem_cons.mpr ⟨(List.mem_of_getElem? (i := 33) rfl), (List.forall_mem_cons.mpr ⟨(List.mem_of_getElem? (i := 34) rfl), (List.forall_mem_cons.mpr ⟨(List.mem_of_getElem? (i := 35) rfl), (List.forall_mem_cons.mpr ⟨(List.mem_of_getElem? (i := 3) rfl), (List.forall_mem_cons.mpr ⟨(List.mem_of_getElem? (i := 36) rfl), (List.forall_mem_cons.mpr ⟨(List.mem_of_getElem? (i := 37) rfl), (List.forall_mem_cons.mpr ⟨(List.mem_of_getElem? (i := 38) rfl), (List.forall_mem_cons.mpr ⟨(List.mem_of_getElem? (i := 39) rfl), (List.forall_mem_cons.mpr ⟨(List.mem_of_getElem? (i := 40) rfl), (List.forall_mem_cons.mpr ⟨(List.mem_of_getElem? (i := 41) rfl), (List.forall_mem_cons.mpr ⟨(List.mem_of_getElem? (i := 42) rfl), (List.forall_mem_cons.mpr ⟨(List.mem_of_getElem? (i := 43) rfl), (List.forall_mem_cons.mpr ⟨(List.mem_of_getElem? (i := 4) rfl), (List.forall_mem_cons.mpr ⟨(List.mem_of_getElem? (i := 44) rfl), (List.forall_mem_cons.mpr ⟨(List.mem_of_getElem? (i := 45) rfl), (List.forall_mem_cons.mpr ⟨(List.mem_of_getElem? (i := 46) rfl), (List.forall_mem_cons.mpr ⟨(List.mem_of_getElem? (i := 47) rfl), (List.forall_mem_cons.mpr ⟨(List.mem_of_getElem? (i := 48) rfl), (List.forall_mem_cons.mpr ⟨(List.mem_of_getElem? (i := 49) rfl), (List.forall_mem_cons.mpr ⟨(List.mem_of_getElem? (i := 50) rfl), (List.forall_mem_cons.mpr ⟨(List.mem_of_getElem? (i := 51) rfl), (List.forall_mem_cons.mpr ⟨(List.mem_of_getElem? (i := 52) rfl), (List.forall_mem_cons.mpr ⟨(List.mem_of_getElem? (i := 53) rfl), (fun _ h => absurd h List.not_mem_nil)⟩)⟩)⟩)⟩)⟩)⟩)⟩)⟩)⟩)⟩)⟩)⟩)⟩)⟩)⟩)⟩)⟩)⟩)⟩)⟩)⟩)⟩)⟩)⟩)), (show ∀ w ∈ wsX2_suits_r3, w ∈ wsX2_bindToLeastPart from (List.forall_mem_cons.mpr ⟨(List.mem_of_getElem? (i := 54) rfl), (fun _ h => absurd h List.not_mem_nil)⟩))⟩)⟩), (fun _ h => (List.mem_cons_of_mem _ (List.mem_append_left _ (List.mem_append_left _ (List.mem_append_right _ h)))))⟩), (fun _ h => (List.mem_cons_of_mem _ (List.mem_append_left _ (List.mem_append_right _ h))))⟩), (fun _ h => (List.mem_cons_of_mem _ (List.mem_append_right _ h)))⟩)⟩) (by decide +kernel)
set_option maxRecDepth 20000 in
theorem gX2_bindToLeastPart_X2_suits : GoodIn wsX2_bindToLeastPart (wsV RX2 63 RX2 yX2_suits wsX2_suits) := goodIn_app (goodIn_sub (List.forall_mem_cons.mpr ⟨(List.mem_of_getElem? (i := 5) rfl), (List.forall_mem_cons.mpr ⟨(List.mem_of_getElem? (i := 6) rfl), (List.forall_mem_cons.mpr ⟨(List.mem_of_getElem? (i := 7) rfl), (List.forall_mem_cons.mpr ⟨(List.mem_of_getElem? (i := 8) rfl), (fun _ h => absurd h List.not_mem_nil)⟩)⟩)⟩)⟩) (by decide +kernel)) ggX2_bindToLeastPart_X2_suits
theorem dX2_bindToLeastPart_0 : decode cX2_bindToLeastPart 0 = .ok (.iconst 0, 1) := by decide +kernel
theorem dX2_bindToLeastPart_1 : decode cX2_bindToLeastPart 1 = .ok (.istore 4, 2) := by decide +kernel
theorem dX2_bindToLeastPart_3 : decode cX2_bindToLeastPart 3 = .ok (.iload 4, 2) := by decide +kernel
theorem dX2_bindToLeastPart_5 : decode cX2_bindToLeastPart 5 = .ok (.aload_n 0, 1) := by decide +kernel
theorem dX2_bindToLeastPart_6 : decode cX2_bindToLeastPart 6 = .ok (.getfield 28, 3) := by decide +kernel
theorem dX2_bindToLeastPart_9 : decode cX2_bindToLeastPart 9 = .ok (.getfield 148, 3) := by decide +kernel
theorem dX2_bindToLeastPart_12 : decode cX2_bindToLeastPart 12 = .ok (.iload_n 2, 1) := by decide +kernel
theorem dX2_bindToLeastPart_13 : decode cX2_bindToLeastPart 13 = .ok (.iaload, 1) := by decide +kernel
theorem dX2_bindToLeastPart_14 : decode cX2_bindToLeastPart 14 = .ok (.if_icmp .ge 35, 3) := by decide +kernel
theorem dX2_bindToLeastPart_17 : decode cX2_bindToLeastPart 17 = .ok (.aload_n 0, 1) := by decide +kernel
theorem dX2_bindToLeastPart_18 : decode cX2_bindToLeastPart 18 = .ok (.getfield 18, 3) := by decide +kernel
theorem dX2_bindToLeastPart_21 : decode cX2_bindToLeastPart 21 = .ok (.iload_n 3, 1) := by decide +kernel
theorem dX2_bindToLeastPart_22 : decode cX2_bindToLeastPart 22 = .ok (.iconst 1, 1) := by decide +kernel
theorem dX2_bindToLeastPart_23 : decode cX2_bindToLeastPart 23 = .ok (.iload 4, 2) := by decide +kernel
theorem dX2_bindToLeastPart_25 : decode cX2_bindToLeastPart 25 = .ok (.ishl, 1) := by decide +kernel
theorem dX2_bindToLeastPart_26 : decode cX2_bindToLeastPart 26 = .ok (.iastore, 1) := by decide +kernel
theorem dX2_bindToLeastPart_27 : decode cX2_bindToLeastPart 27 = .ok (.aload_n 0, 1) := by decide +kernel
theorem dX2_bindToLeastPart_28 : decode cX2_bindToLeastPart 28 = .ok (.iload_n 1, 1) := by decide +kernel
theorem dX2_bindToLeastPart_29 : decode cX2_bindToLeastPart 29 = .ok (.iload_n 2, 1) := by decide +kernel
theorem dX2_bindToLeastPart_30 : decode cX2_bindToLeastPart 30 = .ok (.aload_n 0, 1) := by decide +kernel
theorem dX2_bindToLeastPart_31 : decode cX2_bindToLeastPart 31 = .ok (.getfield 9, 3) := by decide +kernel
theorem dX2_bindToLeastPart_34 : decode cX2_bindToLeastPart 34 = .ok (.invokevirtual 63, 3) := by decide +kernel
theorem dX2_bindToLeastPart_37 : decode cX2_bindToLeastPart 37 = .ok (.ifCond .eq 6, 3) := by decide +kernel
theorem dX2_bindToLeastPart_40 : decode cX2_bindToLeastPart 40 = .ok (.iload 4, 2) := by decide +kernel
theorem dX2_bindToLeastPart_42 : decode cX2_bindToLeastPart 42 = .ok (.ireturn, 1) := by decide +kernel
theorem dX2_bindToLeastPart_43 : decode cX2_bindToLeastPart 43 = .ok (.iinc 4 1, 3) := by decide +kernel
theorem dX2_bindToLeastPart_46 : decode cX2_bindToLeastPart 46 = .ok (.goto (-43), 3) := by decide +kernel
theorem dX2_bindToLeastPart_49 : decode cX2_bindToLeastPart 49 = .ok (.bipush (-4), 2) := by decide +kernel
theorem dX2_bindToLeastPart_51 : decode cX2_bindToLeastPart 51 = .ok (.ireturn, 1) := by decide +kernel
def rmX2_bindToLeastPart : Room := { frames := 4, cells := 0, slots := 0, locals := 103 }
theorem zdX2_bindToLeastPart : yX2_bindToLeastPart.cls = RX2 ∧ yX2_bindToLeastPart.cls ≠ "java/lang/invoke/MethodHandle" ∧ yX2_bindToLeastPart.cls ≠ "java/lang/invoke/VarHandle" ∧ (parseMethodDescriptor yX2_bindToLeastPart.desc).map (fun d => d.parameters.length) = some 3 := by decide +kernel
theorem kiX2_bindToLeastPart_X2 : ∀ w ∈ wsX20, w ∈ wsX2_bindToLeastPart := fun _ h => (List.mem_cons_of_mem _ (List.mem_append_left _ (List.mem_append_left _ (List.mem_append_right _ h))))
theorem kfX2_bindToLeastPart_28 : Cond.fieldLink RX2 28 "ShapeJudge$Judge" "book" "LShapeJudge$Book;" ∈ wsX2_bindToLeastPart := (List.mem_of_getElem? (i := 1) rfl)
theorem kiX2_bindToLeastPart_X0 : ∀ w ∈ wsX00, w ∈ wsX2_bindToLeastPart := fun _ h => (List.mem_cons_of_mem _ (List.mem_append_left _ (List.mem_append_right _ h)))
theorem kfX2_bindToLeastPart_148 : Cond.fieldLink RX2 148 "ShapeJudge$Book" "partCount" "[I" ∈ wsX2_bindToLeastPart := (List.mem_of_getElem? (i := 2) rfl)
theorem kfX2_bindToLeastPart_18 : Cond.fieldLink RX2 18 "ShapeJudge$Judge" "allowed" "[I" ∈ wsX2_bindToLeastPart := (List.mem_of_getElem? (i := 3) rfl)
theorem kfX2_bindToLeastPart_9 : Cond.fieldLink RX2 9 "ShapeJudge$Judge" "fitting" "[I" ∈ wsX2_bindToLeastPart := (List.mem_of_getElem? (i := 4) rfl)
def t_X2_bindToLeastPart_3 (a1 : Int32) (a2 : Int32) (a3 : Int32) (i1 : Int32) (m2 : Mem) : Option ((Int32 × Mem) ⊕ (Int32 × Mem)) :=
  zbk (m2 39 1) fun b3 => ck (zin a2 6 = true) ((if (m2 (b3 + 2) (Int32.toNatClampNeg a2)) ≤ i1 then (some (.inr ((-4), m2))) else (ck (zin a3 5 = true) (bn (sto m2 42 (Int32.toNatClampNeg a3) ((1 : Int32) <<< (i1 &&& 31))) fun m6 => zb2 (s_X2_suits m6 a1 a2 40) fun r8 m9 => (if r8 = 0 then (bn (i1 + 1) fun x10 => some (.inl (x10, m9))) else (some (.inr (i1, m9))))))))
def l_X2_bindToLeastPart_3 (a1 : Int32) (a2 : Int32) (a3 : Int32) (n : Nat) (i1 : Int32) (m2 : Mem) : Option (Int32 × Mem) := zlp n (fun a => t_X2_bindToLeastPart_3 a1 a2 a3 a.1 a.2) (i1, m2)
def s_X2_bindToLeastPart (m : Mem) (a1 : Int32) (a2 : Int32) (a3 : Int32) : Option (Int32 × Mem) :=
  l_X2_bindToLeastPart_3 a1 a2 a3 FU 0 m
set_option maxRecDepth 100000 in
set_option maxHeartbeats 4000000 in
theorem w_X2_bindToLeastPart_3 {K : ZK} (C : zOK MX K cX2_bindToLeastPart 5 (some .int) RX2 wsX2_bindToLeastPart rmX2_bindToLeastPart) {a1 : Int32} {a2 : Int32} {a3 : Int32}  {r9 : Int32} {m9 : Mem} (hret : zRi MX K cX2_bindToLeastPart m9 r9) : ∀ (n : Nat) (i1 : Int32) (m2 : Mem), l_X2_bindToLeastPart_3 a1 a2 a3 n i1 m2 = some (r9, m9) → zGo MX K m2 [(0, .ref ((zw K).2.1 39)), (1, .int a1), (2, .int a2), (3, .int a3), (4, .int i1)] 3 [] := by
  intro n
  induction n with
  | zero =>
    intro i1 m2 hf
    cases hf
  | succ n ih =>
    intro i1 m2 hf
    obtain ⟨z, hf, hz⟩ := zlp_el hf
    replace hf : t_X2_bindToLeastPart_3 a1 a2 a3 i1 m2 = some z := hf
    unfold t_X2_bindToLeastPart_3 at hf
    refine z_iload C 4 dX2_bindToLeastPart_3 rfl ?_
    refine z_aload_n C 0 dX2_bindToLeastPart_5 rfl rfl ?_
    obtain ⟨b3, hb3, e_b3, hf⟩ := zbk_el hf
    refine z_getb C (b := b3) (Nat.le_of_ble_eq_true rfl) rfl rfl 1 (Nat.le_of_ble_eq_true rfl) rfl kiX2_bindToLeastPart_X2 kfX2_bindToLeastPart_28 (isb_lt hb3) e_b3 dX2_bindToLeastPart_6 ?_
    refine z_getr C (t := b3 + 2) (isb_k0 hb3) (isb_L0 hb3) rfl 4 (Nat.le_of_ble_eq_true rfl) rfl kiX2_bindToLeastPart_X0 kfX2_bindToLeastPart_148 dX2_bindToLeastPart_9 ?_
    refine z_iload_n C 2 dX2_bindToLeastPart_12 rfl rfl ?_
    obtain ⟨hi4, hf⟩ := ck_el hf
    refine z_iald C (k := (b3 + 2)) (isb_k2 hb3) (isb_L2 hb3) hi4 dX2_bindToLeastPart_13 ?_
    refine z_icmp_ge (tgt := 49) C dX2_bindToLeastPart_14 (by decide) (fun c12 => ?_) (fun c12 => ?_)
    · replace hf := if_t c12 hf
      refine z_bipush C (v := (-4)) dX2_bindToLeastPart_49 (by decide) ?_
      cases hf
      replace hz := zlz_r hz
      cases hz
      exact hret _ _ dX2_bindToLeastPart_51
    · replace hf := if_f c12 hf
      refine z_aload_n C 0 dX2_bindToLeastPart_17 rfl rfl ?_
      refine z_getr C (t := 42) (Nat.le_of_ble_eq_true rfl) rfl rfl 6 (Nat.le_of_ble_eq_true rfl) rfl kiX2_bindToLeastPart_X2 kfX2_bindToLeastPart_18 dX2_bindToLeastPart_18 ?_
      refine z_iload_n C 3 dX2_bindToLeastPart_21 rfl rfl ?_
      refine z_iconst C (v := 1) dX2_bindToLeastPart_22 rfl ?_
      refine z_iload C 4 dX2_bindToLeastPart_23 rfl ?_
      refine z_ishl C dX2_bindToLeastPart_25 ?_
      obtain ⟨hi5, hf⟩ := ck_el hf
      refine z_iast C (k := 42) (Nat.le_of_ble_eq_true rfl) rfl hi5 dX2_bindToLeastPart_26 ?_
      refine z_nm (fun m6 e_m6 => ?_)
      replace hf := bn_to e_m6 hf
      refine z_aload_n C 0 dX2_bindToLeastPart_27 rfl rfl ?_
      refine z_iload_n C 1 dX2_bindToLeastPart_28 rfl rfl ?_
      refine z_iload_n C 2 dX2_bindToLeastPart_29 rfl rfl ?_
      refine z_aload_n C 0 dX2_bindToLeastPart_30 rfl rfl ?_
      refine z_getr C (t := 40) (Nat.le_of_ble_eq_true rfl) rfl rfl 2 (Nat.le_of_ble_eq_true rfl) rfl kiX2_bindToLeastPart_X2 kfX2_bindToLeastPart_9 dX2_bindToLeastPart_31 ?_
      obtain ⟨r8, m9, hc7, hf⟩ := zb2_el hf
      refine z_cVi C (c_X2_suits _ _ (Or.inl rfl) hc7) rfl gX2_bindToLeastPart_X2_suits rfl rfl zdX2_suits rfl (Nat.le_of_ble_eq_true rfl) rfl rfl rfl ⟨Nat.le_of_ble_eq_true rfl, Nat.le_of_ble_eq_true rfl⟩ (Nat.le_of_ble_eq_true rfl) dX2_bindToLeastPart_34 rfl ?_
      refine z_if_eq (tgt := 43) C dX2_bindToLeastPart_37 (by decide) (fun c11 => ?_) (fun c11 => ?_)
      · replace hf := if_t c11 hf
        obtain ⟨x10, e_x10⟩ : ∃ y : Int32, y = i1 + 1 := ⟨_, rfl⟩
        replace hf := bn_to e_x10 hf
        refine z_iinc C (lv2 := [(0, .ref ((zw K).2.1 39)), (1, .int a1), (2, .int a2), (3, .int a3), (4, .int x10)]) 4 [1, 2, 3, 4, 0] dX2_bindToLeastPart_43 rfl rfl (Nat.le_of_ble_eq_true rfl) e_x10 rfl ?_
        refine z_goto (tgt := 3) C dX2_bindToLeastPart_46 (by decide) ?_
        cases hf
        exact z_sub [0, 1, 2, 3, 4] rfl (ih x10 m9 hz)
      · replace hf := if_f c11 hf
        refine z_iload C 4 dX2_bindToLeastPart_40 rfl ?_
        cases hf
        replace hz := zlz_r hz
        cases hz
        exact hret _ _ dX2_bindToLeastPart_42
set_option maxRecDepth 100000 in
set_option maxHeartbeats 4000000 in
theorem c_X2_bindToLeastPart (l : Launch) (w : ZW) {m : Mem} {a1 : Int32} {a2 : Int32} {a3 : Int32} {r9 : Int32} {m9 : Mem}  (hf : s_X2_bindToLeastPart m a1 a2 a3 = some (r9, m9)) : zCi MX l w yX2_bindToLeastPart wsX2_bindToLeastPart rmX2_bindToLeastPart [.ref (w.2.1 39), .int a1, .int a2, .int a3] m m9 r9 := by
  refine z_met_i MX_ok (own := RX2) (by decide +kernel) rfl rfl (Nat.le_of_ble_eq_true rfl) ?_
  intro K C hKw hKl hret
  subst hKw
  subst hKl
  unfold s_X2_bindToLeastPart at hf
  show zGo MX K m [(0, .ref ((zw K).2.1 39)), (1, .int a1), (2, .int a2), (3, .int a3)] 0 []
  refine z_iconst C (v := 0) dX2_bindToLeastPart_0 rfl ?_
  refine z_istore C (lv2 := [(0, .ref ((zw K).2.1 39)), (1, .int a1), (2, .int a2), (3, .int a3), (4, .int 0)]) [1, 2, 3, 4, 0] dX2_bindToLeastPart_1 (Nat.le_of_ble_eq_true rfl) rfl ?_
  exact z_sub [0, 1, 2, 3, 4] rfl (w_X2_bindToLeastPart_3 C  hret _ _ _ hf)
set_option maxRecDepth 20000 in
theorem ggX2_dropUnfit_X2_suits : GoodIn wsX2_dropUnfit wsX2_suits := goodIn_sub (List.forall_mem_cons.mpr ⟨(List.mem_of_getElem? (i := 11) rfl), (List.forall_mem_append.mpr ⟨(List.forall_mem_append.mpr ⟨(List.forall_mem_append.mpr ⟨(List.forall_mem_append.mpr ⟨(show ∀ w ∈ wsX2_suits_r1, w ∈ wsX2_dropUnfit from (List.forall_mem_cons.mpr ⟨(List.mem_of_getElem? (i := 1) rfl), (List.forall_mem_cons.mpr ⟨(List.mem_of_getElem? (i := 12) rfl), (List.forall_mem_cons.mpr ⟨(List.mem_of_getElem? (i := 13) rfl), (List.forall_mem_cons.mpr ⟨(List.mem_of_getElem? (i := 14) rfl), (List.forall_mem_cons.mpr ⟨(List.mem_of_getElem? (i := 15) rfl), (List.forall_mem_cons.mpr ⟨(List.mem_of_getElem? (i := 10) rfl), (List.forall_mem_cons.mpr ⟨(List.mem_of_getElem? (i := 16) rfl), (List.forall_mem_cons.mpr ⟨(List.mem_of_getElem? (i := 3) rfl), (List.forall_mem_cons.mpr ⟨(List.mem_of_getElem? (i := 17) rfl), (List.forall_mem_cons.mpr ⟨(List.mem_of_getElem? (i := 18) rfl), (List.forall_mem_cons.mpr ⟨(List.mem_of_getElem? (i := 19) rfl), (List.forall_mem_cons.mpr ⟨(List.mem_of_getElem? (i := 20) rfl), (List.forall_mem_cons.mpr ⟨(List.mem_of_getElem? (i := 21) rfl), (List.forall_mem_cons.mpr ⟨(List.mem_of_getElem? (i := 22) rfl), (List.forall_mem_cons.mpr ⟨(List.mem_of_getElem? (i := 23) rfl), (List.forall_mem_cons.mpr ⟨(List.mem_of_getElem? (i := 24) rfl), (List.forall_mem_cons.mpr ⟨(List.mem_of_getElem? (i := 25) rfl), (List.forall_mem_cons.mpr ⟨(List.mem_of_getElem? (i := 26) rfl), (List.forall_mem_cons.mpr ⟨(List.mem_of_getElem? (i := 27) rfl), (List.forall_mem_cons.mpr ⟨(List.mem_of_getElem? (i := 28) rfl), (List.forall_mem_cons.mpr ⟨(List.mem_of_getElem? (i := 29) rfl), (List.forall_mem_cons.mpr ⟨(List.mem_of_getElem? (i := 30) rfl), (List.forall_mem_cons.mpr ⟨(List.mem_of_getElem? (i := 31) rfl), (List.forall_mem_cons.mpr ⟨(List.mem_of_getElem? (i := 32) rfl), (fun _ h => absurd h List.not_mem_nil)⟩)⟩)⟩)⟩)⟩)⟩)⟩)⟩)⟩)⟩)⟩)⟩)⟩)⟩)⟩)⟩)⟩)⟩)⟩)⟩)⟩)⟩)⟩)⟩)), (List.forall_mem_append.mpr ⟨(show ∀ w ∈ wsX2_suits_r2, w ∈ wsX2_dropUnfit from (List.forall_mem_cons.mpr ⟨(List.mem_of_getElem? (i := 33) rfl), (List.forall_mem_cons.mpr ⟨(List.mem_of_getElem? (i := 34) rfl), (List.forall_mem_cons.mpr ⟨(List.mem_of_getElem? (i := 35) rfl), (List.forall_mem_cons.mpr ⟨(List.mem_of_getElem? (i := 36) rfl), (List.forall_mem_cons.mpr ⟨(List.mem_of_getElem? (i := 37) rfl), (List.forall_mem_cons.mpr ⟨(List.mem_of_getElem? (i := 38) rfl), (List.forall_mem_cons.mpr ⟨(List.mem_of_getElem? (i := 39) rfl), (List.forall_mem_cons.mpr ⟨(List.mem_of_getElem? (i := 40) rfl), (List.forall_mem_cons.mpr ⟨(List.mem_of_getElem? (i := 41) rfl), (List.forall_mem_cons.mpr ⟨(List.mem_of_getElem? (i := 42) rfl), (List.forall_mem_cons.mpr ⟨(List.mem_of_getElem? (i := 43) rfl), (List.forall_mem_cons.mpr ⟨(List.mem_of_getElem? (i := 44) rfl), (List.forall_mem_cons.mpr ⟨(List.mem_of_getElem? (i := 45) rfl), (List.forall_mem_cons.mpr ⟨(List.mem_of_getElem? (i := 6) rfl), (List.forall_mem_cons.mpr ⟨(List.mem_of_getElem? (i := 46) rfl), (List.forall_mem_cons.mpr ⟨(List.mem_of_getElem? (i := 47) rfl), (List.forall_mem_cons.mpr ⟨(List.mem_of_getElem? (i := 48) rfl), (List.forall_mem_cons.mpr ⟨(List.mem_of_getElem? (i := 49) rfl), (List.forall_mem_cons.mpr ⟨(List.mem_of_getElem? (i := 50) rfl), (List.forall_mem_cons.mpr ⟨(List.mem_of_getElem? (i := 51) rfl), (List.forall_mem_cons.mpr ⟨(List.mem_of_getElem? (i := 52) rfl), (List.forall_mem_cons.mpr ⟨(List.mem_of_getElem? (i := 53) rfl), (List.forall_mem_cons.mpr ⟨(List.mem_of_getElem? (i := 54) rfl), (List.forall_mem_cons.mpr ⟨(List.mem_of_getElem? (i := 55) rfl), (fun _ h => absurd h List.not_mem_nil)⟩)⟩)⟩)⟩)⟩)⟩)⟩)⟩)⟩)⟩)⟩)⟩)⟩)⟩)⟩)⟩)⟩)⟩)⟩)⟩)⟩)⟩)⟩)⟩)), (show ∀ w ∈ wsX2_suits_r3, w ∈ wsX2_dropUnfit from (List.forall_mem_cons.mpr ⟨(List.mem_of_getElem? (i := 56) rfl), (fun _ h => absurd h List.not_mem_nil)⟩))⟩)⟩), (fun _ h => (List.mem_cons_of_mem _ (List.mem_append_left _ (List.mem_append_left _ (List.mem_append_right _ h)))))⟩), (fun _ h => (List.mem_cons_of_mem _ (List.mem_append_left _ (List.mem_append_right _ h))))⟩), (fun _ h => (List.mem_cons_of_mem _ (List.mem_append_right _ h)))⟩)⟩) (by decide +kernel)
set_option maxRecDepth 20000 in
theorem gX2_dropUnfit_X2_suits : GoodIn wsX2_dropUnfit (wsV RX2 63 RX2 yX2_suits wsX2_suits) := goodIn_app (goodIn_sub (List.forall_mem_cons.mpr ⟨(List.mem_of_getElem? (i := 7) rfl), (List.forall_mem_cons.mpr ⟨(List.mem_of_getElem? (i := 8) rfl), (List.forall_mem_cons.mpr ⟨(List.mem_of_getElem? (i := 9) rfl), (List.forall_mem_cons.mpr ⟨(List.mem_of_getElem? (i := 10) rfl), (fun _ h => absurd h List.not_mem_nil)⟩)⟩)⟩)⟩) (by decide +kernel)) ggX2_dropUnfit_X2_suits
set_option maxRecDepth 100000 in
theorem daX2_dropUnfit : ∀ q ∈ ([(0, .iconst 0, 1), (1, .istore_n 2, 1), (2, .iconst 0, 1), (3, .istore_n 3, 1), (4, .iload_n 3, 1), (5, .aload_n 0, 1), (6, .getfield 28, 3), (9, .getfield 57, 3), (12, .if_icmp .ge 88, 3), (15, .iconst 0, 1), (16, .istore 4, 2), (18, .iload 4, 2), (20, .aload_n 0, 1), (21, .getfield 24, 3), (24, .getfield 48, 3), (27, .if_icmp .ge 67, 3), (30, .aload_n 0, 1), (31, .getfield 28, 3), (34, .getfield 60, 3), (37, .iload_n 3, 1), (38, .iaload, 1), (39, .iload_n 1, 1), (40, .if_icmp .ne 54, 3), (43, .aload_n 0, 1), (44, .getfield 9, 3), (47, .iload_n 3, 1), (48, .iaload, 1), (49, .iload 4, 2), (51, .ishr, 1), (52, .iconst 1, 1), (53, .iand, 1), (54, .ifCond .eq 34, 3), (57, .aload_n 0, 1), (58, .iload 4, 2), (60, .iload_n 3, 1), (61, .aload_n 0, 1), (62, .getfield 9, 3), (65, .invokevirtual 63, 3), (68, .ifCond .ne 20, 3), (71, .aload_n 0, 1), (72, .getfield 9, 3), (75, .iload_n 3, 1), (76, .dup2, 1), (77, .iaload, 1), (78, .iconst 1, 1), (79, .iload 4, 2), (81, .ishl, 1), (82, .iconst (-1), 1), (83, .ixor, 1), (84, .iand, 1), (85, .iastore, 1), (86, .iconst 1, 1), (87, .istore_n 2, 1), (88, .iinc 4 1, 3), (91, .goto (-73), 3), (94, .iinc 3 1, 3), (97, .goto (-93), 3), (100, .iload_n 2, 1), (101, .ireturn, 1)] : List (Nat × Instr × Nat)), decode cX2_dropUnfit q.1 = .ok q.2 := by decide +kernel
theorem dX2_dropUnfit_0 : decode cX2_dropUnfit 0 = .ok (.iconst 0, 1) := daX2_dropUnfit (0, .iconst 0, 1) (List.mem_of_getElem? (i := 0) rfl)
theorem dX2_dropUnfit_1 : decode cX2_dropUnfit 1 = .ok (.istore_n 2, 1) := daX2_dropUnfit (1, .istore_n 2, 1) (List.mem_of_getElem? (i := 1) rfl)
theorem dX2_dropUnfit_2 : decode cX2_dropUnfit 2 = .ok (.iconst 0, 1) := daX2_dropUnfit (2, .iconst 0, 1) (List.mem_of_getElem? (i := 2) rfl)
theorem dX2_dropUnfit_3 : decode cX2_dropUnfit 3 = .ok (.istore_n 3, 1) := daX2_dropUnfit (3, .istore_n 3, 1) (List.mem_of_getElem? (i := 3) rfl)
theorem dX2_dropUnfit_4 : decode cX2_dropUnfit 4 = .ok (.iload_n 3, 1) := daX2_dropUnfit (4, .iload_n 3, 1) (List.mem_of_getElem? (i := 4) rfl)
theorem dX2_dropUnfit_5 : decode cX2_dropUnfit 5 = .ok (.aload_n 0, 1) := daX2_dropUnfit (5, .aload_n 0, 1) (List.mem_of_getElem? (i := 5) rfl)
theorem dX2_dropUnfit_6 : decode cX2_dropUnfit 6 = .ok (.getfield 28, 3) := daX2_dropUnfit (6, .getfield 28, 3) (List.mem_of_getElem? (i := 6) rfl)
theorem dX2_dropUnfit_9 : decode cX2_dropUnfit 9 = .ok (.getfield 57, 3) := daX2_dropUnfit (9, .getfield 57, 3) (List.mem_of_getElem? (i := 7) rfl)
theorem dX2_dropUnfit_12 : decode cX2_dropUnfit 12 = .ok (.if_icmp .ge 88, 3) := daX2_dropUnfit (12, .if_icmp .ge 88, 3) (List.mem_of_getElem? (i := 8) rfl)
theorem dX2_dropUnfit_15 : decode cX2_dropUnfit 15 = .ok (.iconst 0, 1) := daX2_dropUnfit (15, .iconst 0, 1) (List.mem_of_getElem? (i := 9) rfl)
theorem dX2_dropUnfit_16 : decode cX2_dropUnfit 16 = .ok (.istore 4, 2) := daX2_dropUnfit (16, .istore 4, 2) (List.mem_of_getElem? (i := 10) rfl)
theorem dX2_dropUnfit_18 : decode cX2_dropUnfit 18 = .ok (.iload 4, 2) := daX2_dropUnfit (18, .iload 4, 2) (List.mem_of_getElem? (i := 11) rfl)
theorem dX2_dropUnfit_20 : decode cX2_dropUnfit 20 = .ok (.aload_n 0, 1) := daX2_dropUnfit (20, .aload_n 0, 1) (List.mem_of_getElem? (i := 12) rfl)
theorem dX2_dropUnfit_21 : decode cX2_dropUnfit 21 = .ok (.getfield 24, 3) := daX2_dropUnfit (21, .getfield 24, 3) (List.mem_of_getElem? (i := 13) rfl)
theorem dX2_dropUnfit_24 : decode cX2_dropUnfit 24 = .ok (.getfield 48, 3) := daX2_dropUnfit (24, .getfield 48, 3) (List.mem_of_getElem? (i := 14) rfl)
theorem dX2_dropUnfit_27 : decode cX2_dropUnfit 27 = .ok (.if_icmp .ge 67, 3) := daX2_dropUnfit (27, .if_icmp .ge 67, 3) (List.mem_of_getElem? (i := 15) rfl)
theorem dX2_dropUnfit_30 : decode cX2_dropUnfit 30 = .ok (.aload_n 0, 1) := daX2_dropUnfit (30, .aload_n 0, 1) (List.mem_of_getElem? (i := 16) rfl)
theorem dX2_dropUnfit_31 : decode cX2_dropUnfit 31 = .ok (.getfield 28, 3) := daX2_dropUnfit (31, .getfield 28, 3) (List.mem_of_getElem? (i := 17) rfl)
theorem dX2_dropUnfit_34 : decode cX2_dropUnfit 34 = .ok (.getfield 60, 3) := daX2_dropUnfit (34, .getfield 60, 3) (List.mem_of_getElem? (i := 18) rfl)
theorem dX2_dropUnfit_37 : decode cX2_dropUnfit 37 = .ok (.iload_n 3, 1) := daX2_dropUnfit (37, .iload_n 3, 1) (List.mem_of_getElem? (i := 19) rfl)
theorem dX2_dropUnfit_38 : decode cX2_dropUnfit 38 = .ok (.iaload, 1) := daX2_dropUnfit (38, .iaload, 1) (List.mem_of_getElem? (i := 20) rfl)
theorem dX2_dropUnfit_39 : decode cX2_dropUnfit 39 = .ok (.iload_n 1, 1) := daX2_dropUnfit (39, .iload_n 1, 1) (List.mem_of_getElem? (i := 21) rfl)
theorem dX2_dropUnfit_40 : decode cX2_dropUnfit 40 = .ok (.if_icmp .ne 54, 3) := daX2_dropUnfit (40, .if_icmp .ne 54, 3) (List.mem_of_getElem? (i := 22) rfl)
theorem dX2_dropUnfit_43 : decode cX2_dropUnfit 43 = .ok (.aload_n 0, 1) := daX2_dropUnfit (43, .aload_n 0, 1) (List.mem_of_getElem? (i := 23) rfl)
theorem dX2_dropUnfit_44 : decode cX2_dropUnfit 44 = .ok (.getfield 9, 3) := daX2_dropUnfit (44, .getfield 9, 3) (List.mem_of_getElem? (i := 24) rfl)
theorem dX2_dropUnfit_47 : decode cX2_dropUnfit 47 = .ok (.iload_n 3, 1) := daX2_dropUnfit (47, .iload_n 3, 1) (List.mem_of_getElem? (i := 25) rfl)
theorem dX2_dropUnfit_48 : decode cX2_dropUnfit 48 = .ok (.iaload, 1) := daX2_dropUnfit (48, .iaload, 1) (List.mem_of_getElem? (i := 26) rfl)
theorem dX2_dropUnfit_49 : decode cX2_dropUnfit 49 = .ok (.iload 4, 2) := daX2_dropUnfit (49, .iload 4, 2) (List.mem_of_getElem? (i := 27) rfl)
theorem dX2_dropUnfit_51 : decode cX2_dropUnfit 51 = .ok (.ishr, 1) := daX2_dropUnfit (51, .ishr, 1) (List.mem_of_getElem? (i := 28) rfl)
theorem dX2_dropUnfit_52 : decode cX2_dropUnfit 52 = .ok (.iconst 1, 1) := daX2_dropUnfit (52, .iconst 1, 1) (List.mem_of_getElem? (i := 29) rfl)
theorem dX2_dropUnfit_53 : decode cX2_dropUnfit 53 = .ok (.iand, 1) := daX2_dropUnfit (53, .iand, 1) (List.mem_of_getElem? (i := 30) rfl)
theorem dX2_dropUnfit_54 : decode cX2_dropUnfit 54 = .ok (.ifCond .eq 34, 3) := daX2_dropUnfit (54, .ifCond .eq 34, 3) (List.mem_of_getElem? (i := 31) rfl)
theorem dX2_dropUnfit_57 : decode cX2_dropUnfit 57 = .ok (.aload_n 0, 1) := daX2_dropUnfit (57, .aload_n 0, 1) (List.mem_of_getElem? (i := 32) rfl)
theorem dX2_dropUnfit_58 : decode cX2_dropUnfit 58 = .ok (.iload 4, 2) := daX2_dropUnfit (58, .iload 4, 2) (List.mem_of_getElem? (i := 33) rfl)
theorem dX2_dropUnfit_60 : decode cX2_dropUnfit 60 = .ok (.iload_n 3, 1) := daX2_dropUnfit (60, .iload_n 3, 1) (List.mem_of_getElem? (i := 34) rfl)
theorem dX2_dropUnfit_61 : decode cX2_dropUnfit 61 = .ok (.aload_n 0, 1) := daX2_dropUnfit (61, .aload_n 0, 1) (List.mem_of_getElem? (i := 35) rfl)
theorem dX2_dropUnfit_62 : decode cX2_dropUnfit 62 = .ok (.getfield 9, 3) := daX2_dropUnfit (62, .getfield 9, 3) (List.mem_of_getElem? (i := 36) rfl)
theorem dX2_dropUnfit_65 : decode cX2_dropUnfit 65 = .ok (.invokevirtual 63, 3) := daX2_dropUnfit (65, .invokevirtual 63, 3) (List.mem_of_getElem? (i := 37) rfl)
theorem dX2_dropUnfit_68 : decode cX2_dropUnfit 68 = .ok (.ifCond .ne 20, 3) := daX2_dropUnfit (68, .ifCond .ne 20, 3) (List.mem_of_getElem? (i := 38) rfl)
theorem dX2_dropUnfit_71 : decode cX2_dropUnfit 71 = .ok (.aload_n 0, 1) := daX2_dropUnfit (71, .aload_n 0, 1) (List.mem_of_getElem? (i := 39) rfl)
theorem dX2_dropUnfit_72 : decode cX2_dropUnfit 72 = .ok (.getfield 9, 3) := daX2_dropUnfit (72, .getfield 9, 3) (List.mem_of_getElem? (i := 40) rfl)
theorem dX2_dropUnfit_75 : decode cX2_dropUnfit 75 = .ok (.iload_n 3, 1) := daX2_dropUnfit (75, .iload_n 3, 1) (List.mem_of_getElem? (i := 41) rfl)
theorem dX2_dropUnfit_76 : decode cX2_dropUnfit 76 = .ok (.dup2, 1) := daX2_dropUnfit (76, .dup2, 1) (List.mem_of_getElem? (i := 42) rfl)
theorem dX2_dropUnfit_77 : decode cX2_dropUnfit 77 = .ok (.iaload, 1) := daX2_dropUnfit (77, .iaload, 1) (List.mem_of_getElem? (i := 43) rfl)
theorem dX2_dropUnfit_78 : decode cX2_dropUnfit 78 = .ok (.iconst 1, 1) := daX2_dropUnfit (78, .iconst 1, 1) (List.mem_of_getElem? (i := 44) rfl)
theorem dX2_dropUnfit_79 : decode cX2_dropUnfit 79 = .ok (.iload 4, 2) := daX2_dropUnfit (79, .iload 4, 2) (List.mem_of_getElem? (i := 45) rfl)
theorem dX2_dropUnfit_81 : decode cX2_dropUnfit 81 = .ok (.ishl, 1) := daX2_dropUnfit (81, .ishl, 1) (List.mem_of_getElem? (i := 46) rfl)
theorem dX2_dropUnfit_82 : decode cX2_dropUnfit 82 = .ok (.iconst (-1), 1) := daX2_dropUnfit (82, .iconst (-1), 1) (List.mem_of_getElem? (i := 47) rfl)
theorem dX2_dropUnfit_83 : decode cX2_dropUnfit 83 = .ok (.ixor, 1) := daX2_dropUnfit (83, .ixor, 1) (List.mem_of_getElem? (i := 48) rfl)
theorem dX2_dropUnfit_84 : decode cX2_dropUnfit 84 = .ok (.iand, 1) := daX2_dropUnfit (84, .iand, 1) (List.mem_of_getElem? (i := 49) rfl)
theorem dX2_dropUnfit_85 : decode cX2_dropUnfit 85 = .ok (.iastore, 1) := daX2_dropUnfit (85, .iastore, 1) (List.mem_of_getElem? (i := 50) rfl)
theorem dX2_dropUnfit_86 : decode cX2_dropUnfit 86 = .ok (.iconst 1, 1) := daX2_dropUnfit (86, .iconst 1, 1) (List.mem_of_getElem? (i := 51) rfl)
theorem dX2_dropUnfit_87 : decode cX2_dropUnfit 87 = .ok (.istore_n 2, 1) := daX2_dropUnfit (87, .istore_n 2, 1) (List.mem_of_getElem? (i := 52) rfl)
theorem dX2_dropUnfit_88 : decode cX2_dropUnfit 88 = .ok (.iinc 4 1, 3) := daX2_dropUnfit (88, .iinc 4 1, 3) (List.mem_of_getElem? (i := 53) rfl)
theorem dX2_dropUnfit_91 : decode cX2_dropUnfit 91 = .ok (.goto (-73), 3) := daX2_dropUnfit (91, .goto (-73), 3) (List.mem_of_getElem? (i := 54) rfl)
theorem dX2_dropUnfit_94 : decode cX2_dropUnfit 94 = .ok (.iinc 3 1, 3) := daX2_dropUnfit (94, .iinc 3 1, 3) (List.mem_of_getElem? (i := 55) rfl)
theorem dX2_dropUnfit_97 : decode cX2_dropUnfit 97 = .ok (.goto (-93), 3) := daX2_dropUnfit (97, .goto (-93), 3) (List.mem_of_getElem? (i := 56) rfl)
theorem dX2_dropUnfit_100 : decode cX2_dropUnfit 100 = .ok (.iload_n 2, 1) := daX2_dropUnfit (100, .iload_n 2, 1) (List.mem_of_getElem? (i := 57) rfl)
theorem dX2_dropUnfit_101 : decode cX2_dropUnfit 101 = .ok (.ireturn, 1) := daX2_dropUnfit (101, .ireturn, 1) (List.mem_of_getElem? (i := 58) rfl)
def rmX2_dropUnfit : Room := { frames := 4, cells := 0, slots := 0, locals := 103 }
theorem zdX2_dropUnfit : yX2_dropUnfit.cls = RX2 ∧ yX2_dropUnfit.cls ≠ "java/lang/invoke/MethodHandle" ∧ yX2_dropUnfit.cls ≠ "java/lang/invoke/VarHandle" ∧ (parseMethodDescriptor yX2_dropUnfit.desc).map (fun d => d.parameters.length) = some 1 := by decide +kernel
theorem kiX2_dropUnfit_X2 : ∀ w ∈ wsX20, w ∈ wsX2_dropUnfit := fun _ h => (List.mem_cons_of_mem _ (List.mem_append_left _ (List.mem_append_left _ (List.mem_append_right _ h))))
theorem kfX2_dropUnfit_28 : Cond.fieldLink RX2 28 "ShapeJudge$Judge" "book" "LShapeJudge$Book;" ∈ wsX2_dropUnfit := (List.mem_of_getElem? (i := 1) rfl)
theorem kiX2_dropUnfit_X0 : ∀ w ∈ wsX00, w ∈ wsX2_dropUnfit := fun _ h => (List.mem_cons_of_mem _ (List.mem_append_left _ (List.mem_append_right _ h)))
theorem kfX2_dropUnfit_57 : Cond.fieldLink RX2 57 "ShapeJudge$Book" "shapeCount" "I" ∈ wsX2_dropUnfit := (List.mem_of_getElem? (i := 2) rfl)
theorem kfX2_dropUnfit_24 : Cond.fieldLink RX2 24 "ShapeJudge$Judge" "graph" "LShapeJudge$Graph;" ∈ wsX2_dropUnfit := (List.mem_of_getElem? (i := 3) rfl)
theorem kiX2_dropUnfit_X1 : ∀ w ∈ wsX10, w ∈ wsX2_dropUnfit := fun _ h => (List.mem_cons_of_mem _ (List.mem_append_right _ h))
theorem kfX2_dropUnfit_48 : Cond.fieldLink RX2 48 "ShapeJudge$Graph" "nodes" "I" ∈ wsX2_dropUnfit := (List.mem_of_getElem? (i := 4) rfl)
theorem kfX2_dropUnfit_60 : Cond.fieldLink RX2 60 "ShapeJudge$Book" "level" "[I" ∈ wsX2_dropUnfit := (List.mem_of_getElem? (i := 5) rfl)
theorem kfX2_dropUnfit_9 : Cond.fieldLink RX2 9 "ShapeJudge$Judge" "fitting" "[I" ∈ wsX2_dropUnfit := (List.mem_of_getElem? (i := 6) rfl)
def t_X2_dropUnfit_18 (a1 : Int32) (i2 : Int32) (i5 : Int32) (i6 : Int32) (m7 : Mem) : Option ((Int32 × Int32 × Mem) ⊕ (Int32 × Mem)) :=
  (if (m7 1 0) ≤ i6 then (some (.inr (i5, m7))) else (zbk (m7 39 1) fun b8 => ck (zin i2 6 = true) ((if (m7 (b8 + 6) (Int32.toNatClampNeg i2)) = a1 then (ck (zin i2 6 = true) ((if (((m7 40 (Int32.toNatClampNeg i2)) >>> (i6 &&& 31)) &&& 1) = 0 then (bn (i6 + 1) fun x11 => some (.inl (i5, x11, m7))) else (zb2 (s_X2_suits m7 i6 i2 40) fun r13 m14 => (if r13 = 0 then (ck (zin i2 6 = true) (ck (zin i2 6 = true) (bn (sto m14 40 (Int32.toNatClampNeg i2) ((m14 40 (Int32.toNatClampNeg i2)) &&& (((1 : Int32) <<< (i6 &&& 31)) ^^^ (-1)))) fun m18 => bn (i6 + 1) fun x19 => some (.inl (1, x19, m18))))) else (bn (i6 + 1) fun x15 => some (.inl (i5, x15, m14)))))))) else (some (.inr (i5, m7)))))))
def l_X2_dropUnfit_18 (a1 : Int32) (i2 : Int32) (n : Nat) (i5 : Int32) (i6 : Int32) (m7 : Mem) : Option (Int32 × Mem) := zlp n (fun a => t_X2_dropUnfit_18 a1 i2 a.1 a.2.1 a.2.2) (i5, i6, m7)
def t_X2_dropUnfit_4 (a1 : Int32) (i1 : Int32) (i2 : Int32) (m3 : Mem) : Option ((Int32 × Int32 × Mem) ⊕ (Int32 × Mem)) :=
  zbk (m3 39 1) fun b4 => (if (m3 b4 0) ≤ i2 then (some (.inr (i1, m3))) else ((zb2 (l_X2_dropUnfit_18 a1 i2 FU i1 0 m3) fun y24 m25 => bn (i2 + 1) fun x26 => some (.inl (y24, x26, m25)))))
def l_X2_dropUnfit_4 (a1 : Int32) (n : Nat) (i1 : Int32) (i2 : Int32) (m3 : Mem) : Option (Int32 × Mem) := zlp n (fun a => t_X2_dropUnfit_4 a1 a.1 a.2.1 a.2.2) (i1, i2, m3)
def s_X2_dropUnfit (m : Mem) (a1 : Int32) : Option (Int32 × Mem) :=
  (zb2 (l_X2_dropUnfit_4 a1 FU 0 0 m) fun y28 m29 => ck (y28 = 0 ∨ y28 = 1) (some (y28, m29)))
set_option maxRecDepth 100000 in
set_option maxHeartbeats 4000000 in
theorem w_X2_dropUnfit_18 {K : ZK} (C : zOK MX K cX2_dropUnfit 5 (some .boolean) RX2 wsX2_dropUnfit rmX2_dropUnfit) {a1 : Int32} {i2 : Int32}  {o0 : Int32} {o1 : Mem} (hk : zGo MX K o1 [(0, .ref ((zw K).2.1 39)), (1, .int a1), (2, .int o0), (3, .int i2)] 94 []) : ∀ (n : Nat) (i5 : Int32) (i6 : Int32) (m7 : Mem), l_X2_dropUnfit_18 a1 i2 n i5 i6 m7 = some (o0, o1) → zGo MX K m7 [(0, .ref ((zw K).2.1 39)), (1, .int a1), (2, .int i5), (3, .int i2), (4, .int i6)] 18 [] := by
  intro n
  induction n with
  | zero =>
    intro i5 i6 m7 hf
    cases hf
  | succ n ih =>
    intro i5 i6 m7 hf
    obtain ⟨z, hf, hz⟩ := zlp_el hf
    replace hf : t_X2_dropUnfit_18 a1 i2 i5 i6 m7 = some z := hf
    unfold t_X2_dropUnfit_18 at hf
    refine z_iload C 4 dX2_dropUnfit_18 rfl ?_
    refine z_aload_n C 0 dX2_dropUnfit_20 rfl rfl ?_
    refine z_getr C (t := 1) (Nat.le_of_ble_eq_true rfl) rfl rfl 0 (Nat.le_of_ble_eq_true rfl) rfl kiX2_dropUnfit_X2 kfX2_dropUnfit_24 dX2_dropUnfit_21 ?_
    refine z_geti C (Nat.le_of_ble_eq_true rfl) rfl rfl 0 (Nat.le_of_ble_eq_true rfl) rfl kiX2_dropUnfit_X1 kfX2_dropUnfit_48 dX2_dropUnfit_24 ?_
    refine z_icmp_ge (tgt := 94) C dX2_dropUnfit_27 (by decide) (fun c23 => ?_) (fun c23 => ?_)
    · replace hf := if_t c23 hf
      cases hf
      replace hz := zlz_r hz
      cases hz
      exact z_sub [0, 1, 2, 3] rfl hk
    · replace hf := if_f c23 hf
      refine z_aload_n C 0 dX2_dropUnfit_30 rfl rfl ?_
      obtain ⟨b8, hb8, e_b8, hf⟩ := zbk_el hf
      refine z_getb C (b := b8) (Nat.le_of_ble_eq_true rfl) rfl rfl 1 (Nat.le_of_ble_eq_true rfl) rfl kiX2_dropUnfit_X2 kfX2_dropUnfit_28 (isb_lt hb8) e_b8 dX2_dropUnfit_31 ?_
      refine z_getr C (t := b8 + 6) (isb_k0 hb8) (isb_L0 hb8) rfl 8 (Nat.le_of_ble_eq_true rfl) rfl kiX2_dropUnfit_X0 kfX2_dropUnfit_60 dX2_dropUnfit_34 ?_
      refine z_iload_n C 3 dX2_dropUnfit_37 rfl rfl ?_
      obtain ⟨hi9, hf⟩ := ck_el hf
      refine z_iald C (k := (b8 + 6)) (isb_k6 hb8) (isb_L6 hb8) hi9 dX2_dropUnfit_38 ?_
      refine z_iload_n C 1 dX2_dropUnfit_39 rfl rfl ?_
      refine z_icmp_ne (tgt := 94) C dX2_dropUnfit_40 (by decide) (fun c22 => ?_) (fun c22 => ?_)
      · replace hf := if_f c22 hf
        cases hf
        replace hz := zlz_r hz
        cases hz
        exact z_sub [0, 1, 2, 3] rfl hk
      · replace hf := if_t c22 hf
        refine z_aload_n C 0 dX2_dropUnfit_43 rfl rfl ?_
        refine z_getr C (t := 40) (Nat.le_of_ble_eq_true rfl) rfl rfl 2 (Nat.le_of_ble_eq_true rfl) rfl kiX2_dropUnfit_X2 kfX2_dropUnfit_9 dX2_dropUnfit_44 ?_
        refine z_iload_n C 3 dX2_dropUnfit_47 rfl rfl ?_
        obtain ⟨hi10, hf⟩ := ck_el hf
        refine z_iald C (k := 40) (Nat.le_of_ble_eq_true rfl) rfl hi10 dX2_dropUnfit_48 ?_
        refine z_iload C 4 dX2_dropUnfit_49 rfl ?_
        refine z_ishr C dX2_dropUnfit_51 ?_
        refine z_iconst C (v := 1) dX2_dropUnfit_52 rfl ?_
        refine z_iand C dX2_dropUnfit_53 ?_
        refine z_if_eq (tgt := 88) C dX2_dropUnfit_54 (by decide) (fun c21 => ?_) (fun c21 => ?_)
        · replace hf := if_t c21 hf
          obtain ⟨x11, e_x11⟩ : ∃ y : Int32, y = i6 + 1 := ⟨_, rfl⟩
          replace hf := bn_to e_x11 hf
          refine z_iinc C (lv2 := [(0, .ref ((zw K).2.1 39)), (1, .int a1), (2, .int i5), (3, .int i2), (4, .int x11)]) 4 [1, 2, 3, 4, 0] dX2_dropUnfit_88 rfl rfl (Nat.le_of_ble_eq_true rfl) e_x11 rfl ?_
          refine z_goto (tgt := 18) C dX2_dropUnfit_91 (by decide) ?_
          cases hf
          exact z_sub [0, 1, 2, 3, 4] rfl (ih i5 x11 m7 hz)
        · replace hf := if_f c21 hf
          refine z_aload_n C 0 dX2_dropUnfit_57 rfl rfl ?_
          refine z_iload C 4 dX2_dropUnfit_58 rfl ?_
          refine z_iload_n C 3 dX2_dropUnfit_60 rfl rfl ?_
          refine z_aload_n C 0 dX2_dropUnfit_61 rfl rfl ?_
          refine z_getr C (t := 40) (Nat.le_of_ble_eq_true rfl) rfl rfl 2 (Nat.le_of_ble_eq_true rfl) rfl kiX2_dropUnfit_X2 kfX2_dropUnfit_9 dX2_dropUnfit_62 ?_
          obtain ⟨r13, m14, hc12, hf⟩ := zb2_el hf
          refine z_cVi C (c_X2_suits _ _ (Or.inl rfl) hc12) rfl gX2_dropUnfit_X2_suits rfl rfl zdX2_suits rfl (Nat.le_of_ble_eq_true rfl) rfl rfl rfl ⟨Nat.le_of_ble_eq_true rfl, Nat.le_of_ble_eq_true rfl⟩ (Nat.le_of_ble_eq_true rfl) dX2_dropUnfit_65 rfl ?_
          refine z_if_ne (tgt := 88) C dX2_dropUnfit_68 (by decide) (fun c20 => ?_) (fun c20 => ?_)
          · replace hf := if_f c20 hf
            obtain ⟨x15, e_x15⟩ : ∃ y : Int32, y = i6 + 1 := ⟨_, rfl⟩
            replace hf := bn_to e_x15 hf
            refine z_iinc C (lv2 := [(0, .ref ((zw K).2.1 39)), (1, .int a1), (2, .int i5), (3, .int i2), (4, .int x15)]) 4 [1, 2, 3, 4, 0] dX2_dropUnfit_88 rfl rfl (Nat.le_of_ble_eq_true rfl) e_x15 rfl ?_
            refine z_goto (tgt := 18) C dX2_dropUnfit_91 (by decide) ?_
            cases hf
            exact z_sub [0, 1, 2, 3, 4] rfl (ih i5 x15 m14 hz)
          · replace hf := if_t c20 hf
            refine z_aload_n C 0 dX2_dropUnfit_71 rfl rfl ?_
            refine z_getr C (t := 40) (Nat.le_of_ble_eq_true rfl) rfl rfl 2 (Nat.le_of_ble_eq_true rfl) rfl kiX2_dropUnfit_X2 kfX2_dropUnfit_9 dX2_dropUnfit_72 ?_
            refine z_iload_n C 3 dX2_dropUnfit_75 rfl rfl ?_
            refine z_dup2 C dX2_dropUnfit_76 ?_
            obtain ⟨hi16, hf⟩ := ck_el hf
            refine z_iald C (k := 40) (Nat.le_of_ble_eq_true rfl) rfl hi16 dX2_dropUnfit_77 ?_
            refine z_iconst C (v := 1) dX2_dropUnfit_78 rfl ?_
            refine z_iload C 4 dX2_dropUnfit_79 rfl ?_
            refine z_ishl C dX2_dropUnfit_81 ?_
            refine z_iconst C (v := (-1)) dX2_dropUnfit_82 (by decide) ?_
            refine z_ixor C dX2_dropUnfit_83 ?_
            refine z_iand C dX2_dropUnfit_84 ?_
            obtain ⟨hi17, hf⟩ := ck_el hf
            refine z_iast C (k := 40) (Nat.le_of_ble_eq_true rfl) rfl hi17 dX2_dropUnfit_85 ?_
            refine z_nm (fun m18 e_m18 => ?_)
            replace hf := bn_to e_m18 hf
            refine z_iconst C (v := 1) dX2_dropUnfit_86 rfl ?_
            refine z_istore_n C (lv2 := [(0, .ref ((zw K).2.1 39)), (1, .int a1), (2, .int 1), (3, .int i2), (4, .int i6)]) [1, 2, 0, 3, 4] dX2_dropUnfit_87 rfl (Nat.le_of_ble_eq_true rfl) rfl ?_
            obtain ⟨x19, e_x19⟩ : ∃ y : Int32, y = i6 + 1 := ⟨_, rfl⟩
            replace hf := bn_to e_x19 hf
            refine z_iinc C (lv2 := [(0, .ref ((zw K).2.1 39)), (1, .int a1), (2, .int 1), (3, .int i2), (4, .int x19)]) 4 [1, 2, 3, 4, 0] dX2_dropUnfit_88 rfl rfl (Nat.le_of_ble_eq_true rfl) e_x19 rfl ?_
            refine z_goto (tgt := 18) C dX2_dropUnfit_91 (by decide) ?_
            cases hf
            exact z_sub [0, 1, 2, 3, 4] rfl (ih 1 x19 m18 hz)
set_option maxRecDepth 100000 in
set_option maxHeartbeats 4000000 in
theorem w_X2_dropUnfit_4 {K : ZK} (C : zOK MX K cX2_dropUnfit 5 (some .boolean) RX2 wsX2_dropUnfit rmX2_dropUnfit) {a1 : Int32}  {o0 : Int32} {o1 : Mem} (hk : zGo MX K o1 [(2, .int o0)] 100 []) : ∀ (n : Nat) (i1 : Int32) (i2 : Int32) (m3 : Mem), l_X2_dropUnfit_4 a1 n i1 i2 m3 = some (o0, o1) → zGo MX K m3 [(0, .ref ((zw K).2.1 39)), (1, .int a1), (2, .int i1), (3, .int i2)] 4 [] := by
  intro n
  induction n with
  | zero =>
    intro i1 i2 m3 hf
    cases hf
  | succ n ih =>
    intro i1 i2 m3 hf
    obtain ⟨z, hf, hz⟩ := zlp_el hf
    replace hf : t_X2_dropUnfit_4 a1 i1 i2 m3 = some z := hf
    unfold t_X2_dropUnfit_4 at hf
    refine z_iload_n C 3 dX2_dropUnfit_4 rfl rfl ?_
    refine z_aload_n C 0 dX2_dropUnfit_5 rfl rfl ?_
    obtain ⟨b4, hb4, e_b4, hf⟩ := zbk_el hf
    refine z_getb C (b := b4) (Nat.le_of_ble_eq_true rfl) rfl rfl 1 (Nat.le_of_ble_eq_true rfl) rfl kiX2_dropUnfit_X2 kfX2_dropUnfit_28 (isb_lt hb4) e_b4 dX2_dropUnfit_6 ?_
    refine z_geti C (isb_k0 hb4) (isb_L0 hb4) rfl 0 (Nat.le_of_ble_eq_true rfl) rfl kiX2_dropUnfit_X0 kfX2_dropUnfit_57 dX2_dropUnfit_9 ?_
    refine z_icmp_ge (tgt := 100) C dX2_dropUnfit_12 (by decide) (fun c27 => ?_) (fun c27 => ?_)
    · replace hf := if_t c27 hf
      cases hf
      replace hz := zlz_r hz
      cases hz
      exact z_sub [2] rfl hk
    · replace hf := if_f c27 hf
      refine z_iconst C (v := 0) dX2_dropUnfit_15 rfl ?_
      refine z_istore C (lv2 := [(0, .ref ((zw K).2.1 39)), (1, .int a1), (2, .int i1), (3, .int i2), (4, .int 0)]) [1, 2, 3, 4, 0] dX2_dropUnfit_16 (Nat.le_of_ble_eq_true rfl) rfl ?_
      obtain ⟨y24, m25, hg, hf⟩ := zb2_el hf
      refine z_sub [0, 1, 2, 3, 4] rfl (w_X2_dropUnfit_18 C  ?_ _ _ _ _ hg)
      clear hg
      obtain ⟨x26, e_x26⟩ : ∃ y : Int32, y = i2 + 1 := ⟨_, rfl⟩
      replace hf := bn_to e_x26 hf
      refine z_iinc C (lv2 := [(0, .ref ((zw K).2.1 39)), (1, .int a1), (2, .int y24), (3, .int x26)]) 3 [1, 2, 3, 0] dX2_dropUnfit_94 rfl rfl (Nat.le_of_ble_eq_true rfl) e_x26 rfl ?_
      refine z_goto (tgt := 4) C dX2_dropUnfit_97 (by decide) ?_
      cases hf
      exact z_sub [0, 1, 2, 3] rfl (ih y24 x26 m25 hz)
set_option maxRecDepth 100000 in
set_option maxHeartbeats 4000000 in
theorem c_X2_dropUnfit (l : Launch) (w : ZW) {m : Mem} {a1 : Int32} {r9 : Int32} {m9 : Mem}  (hf : s_X2_dropUnfit m a1 = some (r9, m9)) : zCi MX l w yX2_dropUnfit wsX2_dropUnfit rmX2_dropUnfit [.ref (w.2.1 39), .int a1] m m9 r9 := by
  refine z_met_z MX_ok (own := RX2) (by decide +kernel) rfl rfl (Nat.le_of_ble_eq_true rfl) ?_
  intro K C hKw hKl hret
  subst hKw
  subst hKl
  unfold s_X2_dropUnfit at hf
  show zGo MX K m [(0, .ref ((zw K).2.1 39)), (1, .int a1)] 0 []
  refine z_iconst C (v := 0) dX2_dropUnfit_0 rfl ?_
  refine z_istore_n C (lv2 := [(0, .ref ((zw K).2.1 39)), (1, .int a1), (2, .int 0)]) [1, 2, 0] dX2_dropUnfit_1 rfl (Nat.le_of_ble_eq_true rfl) rfl ?_
  refine z_iconst C (v := 0) dX2_dropUnfit_2 rfl ?_
  refine z_istore_n C (lv2 := [(0, .ref ((zw K).2.1 39)), (1, .int a1), (2, .int 0), (3, .int 0)]) [1, 2, 3, 0] dX2_dropUnfit_3 rfl (Nat.le_of_ble_eq_true rfl) rfl ?_
  obtain ⟨y28, m29, hg, hf⟩ := zb2_el hf
  refine z_sub [0, 1, 2, 3] rfl (w_X2_dropUnfit_4 C  ?_ _ _ _ _ hg)
  clear hg
  refine z_iload_n C 0 dX2_dropUnfit_100 rfl rfl ?_
  obtain ⟨hz, hf⟩ := ck_el hf
  cases hf
  exact hret _ _ dX2_dropUnfit_101 hz
theorem dX2_forget_0 : decode cX2_forget 0 = .ok (.aload_n 0, 1) := by decide +kernel
theorem dX2_forget_1 : decode cX2_forget 1 = .ok (.iconst 0, 1) := by decide +kernel
theorem dX2_forget_2 : decode cX2_forget 2 = .ok (.putfield 35, 3) := by decide +kernel
theorem dX2_forget_5 : decode cX2_forget 5 = .ok (.aload_n 0, 1) := by decide +kernel
theorem dX2_forget_6 : decode cX2_forget 6 = .ok (.iconst 0, 1) := by decide +kernel
theorem dX2_forget_7 : decode cX2_forget 7 = .ok (.putfield 39, 3) := by decide +kernel
theorem dX2_forget_10 : decode cX2_forget 10 = .ok (.return_, 1) := by decide +kernel
def rmX2_forget : Room := { frames := 0, cells := 0, slots := 0, locals := 0 }
theorem zdX2_forget : yX2_forget.cls = RX2 ∧ yX2_forget.cls ≠ "java/lang/invoke/MethodHandle" ∧ yX2_forget.cls ≠ "java/lang/invoke/VarHandle" ∧ (parseMethodDescriptor yX2_forget.desc).map (fun d => d.parameters.length) = some 0 := by decide +kernel
theorem kiX2_forget_X2 : ∀ w ∈ wsX20, w ∈ wsX2_forget := fun _ h => (List.mem_cons_of_mem _ (List.mem_append_right _ h))
theorem kfX2_forget_35 : Cond.fieldLink RX2 35 "ShapeJudge$Judge" "fittingIsRead" "Z" ∈ wsX2_forget := (List.mem_of_getElem? (i := 1) rfl)
theorem kfX2_forget_39 : Cond.fieldLink RX2 39 "ShapeJudge$Judge" "sureIsRead" "Z" ∈ wsX2_forget := (List.mem_of_getElem? (i := 2) rfl)
def s_X2_forget (m : Mem)  : Option (Mem) :=
  bn (sto m 39 4 0) fun m1 => bn (sto m1 39 5 0) fun m2 => some m2
set_option maxRecDepth 100000 in
set_option maxHeartbeats 4000000 in
theorem c_X2_forget (l : Launch) (w : ZW) {m : Mem}  {m9 : Mem}  (hf : s_X2_forget m  = some m9) : zCv MX l w yX2_forget wsX2_forget rmX2_forget [.ref (w.2.1 39)] m m9 := by
  refine z_met_v MX_ok (own := RX2) (by decide +kernel) rfl rfl (Nat.le_of_ble_eq_true rfl) ?_
  intro K C hKw hKl hret
  subst hKw
  subst hKl
  unfold s_X2_forget at hf
  show zGo MX K m [(0, .ref ((zw K).2.1 39))] 0 []
  refine z_aload_n C 0 dX2_forget_0 rfl rfl ?_
  refine z_iconst C (v := 0) dX2_forget_1 rfl ?_
  refine z_putz C (Nat.le_of_ble_eq_true rfl) rfl rfl 4 (Nat.le_of_ble_eq_true rfl) rfl kiX2_forget_X2 kfX2_forget_35 tyX2 tyX2_ok nmX2 rfl rfl (Or.inl rfl) dX2_forget_2 ?_
  refine z_nm (fun m1 e_m1 => ?_)
  replace hf := bn_to e_m1 hf
  refine z_aload_n C 0 dX2_forget_5 rfl rfl ?_
  refine z_iconst C (v := 0) dX2_forget_6 rfl ?_
  refine z_putz C (Nat.le_of_ble_eq_true rfl) rfl rfl 5 (Nat.le_of_ble_eq_true rfl) rfl kiX2_forget_X2 kfX2_forget_39 tyX2 tyX2_ok nmX2 rfl rfl (Or.inl rfl) dX2_forget_7 ?_
  refine z_nm (fun m2 e_m2 => ?_)
  replace hf := bn_to e_m2 hf
  cases hf
  exact hret _ _ dX2_forget_10
set_option maxRecDepth 20000 in
theorem ggX2_follow_X2_forget : GoodIn wsX2_follow wsX2_forget := goodIn_sub (List.forall_mem_cons.mpr ⟨(List.mem_of_getElem? (i := 6) rfl), (List.forall_mem_append.mpr ⟨(List.forall_mem_cons.mpr ⟨(List.mem_of_getElem? (i := 7) rfl), (List.forall_mem_cons.mpr ⟨(List.mem_of_getElem? (i := 8) rfl), (fun _ h => absurd h List.not_mem_nil)⟩)⟩), (fun _ h => (List.mem_cons_of_mem _ (List.mem_append_right _ h)))⟩)⟩) (by decide +kernel)
set_option maxRecDepth 20000 in
theorem gX2_follow_X2_forget : GoodIn wsX2_follow (wsV RX2 32 RX2 yX2_forget wsX2_forget) := goodIn_app (goodIn_sub (List.forall_mem_cons.mpr ⟨(List.mem_of_getElem? (i := 2) rfl), (List.forall_mem_cons.mpr ⟨(List.mem_of_getElem? (i := 3) rfl), (List.forall_mem_cons.mpr ⟨(List.mem_of_getElem? (i := 4) rfl), (List.forall_mem_cons.mpr ⟨(List.mem_of_getElem? (i := 5) rfl), (fun _ h => absurd h List.not_mem_nil)⟩)⟩)⟩)⟩) (by decide +kernel)) ggX2_follow_X2_forget
theorem dX2_follow_0 : decode cX2_follow 0 = .ok (.aload_n 0, 1) := by decide +kernel
theorem dX2_follow_1 : decode cX2_follow 1 = .ok (.aload_n 1, 1) := by decide +kernel
theorem dX2_follow_2 : decode cX2_follow 2 = .ok (.putfield 28, 3) := by decide +kernel
theorem dX2_follow_5 : decode cX2_follow 5 = .ok (.aload_n 0, 1) := by decide +kernel
theorem dX2_follow_6 : decode cX2_follow 6 = .ok (.invokevirtual 32, 3) := by decide +kernel
theorem dX2_follow_9 : decode cX2_follow 9 = .ok (.return_, 1) := by decide +kernel
def rmX2_follow : Room := { frames := 1, cells := 0, slots := 0, locals := 20 }
theorem zdX2_follow : yX2_follow.cls = RX2 ∧ yX2_follow.cls ≠ "java/lang/invoke/MethodHandle" ∧ yX2_follow.cls ≠ "java/lang/invoke/VarHandle" ∧ (parseMethodDescriptor yX2_follow.desc).map (fun d => d.parameters.length) = some 1 := by decide +kernel
theorem kiX2_follow_X2 : ∀ w ∈ wsX20, w ∈ wsX2_follow := fun _ h => (List.mem_cons_of_mem _ (List.mem_append_right _ h))
theorem kfX2_follow_28 : Cond.fieldLink RX2 28 "ShapeJudge$Judge" "book" "LShapeJudge$Book;" ∈ wsX2_follow := (List.mem_of_getElem? (i := 1) rfl)
def s_X2_follow (m : Mem) (bb1 : Nat) : Option (Mem) :=
  bn (sto m 39 1 (nI bb1)) fun m1 => (s_X2_forget m1).bind fun m3 => some m3
set_option maxRecDepth 100000 in
set_option maxHeartbeats 4000000 in
theorem c_X2_follow (l : Launch) (w : ZW) {m : Mem} {bb1 : Nat} {m9 : Mem} (hbb1 : isb bb1) (hf : s_X2_follow m bb1 = some m9) : zCv MX l w yX2_follow wsX2_follow rmX2_follow [.ref (w.2.1 39), .ref (w.2.1 bb1)] m m9 := by
  refine z_met_v MX_ok (own := RX2) (by decide +kernel) rfl rfl (Nat.le_of_ble_eq_true rfl) ?_
  intro K C hKw hKl hret
  subst hKw
  subst hKl
  unfold s_X2_follow at hf
  show zGo MX K m [(0, .ref ((zw K).2.1 39)), (1, .ref ((zw K).2.1 bb1))] 0 []
  refine z_aload_n C 0 dX2_follow_0 rfl rfl ?_
  refine z_aload_n C 1 dX2_follow_1 rfl rfl ?_
  refine z_putb C (b := bb1) (Nat.le_of_ble_eq_true rfl) rfl rfl 1 (Nat.le_of_ble_eq_true rfl) rfl kiX2_follow_X2 kfX2_follow_28 tyX2 tyX2_ok nmX2 rfl (Cr := "ShapeJudge$Book") rfl (isb_lt hbb1) dX2_follow_2 ?_
  refine z_nm (fun m1 e_m1 => ?_)
  replace hf := bn_to e_m1 hf
  refine z_aload_n C 0 dX2_follow_5 rfl rfl ?_
  obtain ⟨m3, hc2, hf⟩ := zb_el hf
  refine z_cVv C (c_X2_forget _ _ hc2) rfl gX2_follow_X2_forget rfl rfl zdX2_forget rfl (Nat.le_of_ble_eq_true rfl) rfl rfl rfl ⟨Nat.le_of_ble_eq_true rfl, Nat.le_of_ble_eq_true rfl⟩ (Nat.le_of_ble_eq_true rfl) dX2_follow_6 rfl ?_
  cases hf
  exact hret _ _ dX2_follow_9
set_option maxRecDepth 20000 in
theorem ggX2_leastPartOf_X2_wantedEdges : GoodIn wsX2_leastPartOf wsX2_wantedEdges := goodIn_sub (List.forall_mem_cons.mpr ⟨(List.mem_of_getElem? (i := 6) rfl), (List.forall_mem_append.mpr ⟨(List.forall_mem_append.mpr ⟨(List.forall_mem_append.mpr ⟨(List.forall_mem_cons.mpr ⟨(List.mem_of_getElem? (i := 7) rfl), (List.forall_mem_cons.mpr ⟨(List.mem_of_getElem? (i := 8) rfl), (List.forall_mem_cons.mpr ⟨(List.mem_of_getElem? (i := 9) rfl), (List.forall_mem_cons.mpr ⟨(List.mem_of_getElem? (i := 10) rfl), (List.forall_mem_cons.mpr ⟨(List.mem_of_getElem? (i := 11) rfl), (List.forall_mem_cons.mpr ⟨(List.mem_of_getElem? (i := 12) rfl), (List.forall_mem_cons.mpr ⟨(List.mem_of_getElem? (i := 13) rfl), (List.forall_mem_cons.mpr ⟨(List.mem_of_getElem? (i := 14) rfl), (List.forall_mem_cons.mpr ⟨(List.mem_of_getElem? (i := 5) rfl), (List.forall_mem_cons.mpr ⟨(List.mem_of_getElem? (i := 15) rfl), (List.forall_mem_cons.mpr ⟨(List.mem_of_getElem? (i := 16) rfl), (List.forall_mem_cons.mpr ⟨(List.mem_of_getElem? (i := 17) rfl), (fun _ h => absurd h List.not_mem_nil)⟩)⟩)⟩)⟩)⟩)⟩)⟩)⟩)⟩)⟩)⟩)⟩), (fun _ h => (List.mem_cons_of_mem _ (List.mem_append_left _ (List.mem_append_left _ (List.mem_append_right _ h)))))⟩), (fun _ h => (List.mem_cons_of_mem _ (List.mem_append_left _ (List.mem_append_right _ h))))⟩), (fun _ h => (List.mem_cons_of_mem _ (List.mem_append_right _ h)))⟩)⟩) (by decide +kernel)
set_option maxRecDepth 20000 in
theorem gX2_leastPartOf_X2_wantedEdges : GoodIn wsX2_leastPartOf (wsV RX2 90 RX2 yX2_wantedEdges wsX2_wantedEdges) := goodIn_app (goodIn_sub (List.forall_mem_cons.mpr ⟨(List.mem_of_getElem? (i := 2) rfl), (List.forall_mem_cons.mpr ⟨(List.mem_of_getElem? (i := 3) rfl), (List.forall_mem_cons.mpr ⟨(List.mem_of_getElem? (i := 4) rfl), (List.forall_mem_cons.mpr ⟨(List.mem_of_getElem? (i := 5) rfl), (fun _ h => absurd h List.not_mem_nil)⟩)⟩)⟩)⟩) (by decide +kernel)) ggX2_leastPartOf_X2_wantedEdges
set_option maxRecDepth 20000 in
theorem ggX2_leastPartOf_X2_bindToLeastPart : GoodIn wsX2_leastPartOf wsX2_bindToLeastPart := goodIn_sub (List.forall_mem_cons.mpr ⟨(List.mem_of_getElem? (i := 21) rfl), (List.forall_mem_append.mpr ⟨(List.forall_mem_append.mpr ⟨(List.forall_mem_append.mpr ⟨(List.forall_mem_append.mpr ⟨(show ∀ w ∈ wsX2_bindToLeastPart_r1, w ∈ wsX2_leastPartOf from (List.forall_mem_cons.mpr ⟨(List.mem_of_getElem? (i := 9) rfl), (List.forall_mem_cons.mpr ⟨(List.mem_of_getElem? (i := 22) rfl), (List.forall_mem_cons.mpr ⟨(List.mem_of_getElem? (i := 1) rfl), (List.forall_mem_cons.mpr ⟨(List.mem_of_getElem? (i := 23) rfl), (List.forall_mem_cons.mpr ⟨(List.mem_of_getElem? (i := 24) rfl), (List.forall_mem_cons.mpr ⟨(List.mem_of_getElem? (i := 25) rfl), (List.forall_mem_cons.mpr ⟨(List.mem_of_getElem? (i := 26) rfl), (List.forall_mem_cons.mpr ⟨(List.mem_of_getElem? (i := 5) rfl), (List.forall_mem_cons.mpr ⟨(List.mem_of_getElem? (i := 27) rfl), (List.forall_mem_cons.mpr ⟨(List.mem_of_getElem? (i := 28) rfl), (List.forall_mem_cons.mpr ⟨(List.mem_of_getElem? (i := 2) rfl), (List.forall_mem_cons.mpr ⟨(List.mem_of_getElem? (i := 3) rfl), (List.forall_mem_cons.mpr ⟨(List.mem_of_getElem? (i := 4) rfl), (List.forall_mem_cons.mpr ⟨(List.mem_of_getElem? (i := 6) rfl), (List.forall_mem_cons.mpr ⟨(List.mem_of_getElem? (i := 7) rfl), (List.forall_mem_cons.mpr ⟨(List.mem_of_getElem? (i := 8) rfl), (List.forall_mem_cons.mpr ⟨(List.mem_of_getElem? (i := 10) rfl), (List.forall_mem_cons.mpr ⟨(List.mem_of_getElem? (i := 11) rfl), (List.forall_mem_cons.mpr ⟨(List.mem_of_getElem? (i := 12) rfl), (List.forall_mem_cons.mpr ⟨(List.mem_of_getElem? (i := 13) rfl), (List.forall_mem_cons.mpr ⟨(List.mem_of_getElem? (i := 14) rfl), (List.forall_mem_cons.mpr ⟨(List.mem_of_getElem? (i := 15) rfl), (List.forall_mem_cons.mpr ⟨(List.mem_of_getElem? (i := 16) rfl), (List.forall_mem_cons.mpr ⟨(List.mem_of_getElem? (i := 17) rfl), (fun _ h => absurd h List.not_mem_nil)⟩)⟩)⟩)⟩)⟩)⟩)⟩)⟩)⟩)⟩)⟩)⟩)⟩)⟩)⟩)⟩)⟩)⟩)⟩)⟩)⟩)⟩)⟩)⟩)), (List.forall_mem_append.mpr ⟨(show ∀ w ∈ wsX2_bindToLeastPart_r2, w ∈ wsX2_leastPartOf from (List.forall_mem_cons.mpr ⟨(List.mem_of_getElem? (i := 29) rfl), (List.forall_mem_cons.mpr ⟨(List.mem_of_getElem? (i := 30) rfl), (List.forall_mem_cons.mpr ⟨(List.mem_of_getElem? (i := 31) rfl), (List.forall_mem_cons.mpr ⟨(List.mem_of_getElem? (i := 32) rfl), (List.forall_mem_cons.mpr ⟨(List.mem_of_getElem? (i := 33) rfl), (List.forall_mem_cons.mpr ⟨(List.mem_of_getElem? (i := 34) rfl), (List.forall_mem_cons.mpr ⟨(List.mem_of_getElem? (i := 35) rfl), (List.forall_mem_cons.mpr ⟨(List.mem_of_getElem? (i := 36) rfl), (List.forall_mem_cons.mpr ⟨(List.mem_of_getElem? (i := 37) rfl), (List.forall_mem_cons.mpr ⟨(List.mem_of_getElem? (i := 38) rfl), (List.forall_mem_cons.mpr ⟨(List.mem_of_getElem? (i := 39) rfl), (List.forall_mem_cons.mpr ⟨(List.mem_of_getElem? (i := 40) rfl), (List.forall_mem_cons.mpr ⟨(List.mem_of_getElem? (i := 41) rfl), (List.forall_mem_cons.mpr ⟨(List.mem_of_getElem? (i := 42) rfl), (List.forall_mem_cons.mpr ⟨(List.mem_of_getElem? (i := 43) rfl), (List.forall_mem_cons.mpr ⟨(List.mem_of_getElem? (i := 44) rfl), (List.forall_mem_cons.mpr ⟨(List.mem_of_getElem? (i := 45) rfl), (List.forall_mem_cons.mpr ⟨(List.mem_of_getElem? (i := 46) rfl), (List.forall_mem_cons.mpr ⟨(List.mem_of_getElem? (i := 47) rfl), (List.forall_mem_cons.mpr ⟨(List.mem_of_getElem? (i := 48) rfl), (List.forall_mem_cons.mpr ⟨(List.mem_of_getElem? (i := 49) rfl), (List.forall_mem_cons.mpr ⟨(List.mem_of_getElem? (i := 50) rfl), (List.forall_mem_cons.mpr ⟨(List.mem_of_getElem? (i := 51) rfl), (List.forall_mem_cons.mpr ⟨(List.mem_of_getElem? (i := 52) rfl), (fun _ h => absurd h List.not_mem_nil)⟩)⟩)⟩)⟩)⟩)⟩)⟩)⟩)⟩)⟩)⟩)⟩)⟩)⟩)⟩)⟩)⟩)⟩)⟩)⟩)⟩)⟩)⟩)⟩)), (show ∀ w ∈ wsX2_bindToLeastPart_r3, w ∈ wsX2_leastPartOf from (List.forall_mem_cons.mpr ⟨(List.mem_of_getElem? (i := 53) rfl), (List.forall_mem_cons.mpr ⟨(List.mem_of_getElem? (i := 54) rfl), (List.forall_mem_cons.mpr ⟨(List.mem_of_getElem? (i := 55) rfl), (List.forall_mem_cons.mpr ⟨(List.mem_of_getElem? (i := 56) rfl), (List.forall_mem_cons.mpr ⟨(List.mem_of_getElem? (i := 57) rfl), (List.forall_mem_cons.mpr ⟨(List.mem_of_getElem? (i := 58) rfl), (fun _ h => absurd h List.not_mem_nil)⟩)⟩)⟩)⟩)⟩)⟩))⟩)⟩), (fun _ h => (List.mem_cons_of_mem _ (List.mem_append_left _ (List.mem_append_left _ (List.mem_append_right _ h)))))⟩), (fun _ h => (List.mem_cons_of_mem _ (List.mem_append_right _ h)))⟩), (fun _ h => (List.mem_cons_of_mem _ (List.mem_append_left _ (List.mem_append_right _ h))))⟩)⟩) (by decide +kernel)
set_option maxRecDepth 20000 in
theorem gX2_leastPartOf_X2_bindToLeastPart : GoodIn wsX2_leastPartOf (wsV RX2 144 RX2 yX2_bindToLeastPart wsX2_bindToLeastPart) := goodIn_app (goodIn_sub (List.forall_mem_cons.mpr ⟨(List.mem_of_getElem? (i := 18) rfl), (List.forall_mem_cons.mpr ⟨(List.mem_of_getElem? (i := 19) rfl), (List.forall_mem_cons.mpr ⟨(List.mem_of_getElem? (i := 20) rfl), (List.forall_mem_cons.mpr ⟨(List.mem_of_getElem? (i := 5) rfl), (fun _ h => absurd h List.not_mem_nil)⟩)⟩)⟩)⟩) (by decide +kernel)) ggX2_leastPartOf_X2_bindToLeastPart
set_option maxRecDepth 100000 in
theorem daX2_leastPartOf : ∀ q ∈ ([(0, .aload_n 0, 1), (1, .iload_n 1, 1), (2, .iload_n 2, 1), (3, .invokevirtual 90, 3), (6, .istore 4, 2), (8, .bipush (-4), 2), (10, .istore 5, 2), (12, .iconst 0, 1), (13, .istore 6, 2), (15, .iload 6, 2), (17, .iload_n 3, 1), (18, .if_icmp .gt 35, 3), (21, .iload 6, 2), (23, .iconst 5, 1), (24, .if_icmp .ge 29, 3), (27, .iload 4, 2), (29, .iload 6, 2), (31, .ishr, 1), (32, .iconst 1, 1), (33, .iand, 1), (34, .ifCond .eq 13, 3), (37, .aload_n 0, 1), (38, .iload_n 1, 1), (39, .iload_n 2, 1), (40, .iload 6, 2), (42, .invokevirtual 144, 3), (45, .istore 5, 2), (47, .iinc 6 1, 3), (50, .goto (-35), 3), (53, .iconst 0, 1), (54, .istore 6, 2), (56, .iload 6, 2), (58, .iconst 5, 1), (59, .if_icmp .ge 18, 3), (62, .aload_n 0, 1), (63, .getfield 18, 3), (66, .iload 6, 2), (68, .bipush 63, 2), (70, .iastore, 1), (71, .iinc 6 1, 3), (74, .goto (-18), 3), (77, .iload 5, 2), (79, .ireturn, 1)] : List (Nat × Instr × Nat)), decode cX2_leastPartOf q.1 = .ok q.2 := by decide +kernel
theorem dX2_leastPartOf_0 : decode cX2_leastPartOf 0 = .ok (.aload_n 0, 1) := daX2_leastPartOf (0, .aload_n 0, 1) (List.mem_of_getElem? (i := 0) rfl)
theorem dX2_leastPartOf_1 : decode cX2_leastPartOf 1 = .ok (.iload_n 1, 1) := daX2_leastPartOf (1, .iload_n 1, 1) (List.mem_of_getElem? (i := 1) rfl)
theorem dX2_leastPartOf_2 : decode cX2_leastPartOf 2 = .ok (.iload_n 2, 1) := daX2_leastPartOf (2, .iload_n 2, 1) (List.mem_of_getElem? (i := 2) rfl)
theorem dX2_leastPartOf_3 : decode cX2_leastPartOf 3 = .ok (.invokevirtual 90, 3) := daX2_leastPartOf (3, .invokevirtual 90, 3) (List.mem_of_getElem? (i := 3) rfl)
theorem dX2_leastPartOf_6 : decode cX2_leastPartOf 6 = .ok (.istore 4, 2) := daX2_leastPartOf (6, .istore 4, 2) (List.mem_of_getElem? (i := 4) rfl)
theorem dX2_leastPartOf_8 : decode cX2_leastPartOf 8 = .ok (.bipush (-4), 2) := daX2_leastPartOf (8, .bipush (-4), 2) (List.mem_of_getElem? (i := 5) rfl)
theorem dX2_leastPartOf_10 : decode cX2_leastPartOf 10 = .ok (.istore 5, 2) := daX2_leastPartOf (10, .istore 5, 2) (List.mem_of_getElem? (i := 6) rfl)
theorem dX2_leastPartOf_12 : decode cX2_leastPartOf 12 = .ok (.iconst 0, 1) := daX2_leastPartOf (12, .iconst 0, 1) (List.mem_of_getElem? (i := 7) rfl)
theorem dX2_leastPartOf_13 : decode cX2_leastPartOf 13 = .ok (.istore 6, 2) := daX2_leastPartOf (13, .istore 6, 2) (List.mem_of_getElem? (i := 8) rfl)
theorem dX2_leastPartOf_15 : decode cX2_leastPartOf 15 = .ok (.iload 6, 2) := daX2_leastPartOf (15, .iload 6, 2) (List.mem_of_getElem? (i := 9) rfl)
theorem dX2_leastPartOf_17 : decode cX2_leastPartOf 17 = .ok (.iload_n 3, 1) := daX2_leastPartOf (17, .iload_n 3, 1) (List.mem_of_getElem? (i := 10) rfl)
theorem dX2_leastPartOf_18 : decode cX2_leastPartOf 18 = .ok (.if_icmp .gt 35, 3) := daX2_leastPartOf (18, .if_icmp .gt 35, 3) (List.mem_of_getElem? (i := 11) rfl)
theorem dX2_leastPartOf_21 : decode cX2_leastPartOf 21 = .ok (.iload 6, 2) := daX2_leastPartOf (21, .iload 6, 2) (List.mem_of_getElem? (i := 12) rfl)
theorem dX2_leastPartOf_23 : decode cX2_leastPartOf 23 = .ok (.iconst 5, 1) := daX2_leastPartOf (23, .iconst 5, 1) (List.mem_of_getElem? (i := 13) rfl)
theorem dX2_leastPartOf_24 : decode cX2_leastPartOf 24 = .ok (.if_icmp .ge 29, 3) := daX2_leastPartOf (24, .if_icmp .ge 29, 3) (List.mem_of_getElem? (i := 14) rfl)
theorem dX2_leastPartOf_27 : decode cX2_leastPartOf 27 = .ok (.iload 4, 2) := daX2_leastPartOf (27, .iload 4, 2) (List.mem_of_getElem? (i := 15) rfl)
theorem dX2_leastPartOf_29 : decode cX2_leastPartOf 29 = .ok (.iload 6, 2) := daX2_leastPartOf (29, .iload 6, 2) (List.mem_of_getElem? (i := 16) rfl)
theorem dX2_leastPartOf_31 : decode cX2_leastPartOf 31 = .ok (.ishr, 1) := daX2_leastPartOf (31, .ishr, 1) (List.mem_of_getElem? (i := 17) rfl)
theorem dX2_leastPartOf_32 : decode cX2_leastPartOf 32 = .ok (.iconst 1, 1) := daX2_leastPartOf (32, .iconst 1, 1) (List.mem_of_getElem? (i := 18) rfl)
theorem dX2_leastPartOf_33 : decode cX2_leastPartOf 33 = .ok (.iand, 1) := daX2_leastPartOf (33, .iand, 1) (List.mem_of_getElem? (i := 19) rfl)
theorem dX2_leastPartOf_34 : decode cX2_leastPartOf 34 = .ok (.ifCond .eq 13, 3) := daX2_leastPartOf (34, .ifCond .eq 13, 3) (List.mem_of_getElem? (i := 20) rfl)
theorem dX2_leastPartOf_37 : decode cX2_leastPartOf 37 = .ok (.aload_n 0, 1) := daX2_leastPartOf (37, .aload_n 0, 1) (List.mem_of_getElem? (i := 21) rfl)
theorem dX2_leastPartOf_38 : decode cX2_leastPartOf 38 = .ok (.iload_n 1, 1) := daX2_leastPartOf (38, .iload_n 1, 1) (List.mem_of_getElem? (i := 22) rfl)
theorem dX2_leastPartOf_39 : decode cX2_leastPartOf 39 = .ok (.iload_n 2, 1) := daX2_leastPartOf (39, .iload_n 2, 1) (List.mem_of_getElem? (i := 23) rfl)
theorem dX2_leastPartOf_40 : decode cX2_leastPartOf 40 = .ok (.iload 6, 2) := daX2_leastPartOf (40, .iload 6, 2) (List.mem_of_getElem? (i := 24) rfl)
theorem dX2_leastPartOf_42 : decode cX2_leastPartOf 42 = .ok (.invokevirtual 144, 3) := daX2_leastPartOf (42, .invokevirtual 144, 3) (List.mem_of_getElem? (i := 25) rfl)
theorem dX2_leastPartOf_45 : decode cX2_leastPartOf 45 = .ok (.istore 5, 2) := daX2_leastPartOf (45, .istore 5, 2) (List.mem_of_getElem? (i := 26) rfl)
theorem dX2_leastPartOf_47 : decode cX2_leastPartOf 47 = .ok (.iinc 6 1, 3) := daX2_leastPartOf (47, .iinc 6 1, 3) (List.mem_of_getElem? (i := 27) rfl)
theorem dX2_leastPartOf_50 : decode cX2_leastPartOf 50 = .ok (.goto (-35), 3) := daX2_leastPartOf (50, .goto (-35), 3) (List.mem_of_getElem? (i := 28) rfl)
theorem dX2_leastPartOf_53 : decode cX2_leastPartOf 53 = .ok (.iconst 0, 1) := daX2_leastPartOf (53, .iconst 0, 1) (List.mem_of_getElem? (i := 29) rfl)
theorem dX2_leastPartOf_54 : decode cX2_leastPartOf 54 = .ok (.istore 6, 2) := daX2_leastPartOf (54, .istore 6, 2) (List.mem_of_getElem? (i := 30) rfl)
theorem dX2_leastPartOf_56 : decode cX2_leastPartOf 56 = .ok (.iload 6, 2) := daX2_leastPartOf (56, .iload 6, 2) (List.mem_of_getElem? (i := 31) rfl)
theorem dX2_leastPartOf_58 : decode cX2_leastPartOf 58 = .ok (.iconst 5, 1) := daX2_leastPartOf (58, .iconst 5, 1) (List.mem_of_getElem? (i := 32) rfl)
theorem dX2_leastPartOf_59 : decode cX2_leastPartOf 59 = .ok (.if_icmp .ge 18, 3) := daX2_leastPartOf (59, .if_icmp .ge 18, 3) (List.mem_of_getElem? (i := 33) rfl)
theorem dX2_leastPartOf_62 : decode cX2_leastPartOf 62 = .ok (.aload_n 0, 1) := daX2_leastPartOf (62, .aload_n 0, 1) (List.mem_of_getElem? (i := 34) rfl)
theorem dX2_leastPartOf_63 : decode cX2_leastPartOf 63 = .ok (.getfield 18, 3) := daX2_leastPartOf (63, .getfield 18, 3) (List.mem_of_getElem? (i := 35) rfl)
theorem dX2_leastPartOf_66 : decode cX2_leastPartOf 66 = .ok (.iload 6, 2) := daX2_leastPartOf (66, .iload 6, 2) (List.mem_of_getElem? (i := 36) rfl)
theorem dX2_leastPartOf_68 : decode cX2_leastPartOf 68 = .ok (.bipush 63, 2) := daX2_leastPartOf (68, .bipush 63, 2) (List.mem_of_getElem? (i := 37) rfl)
theorem dX2_leastPartOf_70 : decode cX2_leastPartOf 70 = .ok (.iastore, 1) := daX2_leastPartOf (70, .iastore, 1) (List.mem_of_getElem? (i := 38) rfl)
theorem dX2_leastPartOf_71 : decode cX2_leastPartOf 71 = .ok (.iinc 6 1, 3) := daX2_leastPartOf (71, .iinc 6 1, 3) (List.mem_of_getElem? (i := 39) rfl)
theorem dX2_leastPartOf_74 : decode cX2_leastPartOf 74 = .ok (.goto (-18), 3) := daX2_leastPartOf (74, .goto (-18), 3) (List.mem_of_getElem? (i := 40) rfl)
theorem dX2_leastPartOf_77 : decode cX2_leastPartOf 77 = .ok (.iload 5, 2) := daX2_leastPartOf (77, .iload 5, 2) (List.mem_of_getElem? (i := 41) rfl)
theorem dX2_leastPartOf_79 : decode cX2_leastPartOf 79 = .ok (.ireturn, 1) := daX2_leastPartOf (79, .ireturn, 1) (List.mem_of_getElem? (i := 42) rfl)
def rmX2_leastPartOf : Room := { frames := 5, cells := 0, slots := 0, locals := 127 }
theorem zdX2_leastPartOf : yX2_leastPartOf.cls = RX2 ∧ yX2_leastPartOf.cls ≠ "java/lang/invoke/MethodHandle" ∧ yX2_leastPartOf.cls ≠ "java/lang/invoke/VarHandle" ∧ (parseMethodDescriptor yX2_leastPartOf.desc).map (fun d => d.parameters.length) = some 3 := by decide +kernel
theorem kiX2_leastPartOf_X2 : ∀ w ∈ wsX20, w ∈ wsX2_leastPartOf := fun _ h => (List.mem_cons_of_mem _ (List.mem_append_left _ (List.mem_append_left _ (List.mem_append_right _ h))))
theorem kfX2_leastPartOf_18 : Cond.fieldLink RX2 18 "ShapeJudge$Judge" "allowed" "[I" ∈ wsX2_leastPartOf := (List.mem_of_getElem? (i := 1) rfl)
def t_X2_leastPartOf_15 (a1 : Int32) (a2 : Int32) (a3 : Int32) (r2 : Int32) (i3 : Int32) (i4 : Int32) (m5 : Mem) : Option ((Int32 × Int32 × Mem) ⊕ (Int32 × Mem)) :=
  (if a3 < i4 then (some (.inr (i3, m5))) else ((if 5 ≤ i4 then (some (.inr (i3, m5))) else ((if ((r2 >>> (i4 &&& 31)) &&& 1) = 0 then (bn (i4 + 1) fun x6 => some (.inl (i3, x6, m5))) else (zb2 (s_X2_bindToLeastPart m5 a1 a2 i4) fun r8 m9 => bn (i4 + 1) fun x10 => some (.inl (r8, x10, m9))))))))
def l_X2_leastPartOf_15 (a1 : Int32) (a2 : Int32) (a3 : Int32) (r2 : Int32) (n : Nat) (i3 : Int32) (i4 : Int32) (m5 : Mem) : Option (Int32 × Mem) := zlp n (fun a => t_X2_leastPartOf_15 a1 a2 a3 r2 a.1 a.2.1 a.2.2) (i3, i4, m5)
def t_X2_leastPartOf_56  (i16 : Int32) (m17 : Mem) : Option ((Int32 × Mem) ⊕ (Mem)) :=
  (if 5 ≤ i16 then (some (.inr m17)) else (ck (zin i16 5 = true) (bn (sto m17 42 (Int32.toNatClampNeg i16) 63) fun m19 => bn (i16 + 1) fun x20 => some (.inl (x20, m19)))))
def l_X2_leastPartOf_56  (n : Nat) (i16 : Int32) (m17 : Mem) : Option (Mem) := zlp n (fun a => t_X2_leastPartOf_56  a.1 a.2) (i16, m17)
def s_X2_leastPartOf (m : Mem) (a1 : Int32) (a2 : Int32) (a3 : Int32) : Option (Int32 × Mem) :=
  (s_X2_wantedEdges m a1 a2).bind fun r2 => (zb2 (l_X2_leastPartOf_15 a1 a2 a3 r2 FU (-4) 0 m) fun y14 m15 => ((l_X2_leastPartOf_56  FU 0 m15).bind fun m22 => some (y14, m22)))
set_option maxRecDepth 100000 in
set_option maxHeartbeats 4000000 in
theorem w_X2_leastPartOf_15 {K : ZK} (C : zOK MX K cX2_leastPartOf 7 (some .int) RX2 wsX2_leastPartOf rmX2_leastPartOf) {a1 : Int32} {a2 : Int32} {a3 : Int32} {r2 : Int32}  {o0 : Int32} {o1 : Mem} (hk : zGo MX K o1 [(0, .ref ((zw K).2.1 39)), (5, .int o0)] 53 []) : ∀ (n : Nat) (i3 : Int32) (i4 : Int32) (m5 : Mem), l_X2_leastPartOf_15 a1 a2 a3 r2 n i3 i4 m5 = some (o0, o1) → zGo MX K m5 [(0, .ref ((zw K).2.1 39)), (1, .int a1), (2, .int a2), (3, .int a3), (4, .int r2), (5, .int i3), (6, .int i4)] 15 [] := by
  intro n
  induction n with
  | zero =>
    intro i3 i4 m5 hf
    cases hf
  | succ n ih =>
    intro i3 i4 m5 hf
    obtain ⟨z, hf, hz⟩ := zlp_el hf
    replace hf : t_X2_leastPartOf_15 a1 a2 a3 r2 i3 i4 m5 = some z := hf
    unfold t_X2_leastPartOf_15 at hf
    refine z_iload C 6 dX2_leastPartOf_15 rfl ?_
    refine z_iload_n C 3 dX2_leastPartOf_17 rfl rfl ?_
    refine z_icmp_gt (tgt := 53) C dX2_leastPartOf_18 (by decide) (fun c13 => ?_) (fun c13 => ?_)
    · replace hf := if_t c13 hf
      cases hf
      replace hz := zlz_r hz
      cases hz
      exact z_sub [0, 5] rfl hk
    · replace hf := if_f c13 hf
      refine z_iload C 6 dX2_leastPartOf_21 rfl ?_
      refine z_iconst C (v := 5) dX2_leastPartOf_23 rfl ?_
      refine z_icmp_ge (tgt := 53) C dX2_leastPartOf_24 (by decide) (fun c12 => ?_) (fun c12 => ?_)
      · replace hf := if_t c12 hf
        cases hf
        replace hz := zlz_r hz
        cases hz
        exact z_sub [0, 5] rfl hk
      · replace hf := if_f c12 hf
        refine z_iload C 4 dX2_leastPartOf_27 rfl ?_
        refine z_iload C 6 dX2_leastPartOf_29 rfl ?_
        refine z_ishr C dX2_leastPartOf_31 ?_
        refine z_iconst C (v := 1) dX2_leastPartOf_32 rfl ?_
        refine z_iand C dX2_leastPartOf_33 ?_
        refine z_if_eq (tgt := 47) C dX2_leastPartOf_34 (by decide) (fun c11 => ?_) (fun c11 => ?_)
        · replace hf := if_t c11 hf
          obtain ⟨x6, e_x6⟩ : ∃ y : Int32, y = i4 + 1 := ⟨_, rfl⟩
          replace hf := bn_to e_x6 hf
          refine z_iinc C (lv2 := [(0, .ref ((zw K).2.1 39)), (1, .int a1), (2, .int a2), (3, .int a3), (4, .int r2), (5, .int i3), (6, .int x6)]) 6 [1, 2, 3, 4, 5, 6, 0] dX2_leastPartOf_47 rfl rfl (Nat.le_of_ble_eq_true rfl) e_x6 rfl ?_
          refine z_goto (tgt := 15) C dX2_leastPartOf_50 (by decide) ?_
          cases hf
          exact z_sub [0, 1, 2, 3, 4, 5, 6] rfl (ih i3 x6 m5 hz)
        · replace hf := if_f c11 hf
          refine z_aload_n C 0 dX2_leastPartOf_37 rfl rfl ?_
          refine z_iload_n C 1 dX2_leastPartOf_38 rfl rfl ?_
          refine z_iload_n C 2 dX2_leastPartOf_39 rfl rfl ?_
          refine z_iload C 6 dX2_leastPartOf_40 rfl ?_
          obtain ⟨r8, m9, hc7, hf⟩ := zb2_el hf
          refine z_cVi C (c_X2_bindToLeastPart _ _ hc7) rfl gX2_leastPartOf_X2_bindToLeastPart rfl rfl zdX2_bindToLeastPart rfl (Nat.le_of_ble_eq_true rfl) rfl rfl rfl ⟨Nat.le_of_ble_eq_true rfl, Nat.le_of_ble_eq_true rfl⟩ (Nat.le_of_ble_eq_true rfl) dX2_leastPartOf_42 rfl ?_
          refine z_istore C (lv2 := [(0, .ref ((zw K).2.1 39)), (1, .int a1), (2, .int a2), (3, .int a3), (4, .int r2), (5, .int r8), (6, .int i4)]) [1, 2, 3, 4, 5, 0, 6] dX2_leastPartOf_45 (Nat.le_of_ble_eq_true rfl) rfl ?_
          obtain ⟨x10, e_x10⟩ : ∃ y : Int32, y = i4 + 1 := ⟨_, rfl⟩
          replace hf := bn_to e_x10 hf
          refine z_iinc C (lv2 := [(0, .ref ((zw K).2.1 39)), (1, .int a1), (2, .int a2), (3, .int a3), (4, .int r2), (5, .int r8), (6, .int x10)]) 6 [1, 2, 3, 4, 5, 6, 0] dX2_leastPartOf_47 rfl rfl (Nat.le_of_ble_eq_true rfl) e_x10 rfl ?_
          refine z_goto (tgt := 15) C dX2_leastPartOf_50 (by decide) ?_
          cases hf
          exact z_sub [0, 1, 2, 3, 4, 5, 6] rfl (ih r8 x10 m9 hz)
set_option maxRecDepth 100000 in
set_option maxHeartbeats 4000000 in
theorem w_X2_leastPartOf_56 {K : ZK} (C : zOK MX K cX2_leastPartOf 7 (some .int) RX2 wsX2_leastPartOf rmX2_leastPartOf) {y14 : Int32}  {o0 : Mem} (hk : zGo MX K o0 [(5, .int y14)] 77 []) : ∀ (n : Nat) (i16 : Int32) (m17 : Mem), l_X2_leastPartOf_56  n i16 m17 = some o0 → zGo MX K m17 [(0, .ref ((zw K).2.1 39)), (5, .int y14), (6, .int i16)] 56 [] := by
  intro n
  induction n with
  | zero =>
    intro i16 m17 hf
    cases hf
  | succ n ih =>
    intro i16 m17 hf
    obtain ⟨z, hf, hz⟩ := zlp_el hf
    replace hf : t_X2_leastPartOf_56  i16 m17 = some z := hf
    unfold t_X2_leastPartOf_56 at hf
    refine z_iload C 2 dX2_leastPartOf_56 rfl ?_
    refine z_iconst C (v := 5) dX2_leastPartOf_58 rfl ?_
    refine z_icmp_ge (tgt := 77) C dX2_leastPartOf_59 (by decide) (fun c21 => ?_) (fun c21 => ?_)
    · replace hf := if_t c21 hf
      cases hf
      replace hz := zlz_r hz
      cases hz
      exact z_sub [1] rfl hk
    · replace hf := if_f c21 hf
      refine z_aload_n C 0 dX2_leastPartOf_62 rfl rfl ?_
      refine z_getr C (t := 42) (Nat.le_of_ble_eq_true rfl) rfl rfl 6 (Nat.le_of_ble_eq_true rfl) rfl kiX2_leastPartOf_X2 kfX2_leastPartOf_18 dX2_leastPartOf_63 ?_
      refine z_iload C 2 dX2_leastPartOf_66 rfl ?_
      refine z_bipush C (v := 63) dX2_leastPartOf_68 rfl ?_
      obtain ⟨hi18, hf⟩ := ck_el hf
      refine z_iast C (k := 42) (Nat.le_of_ble_eq_true rfl) rfl hi18 dX2_leastPartOf_70 ?_
      refine z_nm (fun m19 e_m19 => ?_)
      replace hf := bn_to e_m19 hf
      obtain ⟨x20, e_x20⟩ : ∃ y : Int32, y = i16 + 1 := ⟨_, rfl⟩
      replace hf := bn_to e_x20 hf
      refine z_iinc C (lv2 := [(0, .ref ((zw K).2.1 39)), (5, .int y14), (6, .int x20)]) 2 [1, 2, 0] dX2_leastPartOf_71 rfl rfl (Nat.le_of_ble_eq_true rfl) e_x20 rfl ?_
      refine z_goto (tgt := 56) C dX2_leastPartOf_74 (by decide) ?_
      cases hf
      exact z_sub [0, 1, 2] rfl (ih x20 m19 hz)
set_option maxRecDepth 100000 in
set_option maxHeartbeats 4000000 in
theorem c_X2_leastPartOf (l : Launch) (w : ZW) {m : Mem} {a1 : Int32} {a2 : Int32} {a3 : Int32} {r9 : Int32} {m9 : Mem}  (hf : s_X2_leastPartOf m a1 a2 a3 = some (r9, m9)) : zCi MX l w yX2_leastPartOf wsX2_leastPartOf rmX2_leastPartOf [.ref (w.2.1 39), .int a1, .int a2, .int a3] m m9 r9 := by
  refine z_met_i MX_ok (own := RX2) (by decide +kernel) rfl rfl (Nat.le_of_ble_eq_true rfl) ?_
  intro K C hKw hKl hret
  subst hKw
  subst hKl
  unfold s_X2_leastPartOf at hf
  show zGo MX K m [(0, .ref ((zw K).2.1 39)), (1, .int a1), (2, .int a2), (3, .int a3)] 0 []
  refine z_aload_n C 0 dX2_leastPartOf_0 rfl rfl ?_
  refine z_iload_n C 1 dX2_leastPartOf_1 rfl rfl ?_
  refine z_iload_n C 2 dX2_leastPartOf_2 rfl rfl ?_
  obtain ⟨r2, hc1, hf⟩ := zb_el hf
  refine z_cVi C (c_X2_wantedEdges _ _ hc1) rfl gX2_leastPartOf_X2_wantedEdges rfl rfl zdX2_wantedEdges rfl (Nat.le_of_ble_eq_true rfl) rfl rfl rfl ⟨Nat.le_of_ble_eq_true rfl, Nat.le_of_ble_eq_true rfl⟩ (Nat.le_of_ble_eq_true rfl) dX2_leastPartOf_3 rfl ?_
  refine z_istore C (lv2 := [(0, .ref ((zw K).2.1 39)), (1, .int a1), (2, .int a2), (3, .int a3), (4, .int r2)]) [1, 2, 3, 4, 0] dX2_leastPartOf_6 (Nat.le_of_ble_eq_true rfl) rfl ?_
  refine z_bipush C (v := (-4)) dX2_leastPartOf_8 (by decide) ?_
  refine z_istore C (lv2 := [(0, .ref ((zw K).2.1 39)), (1, .int a1), (2, .int a2), (3, .int a3), (4, .int r2), (5, .int (-4))]) [1, 2, 3, 4, 5, 0] dX2_leastPartOf_10 (Nat.le_of_ble_eq_true rfl) rfl ?_
  refine z_iconst C (v := 0) dX2_leastPartOf_12 rfl ?_
  refine z_istore C (lv2 := [(0, .ref ((zw K).2.1 39)), (1, .int a1), (2, .int a2), (3, .int a3), (4, .int r2), (5, .int (-4)), (6, .int 0)]) [1, 2, 3, 4, 5, 6, 0] dX2_leastPartOf_13 (Nat.le_of_ble_eq_true rfl) rfl ?_
  obtain ⟨y14, m15, hg, hf⟩ := zb2_el hf
  refine z_sub [0, 1, 2, 3, 4, 5, 6] rfl (w_X2_leastPartOf_15 C  ?_ _ _ _ _ hg)
  clear hg
  refine z_iconst C (v := 0) dX2_leastPartOf_53 rfl ?_
  refine z_istore C (lv2 := [(0, .ref ((zw K).2.1 39)), (5, .int y14), (6, .int 0)]) [1, 2, 0] dX2_leastPartOf_54 (Nat.le_of_ble_eq_true rfl) rfl ?_
  obtain ⟨m22, hg, hf⟩ := zb_el hf
  refine z_sub [0, 1, 2] rfl (w_X2_leastPartOf_56 C  ?_ _ _ _ hg)
  clear hg
  refine z_iload C 0 dX2_leastPartOf_77 rfl ?_
  cases hf
  exact hret _ _ dX2_leastPartOf_79
set_option maxRecDepth 20000 in
theorem ggX2_readFits_X0_hasShape : GoodIn wsX2_readFits wsX0_hasShape := goodIn_sub (List.forall_mem_cons.mpr ⟨(List.mem_of_getElem? (i := 10) rfl), (List.forall_mem_append.mpr ⟨(List.forall_mem_cons.mpr ⟨(List.mem_of_getElem? (i := 11) rfl), (fun _ h => absurd h List.not_mem_nil)⟩), (fun _ h => (List.mem_cons_of_mem _ (List.mem_append_right _ h)))⟩)⟩) (by decide +kernel)
set_option maxRecDepth 20000 in
theorem gX2_readFits_X0_hasShape : GoodIn wsX2_readFits (wsV RX2 42 RX0 yX0_hasShape wsX0_hasShape) := goodIn_app (goodIn_sub (List.forall_mem_cons.mpr ⟨(List.mem_of_getElem? (i := 6) rfl), (List.forall_mem_cons.mpr ⟨(List.mem_of_getElem? (i := 7) rfl), (List.forall_mem_cons.mpr ⟨(List.mem_of_getElem? (i := 8) rfl), (List.forall_mem_cons.mpr ⟨(List.mem_of_getElem? (i := 9) rfl), (fun _ h => absurd h List.not_mem_nil)⟩)⟩)⟩)⟩) (by decide +kernel)) ggX2_readFits_X0_hasShape
set_option maxRecDepth 20000 in
theorem ggX2_readFits_X2_dropUnfit : GoodIn wsX2_readFits wsX2_dropUnfit := goodIn_sub (List.forall_mem_cons.mpr ⟨(List.mem_of_getElem? (i := 16) rfl), (List.forall_mem_append.mpr ⟨(List.forall_mem_append.mpr ⟨(List.forall_mem_append.mpr ⟨(List.forall_mem_append.mpr ⟨(show ∀ w ∈ wsX2_dropUnfit_r1, w ∈ wsX2_readFits from (List.forall_mem_cons.mpr ⟨(List.mem_of_getElem? (i := 3) rfl), (List.forall_mem_cons.mpr ⟨(List.mem_of_getElem? (i := 17) rfl), (List.forall_mem_cons.mpr ⟨(List.mem_of_getElem? (i := 4) rfl), (List.forall_mem_cons.mpr ⟨(List.mem_of_getElem? (i := 5) rfl), (List.forall_mem_cons.mpr ⟨(List.mem_of_getElem? (i := 18) rfl), (List.forall_mem_cons.mpr ⟨(List.mem_of_getElem? (i := 2) rfl), (List.forall_mem_cons.mpr ⟨(List.mem_of_getElem? (i := 19) rfl), (List.forall_mem_cons.mpr ⟨(List.mem_of_getElem? (i := 20) rfl), (List.forall_mem_cons.mpr ⟨(List.mem_of_getElem? (i := 21) rfl), (List.forall_mem_cons.mpr ⟨(List.mem_of_getElem? (i := 15) rfl), (List.forall_mem_cons.mpr ⟨(List.mem_of_getElem? (i := 22) rfl), (List.forall_mem_cons.mpr ⟨(List.mem_of_getElem? (i := 23) rfl), (List.forall_mem_cons.mpr ⟨(List.mem_of_getElem? (i := 24) rfl), (List.forall_mem_cons.mpr ⟨(List.mem_of_getElem? (i := 25) rfl), (List.forall_mem_cons.mpr ⟨(List.mem_of_getElem? (i := 26) rfl), (List.forall_mem_cons.mpr ⟨(List.mem_of_getElem? (i := 27) rfl), (List.forall_mem_cons.mpr ⟨(List.mem_of_getElem? (i := 28) rfl), (List.forall_mem_cons.mpr ⟨(List.mem_of_getElem? (i := 29) rfl), (List.forall_mem_cons.mpr ⟨(List.mem_of_getElem? (i := 30) rfl), (List.forall_mem_cons.mpr ⟨(List.mem_of_getElem? (i := 31) rfl), (List.forall_mem_cons.mpr ⟨(List.mem_of_getElem? (i := 32) rfl), (List.forall_mem_cons.mpr ⟨(List.mem_of_getElem? (i := 33) rfl), (List.forall_mem_cons.mpr ⟨(List.mem_of_getElem? (i := 34) rfl), (List.forall_mem_cons.mpr ⟨(List.mem_of_getElem? (i := 35) rfl), (fun _ h => absurd h List.not_mem_nil)⟩)⟩)⟩)⟩)⟩)⟩)⟩)⟩)⟩)⟩)⟩)⟩)⟩)⟩)⟩)⟩)⟩)⟩)⟩)⟩)⟩)⟩)⟩)⟩)), (List.forall_mem_append.mpr ⟨(show ∀ w ∈ wsX2_dropUnfit_r2, w ∈ wsX2_readFits from (List.forall_mem_cons.mpr ⟨(List.mem_of_getElem? (i := 36) rfl), (List.forall_mem_cons.mpr ⟨(List.mem_of_getElem? (i := 37) rfl), (List.forall_mem_cons.mpr ⟨(List.mem_of_getElem? (i := 38) rfl), (List.forall_mem_cons.mpr ⟨(List.mem_of_getElem? (i := 39) rfl), (List.forall_mem_cons.mpr ⟨(List.mem_of_getElem? (i := 40) rfl), (List.forall_mem_cons.mpr ⟨(List.mem_of_getElem? (i := 41) rfl), (List.forall_mem_cons.mpr ⟨(List.mem_of_getElem? (i := 42) rfl), (List.forall_mem_cons.mpr ⟨(List.mem_of_getElem? (i := 43) rfl), (List.forall_mem_cons.mpr ⟨(List.mem_of_getElem? (i := 44) rfl), (List.forall_mem_cons.mpr ⟨(List.mem_of_getElem? (i := 45) rfl), (List.forall_mem_cons.mpr ⟨(List.mem_of_getElem? (i := 46) rfl), (List.forall_mem_cons.mpr ⟨(List.mem_of_getElem? (i := 47) rfl), (List.forall_mem_cons.mpr ⟨(List.mem_of_getElem? (i := 48) rfl), (List.forall_mem_cons.mpr ⟨(List.mem_of_getElem? (i := 49) rfl), (List.forall_mem_cons.mpr ⟨(List.mem_of_getElem? (i := 50) rfl), (List.forall_mem_cons.mpr ⟨(List.mem_of_getElem? (i := 51) rfl), (List.forall_mem_cons.mpr ⟨(List.mem_of_getElem? (i := 52) rfl), (List.forall_mem_cons.mpr ⟨(List.mem_of_getElem? (i := 53) rfl), (List.forall_mem_cons.mpr ⟨(List.mem_of_getElem? (i := 54) rfl), (List.forall_mem_cons.mpr ⟨(List.mem_of_getElem? (i := 55) rfl), (List.forall_mem_cons.mpr ⟨(List.mem_of_getElem? (i := 56) rfl), (List.forall_mem_cons.mpr ⟨(List.mem_of_getElem? (i := 57) rfl), (List.forall_mem_cons.mpr ⟨(List.mem_of_getElem? (i := 58) rfl), (List.forall_mem_cons.mpr ⟨(List.mem_of_getElem? (i := 59) rfl), (fun _ h => absurd h List.not_mem_nil)⟩)⟩)⟩)⟩)⟩)⟩)⟩)⟩)⟩)⟩)⟩)⟩)⟩)⟩)⟩)⟩)⟩)⟩)⟩)⟩)⟩)⟩)⟩)⟩)), (show ∀ w ∈ wsX2_dropUnfit_r3, w ∈ wsX2_readFits from (List.forall_mem_cons.mpr ⟨(List.mem_of_getElem? (i := 60) rfl), (List.forall_mem_cons.mpr ⟨(List.mem_of_getElem? (i := 61) rfl), (List.forall_mem_cons.mpr ⟨(List.mem_of_getElem? (i := 62) rfl), (List.forall_mem_cons.mpr ⟨(List.mem_of_getElem? (i := 63) rfl), (List.forall_mem_cons.mpr ⟨(List.mem_of_getElem? (i := 64) rfl), (List.forall_mem_cons.mpr ⟨(List.mem_of_getElem? (i := 65) rfl), (List.forall_mem_cons.mpr ⟨(List.mem_of_getElem? (i := 66) rfl), (List.forall_mem_cons.mpr ⟨(List.mem_of_getElem? (i := 67) rfl), (fun _ h => absurd h List.not_mem_nil)⟩)⟩)⟩)⟩)⟩)⟩)⟩)⟩))⟩)⟩), (fun _ h => (List.mem_cons_of_mem _ (List.mem_append_left _ (List.mem_append_left _ (List.mem_append_right _ h)))))⟩), (fun _ h => (List.mem_cons_of_mem _ (List.mem_append_right _ h)))⟩), (fun _ h => (List.mem_cons_of_mem _ (List.mem_append_left _ (List.mem_append_right _ h))))⟩)⟩) (by decide +kernel)
set_option maxRecDepth 20000 in
theorem gX2_readFits_X2_dropUnfit : GoodIn wsX2_readFits (wsV RX2 54 RX2 yX2_dropUnfit wsX2_dropUnfit) := goodIn_app (goodIn_sub (List.forall_mem_cons.mpr ⟨(List.mem_of_getElem? (i := 12) rfl), (List.forall_mem_cons.mpr ⟨(List.mem_of_getElem? (i := 13) rfl), (List.forall_mem_cons.mpr ⟨(List.mem_of_getElem? (i := 14) rfl), (List.forall_mem_cons.mpr ⟨(List.mem_of_getElem? (i := 15) rfl), (fun _ h => absurd h List.not_mem_nil)⟩)⟩)⟩)⟩) (by decide +kernel)) ggX2_readFits_X2_dropUnfit
set_option maxRecDepth 100000 in
theorem daX2_readFits : ∀ q ∈ ([(0, .aload_n 0, 1), (1, .getfield 35, 3), (4, .ifCond .eq 4, 3), (7, .return_, 1), (8, .iconst 0, 1), (9, .istore_n 1, 1), (10, .iload_n 1, 1), (11, .bipush 6, 2), (13, .if_icmp .ge 41, 3), (16, .aload_n 0, 1), (17, .getfield 9, 3), (20, .iload_n 1, 1), (21, .aload_n 0, 1), (22, .getfield 28, 3), (25, .iload_n 1, 1), (26, .invokevirtual 42, 3), (29, .ifCond .eq 17, 3), (32, .iconst 1, 1), (33, .aload_n 0, 1), (34, .getfield 24, 3), (37, .getfield 48, 3), (40, .ishl, 1), (41, .iconst 1, 1), (42, .isub, 1), (43, .goto 4, 3), (46, .iconst 0, 1), (47, .iastore, 1), (48, .iinc 1 1, 3), (51, .goto (-41), 3), (54, .iconst 0, 1), (55, .istore_n 1, 1), (56, .iload_n 1, 1), (57, .bipush 6, 2), (59, .if_icmp .ge 35, 3), (62, .iconst 1, 1), (63, .istore_n 2, 1), (64, .iconst 0, 1), (65, .istore_n 3, 1), (66, .iload_n 2, 1), (67, .ifCond .eq 21, 3), (70, .iload_n 3, 1), (71, .bipush 60, 2), (73, .if_icmp .gt 15, 3), (76, .aload_n 0, 1), (77, .iload_n 1, 1), (78, .invokevirtual 54, 3), (81, .istore_n 2, 1), (82, .iinc 3 1, 3), (85, .goto (-19), 3), (88, .iinc 1 1, 3), (91, .goto (-35), 3), (94, .aload_n 0, 1), (95, .iconst 1, 1), (96, .putfield 35, 3), (99, .return_, 1)] : List (Nat × Instr × Nat)), decode cX2_readFits q.1 = .ok q.2 := by decide +kernel
theorem dX2_readFits_0 : decode cX2_readFits 0 = .ok (.aload_n 0, 1) := daX2_readFits (0, .aload_n 0, 1) (List.mem_of_getElem? (i := 0) rfl)
theorem dX2_readFits_1 : decode cX2_readFits 1 = .ok (.getfield 35, 3) := daX2_readFits (1, .getfield 35, 3) (List.mem_of_getElem? (i := 1) rfl)
theorem dX2_readFits_4 : decode cX2_readFits 4 = .ok (.ifCond .eq 4, 3) := daX2_readFits (4, .ifCond .eq 4, 3) (List.mem_of_getElem? (i := 2) rfl)
theorem dX2_readFits_7 : decode cX2_readFits 7 = .ok (.return_, 1) := daX2_readFits (7, .return_, 1) (List.mem_of_getElem? (i := 3) rfl)
theorem dX2_readFits_8 : decode cX2_readFits 8 = .ok (.iconst 0, 1) := daX2_readFits (8, .iconst 0, 1) (List.mem_of_getElem? (i := 4) rfl)
theorem dX2_readFits_9 : decode cX2_readFits 9 = .ok (.istore_n 1, 1) := daX2_readFits (9, .istore_n 1, 1) (List.mem_of_getElem? (i := 5) rfl)
theorem dX2_readFits_10 : decode cX2_readFits 10 = .ok (.iload_n 1, 1) := daX2_readFits (10, .iload_n 1, 1) (List.mem_of_getElem? (i := 6) rfl)
theorem dX2_readFits_11 : decode cX2_readFits 11 = .ok (.bipush 6, 2) := daX2_readFits (11, .bipush 6, 2) (List.mem_of_getElem? (i := 7) rfl)
theorem dX2_readFits_13 : decode cX2_readFits 13 = .ok (.if_icmp .ge 41, 3) := daX2_readFits (13, .if_icmp .ge 41, 3) (List.mem_of_getElem? (i := 8) rfl)
theorem dX2_readFits_16 : decode cX2_readFits 16 = .ok (.aload_n 0, 1) := daX2_readFits (16, .aload_n 0, 1) (List.mem_of_getElem? (i := 9) rfl)
theorem dX2_readFits_17 : decode cX2_readFits 17 = .ok (.getfield 9, 3) := daX2_readFits (17, .getfield 9, 3) (List.mem_of_getElem? (i := 10) rfl)
theorem dX2_readFits_20 : decode cX2_readFits 20 = .ok (.iload_n 1, 1) := daX2_readFits (20, .iload_n 1, 1) (List.mem_of_getElem? (i := 11) rfl)
theorem dX2_readFits_21 : decode cX2_readFits 21 = .ok (.aload_n 0, 1) := daX2_readFits (21, .aload_n 0, 1) (List.mem_of_getElem? (i := 12) rfl)
theorem dX2_readFits_22 : decode cX2_readFits 22 = .ok (.getfield 28, 3) := daX2_readFits (22, .getfield 28, 3) (List.mem_of_getElem? (i := 13) rfl)
theorem dX2_readFits_25 : decode cX2_readFits 25 = .ok (.iload_n 1, 1) := daX2_readFits (25, .iload_n 1, 1) (List.mem_of_getElem? (i := 14) rfl)
theorem dX2_readFits_26 : decode cX2_readFits 26 = .ok (.invokevirtual 42, 3) := daX2_readFits (26, .invokevirtual 42, 3) (List.mem_of_getElem? (i := 15) rfl)
theorem dX2_readFits_29 : decode cX2_readFits 29 = .ok (.ifCond .eq 17, 3) := daX2_readFits (29, .ifCond .eq 17, 3) (List.mem_of_getElem? (i := 16) rfl)
theorem dX2_readFits_32 : decode cX2_readFits 32 = .ok (.iconst 1, 1) := daX2_readFits (32, .iconst 1, 1) (List.mem_of_getElem? (i := 17) rfl)
theorem dX2_readFits_33 : decode cX2_readFits 33 = .ok (.aload_n 0, 1) := daX2_readFits (33, .aload_n 0, 1) (List.mem_of_getElem? (i := 18) rfl)
theorem dX2_readFits_34 : decode cX2_readFits 34 = .ok (.getfield 24, 3) := daX2_readFits (34, .getfield 24, 3) (List.mem_of_getElem? (i := 19) rfl)
theorem dX2_readFits_37 : decode cX2_readFits 37 = .ok (.getfield 48, 3) := daX2_readFits (37, .getfield 48, 3) (List.mem_of_getElem? (i := 20) rfl)
theorem dX2_readFits_40 : decode cX2_readFits 40 = .ok (.ishl, 1) := daX2_readFits (40, .ishl, 1) (List.mem_of_getElem? (i := 21) rfl)
theorem dX2_readFits_41 : decode cX2_readFits 41 = .ok (.iconst 1, 1) := daX2_readFits (41, .iconst 1, 1) (List.mem_of_getElem? (i := 22) rfl)
theorem dX2_readFits_42 : decode cX2_readFits 42 = .ok (.isub, 1) := daX2_readFits (42, .isub, 1) (List.mem_of_getElem? (i := 23) rfl)
theorem dX2_readFits_43 : decode cX2_readFits 43 = .ok (.goto 4, 3) := daX2_readFits (43, .goto 4, 3) (List.mem_of_getElem? (i := 24) rfl)
theorem dX2_readFits_46 : decode cX2_readFits 46 = .ok (.iconst 0, 1) := daX2_readFits (46, .iconst 0, 1) (List.mem_of_getElem? (i := 25) rfl)
theorem dX2_readFits_47 : decode cX2_readFits 47 = .ok (.iastore, 1) := daX2_readFits (47, .iastore, 1) (List.mem_of_getElem? (i := 26) rfl)
theorem dX2_readFits_48 : decode cX2_readFits 48 = .ok (.iinc 1 1, 3) := daX2_readFits (48, .iinc 1 1, 3) (List.mem_of_getElem? (i := 27) rfl)
theorem dX2_readFits_51 : decode cX2_readFits 51 = .ok (.goto (-41), 3) := daX2_readFits (51, .goto (-41), 3) (List.mem_of_getElem? (i := 28) rfl)
theorem dX2_readFits_54 : decode cX2_readFits 54 = .ok (.iconst 0, 1) := daX2_readFits (54, .iconst 0, 1) (List.mem_of_getElem? (i := 29) rfl)
theorem dX2_readFits_55 : decode cX2_readFits 55 = .ok (.istore_n 1, 1) := daX2_readFits (55, .istore_n 1, 1) (List.mem_of_getElem? (i := 30) rfl)
theorem dX2_readFits_56 : decode cX2_readFits 56 = .ok (.iload_n 1, 1) := daX2_readFits (56, .iload_n 1, 1) (List.mem_of_getElem? (i := 31) rfl)
theorem dX2_readFits_57 : decode cX2_readFits 57 = .ok (.bipush 6, 2) := daX2_readFits (57, .bipush 6, 2) (List.mem_of_getElem? (i := 32) rfl)
theorem dX2_readFits_59 : decode cX2_readFits 59 = .ok (.if_icmp .ge 35, 3) := daX2_readFits (59, .if_icmp .ge 35, 3) (List.mem_of_getElem? (i := 33) rfl)
theorem dX2_readFits_62 : decode cX2_readFits 62 = .ok (.iconst 1, 1) := daX2_readFits (62, .iconst 1, 1) (List.mem_of_getElem? (i := 34) rfl)
theorem dX2_readFits_63 : decode cX2_readFits 63 = .ok (.istore_n 2, 1) := daX2_readFits (63, .istore_n 2, 1) (List.mem_of_getElem? (i := 35) rfl)
theorem dX2_readFits_64 : decode cX2_readFits 64 = .ok (.iconst 0, 1) := daX2_readFits (64, .iconst 0, 1) (List.mem_of_getElem? (i := 36) rfl)
theorem dX2_readFits_65 : decode cX2_readFits 65 = .ok (.istore_n 3, 1) := daX2_readFits (65, .istore_n 3, 1) (List.mem_of_getElem? (i := 37) rfl)
theorem dX2_readFits_66 : decode cX2_readFits 66 = .ok (.iload_n 2, 1) := daX2_readFits (66, .iload_n 2, 1) (List.mem_of_getElem? (i := 38) rfl)
theorem dX2_readFits_67 : decode cX2_readFits 67 = .ok (.ifCond .eq 21, 3) := daX2_readFits (67, .ifCond .eq 21, 3) (List.mem_of_getElem? (i := 39) rfl)
theorem dX2_readFits_70 : decode cX2_readFits 70 = .ok (.iload_n 3, 1) := daX2_readFits (70, .iload_n 3, 1) (List.mem_of_getElem? (i := 40) rfl)
theorem dX2_readFits_71 : decode cX2_readFits 71 = .ok (.bipush 60, 2) := daX2_readFits (71, .bipush 60, 2) (List.mem_of_getElem? (i := 41) rfl)
theorem dX2_readFits_73 : decode cX2_readFits 73 = .ok (.if_icmp .gt 15, 3) := daX2_readFits (73, .if_icmp .gt 15, 3) (List.mem_of_getElem? (i := 42) rfl)
theorem dX2_readFits_76 : decode cX2_readFits 76 = .ok (.aload_n 0, 1) := daX2_readFits (76, .aload_n 0, 1) (List.mem_of_getElem? (i := 43) rfl)
theorem dX2_readFits_77 : decode cX2_readFits 77 = .ok (.iload_n 1, 1) := daX2_readFits (77, .iload_n 1, 1) (List.mem_of_getElem? (i := 44) rfl)
theorem dX2_readFits_78 : decode cX2_readFits 78 = .ok (.invokevirtual 54, 3) := daX2_readFits (78, .invokevirtual 54, 3) (List.mem_of_getElem? (i := 45) rfl)
theorem dX2_readFits_81 : decode cX2_readFits 81 = .ok (.istore_n 2, 1) := daX2_readFits (81, .istore_n 2, 1) (List.mem_of_getElem? (i := 46) rfl)
theorem dX2_readFits_82 : decode cX2_readFits 82 = .ok (.iinc 3 1, 3) := daX2_readFits (82, .iinc 3 1, 3) (List.mem_of_getElem? (i := 47) rfl)
theorem dX2_readFits_85 : decode cX2_readFits 85 = .ok (.goto (-19), 3) := daX2_readFits (85, .goto (-19), 3) (List.mem_of_getElem? (i := 48) rfl)
theorem dX2_readFits_88 : decode cX2_readFits 88 = .ok (.iinc 1 1, 3) := daX2_readFits (88, .iinc 1 1, 3) (List.mem_of_getElem? (i := 49) rfl)
theorem dX2_readFits_91 : decode cX2_readFits 91 = .ok (.goto (-35), 3) := daX2_readFits (91, .goto (-35), 3) (List.mem_of_getElem? (i := 50) rfl)
theorem dX2_readFits_94 : decode cX2_readFits 94 = .ok (.aload_n 0, 1) := daX2_readFits (94, .aload_n 0, 1) (List.mem_of_getElem? (i := 51) rfl)
theorem dX2_readFits_95 : decode cX2_readFits 95 = .ok (.iconst 1, 1) := daX2_readFits (95, .iconst 1, 1) (List.mem_of_getElem? (i := 52) rfl)
theorem dX2_readFits_96 : decode cX2_readFits 96 = .ok (.putfield 35, 3) := daX2_readFits (96, .putfield 35, 3) (List.mem_of_getElem? (i := 53) rfl)
theorem dX2_readFits_99 : decode cX2_readFits 99 = .ok (.return_, 1) := daX2_readFits (99, .return_, 1) (List.mem_of_getElem? (i := 54) rfl)
def rmX2_readFits : Room := { frames := 5, cells := 0, slots := 0, locals := 127 }
theorem zdX2_readFits : yX2_readFits.cls = RX2 ∧ yX2_readFits.cls ≠ "java/lang/invoke/MethodHandle" ∧ yX2_readFits.cls ≠ "java/lang/invoke/VarHandle" ∧ (parseMethodDescriptor yX2_readFits.desc).map (fun d => d.parameters.length) = some 0 := by decide +kernel
theorem kiX2_readFits_X2 : ∀ w ∈ wsX20, w ∈ wsX2_readFits := fun _ h => (List.mem_cons_of_mem _ (List.mem_append_left _ (List.mem_append_left _ (List.mem_append_right _ h))))
theorem kfX2_readFits_35 : Cond.fieldLink RX2 35 "ShapeJudge$Judge" "fittingIsRead" "Z" ∈ wsX2_readFits := (List.mem_of_getElem? (i := 1) rfl)
theorem kfX2_readFits_9 : Cond.fieldLink RX2 9 "ShapeJudge$Judge" "fitting" "[I" ∈ wsX2_readFits := (List.mem_of_getElem? (i := 2) rfl)
theorem kfX2_readFits_28 : Cond.fieldLink RX2 28 "ShapeJudge$Judge" "book" "LShapeJudge$Book;" ∈ wsX2_readFits := (List.mem_of_getElem? (i := 3) rfl)
theorem kfX2_readFits_24 : Cond.fieldLink RX2 24 "ShapeJudge$Judge" "graph" "LShapeJudge$Graph;" ∈ wsX2_readFits := (List.mem_of_getElem? (i := 4) rfl)
theorem kiX2_readFits_X1 : ∀ w ∈ wsX10, w ∈ wsX2_readFits := fun _ h => (List.mem_cons_of_mem _ (List.mem_append_left _ (List.mem_append_right _ h)))
theorem kfX2_readFits_48 : Cond.fieldLink RX2 48 "ShapeJudge$Graph" "nodes" "I" ∈ wsX2_readFits := (List.mem_of_getElem? (i := 5) rfl)
def t_X2_readFits_10  (i1 : Int32) (m2 : Mem) : Option ((Int32 × Mem) ⊕ (Mem)) :=
  (if 6 ≤ i1 then (some (.inr m2)) else (zbk (m2 39 1) fun b3 => (s_X0_hasShape m2 b3 i1).bind fun r5 => (if r5 = 0 then (ck (zin i1 6 = true) (bn (sto m2 40 (Int32.toNatClampNeg i1) 0) fun m7 => bn (i1 + 1) fun x8 => some (.inl (x8, m7)))) else (ck (zin i1 6 = true) (bn (sto m2 40 (Int32.toNatClampNeg i1) (((1 : Int32) <<< ((m2 1 0) &&& 31)) - 1)) fun m10 => bn (i1 + 1) fun x11 => some (.inl (x11, m10)))))))
def l_X2_readFits_10  (n : Nat) (i1 : Int32) (m2 : Mem) : Option (Mem) := zlp n (fun a => t_X2_readFits_10  a.1 a.2) (i1, m2)
def t_X2_readFits_66 (i15 : Int32) (i17 : Int32) (i18 : Int32) (m19 : Mem) : Option ((Int32 × Int32 × Mem) ⊕ (Mem)) :=
  (if i17 = 0 then (some (.inr m19)) else ((if 60 < i18 then (some (.inr m19)) else (zb2 (s_X2_dropUnfit m19 i15) fun r21 m22 => bn (i18 + 1) fun x23 => some (.inl (r21, x23, m22))))))
def l_X2_readFits_66 (i15 : Int32) (n : Nat) (i17 : Int32) (i18 : Int32) (m19 : Mem) : Option (Mem) := zlp n (fun a => t_X2_readFits_66 i15 a.1 a.2.1 a.2.2) (i17, i18, m19)
def t_X2_readFits_56  (i15 : Int32) (m16 : Mem) : Option ((Int32 × Mem) ⊕ (Mem)) :=
  (if 6 ≤ i15 then (some (.inr m16)) else (((l_X2_readFits_66 i15 FU 1 0 m16).bind fun m26 => bn (i15 + 1) fun x27 => some (.inl (x27, m26)))))
def l_X2_readFits_56  (n : Nat) (i15 : Int32) (m16 : Mem) : Option (Mem) := zlp n (fun a => t_X2_readFits_56  a.1 a.2) (i15, m16)
def s_X2_readFits (m : Mem)  : Option (Mem) :=
  (if (m 39 4) = 0 then (((l_X2_readFits_10  FU 0 m).bind fun m14 => ((l_X2_readFits_56  FU 0 m14).bind fun m29 => bn (sto m29 39 4 1) fun m30 => some m30))) else (some m))
set_option maxRecDepth 100000 in
set_option maxHeartbeats 4000000 in
theorem w_X2_readFits_10 {K : ZK} (C : zOK MX K cX2_readFits 4 none RX2 wsX2_readFits rmX2_readFits)   {o0 : Mem} (hk : zGo MX K o0 [(0, .ref ((zw K).2.1 39))] 54 []) : ∀ (n : Nat) (i1 : Int32) (m2 : Mem), l_X2_readFits_10  n i1 m2 = some o0 → zGo MX K m2 [(0, .ref ((zw K).2.1 39)), (1, .int i1)] 10 [] := by
  intro n
  induction n with
  | zero =>
    intro i1 m2 hf
    cases hf
  | succ n ih =>
    intro i1 m2 hf
    obtain ⟨z, hf, hz⟩ := zlp_el hf
    replace hf : t_X2_readFits_10  i1 m2 = some z := hf
    unfold t_X2_readFits_10 at hf
    refine z_iload_n C 1 dX2_readFits_10 rfl rfl ?_
    refine z_bipush C (v := 6) dX2_readFits_11 rfl ?_
    refine z_icmp_ge (tgt := 54) C dX2_readFits_13 (by decide) (fun c13 => ?_) (fun c13 => ?_)
    · replace hf := if_t c13 hf
      cases hf
      replace hz := zlz_r hz
      cases hz
      exact z_sub [0] rfl hk
    · replace hf := if_f c13 hf
      refine z_aload_n C 0 dX2_readFits_16 rfl rfl ?_
      refine z_getr C (t := 40) (Nat.le_of_ble_eq_true rfl) rfl rfl 2 (Nat.le_of_ble_eq_true rfl) rfl kiX2_readFits_X2 kfX2_readFits_9 dX2_readFits_17 ?_
      refine z_iload_n C 1 dX2_readFits_20 rfl rfl ?_
      refine z_aload_n C 0 dX2_readFits_21 rfl rfl ?_
      obtain ⟨b3, hb3, e_b3, hf⟩ := zbk_el hf
      refine z_getb C (b := b3) (Nat.le_of_ble_eq_true rfl) rfl rfl 1 (Nat.le_of_ble_eq_true rfl) rfl kiX2_readFits_X2 kfX2_readFits_28 (isb_lt hb3) e_b3 dX2_readFits_22 ?_
      refine z_iload_n C 1 dX2_readFits_25 rfl rfl ?_
      obtain ⟨r5, hc4, hf⟩ := zb_el hf
      refine z_cVi C (c_X0_hasShape _ _ hb3 hc4) rfl gX2_readFits_X0_hasShape rfl rfl zdX0_hasShape rfl (isb_k0 hb3) (isb_L0 hb3) rfl rfl ⟨Nat.le_of_ble_eq_true rfl, Nat.le_of_ble_eq_true rfl⟩ (Nat.le_of_ble_eq_true rfl) dX2_readFits_26 rfl ?_
      refine z_if_eq (tgt := 46) C dX2_readFits_29 (by decide) (fun c12 => ?_) (fun c12 => ?_)
      · replace hf := if_t c12 hf
        refine z_iconst C (v := 0) dX2_readFits_46 rfl ?_
        obtain ⟨hi6, hf⟩ := ck_el hf
        refine z_iast C (k := 40) (Nat.le_of_ble_eq_true rfl) rfl hi6 dX2_readFits_47 ?_
        refine z_nm (fun m7 e_m7 => ?_)
        replace hf := bn_to e_m7 hf
        obtain ⟨x8, e_x8⟩ : ∃ y : Int32, y = i1 + 1 := ⟨_, rfl⟩
        replace hf := bn_to e_x8 hf
        refine z_iinc C (lv2 := [(0, .ref ((zw K).2.1 39)), (1, .int x8)]) 1 [1, 0] dX2_readFits_48 rfl rfl (Nat.le_of_ble_eq_true rfl) e_x8 rfl ?_
        refine z_goto (tgt := 10) C dX2_readFits_51 (by decide) ?_
        cases hf
        exact z_sub [0, 1] rfl (ih x8 m7 hz)
      · replace hf := if_f c12 hf
        refine z_iconst C (v := 1) dX2_readFits_32 rfl ?_
        refine z_aload_n C 0 dX2_readFits_33 rfl rfl ?_
        refine z_getr C (t := 1) (Nat.le_of_ble_eq_true rfl) rfl rfl 0 (Nat.le_of_ble_eq_true rfl) rfl kiX2_readFits_X2 kfX2_readFits_24 dX2_readFits_34 ?_
        refine z_geti C (Nat.le_of_ble_eq_true rfl) rfl rfl 0 (Nat.le_of_ble_eq_true rfl) rfl kiX2_readFits_X1 kfX2_readFits_48 dX2_readFits_37 ?_
        refine z_ishl C dX2_readFits_40 ?_
        refine z_iconst C (v := 1) dX2_readFits_41 rfl ?_
        refine z_isub C dX2_readFits_42 ?_
        refine z_goto (tgt := 47) C dX2_readFits_43 (by decide) ?_
        obtain ⟨hi9, hf⟩ := ck_el hf
        refine z_iast C (k := 40) (Nat.le_of_ble_eq_true rfl) rfl hi9 dX2_readFits_47 ?_
        refine z_nm (fun m10 e_m10 => ?_)
        replace hf := bn_to e_m10 hf
        obtain ⟨x11, e_x11⟩ : ∃ y : Int32, y = i1 + 1 := ⟨_, rfl⟩
        replace hf := bn_to e_x11 hf
        refine z_iinc C (lv2 := [(0, .ref ((zw K).2.1 39)), (1, .int x11)]) 1 [1, 0] dX2_readFits_48 rfl rfl (Nat.le_of_ble_eq_true rfl) e_x11 rfl ?_
        refine z_goto (tgt := 10) C dX2_readFits_51 (by decide) ?_
        cases hf
        exact z_sub [0, 1] rfl (ih x11 m10 hz)
set_option maxRecDepth 100000 in
set_option maxHeartbeats 4000000 in
theorem w_X2_readFits_66 {K : ZK} (C : zOK MX K cX2_readFits 4 none RX2 wsX2_readFits rmX2_readFits) {i15 : Int32}  {o0 : Mem} (hk : zGo MX K o0 [(0, .ref ((zw K).2.1 39)), (1, .int i15)] 88 []) : ∀ (n : Nat) (i17 : Int32) (i18 : Int32) (m19 : Mem), l_X2_readFits_66 i15 n i17 i18 m19 = some o0 → zGo MX K m19 [(0, .ref ((zw K).2.1 39)), (1, .int i15), (2, .int i17), (3, .int i18)] 66 [] := by
  intro n
  induction n with
  | zero =>
    intro i17 i18 m19 hf
    cases hf
  | succ n ih =>
    intro i17 i18 m19 hf
    obtain ⟨z, hf, hz⟩ := zlp_el hf
    replace hf : t_X2_readFits_66 i15 i17 i18 m19 = some z := hf
    unfold t_X2_readFits_66 at hf
    refine z_iload_n C 2 dX2_readFits_66 rfl rfl ?_
    refine z_if_eq (tgt := 88) C dX2_readFits_67 (by decide) (fun c25 => ?_) (fun c25 => ?_)
    · replace hf := if_t c25 hf
      cases hf
      replace hz := zlz_r hz
      cases hz
      exact z_sub [0, 1] rfl hk
    · replace hf := if_f c25 hf
      refine z_iload_n C 3 dX2_readFits_70 rfl rfl ?_
      refine z_bipush C (v := 60) dX2_readFits_71 rfl ?_
      refine z_icmp_gt (tgt := 88) C dX2_readFits_73 (by decide) (fun c24 => ?_) (fun c24 => ?_)
      · replace hf := if_t c24 hf
        cases hf
        replace hz := zlz_r hz
        cases hz
        exact z_sub [0, 1] rfl hk
      · replace hf := if_f c24 hf
        refine z_aload_n C 0 dX2_readFits_76 rfl rfl ?_
        refine z_iload_n C 1 dX2_readFits_77 rfl rfl ?_
        obtain ⟨r21, m22, hc20, hf⟩ := zb2_el hf
        refine z_cVi C (c_X2_dropUnfit _ _ hc20) rfl gX2_readFits_X2_dropUnfit rfl rfl zdX2_dropUnfit rfl (Nat.le_of_ble_eq_true rfl) rfl rfl rfl ⟨Nat.le_of_ble_eq_true rfl, Nat.le_of_ble_eq_true rfl⟩ (Nat.le_of_ble_eq_true rfl) dX2_readFits_78 rfl ?_
        refine z_istore_n C (lv2 := [(0, .ref ((zw K).2.1 39)), (1, .int i15), (2, .int r21), (3, .int i18)]) [1, 2, 0, 3] dX2_readFits_81 rfl (Nat.le_of_ble_eq_true rfl) rfl ?_
        obtain ⟨x23, e_x23⟩ : ∃ y : Int32, y = i18 + 1 := ⟨_, rfl⟩
        replace hf := bn_to e_x23 hf
        refine z_iinc C (lv2 := [(0, .ref ((zw K).2.1 39)), (1, .int i15), (2, .int r21), (3, .int x23)]) 3 [1, 2, 3, 0] dX2_readFits_82 rfl rfl (Nat.le_of_ble_eq_true rfl) e_x23 rfl ?_
        refine z_goto (tgt := 66) C dX2_readFits_85 (by decide) ?_
        cases hf
        exact z_sub [0, 1, 2, 3] rfl (ih r21 x23 m22 hz)
set_option maxRecDepth 100000 in
set_option maxHeartbeats 4000000 in
theorem w_X2_readFits_56 {K : ZK} (C : zOK MX K cX2_readFits 4 none RX2 wsX2_readFits rmX2_readFits)   {o0 : Mem} (hk : zGo MX K o0 [(0, .ref ((zw K).2.1 39))] 94 []) : ∀ (n : Nat) (i15 : Int32) (m16 : Mem), l_X2_readFits_56  n i15 m16 = some o0 → zGo MX K m16 [(0, .ref ((zw K).2.1 39)), (1, .int i15)] 56 [] := by
  intro n
  induction n with
  | zero =>
    intro i15 m16 hf
    cases hf
  | succ n ih =>
    intro i15 m16 hf
    obtain ⟨z, hf, hz⟩ := zlp_el hf
    replace hf : t_X2_readFits_56  i15 m16 = some z := hf
    unfold t_X2_readFits_56 at hf
    refine z_iload_n C 1 dX2_readFits_56 rfl rfl ?_
    refine z_bipush C (v := 6) dX2_readFits_57 rfl ?_
    refine z_icmp_ge (tgt := 94) C dX2_readFits_59 (by decide) (fun c28 => ?_) (fun c28 => ?_)
    · replace hf := if_t c28 hf
      cases hf
      replace hz := zlz_r hz
      cases hz
      exact z_sub [0] rfl hk
    · replace hf := if_f c28 hf
      refine z_iconst C (v := 1) dX2_readFits_62 rfl ?_
      refine z_istore_n C (lv2 := [(0, .ref ((zw K).2.1 39)), (1, .int i15), (2, .int 1)]) [1, 2, 0] dX2_readFits_63 rfl (Nat.le_of_ble_eq_true rfl) rfl ?_
      refine z_iconst C (v := 0) dX2_readFits_64 rfl ?_
      refine z_istore_n C (lv2 := [(0, .ref ((zw K).2.1 39)), (1, .int i15), (2, .int 1), (3, .int 0)]) [1, 2, 3, 0] dX2_readFits_65 rfl (Nat.le_of_ble_eq_true rfl) rfl ?_
      obtain ⟨m26, hg, hf⟩ := zb_el hf
      refine z_sub [0, 1, 2, 3] rfl (w_X2_readFits_66 C  ?_ _ _ _ _ hg)
      clear hg
      obtain ⟨x27, e_x27⟩ : ∃ y : Int32, y = i15 + 1 := ⟨_, rfl⟩
      replace hf := bn_to e_x27 hf
      refine z_iinc C (lv2 := [(0, .ref ((zw K).2.1 39)), (1, .int x27)]) 1 [1, 0] dX2_readFits_88 rfl rfl (Nat.le_of_ble_eq_true rfl) e_x27 rfl ?_
      refine z_goto (tgt := 56) C dX2_readFits_91 (by decide) ?_
      cases hf
      exact z_sub [0, 1] rfl (ih x27 m26 hz)
set_option maxRecDepth 100000 in
set_option maxHeartbeats 4000000 in
theorem c_X2_readFits (l : Launch) (w : ZW) {m : Mem}  {m9 : Mem}  (hf : s_X2_readFits m  = some m9) : zCv MX l w yX2_readFits wsX2_readFits rmX2_readFits [.ref (w.2.1 39)] m m9 := by
  refine z_met_v MX_ok (own := RX2) (by decide +kernel) rfl rfl (Nat.le_of_ble_eq_true rfl) ?_
  intro K C hKw hKl hret
  subst hKw
  subst hKl
  unfold s_X2_readFits at hf
  show zGo MX K m [(0, .ref ((zw K).2.1 39))] 0 []
  refine z_aload_n C 0 dX2_readFits_0 rfl rfl ?_
  refine z_geti C (Nat.le_of_ble_eq_true rfl) rfl rfl 4 (Nat.le_of_ble_eq_true rfl) rfl kiX2_readFits_X2 kfX2_readFits_35 dX2_readFits_1 ?_
  refine z_if_eq (tgt := 8) C dX2_readFits_4 (by decide) (fun c31 => ?_) (fun c31 => ?_)
  · replace hf := if_t c31 hf
    refine z_iconst C (v := 0) dX2_readFits_8 rfl ?_
    refine z_istore_n C (lv2 := [(0, .ref ((zw K).2.1 39)), (1, .int 0)]) [1, 0] dX2_readFits_9 rfl (Nat.le_of_ble_eq_true rfl) rfl ?_
    obtain ⟨m14, hg, hf⟩ := zb_el hf
    refine z_sub [0, 1] rfl (w_X2_readFits_10 C  ?_ _ _ _ hg)
    clear hg
    refine z_iconst C (v := 0) dX2_readFits_54 rfl ?_
    refine z_istore_n C (lv2 := [(0, .ref ((zw K).2.1 39)), (1, .int 0)]) [1, 0] dX2_readFits_55 rfl (Nat.le_of_ble_eq_true rfl) rfl ?_
    obtain ⟨m29, hg, hf⟩ := zb_el hf
    refine z_sub [0, 1] rfl (w_X2_readFits_56 C  ?_ _ _ _ hg)
    clear hg
    refine z_aload_n C 0 dX2_readFits_94 rfl rfl ?_
    refine z_iconst C (v := 1) dX2_readFits_95 rfl ?_
    refine z_putz C (Nat.le_of_ble_eq_true rfl) rfl rfl 4 (Nat.le_of_ble_eq_true rfl) rfl kiX2_readFits_X2 kfX2_readFits_35 tyX2 tyX2_ok nmX2 rfl rfl (Or.inr rfl) dX2_readFits_96 ?_
    refine z_nm (fun m30 e_m30 => ?_)
    replace hf := bn_to e_m30 hf
    cases hf
    exact hret _ _ dX2_readFits_99
  · replace hf := if_f c31 hf
    cases hf
    exact hret _ _ dX2_readFits_7
set_option maxRecDepth 20000 in
theorem ggX2_readSure_X2_addSuiting : GoodIn wsX2_readSure wsX2_addSuiting := goodIn_sub (List.forall_mem_cons.mpr ⟨(List.mem_of_getElem? (i := 7) rfl), (List.forall_mem_append.mpr ⟨(List.forall_mem_append.mpr ⟨(List.forall_mem_append.mpr ⟨(List.forall_mem_append.mpr ⟨(show ∀ w ∈ wsX2_addSuiting_r1, w ∈ wsX2_readSure from (List.forall_mem_cons.mpr ⟨(List.mem_of_getElem? (i := 8) rfl), (List.forall_mem_cons.mpr ⟨(List.mem_of_getElem? (i := 9) rfl), (List.forall_mem_cons.mpr ⟨(List.mem_of_getElem? (i := 10) rfl), (List.forall_mem_cons.mpr ⟨(List.mem_of_getElem? (i := 11) rfl), (List.forall_mem_cons.mpr ⟨(List.mem_of_getElem? (i := 2) rfl), (List.forall_mem_cons.mpr ⟨(List.mem_of_getElem? (i := 12) rfl), (List.forall_mem_cons.mpr ⟨(List.mem_of_getElem? (i := 13) rfl), (List.forall_mem_cons.mpr ⟨(List.mem_of_getElem? (i := 14) rfl), (List.forall_mem_cons.mpr ⟨(List.mem_of_getElem? (i := 6) rfl), (List.forall_mem_cons.mpr ⟨(List.mem_of_getElem? (i := 15) rfl), (List.forall_mem_cons.mpr ⟨(List.mem_of_getElem? (i := 16) rfl), (List.forall_mem_cons.mpr ⟨(List.mem_of_getElem? (i := 17) rfl), (List.forall_mem_cons.mpr ⟨(List.mem_of_getElem? (i := 18) rfl), (List.forall_mem_cons.mpr ⟨(List.mem_of_getElem? (i := 19) rfl), (List.forall_mem_cons.mpr ⟨(List.mem_of_getElem? (i := 20) rfl), (List.forall_mem_cons.mpr ⟨(List.mem_of_getElem? (i := 21) rfl), (List.forall_mem_cons.mpr ⟨(List.mem_of_getElem? (i := 22) rfl), (List.forall_mem_cons.mpr ⟨(List.mem_of_getElem? (i := 23) rfl), (List.forall_mem_cons.mpr ⟨(List.mem_of_getElem? (i := 24) rfl), (List.forall_mem_cons.mpr ⟨(List.mem_of_getElem? (i := 25) rfl), (List.forall_mem_cons.mpr ⟨(List.mem_of_getElem? (i := 26) rfl), (List.forall_mem_cons.mpr ⟨(List.mem_of_getElem? (i := 27) rfl), (List.forall_mem_cons.mpr ⟨(List.mem_of_getElem? (i := 28) rfl), (List.forall_mem_cons.mpr ⟨(List.mem_of_getElem? (i := 29) rfl), (fun _ h => absurd h List.not_mem_nil)⟩)⟩)⟩)⟩)⟩)⟩)⟩)⟩)⟩)⟩)⟩)⟩)⟩)⟩)⟩)⟩)⟩)⟩)⟩)⟩)⟩)⟩)⟩)⟩)), (List.forall_mem_append.mpr ⟨(show ∀ w ∈ wsX2_addSuiting_r2, w ∈ wsX2_readSure from (List.forall_mem_cons.mpr ⟨(List.mem_of_getElem? (i := 30) rfl), (List.forall_mem_cons.mpr ⟨(List.mem_of_getElem? (i := 31) rfl), (List.forall_mem_cons.mpr ⟨(List.mem_of_getElem? (i := 32) rfl), (List.forall_mem_cons.mpr ⟨(List.mem_of_getElem? (i := 33) rfl), (List.forall_mem_cons.mpr ⟨(List.mem_of_getElem? (i := 34) rfl), (List.forall_mem_cons.mpr ⟨(List.mem_of_getElem? (i := 35) rfl), (List.forall_mem_cons.mpr ⟨(List.mem_of_getElem? (i := 36) rfl), (List.forall_mem_cons.mpr ⟨(List.mem_of_getElem? (i := 37) rfl), (List.forall_mem_cons.mpr ⟨(List.mem_of_getElem? (i := 38) rfl), (List.forall_mem_cons.mpr ⟨(List.mem_of_getElem? (i := 39) rfl), (List.forall_mem_cons.mpr ⟨(List.mem_of_getElem? (i := 40) rfl), (List.forall_mem_cons.mpr ⟨(List.mem_of_getElem? (i := 41) rfl), (List.forall_mem_cons.mpr ⟨(List.mem_of_getElem? (i := 42) rfl), (List.forall_mem_cons.mpr ⟨(List.mem_of_getElem? (i := 43) rfl), (List.forall_mem_cons.mpr ⟨(List.mem_of_getElem? (i := 44) rfl), (List.forall_mem_cons.mpr ⟨(List.mem_of_getElem? (i := 45) rfl), (List.forall_mem_cons.mpr ⟨(List.mem_of_getElem? (i := 46) rfl), (List.forall_mem_cons.mpr ⟨(List.mem_of_getElem? (i := 47) rfl), (List.forall_mem_cons.mpr ⟨(List.mem_of_getElem? (i := 48) rfl), (List.forall_mem_cons.mpr ⟨(List.mem_of_getElem? (i := 49) rfl), (List.forall_mem_cons.mpr ⟨(List.mem_of_getElem? (i := 50) rfl), (List.forall_mem_cons.mpr ⟨(List.mem_of_getElem? (i := 51) rfl), (List.forall_mem_cons.mpr ⟨(List.mem_of_getElem? (i := 52) rfl), (List.forall_mem_cons.mpr ⟨(List.mem_of_getElem? (i := 53) rfl), (fun _ h => absurd h List.not_mem_nil)⟩)⟩)⟩)⟩)⟩)⟩)⟩)⟩)⟩)⟩)⟩)⟩)⟩)⟩)⟩)⟩)⟩)⟩)⟩)⟩)⟩)⟩)⟩)⟩)), (show ∀ w ∈ wsX2_addSuiting_r3, w ∈ wsX2_readSure from (List.forall_mem_cons.mpr ⟨(List.mem_of_getElem? (i := 54) rfl), (List.forall_mem_cons.mpr ⟨(List.mem_of_getElem? (i := 55) rfl), (List.forall_mem_cons.mpr ⟨(List.mem_of_getElem? (i := 56) rfl), (List.forall_mem_cons.mpr ⟨(List.mem_of_getElem? (i := 57) rfl), (List.forall_mem_cons.mpr ⟨(List.mem_of_getElem? (i := 58) rfl), (List.forall_mem_cons.mpr ⟨(List.mem_of_getElem? (i := 59) rfl), (List.forall_mem_cons.mpr ⟨(List.mem_of_getElem? (i := 60) rfl), (List.forall_mem_cons.mpr ⟨(List.mem_of_getElem? (i := 61) rfl), (fun _ h => absurd h List.not_mem_nil)⟩)⟩)⟩)⟩)⟩)⟩)⟩)⟩))⟩)⟩), (fun _ h => (List.mem_cons_of_mem _ (List.mem_append_left _ (List.mem_append_left _ (List.mem_append_right _ h)))))⟩), (fun _ h => (List.mem_cons_of_mem _ (List.mem_append_left _ (List.mem_append_right _ h))))⟩), (fun _ h => (List.mem_cons_of_mem _ (List.mem_append_right _ h)))⟩)⟩) (by decide +kernel)
set_option maxRecDepth 20000 in
theorem gX2_readSure_X2_addSuiting : GoodIn wsX2_readSure (wsV RX2 67 RX2 yX2_addSuiting wsX2_addSuiting) := goodIn_app (goodIn_sub (List.forall_mem_cons.mpr ⟨(List.mem_of_getElem? (i := 3) rfl), (List.forall_mem_cons.mpr ⟨(List.mem_of_getElem? (i := 4) rfl), (List.forall_mem_cons.mpr ⟨(List.mem_of_getElem? (i := 5) rfl), (List.forall_mem_cons.mpr ⟨(List.mem_of_getElem? (i := 6) rfl), (fun _ h => absurd h List.not_mem_nil)⟩)⟩)⟩)⟩) (by decide +kernel)) ggX2_readSure_X2_addSuiting
theorem dX2_readSure_0 : decode cX2_readSure 0 = .ok (.aload_n 0, 1) := by decide +kernel
theorem dX2_readSure_1 : decode cX2_readSure 1 = .ok (.getfield 39, 3) := by decide +kernel
theorem dX2_readSure_4 : decode cX2_readSure 4 = .ok (.ifCond .eq 4, 3) := by decide +kernel
theorem dX2_readSure_7 : decode cX2_readSure 7 = .ok (.return_, 1) := by decide +kernel
theorem dX2_readSure_8 : decode cX2_readSure 8 = .ok (.iconst 0, 1) := by decide +kernel
theorem dX2_readSure_9 : decode cX2_readSure 9 = .ok (.istore_n 1, 1) := by decide +kernel
theorem dX2_readSure_10 : decode cX2_readSure 10 = .ok (.iload_n 1, 1) := by decide +kernel
theorem dX2_readSure_11 : decode cX2_readSure 11 = .ok (.bipush 6, 2) := by decide +kernel
theorem dX2_readSure_13 : decode cX2_readSure 13 = .ok (.if_icmp .ge 16, 3) := by decide +kernel
theorem dX2_readSure_16 : decode cX2_readSure 16 = .ok (.aload_n 0, 1) := by decide +kernel
theorem dX2_readSure_17 : decode cX2_readSure 17 = .ok (.getfield 15, 3) := by decide +kernel
theorem dX2_readSure_20 : decode cX2_readSure 20 = .ok (.iload_n 1, 1) := by decide +kernel
theorem dX2_readSure_21 : decode cX2_readSure 21 = .ok (.iconst 0, 1) := by decide +kernel
theorem dX2_readSure_22 : decode cX2_readSure 22 = .ok (.iastore, 1) := by decide +kernel
theorem dX2_readSure_23 : decode cX2_readSure 23 = .ok (.iinc 1 1, 3) := by decide +kernel
theorem dX2_readSure_26 : decode cX2_readSure 26 = .ok (.goto (-16), 3) := by decide +kernel
theorem dX2_readSure_29 : decode cX2_readSure 29 = .ok (.iconst 1, 1) := by decide +kernel
theorem dX2_readSure_30 : decode cX2_readSure 30 = .ok (.istore_n 1, 1) := by decide +kernel
theorem dX2_readSure_31 : decode cX2_readSure 31 = .ok (.iconst 0, 1) := by decide +kernel
theorem dX2_readSure_32 : decode cX2_readSure 32 = .ok (.istore_n 2, 1) := by decide +kernel
theorem dX2_readSure_33 : decode cX2_readSure 33 = .ok (.iload_n 1, 1) := by decide +kernel
theorem dX2_readSure_34 : decode cX2_readSure 34 = .ok (.ifCond .eq 20, 3) := by decide +kernel
theorem dX2_readSure_37 : decode cX2_readSure 37 = .ok (.iload_n 2, 1) := by decide +kernel
theorem dX2_readSure_38 : decode cX2_readSure 38 = .ok (.bipush 60, 2) := by decide +kernel
theorem dX2_readSure_40 : decode cX2_readSure 40 = .ok (.if_icmp .gt 14, 3) := by decide +kernel
theorem dX2_readSure_43 : decode cX2_readSure 43 = .ok (.aload_n 0, 1) := by decide +kernel
theorem dX2_readSure_44 : decode cX2_readSure 44 = .ok (.invokevirtual 67, 3) := by decide +kernel
theorem dX2_readSure_47 : decode cX2_readSure 47 = .ok (.istore_n 1, 1) := by decide +kernel
theorem dX2_readSure_48 : decode cX2_readSure 48 = .ok (.iinc 2 1, 3) := by decide +kernel
theorem dX2_readSure_51 : decode cX2_readSure 51 = .ok (.goto (-18), 3) := by decide +kernel
theorem dX2_readSure_54 : decode cX2_readSure 54 = .ok (.aload_n 0, 1) := by decide +kernel
theorem dX2_readSure_55 : decode cX2_readSure 55 = .ok (.iconst 1, 1) := by decide +kernel
theorem dX2_readSure_56 : decode cX2_readSure 56 = .ok (.putfield 39, 3) := by decide +kernel
theorem dX2_readSure_59 : decode cX2_readSure 59 = .ok (.return_, 1) := by decide +kernel
def rmX2_readSure : Room := { frames := 5, cells := 0, slots := 0, locals := 126 }
theorem zdX2_readSure : yX2_readSure.cls = RX2 ∧ yX2_readSure.cls ≠ "java/lang/invoke/MethodHandle" ∧ yX2_readSure.cls ≠ "java/lang/invoke/VarHandle" ∧ (parseMethodDescriptor yX2_readSure.desc).map (fun d => d.parameters.length) = some 0 := by decide +kernel
theorem kiX2_readSure_X2 : ∀ w ∈ wsX20, w ∈ wsX2_readSure := fun _ h => (List.mem_cons_of_mem _ (List.mem_append_left _ (List.mem_append_left _ (List.mem_append_right _ h))))
theorem kfX2_readSure_39 : Cond.fieldLink RX2 39 "ShapeJudge$Judge" "sureIsRead" "Z" ∈ wsX2_readSure := (List.mem_of_getElem? (i := 1) rfl)
theorem kfX2_readSure_15 : Cond.fieldLink RX2 15 "ShapeJudge$Judge" "sure" "[I" ∈ wsX2_readSure := (List.mem_of_getElem? (i := 2) rfl)
def t_X2_readSure_10  (i1 : Int32) (m2 : Mem) : Option ((Int32 × Mem) ⊕ (Mem)) :=
  (if 6 ≤ i1 then (some (.inr m2)) else (ck (zin i1 6 = true) (bn (sto m2 41 (Int32.toNatClampNeg i1) 0) fun m4 => bn (i1 + 1) fun x5 => some (.inl (x5, m4)))))
def l_X2_readSure_10  (n : Nat) (i1 : Int32) (m2 : Mem) : Option (Mem) := zlp n (fun a => t_X2_readSure_10  a.1 a.2) (i1, m2)
def t_X2_readSure_33  (i8 : Int32) (i9 : Int32) (m10 : Mem) : Option ((Int32 × Int32 × Mem) ⊕ (Mem)) :=
  (if i8 = 0 then (some (.inr m10)) else ((if 60 < i9 then (some (.inr m10)) else (zb2 (s_X2_addSuiting m10) fun r12 m13 => bn (i9 + 1) fun x14 => some (.inl (r12, x14, m13))))))
def l_X2_readSure_33  (n : Nat) (i8 : Int32) (i9 : Int32) (m10 : Mem) : Option (Mem) := zlp n (fun a => t_X2_readSure_33  a.1 a.2.1 a.2.2) (i8, i9, m10)
def s_X2_readSure (m : Mem)  : Option (Mem) :=
  (if (m 39 5) = 0 then (((l_X2_readSure_10  FU 0 m).bind fun m7 => ((l_X2_readSure_33  FU 1 0 m7).bind fun m17 => bn (sto m17 39 5 1) fun m18 => some m18))) else (some m))
set_option maxRecDepth 100000 in
set_option maxHeartbeats 4000000 in
theorem w_X2_readSure_10 {K : ZK} (C : zOK MX K cX2_readSure 3 none RX2 wsX2_readSure rmX2_readSure)   {o0 : Mem} (hk : zGo MX K o0 [(0, .ref ((zw K).2.1 39))] 29 []) : ∀ (n : Nat) (i1 : Int32) (m2 : Mem), l_X2_readSure_10  n i1 m2 = some o0 → zGo MX K m2 [(0, .ref ((zw K).2.1 39)), (1, .int i1)] 10 [] := by
  intro n
  induction n with
  | zero =>
    intro i1 m2 hf
    cases hf
  | succ n ih =>
    intro i1 m2 hf
    obtain ⟨z, hf, hz⟩ := zlp_el hf
    replace hf : t_X2_readSure_10  i1 m2 = some z := hf
    unfold t_X2_readSure_10 at hf
    refine z_iload_n C 1 dX2_readSure_10 rfl rfl ?_
    refine z_bipush C (v := 6) dX2_readSure_11 rfl ?_
    refine z_icmp_ge (tgt := 29) C dX2_readSure_13 (by decide) (fun c6 => ?_) (fun c6 => ?_)
    · replace hf := if_t c6 hf
      cases hf
      replace hz := zlz_r hz
      cases hz
      exact z_sub [0] rfl hk
    · replace hf := if_f c6 hf
      refine z_aload_n C 0 dX2_readSure_16 rfl rfl ?_
      refine z_getr C (t := 41) (Nat.le_of_ble_eq_true rfl) rfl rfl 3 (Nat.le_of_ble_eq_true rfl) rfl kiX2_readSure_X2 kfX2_readSure_15 dX2_readSure_17 ?_
      refine z_iload_n C 1 dX2_readSure_20 rfl rfl ?_
      refine z_iconst C (v := 0) dX2_readSure_21 rfl ?_
      obtain ⟨hi3, hf⟩ := ck_el hf
      refine z_iast C (k := 41) (Nat.le_of_ble_eq_true rfl) rfl hi3 dX2_readSure_22 ?_
      refine z_nm (fun m4 e_m4 => ?_)
      replace hf := bn_to e_m4 hf
      obtain ⟨x5, e_x5⟩ : ∃ y : Int32, y = i1 + 1 := ⟨_, rfl⟩
      replace hf := bn_to e_x5 hf
      refine z_iinc C (lv2 := [(0, .ref ((zw K).2.1 39)), (1, .int x5)]) 1 [1, 0] dX2_readSure_23 rfl rfl (Nat.le_of_ble_eq_true rfl) e_x5 rfl ?_
      refine z_goto (tgt := 10) C dX2_readSure_26 (by decide) ?_
      cases hf
      exact z_sub [0, 1] rfl (ih x5 m4 hz)
set_option maxRecDepth 100000 in
set_option maxHeartbeats 4000000 in
theorem w_X2_readSure_33 {K : ZK} (C : zOK MX K cX2_readSure 3 none RX2 wsX2_readSure rmX2_readSure)   {o0 : Mem} (hk : zGo MX K o0 [(0, .ref ((zw K).2.1 39))] 54 []) : ∀ (n : Nat) (i8 : Int32) (i9 : Int32) (m10 : Mem), l_X2_readSure_33  n i8 i9 m10 = some o0 → zGo MX K m10 [(0, .ref ((zw K).2.1 39)), (1, .int i8), (2, .int i9)] 33 [] := by
  intro n
  induction n with
  | zero =>
    intro i8 i9 m10 hf
    cases hf
  | succ n ih =>
    intro i8 i9 m10 hf
    obtain ⟨z, hf, hz⟩ := zlp_el hf
    replace hf : t_X2_readSure_33  i8 i9 m10 = some z := hf
    unfold t_X2_readSure_33 at hf
    refine z_iload_n C 1 dX2_readSure_33 rfl rfl ?_
    refine z_if_eq (tgt := 54) C dX2_readSure_34 (by decide) (fun c16 => ?_) (fun c16 => ?_)
    · replace hf := if_t c16 hf
      cases hf
      replace hz := zlz_r hz
      cases hz
      exact z_sub [0] rfl hk
    · replace hf := if_f c16 hf
      refine z_iload_n C 2 dX2_readSure_37 rfl rfl ?_
      refine z_bipush C (v := 60) dX2_readSure_38 rfl ?_
      refine z_icmp_gt (tgt := 54) C dX2_readSure_40 (by decide) (fun c15 => ?_) (fun c15 => ?_)
      · replace hf := if_t c15 hf
        cases hf
        replace hz := zlz_r hz
        cases hz
        exact z_sub [0] rfl hk
      · replace hf := if_f c15 hf
        refine z_aload_n C 0 dX2_readSure_43 rfl rfl ?_
        obtain ⟨r12, m13, hc11, hf⟩ := zb2_el hf
        refine z_cVi C (c_X2_addSuiting _ _ hc11) rfl gX2_readSure_X2_addSuiting rfl rfl zdX2_addSuiting rfl (Nat.le_of_ble_eq_true rfl) rfl rfl rfl ⟨Nat.le_of_ble_eq_true rfl, Nat.le_of_ble_eq_true rfl⟩ (Nat.le_of_ble_eq_true rfl) dX2_readSure_44 rfl ?_
        refine z_istore_n C (lv2 := [(0, .ref ((zw K).2.1 39)), (1, .int r12), (2, .int i9)]) [1, 0, 2] dX2_readSure_47 rfl (Nat.le_of_ble_eq_true rfl) rfl ?_
        obtain ⟨x14, e_x14⟩ : ∃ y : Int32, y = i9 + 1 := ⟨_, rfl⟩
        replace hf := bn_to e_x14 hf
        refine z_iinc C (lv2 := [(0, .ref ((zw K).2.1 39)), (1, .int r12), (2, .int x14)]) 2 [1, 2, 0] dX2_readSure_48 rfl rfl (Nat.le_of_ble_eq_true rfl) e_x14 rfl ?_
        refine z_goto (tgt := 33) C dX2_readSure_51 (by decide) ?_
        cases hf
        exact z_sub [0, 1, 2] rfl (ih r12 x14 m13 hz)
set_option maxRecDepth 100000 in
set_option maxHeartbeats 4000000 in
theorem c_X2_readSure (l : Launch) (w : ZW) {m : Mem}  {m9 : Mem}  (hf : s_X2_readSure m  = some m9) : zCv MX l w yX2_readSure wsX2_readSure rmX2_readSure [.ref (w.2.1 39)] m m9 := by
  refine z_met_v MX_ok (own := RX2) (by decide +kernel) rfl rfl (Nat.le_of_ble_eq_true rfl) ?_
  intro K C hKw hKl hret
  subst hKw
  subst hKl
  unfold s_X2_readSure at hf
  show zGo MX K m [(0, .ref ((zw K).2.1 39))] 0 []
  refine z_aload_n C 0 dX2_readSure_0 rfl rfl ?_
  refine z_geti C (Nat.le_of_ble_eq_true rfl) rfl rfl 5 (Nat.le_of_ble_eq_true rfl) rfl kiX2_readSure_X2 kfX2_readSure_39 dX2_readSure_1 ?_
  refine z_if_eq (tgt := 8) C dX2_readSure_4 (by decide) (fun c19 => ?_) (fun c19 => ?_)
  · replace hf := if_t c19 hf
    refine z_iconst C (v := 0) dX2_readSure_8 rfl ?_
    refine z_istore_n C (lv2 := [(0, .ref ((zw K).2.1 39)), (1, .int 0)]) [1, 0] dX2_readSure_9 rfl (Nat.le_of_ble_eq_true rfl) rfl ?_
    obtain ⟨m7, hg, hf⟩ := zb_el hf
    refine z_sub [0, 1] rfl (w_X2_readSure_10 C  ?_ _ _ _ hg)
    clear hg
    refine z_iconst C (v := 1) dX2_readSure_29 rfl ?_
    refine z_istore_n C (lv2 := [(0, .ref ((zw K).2.1 39)), (1, .int 1)]) [1, 0] dX2_readSure_30 rfl (Nat.le_of_ble_eq_true rfl) rfl ?_
    refine z_iconst C (v := 0) dX2_readSure_31 rfl ?_
    refine z_istore_n C (lv2 := [(0, .ref ((zw K).2.1 39)), (1, .int 1), (2, .int 0)]) [1, 2, 0] dX2_readSure_32 rfl (Nat.le_of_ble_eq_true rfl) rfl ?_
    obtain ⟨m17, hg, hf⟩ := zb_el hf
    refine z_sub [0, 1, 2] rfl (w_X2_readSure_33 C  ?_ _ _ _ _ hg)
    clear hg
    refine z_aload_n C 0 dX2_readSure_54 rfl rfl ?_
    refine z_iconst C (v := 1) dX2_readSure_55 rfl ?_
    refine z_putz C (Nat.le_of_ble_eq_true rfl) rfl rfl 5 (Nat.le_of_ble_eq_true rfl) rfl kiX2_readSure_X2 kfX2_readSure_39 tyX2 tyX2_ok nmX2 rfl rfl (Or.inr rfl) dX2_readSure_56 ?_
    refine z_nm (fun m18 e_m18 => ?_)
    replace hf := bn_to e_m18 hf
    cases hf
    exact hret _ _ dX2_readSure_59
  · replace hf := if_f c19 hf
    cases hf
    exact hret _ _ dX2_readSure_7
set_option maxRecDepth 20000 in
theorem ggX2_surplusEdges_X2_readFits : GoodIn wsX2_surplusEdges wsX2_readFits := goodIn_sub (List.forall_mem_cons.mpr ⟨(List.mem_of_getElem? (i := 10) rfl), (List.forall_mem_append.mpr ⟨(List.forall_mem_append.mpr ⟨(List.forall_mem_append.mpr ⟨(List.forall_mem_append.mpr ⟨(show ∀ w ∈ wsX2_readFits_r1, w ∈ wsX2_surplusEdges from (List.forall_mem_cons.mpr ⟨(List.mem_of_getElem? (i := 11) rfl), (List.forall_mem_cons.mpr ⟨(List.mem_of_getElem? (i := 1) rfl), (List.forall_mem_cons.mpr ⟨(List.mem_of_getElem? (i := 12) rfl), (List.forall_mem_cons.mpr ⟨(List.mem_of_getElem? (i := 2) rfl), (List.forall_mem_cons.mpr ⟨(List.mem_of_getElem? (i := 13) rfl), (List.forall_mem_cons.mpr ⟨(List.mem_of_getElem? (i := 14) rfl), (List.forall_mem_cons.mpr ⟨(List.mem_of_getElem? (i := 15) rfl), (List.forall_mem_cons.mpr ⟨(List.mem_of_getElem? (i := 16) rfl), (List.forall_mem_cons.mpr ⟨(List.mem_of_getElem? (i := 17) rfl), (List.forall_mem_cons.mpr ⟨(List.mem_of_getElem? (i := 18) rfl), (List.forall_mem_cons.mpr ⟨(List.mem_of_getElem? (i := 19) rfl), (List.forall_mem_cons.mpr ⟨(List.mem_of_getElem? (i := 20) rfl), (List.forall_mem_cons.mpr ⟨(List.mem_of_getElem? (i := 21) rfl), (List.forall_mem_cons.mpr ⟨(List.mem_of_getElem? (i := 22) rfl), (List.forall_mem_cons.mpr ⟨(List.mem_of_getElem? (i := 9) rfl), (List.forall_mem_cons.mpr ⟨(List.mem_of_getElem? (i := 23) rfl), (List.forall_mem_cons.mpr ⟨(List.mem_of_getElem? (i := 24) rfl), (List.forall_mem_cons.mpr ⟨(List.mem_of_getElem? (i := 25) rfl), (List.forall_mem_cons.mpr ⟨(List.mem_of_getElem? (i := 26) rfl), (List.forall_mem_cons.mpr ⟨(List.mem_of_getElem? (i := 27) rfl), (List.forall_mem_cons.mpr ⟨(List.mem_of_getElem? (i := 28) rfl), (List.forall_mem_cons.mpr ⟨(List.mem_of_getElem? (i := 29) rfl), (List.forall_mem_cons.mpr ⟨(List.mem_of_getElem? (i := 30) rfl), (List.forall_mem_cons.mpr ⟨(List.mem_of_getElem? (i := 31) rfl), (fun _ h => absurd h List.not_mem_nil)⟩)⟩)⟩)⟩)⟩)⟩)⟩)⟩)⟩)⟩)⟩)⟩)⟩)⟩)⟩)⟩)⟩)⟩)⟩)⟩)⟩)⟩)⟩)⟩)), (List.forall_mem_append.mpr ⟨(show ∀ w ∈ wsX2_readFits_r2, w ∈ wsX2_surplusEdges from (List.forall_mem_cons.mpr ⟨(List.mem_of_getElem? (i := 32) rfl), (List.forall_mem_cons.mpr ⟨(List.mem_of_getElem? (i := 33) rfl), (List.forall_mem_cons.mpr ⟨(List.mem_of_getElem? (i := 34) rfl), (List.forall_mem_cons.mpr ⟨(List.mem_of_getElem? (i := 3) rfl), (List.forall_mem_cons.mpr ⟨(List.mem_of_getElem? (i := 35) rfl), (List.forall_mem_cons.mpr ⟨(List.mem_of_getElem? (i := 36) rfl), (List.forall_mem_cons.mpr ⟨(List.mem_of_getElem? (i := 37) rfl), (List.forall_mem_cons.mpr ⟨(List.mem_of_getElem? (i := 38) rfl), (List.forall_mem_cons.mpr ⟨(List.mem_of_getElem? (i := 39) rfl), (List.forall_mem_cons.mpr ⟨(List.mem_of_getElem? (i := 40) rfl), (List.forall_mem_cons.mpr ⟨(List.mem_of_getElem? (i := 4) rfl), (List.forall_mem_cons.mpr ⟨(List.mem_of_getElem? (i := 5) rfl), (List.forall_mem_cons.mpr ⟨(List.mem_of_getElem? (i := 41) rfl), (List.forall_mem_cons.mpr ⟨(List.mem_of_getElem? (i := 42) rfl), (List.forall_mem_cons.mpr ⟨(List.mem_of_getElem? (i := 43) rfl), (List.forall_mem_cons.mpr ⟨(List.mem_of_getElem? (i := 44) rfl), (List.forall_mem_cons.mpr ⟨(List.mem_of_getElem? (i := 45) rfl), (List.forall_mem_cons.mpr ⟨(List.mem_of_getElem? (i := 46) rfl), (List.forall_mem_cons.mpr ⟨(List.mem_of_getElem? (i := 47) rfl), (List.forall_mem_cons.mpr ⟨(List.mem_of_getElem? (i := 48) rfl), (List.forall_mem_cons.mpr ⟨(List.mem_of_getElem? (i := 49) rfl), (List.forall_mem_cons.mpr ⟨(List.mem_of_getElem? (i := 50) rfl), (List.forall_mem_cons.mpr ⟨(List.mem_of_getElem? (i := 51) rfl), (List.forall_mem_cons.mpr ⟨(List.mem_of_getElem? (i := 52) rfl), (fun _ h => absurd h List.not_mem_nil)⟩)⟩)⟩)⟩)⟩)⟩)⟩)⟩)⟩)⟩)⟩)⟩)⟩)⟩)⟩)⟩)⟩)⟩)⟩)⟩)⟩)⟩)⟩)⟩)), (show ∀ w ∈ wsX2_readFits_r3, w ∈ wsX2_surplusEdges from (List.forall_mem_cons.mpr ⟨(List.mem_of_getElem? (i := 53) rfl), (List.forall_mem_cons.mpr ⟨(List.mem_of_getElem? (i := 54) rfl), (List.forall_mem_cons.mpr ⟨(List.mem_of_getElem? (i := 55) rfl), (List.forall_mem_cons.mpr ⟨(List.mem_of_getElem? (i := 56) rfl), (List.forall_mem_cons.mpr ⟨(List.mem_of_getElem? (i := 57) rfl), (List.forall_mem_cons.mpr ⟨(List.mem_of_getElem? (i := 58) rfl), (List.forall_mem_cons.mpr ⟨(List.mem_of_getElem? (i := 59) rfl), (List.forall_mem_cons.mpr ⟨(List.mem_of_getElem? (i := 60) rfl), (List.forall_mem_cons.mpr ⟨(List.mem_of_getElem? (i := 61) rfl), (List.forall_mem_cons.mpr ⟨(List.mem_of_getElem? (i := 62) rfl), (List.forall_mem_cons.mpr ⟨(List.mem_of_getElem? (i := 63) rfl), (List.forall_mem_cons.mpr ⟨(List.mem_of_getElem? (i := 64) rfl), (List.forall_mem_cons.mpr ⟨(List.mem_of_getElem? (i := 65) rfl), (List.forall_mem_cons.mpr ⟨(List.mem_of_getElem? (i := 66) rfl), (List.forall_mem_cons.mpr ⟨(List.mem_of_getElem? (i := 67) rfl), (List.forall_mem_cons.mpr ⟨(List.mem_of_getElem? (i := 68) rfl), (List.forall_mem_cons.mpr ⟨(List.mem_of_getElem? (i := 69) rfl), (List.forall_mem_cons.mpr ⟨(List.mem_of_getElem? (i := 70) rfl), (List.forall_mem_cons.mpr ⟨(List.mem_of_getElem? (i := 71) rfl), (fun _ h => absurd h List.not_mem_nil)⟩)⟩)⟩)⟩)⟩)⟩)⟩)⟩)⟩)⟩)⟩)⟩)⟩)⟩)⟩)⟩)⟩)⟩)⟩))⟩)⟩), (fun _ h => (List.mem_cons_of_mem _ (List.mem_append_left _ (List.mem_append_left _ (List.mem_append_right _ h)))))⟩), (fun _ h => (List.mem_cons_of_mem _ (List.mem_append_left _ (List.mem_append_right _ h))))⟩), (fun _ h => (List.mem_cons_of_mem _ (List.mem_append_right _ h)))⟩)⟩) (by decide +kernel)
set_option maxRecDepth 20000 in
theorem gX2_surplusEdges_X2_readFits : GoodIn wsX2_surplusEdges (wsV RX2 151 RX2 yX2_readFits wsX2_readFits) := goodIn_app (goodIn_sub (List.forall_mem_cons.mpr ⟨(List.mem_of_getElem? (i := 6) rfl), (List.forall_mem_cons.mpr ⟨(List.mem_of_getElem? (i := 7) rfl), (List.forall_mem_cons.mpr ⟨(List.mem_of_getElem? (i := 8) rfl), (List.forall_mem_cons.mpr ⟨(List.mem_of_getElem? (i := 9) rfl), (fun _ h => absurd h List.not_mem_nil)⟩)⟩)⟩)⟩) (by decide +kernel)) ggX2_surplusEdges_X2_readFits
set_option maxRecDepth 20000 in
theorem ggX2_surplusEdges_J6_bitCount_0f7a4 : GoodIn wsX2_surplusEdges wsJ6_bitCount_0f7a4 := goodIn_sub (List.forall_mem_cons.mpr ⟨(List.mem_of_getElem? (i := 75) rfl), (List.forall_mem_cons.mpr ⟨(List.mem_of_getElem? (i := 76) rfl), (List.forall_mem_cons.mpr ⟨(List.mem_of_getElem? (i := 77) rfl), (List.forall_mem_cons.mpr ⟨(List.mem_of_getElem? (i := 78) rfl), (fun _ h => absurd h List.not_mem_nil)⟩)⟩)⟩)⟩) (by decide +kernel)
set_option maxRecDepth 20000 in
theorem gX2_surplusEdges_J6_bitCount_0f7a4 : GoodIn wsX2_surplusEdges (va_wsS RX2 154 yJ6_bitCount_0f7a4 wsJ6_bitCount_0f7a4) := goodIn_app (goodIn_sub (List.forall_mem_cons.mpr ⟨(List.mem_of_getElem? (i := 72) rfl), (List.forall_mem_cons.mpr ⟨(List.mem_of_getElem? (i := 73) rfl), (List.forall_mem_cons.mpr ⟨(List.mem_of_getElem? (i := 74) rfl), (fun _ h => absurd h List.not_mem_nil)⟩)⟩)⟩) (by decide +kernel)) ggX2_surplusEdges_J6_bitCount_0f7a4
set_option maxRecDepth 20000 in
theorem ggX2_surplusEdges_X2_forget : GoodIn wsX2_surplusEdges wsX2_forget := goodIn_sub (List.forall_mem_cons.mpr ⟨(List.mem_of_getElem? (i := 82) rfl), (List.forall_mem_append.mpr ⟨(List.forall_mem_cons.mpr ⟨(List.mem_of_getElem? (i := 11) rfl), (List.forall_mem_cons.mpr ⟨(List.mem_of_getElem? (i := 83) rfl), (fun _ h => absurd h List.not_mem_nil)⟩)⟩), (fun _ h => (List.mem_cons_of_mem _ (List.mem_append_left _ (List.mem_append_left _ (List.mem_append_right _ h)))))⟩)⟩) (by decide +kernel)
set_option maxRecDepth 20000 in
theorem gX2_surplusEdges_X2_forget : GoodIn wsX2_surplusEdges (wsV RX2 32 RX2 yX2_forget wsX2_forget) := goodIn_app (goodIn_sub (List.forall_mem_cons.mpr ⟨(List.mem_of_getElem? (i := 79) rfl), (List.forall_mem_cons.mpr ⟨(List.mem_of_getElem? (i := 80) rfl), (List.forall_mem_cons.mpr ⟨(List.mem_of_getElem? (i := 81) rfl), (List.forall_mem_cons.mpr ⟨(List.mem_of_getElem? (i := 9) rfl), (fun _ h => absurd h List.not_mem_nil)⟩)⟩)⟩)⟩) (by decide +kernel)) ggX2_surplusEdges_X2_forget
set_option maxRecDepth 100000 in
theorem daX2_surplusEdges : ∀ q ∈ ([(0, .aload_n 0, 1), (1, .invokevirtual 151, 3), (4, .aload_n 0, 1), (5, .getfield 9, 3), (8, .iload_n 2, 1), (9, .iaload, 1), (10, .iload_n 1, 1), (11, .ishr, 1), (12, .iconst 1, 1), (13, .iand, 1), (14, .ifCond .eq 5, 3), (17, .iconst 0, 1), (18, .ireturn, 1), (19, .bipush (-4), 2), (21, .istore_n 3, 1), (22, .iconst 1, 1), (23, .aload_n 0, 1), (24, .getfield 24, 3), (27, .getfield 71, 3), (30, .iload_n 1, 1), (31, .iaload, 1), (32, .ishl, 1), (33, .istore 4, 2), (35, .aload_n 0, 1), (36, .iload_n 1, 1), (37, .putfield 74, 3), (40, .iconst 1, 1), (41, .istore 5, 2), (43, .iload 5, 2), (45, .iconst 2, 1), (46, .if_icmp .gt 82, 3), (49, .iload_n 3, 1), (50, .bipush (-4), 2), (52, .if_icmp .ne 76, 3), (55, .iconst 1, 1), (56, .istore 6, 2), (58, .iload 6, 2), (60, .iload 4, 2), (62, .if_icmp .ge 60, 3), (65, .iload_n 3, 1), (66, .bipush (-4), 2), (68, .if_icmp .ne 54, 3), (71, .iload 6, 2), (73, .invokestatic 154, 3), (76, .iload 5, 2), (78, .if_icmp .ne 38, 3), (81, .aload_n 0, 1), (82, .iload 6, 2), (84, .putfield 77, 3), (87, .aload_n 0, 1), (88, .invokevirtual 32, 3), (91, .aload_n 0, 1), (92, .invokevirtual 151, 3), (95, .aload_n 0, 1), (96, .getfield 9, 3), (99, .iload_n 2, 1), (100, .iaload, 1), (101, .iload_n 1, 1), (102, .ishr, 1), (103, .iconst 1, 1), (104, .iand, 1), (105, .ifCond .eq 8, 3), (108, .iload 6, 2), (110, .goto 5, 3), (113, .bipush (-4), 2), (115, .istore_n 3, 1), (116, .iinc 6 1, 3), (119, .goto (-61), 3), (122, .iinc 5 1, 3), (125, .goto (-82), 3), (128, .aload_n 0, 1), (129, .iconst 0, 1), (130, .putfield 77, 3), (133, .aload_n 0, 1), (134, .invokevirtual 32, 3), (137, .iload_n 3, 1), (138, .ireturn, 1)] : List (Nat × Instr × Nat)), decode cX2_surplusEdges q.1 = .ok q.2 := by decide +kernel
theorem dX2_surplusEdges_0 : decode cX2_surplusEdges 0 = .ok (.aload_n 0, 1) := daX2_surplusEdges (0, .aload_n 0, 1) (List.mem_of_getElem? (i := 0) rfl)
theorem dX2_surplusEdges_1 : decode cX2_surplusEdges 1 = .ok (.invokevirtual 151, 3) := daX2_surplusEdges (1, .invokevirtual 151, 3) (List.mem_of_getElem? (i := 1) rfl)
theorem dX2_surplusEdges_4 : decode cX2_surplusEdges 4 = .ok (.aload_n 0, 1) := daX2_surplusEdges (4, .aload_n 0, 1) (List.mem_of_getElem? (i := 2) rfl)
theorem dX2_surplusEdges_5 : decode cX2_surplusEdges 5 = .ok (.getfield 9, 3) := daX2_surplusEdges (5, .getfield 9, 3) (List.mem_of_getElem? (i := 3) rfl)
theorem dX2_surplusEdges_8 : decode cX2_surplusEdges 8 = .ok (.iload_n 2, 1) := daX2_surplusEdges (8, .iload_n 2, 1) (List.mem_of_getElem? (i := 4) rfl)
theorem dX2_surplusEdges_9 : decode cX2_surplusEdges 9 = .ok (.iaload, 1) := daX2_surplusEdges (9, .iaload, 1) (List.mem_of_getElem? (i := 5) rfl)
theorem dX2_surplusEdges_10 : decode cX2_surplusEdges 10 = .ok (.iload_n 1, 1) := daX2_surplusEdges (10, .iload_n 1, 1) (List.mem_of_getElem? (i := 6) rfl)
theorem dX2_surplusEdges_11 : decode cX2_surplusEdges 11 = .ok (.ishr, 1) := daX2_surplusEdges (11, .ishr, 1) (List.mem_of_getElem? (i := 7) rfl)
theorem dX2_surplusEdges_12 : decode cX2_surplusEdges 12 = .ok (.iconst 1, 1) := daX2_surplusEdges (12, .iconst 1, 1) (List.mem_of_getElem? (i := 8) rfl)
theorem dX2_surplusEdges_13 : decode cX2_surplusEdges 13 = .ok (.iand, 1) := daX2_surplusEdges (13, .iand, 1) (List.mem_of_getElem? (i := 9) rfl)
theorem dX2_surplusEdges_14 : decode cX2_surplusEdges 14 = .ok (.ifCond .eq 5, 3) := daX2_surplusEdges (14, .ifCond .eq 5, 3) (List.mem_of_getElem? (i := 10) rfl)
theorem dX2_surplusEdges_17 : decode cX2_surplusEdges 17 = .ok (.iconst 0, 1) := daX2_surplusEdges (17, .iconst 0, 1) (List.mem_of_getElem? (i := 11) rfl)
theorem dX2_surplusEdges_18 : decode cX2_surplusEdges 18 = .ok (.ireturn, 1) := daX2_surplusEdges (18, .ireturn, 1) (List.mem_of_getElem? (i := 12) rfl)
theorem dX2_surplusEdges_19 : decode cX2_surplusEdges 19 = .ok (.bipush (-4), 2) := daX2_surplusEdges (19, .bipush (-4), 2) (List.mem_of_getElem? (i := 13) rfl)
theorem dX2_surplusEdges_21 : decode cX2_surplusEdges 21 = .ok (.istore_n 3, 1) := daX2_surplusEdges (21, .istore_n 3, 1) (List.mem_of_getElem? (i := 14) rfl)
theorem dX2_surplusEdges_22 : decode cX2_surplusEdges 22 = .ok (.iconst 1, 1) := daX2_surplusEdges (22, .iconst 1, 1) (List.mem_of_getElem? (i := 15) rfl)
theorem dX2_surplusEdges_23 : decode cX2_surplusEdges 23 = .ok (.aload_n 0, 1) := daX2_surplusEdges (23, .aload_n 0, 1) (List.mem_of_getElem? (i := 16) rfl)
theorem dX2_surplusEdges_24 : decode cX2_surplusEdges 24 = .ok (.getfield 24, 3) := daX2_surplusEdges (24, .getfield 24, 3) (List.mem_of_getElem? (i := 17) rfl)
theorem dX2_surplusEdges_27 : decode cX2_surplusEdges 27 = .ok (.getfield 71, 3) := daX2_surplusEdges (27, .getfield 71, 3) (List.mem_of_getElem? (i := 18) rfl)
theorem dX2_surplusEdges_30 : decode cX2_surplusEdges 30 = .ok (.iload_n 1, 1) := daX2_surplusEdges (30, .iload_n 1, 1) (List.mem_of_getElem? (i := 19) rfl)
theorem dX2_surplusEdges_31 : decode cX2_surplusEdges 31 = .ok (.iaload, 1) := daX2_surplusEdges (31, .iaload, 1) (List.mem_of_getElem? (i := 20) rfl)
theorem dX2_surplusEdges_32 : decode cX2_surplusEdges 32 = .ok (.ishl, 1) := daX2_surplusEdges (32, .ishl, 1) (List.mem_of_getElem? (i := 21) rfl)
theorem dX2_surplusEdges_33 : decode cX2_surplusEdges 33 = .ok (.istore 4, 2) := daX2_surplusEdges (33, .istore 4, 2) (List.mem_of_getElem? (i := 22) rfl)
theorem dX2_surplusEdges_35 : decode cX2_surplusEdges 35 = .ok (.aload_n 0, 1) := daX2_surplusEdges (35, .aload_n 0, 1) (List.mem_of_getElem? (i := 23) rfl)
theorem dX2_surplusEdges_36 : decode cX2_surplusEdges 36 = .ok (.iload_n 1, 1) := daX2_surplusEdges (36, .iload_n 1, 1) (List.mem_of_getElem? (i := 24) rfl)
theorem dX2_surplusEdges_37 : decode cX2_surplusEdges 37 = .ok (.putfield 74, 3) := daX2_surplusEdges (37, .putfield 74, 3) (List.mem_of_getElem? (i := 25) rfl)
theorem dX2_surplusEdges_40 : decode cX2_surplusEdges 40 = .ok (.iconst 1, 1) := daX2_surplusEdges (40, .iconst 1, 1) (List.mem_of_getElem? (i := 26) rfl)
theorem dX2_surplusEdges_41 : decode cX2_surplusEdges 41 = .ok (.istore 5, 2) := daX2_surplusEdges (41, .istore 5, 2) (List.mem_of_getElem? (i := 27) rfl)
theorem dX2_surplusEdges_43 : decode cX2_surplusEdges 43 = .ok (.iload 5, 2) := daX2_surplusEdges (43, .iload 5, 2) (List.mem_of_getElem? (i := 28) rfl)
theorem dX2_surplusEdges_45 : decode cX2_surplusEdges 45 = .ok (.iconst 2, 1) := daX2_surplusEdges (45, .iconst 2, 1) (List.mem_of_getElem? (i := 29) rfl)
theorem dX2_surplusEdges_46 : decode cX2_surplusEdges 46 = .ok (.if_icmp .gt 82, 3) := daX2_surplusEdges (46, .if_icmp .gt 82, 3) (List.mem_of_getElem? (i := 30) rfl)
theorem dX2_surplusEdges_49 : decode cX2_surplusEdges 49 = .ok (.iload_n 3, 1) := daX2_surplusEdges (49, .iload_n 3, 1) (List.mem_of_getElem? (i := 31) rfl)
theorem dX2_surplusEdges_50 : decode cX2_surplusEdges 50 = .ok (.bipush (-4), 2) := daX2_surplusEdges (50, .bipush (-4), 2) (List.mem_of_getElem? (i := 32) rfl)
theorem dX2_surplusEdges_52 : decode cX2_surplusEdges 52 = .ok (.if_icmp .ne 76, 3) := daX2_surplusEdges (52, .if_icmp .ne 76, 3) (List.mem_of_getElem? (i := 33) rfl)
theorem dX2_surplusEdges_55 : decode cX2_surplusEdges 55 = .ok (.iconst 1, 1) := daX2_surplusEdges (55, .iconst 1, 1) (List.mem_of_getElem? (i := 34) rfl)
theorem dX2_surplusEdges_56 : decode cX2_surplusEdges 56 = .ok (.istore 6, 2) := daX2_surplusEdges (56, .istore 6, 2) (List.mem_of_getElem? (i := 35) rfl)
theorem dX2_surplusEdges_58 : decode cX2_surplusEdges 58 = .ok (.iload 6, 2) := daX2_surplusEdges (58, .iload 6, 2) (List.mem_of_getElem? (i := 36) rfl)
theorem dX2_surplusEdges_60 : decode cX2_surplusEdges 60 = .ok (.iload 4, 2) := daX2_surplusEdges (60, .iload 4, 2) (List.mem_of_getElem? (i := 37) rfl)
theorem dX2_surplusEdges_62 : decode cX2_surplusEdges 62 = .ok (.if_icmp .ge 60, 3) := daX2_surplusEdges (62, .if_icmp .ge 60, 3) (List.mem_of_getElem? (i := 38) rfl)
theorem dX2_surplusEdges_65 : decode cX2_surplusEdges 65 = .ok (.iload_n 3, 1) := daX2_surplusEdges (65, .iload_n 3, 1) (List.mem_of_getElem? (i := 39) rfl)
theorem dX2_surplusEdges_66 : decode cX2_surplusEdges 66 = .ok (.bipush (-4), 2) := daX2_surplusEdges (66, .bipush (-4), 2) (List.mem_of_getElem? (i := 40) rfl)
theorem dX2_surplusEdges_68 : decode cX2_surplusEdges 68 = .ok (.if_icmp .ne 54, 3) := daX2_surplusEdges (68, .if_icmp .ne 54, 3) (List.mem_of_getElem? (i := 41) rfl)
theorem dX2_surplusEdges_71 : decode cX2_surplusEdges 71 = .ok (.iload 6, 2) := daX2_surplusEdges (71, .iload 6, 2) (List.mem_of_getElem? (i := 42) rfl)
theorem dX2_surplusEdges_73 : decode cX2_surplusEdges 73 = .ok (.invokestatic 154, 3) := daX2_surplusEdges (73, .invokestatic 154, 3) (List.mem_of_getElem? (i := 43) rfl)
theorem dX2_surplusEdges_76 : decode cX2_surplusEdges 76 = .ok (.iload 5, 2) := daX2_surplusEdges (76, .iload 5, 2) (List.mem_of_getElem? (i := 44) rfl)
theorem dX2_surplusEdges_78 : decode cX2_surplusEdges 78 = .ok (.if_icmp .ne 38, 3) := daX2_surplusEdges (78, .if_icmp .ne 38, 3) (List.mem_of_getElem? (i := 45) rfl)
theorem dX2_surplusEdges_81 : decode cX2_surplusEdges 81 = .ok (.aload_n 0, 1) := daX2_surplusEdges (81, .aload_n 0, 1) (List.mem_of_getElem? (i := 46) rfl)
theorem dX2_surplusEdges_82 : decode cX2_surplusEdges 82 = .ok (.iload 6, 2) := daX2_surplusEdges (82, .iload 6, 2) (List.mem_of_getElem? (i := 47) rfl)
theorem dX2_surplusEdges_84 : decode cX2_surplusEdges 84 = .ok (.putfield 77, 3) := daX2_surplusEdges (84, .putfield 77, 3) (List.mem_of_getElem? (i := 48) rfl)
theorem dX2_surplusEdges_87 : decode cX2_surplusEdges 87 = .ok (.aload_n 0, 1) := daX2_surplusEdges (87, .aload_n 0, 1) (List.mem_of_getElem? (i := 49) rfl)
theorem dX2_surplusEdges_88 : decode cX2_surplusEdges 88 = .ok (.invokevirtual 32, 3) := daX2_surplusEdges (88, .invokevirtual 32, 3) (List.mem_of_getElem? (i := 50) rfl)
theorem dX2_surplusEdges_91 : decode cX2_surplusEdges 91 = .ok (.aload_n 0, 1) := daX2_surplusEdges (91, .aload_n 0, 1) (List.mem_of_getElem? (i := 51) rfl)
theorem dX2_surplusEdges_92 : decode cX2_surplusEdges 92 = .ok (.invokevirtual 151, 3) := daX2_surplusEdges (92, .invokevirtual 151, 3) (List.mem_of_getElem? (i := 52) rfl)
theorem dX2_surplusEdges_95 : decode cX2_surplusEdges 95 = .ok (.aload_n 0, 1) := daX2_surplusEdges (95, .aload_n 0, 1) (List.mem_of_getElem? (i := 53) rfl)
theorem dX2_surplusEdges_96 : decode cX2_surplusEdges 96 = .ok (.getfield 9, 3) := daX2_surplusEdges (96, .getfield 9, 3) (List.mem_of_getElem? (i := 54) rfl)
theorem dX2_surplusEdges_99 : decode cX2_surplusEdges 99 = .ok (.iload_n 2, 1) := daX2_surplusEdges (99, .iload_n 2, 1) (List.mem_of_getElem? (i := 55) rfl)
theorem dX2_surplusEdges_100 : decode cX2_surplusEdges 100 = .ok (.iaload, 1) := daX2_surplusEdges (100, .iaload, 1) (List.mem_of_getElem? (i := 56) rfl)
theorem dX2_surplusEdges_101 : decode cX2_surplusEdges 101 = .ok (.iload_n 1, 1) := daX2_surplusEdges (101, .iload_n 1, 1) (List.mem_of_getElem? (i := 57) rfl)
theorem dX2_surplusEdges_102 : decode cX2_surplusEdges 102 = .ok (.ishr, 1) := daX2_surplusEdges (102, .ishr, 1) (List.mem_of_getElem? (i := 58) rfl)
theorem dX2_surplusEdges_103 : decode cX2_surplusEdges 103 = .ok (.iconst 1, 1) := daX2_surplusEdges (103, .iconst 1, 1) (List.mem_of_getElem? (i := 59) rfl)
theorem dX2_surplusEdges_104 : decode cX2_surplusEdges 104 = .ok (.iand, 1) := daX2_surplusEdges (104, .iand, 1) (List.mem_of_getElem? (i := 60) rfl)
theorem dX2_surplusEdges_105 : decode cX2_surplusEdges 105 = .ok (.ifCond .eq 8, 3) := daX2_surplusEdges (105, .ifCond .eq 8, 3) (List.mem_of_getElem? (i := 61) rfl)
theorem dX2_surplusEdges_108 : decode cX2_surplusEdges 108 = .ok (.iload 6, 2) := daX2_surplusEdges (108, .iload 6, 2) (List.mem_of_getElem? (i := 62) rfl)
theorem dX2_surplusEdges_110 : decode cX2_surplusEdges 110 = .ok (.goto 5, 3) := daX2_surplusEdges (110, .goto 5, 3) (List.mem_of_getElem? (i := 63) rfl)
theorem dX2_surplusEdges_113 : decode cX2_surplusEdges 113 = .ok (.bipush (-4), 2) := daX2_surplusEdges (113, .bipush (-4), 2) (List.mem_of_getElem? (i := 64) rfl)
theorem dX2_surplusEdges_115 : decode cX2_surplusEdges 115 = .ok (.istore_n 3, 1) := daX2_surplusEdges (115, .istore_n 3, 1) (List.mem_of_getElem? (i := 65) rfl)
theorem dX2_surplusEdges_116 : decode cX2_surplusEdges 116 = .ok (.iinc 6 1, 3) := daX2_surplusEdges (116, .iinc 6 1, 3) (List.mem_of_getElem? (i := 66) rfl)
theorem dX2_surplusEdges_119 : decode cX2_surplusEdges 119 = .ok (.goto (-61), 3) := daX2_surplusEdges (119, .goto (-61), 3) (List.mem_of_getElem? (i := 67) rfl)
theorem dX2_surplusEdges_122 : decode cX2_surplusEdges 122 = .ok (.iinc 5 1, 3) := daX2_surplusEdges (122, .iinc 5 1, 3) (List.mem_of_getElem? (i := 68) rfl)
theorem dX2_surplusEdges_125 : decode cX2_surplusEdges 125 = .ok (.goto (-82), 3) := daX2_surplusEdges (125, .goto (-82), 3) (List.mem_of_getElem? (i := 69) rfl)
theorem dX2_surplusEdges_128 : decode cX2_surplusEdges 128 = .ok (.aload_n 0, 1) := daX2_surplusEdges (128, .aload_n 0, 1) (List.mem_of_getElem? (i := 70) rfl)
theorem dX2_surplusEdges_129 : decode cX2_surplusEdges 129 = .ok (.iconst 0, 1) := daX2_surplusEdges (129, .iconst 0, 1) (List.mem_of_getElem? (i := 71) rfl)
theorem dX2_surplusEdges_130 : decode cX2_surplusEdges 130 = .ok (.putfield 77, 3) := daX2_surplusEdges (130, .putfield 77, 3) (List.mem_of_getElem? (i := 72) rfl)
theorem dX2_surplusEdges_133 : decode cX2_surplusEdges 133 = .ok (.aload_n 0, 1) := daX2_surplusEdges (133, .aload_n 0, 1) (List.mem_of_getElem? (i := 73) rfl)
theorem dX2_surplusEdges_134 : decode cX2_surplusEdges 134 = .ok (.invokevirtual 32, 3) := daX2_surplusEdges (134, .invokevirtual 32, 3) (List.mem_of_getElem? (i := 74) rfl)
theorem dX2_surplusEdges_137 : decode cX2_surplusEdges 137 = .ok (.iload_n 3, 1) := daX2_surplusEdges (137, .iload_n 3, 1) (List.mem_of_getElem? (i := 75) rfl)
theorem dX2_surplusEdges_138 : decode cX2_surplusEdges 138 = .ok (.ireturn, 1) := daX2_surplusEdges (138, .ireturn, 1) (List.mem_of_getElem? (i := 76) rfl)
def rmX2_surplusEdges : Room := { frames := 6, cells := 0, slots := 0, locals := 150 }
theorem zdX2_surplusEdges : yX2_surplusEdges.cls = RX2 ∧ yX2_surplusEdges.cls ≠ "java/lang/invoke/MethodHandle" ∧ yX2_surplusEdges.cls ≠ "java/lang/invoke/VarHandle" ∧ (parseMethodDescriptor yX2_surplusEdges.desc).map (fun d => d.parameters.length) = some 2 := by decide +kernel
theorem kiX2_surplusEdges_X2 : ∀ w ∈ wsX20, w ∈ wsX2_surplusEdges := fun _ h => (List.mem_cons_of_mem _ (List.mem_append_left _ (List.mem_append_left _ (List.mem_append_right _ h))))
theorem kfX2_surplusEdges_9 : Cond.fieldLink RX2 9 "ShapeJudge$Judge" "fitting" "[I" ∈ wsX2_surplusEdges := (List.mem_of_getElem? (i := 1) rfl)
theorem kfX2_surplusEdges_24 : Cond.fieldLink RX2 24 "ShapeJudge$Judge" "graph" "LShapeJudge$Graph;" ∈ wsX2_surplusEdges := (List.mem_of_getElem? (i := 2) rfl)
theorem kiX2_surplusEdges_X1 : ∀ w ∈ wsX10, w ∈ wsX2_surplusEdges := fun _ h => (List.mem_cons_of_mem _ (List.mem_append_left _ (List.mem_append_right _ h)))
theorem kfX2_surplusEdges_71 : Cond.fieldLink RX2 71 "ShapeJudge$Graph" "degrees" "[I" ∈ wsX2_surplusEdges := (List.mem_of_getElem? (i := 3) rfl)
theorem kfX2_surplusEdges_74 : Cond.fieldLink RX2 74 "ShapeJudge$Judge" "thinNode" "I" ∈ wsX2_surplusEdges := (List.mem_of_getElem? (i := 4) rfl)
theorem kfX2_surplusEdges_77 : Cond.fieldLink RX2 77 "ShapeJudge$Judge" "goneEdges" "I" ∈ wsX2_surplusEdges := (List.mem_of_getElem? (i := 5) rfl)
def t_X2_surplusEdges_58 (a1 : Int32) (a2 : Int32) (x5 : Int32) (i8 : Int32) (i10 : Int32) (i11 : Int32) (m12 : Mem) : Option ((Int32 × Int32 × Mem) ⊕ (Int32 × Mem)) :=
  (if x5 ≤ i11 then (some (.inr (i10, m12))) else ((if i10 = (-4) then ((s_J6_bitCount_0f7a4 i11).bind fun r14 => (if r14 = i8 then (bn (sto m12 39 9 i11) fun m16 => (s_X2_forget m16).bind fun m18 => (s_X2_readFits m18).bind fun m20 => ck (zin a2 6 = true) ((if (((m20 40 (Int32.toNatClampNeg a2)) >>> (a1 &&& 31)) &&& 1) = 0 then (bn (i11 + 1) fun x22 => some (.inl ((-4), x22, m20))) else (bn (i11 + 1) fun x23 => some (.inl (i11, x23, m20)))))) else (bn (i11 + 1) fun x15 => some (.inl (i10, x15, m12))))) else (some (.inr (i10, m12))))))
def l_X2_surplusEdges_58 (a1 : Int32) (a2 : Int32) (x5 : Int32) (i8 : Int32) (n : Nat) (i10 : Int32) (i11 : Int32) (m12 : Mem) : Option (Int32 × Mem) := zlp n (fun a => t_X2_surplusEdges_58 a1 a2 x5 i8 a.1 a.2.1 a.2.2) (i10, i11, m12)
def t_X2_surplusEdges_43 (a1 : Int32) (a2 : Int32) (x5 : Int32) (i7 : Int32) (i8 : Int32) (m9 : Mem) : Option ((Int32 × Int32 × Mem) ⊕ (Int32 × Mem)) :=
  (if 2 < i8 then (some (.inr (i7, m9))) else ((if i7 = (-4) then ((zb2 (l_X2_surplusEdges_58 a1 a2 x5 i8 FU i7 1 m9) fun y28 m29 => bn (i8 + 1) fun x30 => some (.inl (y28, x30, m29)))) else (some (.inr (i7, m9))))))
def l_X2_surplusEdges_43 (a1 : Int32) (a2 : Int32) (x5 : Int32) (n : Nat) (i7 : Int32) (i8 : Int32) (m9 : Mem) : Option (Int32 × Mem) := zlp n (fun a => t_X2_surplusEdges_43 a1 a2 x5 a.1 a.2.1 a.2.2) (i7, i8, m9)
def s_X2_surplusEdges (m : Mem) (a1 : Int32) (a2 : Int32) : Option (Int32 × Mem) :=
  (s_X2_readFits m).bind fun m2 => ck (zin a2 6 = true) ((if (((m2 40 (Int32.toNatClampNeg a2)) >>> (a1 &&& 31)) &&& 1) = 0 then (ck (zin a1 10 = true) (bn ((1 : Int32) <<< ((m2 4 (Int32.toNatClampNeg a1)) &&& 31)) fun x5 => bn (sto m2 39 8 a1) fun m6 => (zb2 (l_X2_surplusEdges_43 a1 a2 x5 FU (-4) 1 m6) fun y33 m34 => bn (sto m34 39 9 0) fun m35 => (s_X2_forget m35).bind fun m37 => some (y33, m37)))) else (some (0, m2))))
set_option maxRecDepth 100000 in
set_option maxHeartbeats 4000000 in
theorem w_X2_surplusEdges_58 {K : ZK} (C : zOK MX K cX2_surplusEdges 7 (some .int) RX2 wsX2_surplusEdges rmX2_surplusEdges) {a1 : Int32} {a2 : Int32} {x5 : Int32} {i8 : Int32}  {o0 : Int32} {o1 : Mem} (hk : zGo MX K o1 [(0, .ref ((zw K).2.1 39)), (1, .int a1), (2, .int a2), (3, .int o0), (4, .int x5), (5, .int i8)] 122 []) : ∀ (n : Nat) (i10 : Int32) (i11 : Int32) (m12 : Mem), l_X2_surplusEdges_58 a1 a2 x5 i8 n i10 i11 m12 = some (o0, o1) → zGo MX K m12 [(0, .ref ((zw K).2.1 39)), (1, .int a1), (2, .int a2), (3, .int i10), (4, .int x5), (5, .int i8), (6, .int i11)] 58 [] := by
  intro n
  induction n with
  | zero =>
    intro i10 i11 m12 hf
    cases hf
  | succ n ih =>
    intro i10 i11 m12 hf
    obtain ⟨z, hf, hz⟩ := zlp_el hf
    replace hf : t_X2_surplusEdges_58 a1 a2 x5 i8 i10 i11 m12 = some z := hf
    unfold t_X2_surplusEdges_58 at hf
    refine z_iload C 6 dX2_surplusEdges_58 rfl ?_
    refine z_iload C 4 dX2_surplusEdges_60 rfl ?_
    refine z_icmp_ge (tgt := 122) C dX2_surplusEdges_62 (by decide) (fun c27 => ?_) (fun c27 => ?_)
    · replace hf := if_t c27 hf
      cases hf
      replace hz := zlz_r hz
      cases hz
      exact z_sub [0, 1, 2, 3, 4, 5] rfl hk
    · replace hf := if_f c27 hf
      refine z_iload_n C 3 dX2_surplusEdges_65 rfl rfl ?_
      refine z_bipush C (v := (-4)) dX2_surplusEdges_66 (by decide) ?_
      refine z_icmp_ne (tgt := 122) C dX2_surplusEdges_68 (by decide) (fun c26 => ?_) (fun c26 => ?_)
      · replace hf := if_f c26 hf
        cases hf
        replace hz := zlz_r hz
        cases hz
        exact z_sub [0, 1, 2, 3, 4, 5] rfl hk
      · replace hf := if_t c26 hf
        refine z_iload C 6 dX2_surplusEdges_71 rfl ?_
        obtain ⟨r14, hc13, hf⟩ := zb_el hf
        refine z_cSi C (c_J6_bitCount_0f7a4 _ _ hc13) rfl gX2_surplusEdges_J6_bitCount_0f7a4 rfl rfl zdJ6_bitCount_0f7a4.2 rfl ⟨Nat.le_of_ble_eq_true rfl, Nat.le_of_ble_eq_true rfl⟩ (Nat.le_of_ble_eq_true rfl) dX2_surplusEdges_73 rfl ?_
        refine z_iload C 5 dX2_surplusEdges_76 rfl ?_
        refine z_icmp_ne (tgt := 116) C dX2_surplusEdges_78 (by decide) (fun c25 => ?_) (fun c25 => ?_)
        · replace hf := if_f c25 hf
          obtain ⟨x15, e_x15⟩ : ∃ y : Int32, y = i11 + 1 := ⟨_, rfl⟩
          replace hf := bn_to e_x15 hf
          refine z_iinc C (lv2 := [(0, .ref ((zw K).2.1 39)), (1, .int a1), (2, .int a2), (3, .int i10), (4, .int x5), (5, .int i8), (6, .int x15)]) 6 [1, 2, 3, 4, 5, 6, 0] dX2_surplusEdges_116 rfl rfl (Nat.le_of_ble_eq_true rfl) e_x15 rfl ?_
          refine z_goto (tgt := 58) C dX2_surplusEdges_119 (by decide) ?_
          cases hf
          exact z_sub [0, 1, 2, 3, 4, 5, 6] rfl (ih i10 x15 m12 hz)
        · replace hf := if_t c25 hf
          refine z_aload_n C 0 dX2_surplusEdges_81 rfl rfl ?_
          refine z_iload C 6 dX2_surplusEdges_82 rfl ?_
          refine z_puti C (Nat.le_of_ble_eq_true rfl) rfl rfl 9 (Nat.le_of_ble_eq_true rfl) rfl kiX2_surplusEdges_X2 kfX2_surplusEdges_77 tyX2 tyX2_ok nmX2 rfl rfl dX2_surplusEdges_84 ?_
          refine z_nm (fun m16 e_m16 => ?_)
          replace hf := bn_to e_m16 hf
          refine z_aload_n C 0 dX2_surplusEdges_87 rfl rfl ?_
          obtain ⟨m18, hc17, hf⟩ := zb_el hf
          refine z_cVv C (c_X2_forget _ _ hc17) rfl gX2_surplusEdges_X2_forget rfl rfl zdX2_forget rfl (Nat.le_of_ble_eq_true rfl) rfl rfl rfl ⟨Nat.le_of_ble_eq_true rfl, Nat.le_of_ble_eq_true rfl⟩ (Nat.le_of_ble_eq_true rfl) dX2_surplusEdges_88 rfl ?_
          refine z_aload_n C 0 dX2_surplusEdges_91 rfl rfl ?_
          obtain ⟨m20, hc19, hf⟩ := zb_el hf
          refine z_cVv C (c_X2_readFits _ _ hc19) rfl gX2_surplusEdges_X2_readFits rfl rfl zdX2_readFits rfl (Nat.le_of_ble_eq_true rfl) rfl rfl rfl ⟨Nat.le_of_ble_eq_true rfl, Nat.le_of_ble_eq_true rfl⟩ (Nat.le_of_ble_eq_true rfl) dX2_surplusEdges_92 rfl ?_
          refine z_aload_n C 0 dX2_surplusEdges_95 rfl rfl ?_
          refine z_getr C (t := 40) (Nat.le_of_ble_eq_true rfl) rfl rfl 2 (Nat.le_of_ble_eq_true rfl) rfl kiX2_surplusEdges_X2 kfX2_surplusEdges_9 dX2_surplusEdges_96 ?_
          refine z_iload_n C 2 dX2_surplusEdges_99 rfl rfl ?_
          obtain ⟨hi21, hf⟩ := ck_el hf
          refine z_iald C (k := 40) (Nat.le_of_ble_eq_true rfl) rfl hi21 dX2_surplusEdges_100 ?_
          refine z_iload_n C 1 dX2_surplusEdges_101 rfl rfl ?_
          refine z_ishr C dX2_surplusEdges_102 ?_
          refine z_iconst C (v := 1) dX2_surplusEdges_103 rfl ?_
          refine z_iand C dX2_surplusEdges_104 ?_
          refine z_if_eq (tgt := 113) C dX2_surplusEdges_105 (by decide) (fun c24 => ?_) (fun c24 => ?_)
          · replace hf := if_t c24 hf
            refine z_bipush C (v := (-4)) dX2_surplusEdges_113 (by decide) ?_
            refine z_istore_n C (lv2 := [(0, .ref ((zw K).2.1 39)), (1, .int a1), (2, .int a2), (3, .int (-4)), (4, .int x5), (5, .int i8), (6, .int i11)]) [1, 2, 3, 0, 4, 5, 6] dX2_surplusEdges_115 rfl (Nat.le_of_ble_eq_true rfl) rfl ?_
            obtain ⟨x22, e_x22⟩ : ∃ y : Int32, y = i11 + 1 := ⟨_, rfl⟩
            replace hf := bn_to e_x22 hf
            refine z_iinc C (lv2 := [(0, .ref ((zw K).2.1 39)), (1, .int a1), (2, .int a2), (3, .int (-4)), (4, .int x5), (5, .int i8), (6, .int x22)]) 6 [1, 2, 3, 4, 5, 6, 0] dX2_surplusEdges_116 rfl rfl (Nat.le_of_ble_eq_true rfl) e_x22 rfl ?_
            refine z_goto (tgt := 58) C dX2_surplusEdges_119 (by decide) ?_
            cases hf
            exact z_sub [0, 1, 2, 3, 4, 5, 6] rfl (ih (-4) x22 m20 hz)
          · replace hf := if_f c24 hf
            refine z_iload C 6 dX2_surplusEdges_108 rfl ?_
            refine z_goto (tgt := 115) C dX2_surplusEdges_110 (by decide) ?_
            refine z_istore_n C (lv2 := [(0, .ref ((zw K).2.1 39)), (1, .int a1), (2, .int a2), (3, .int i11), (4, .int x5), (5, .int i8), (6, .int i11)]) [1, 2, 3, 0, 4, 5, 6] dX2_surplusEdges_115 rfl (Nat.le_of_ble_eq_true rfl) rfl ?_
            obtain ⟨x23, e_x23⟩ : ∃ y : Int32, y = i11 + 1 := ⟨_, rfl⟩
            replace hf := bn_to e_x23 hf
            refine z_iinc C (lv2 := [(0, .ref ((zw K).2.1 39)), (1, .int a1), (2, .int a2), (3, .int i11), (4, .int x5), (5, .int i8), (6, .int x23)]) 6 [1, 2, 3, 4, 5, 6, 0] dX2_surplusEdges_116 rfl rfl (Nat.le_of_ble_eq_true rfl) e_x23 rfl ?_
            refine z_goto (tgt := 58) C dX2_surplusEdges_119 (by decide) ?_
            cases hf
            exact z_sub [0, 1, 2, 3, 4, 5, 6] rfl (ih i11 x23 m20 hz)
set_option maxRecDepth 100000 in
set_option maxHeartbeats 4000000 in
theorem w_X2_surplusEdges_43 {K : ZK} (C : zOK MX K cX2_surplusEdges 7 (some .int) RX2 wsX2_surplusEdges rmX2_surplusEdges) {a1 : Int32} {a2 : Int32} {x5 : Int32}  {o0 : Int32} {o1 : Mem} (hk : zGo MX K o1 [(0, .ref ((zw K).2.1 39)), (3, .int o0)] 128 []) : ∀ (n : Nat) (i7 : Int32) (i8 : Int32) (m9 : Mem), l_X2_surplusEdges_43 a1 a2 x5 n i7 i8 m9 = some (o0, o1) → zGo MX K m9 [(0, .ref ((zw K).2.1 39)), (1, .int a1), (2, .int a2), (3, .int i7), (4, .int x5), (5, .int i8)] 43 [] := by
  intro n
  induction n with
  | zero =>
    intro i7 i8 m9 hf
    cases hf
  | succ n ih =>
    intro i7 i8 m9 hf
    obtain ⟨z, hf, hz⟩ := zlp_el hf
    replace hf : t_X2_surplusEdges_43 a1 a2 x5 i7 i8 m9 = some z := hf
    unfold t_X2_surplusEdges_43 at hf
    refine z_iload C 5 dX2_surplusEdges_43 rfl ?_
    refine z_iconst C (v := 2) dX2_surplusEdges_45 rfl ?_
    refine z_icmp_gt (tgt := 128) C dX2_surplusEdges_46 (by decide) (fun c32 => ?_) (fun c32 => ?_)
    · replace hf := if_t c32 hf
      cases hf
      replace hz := zlz_r hz
      cases hz
      exact z_sub [0, 3] rfl hk
    · replace hf := if_f c32 hf
      refine z_iload_n C 3 dX2_surplusEdges_49 rfl rfl ?_
      refine z_bipush C (v := (-4)) dX2_surplusEdges_50 (by decide) ?_
      refine z_icmp_ne (tgt := 128) C dX2_surplusEdges_52 (by decide) (fun c31 => ?_) (fun c31 => ?_)
      · replace hf := if_f c31 hf
        cases hf
        replace hz := zlz_r hz
        cases hz
        exact z_sub [0, 3] rfl hk
      · replace hf := if_t c31 hf
        refine z_iconst C (v := 1) dX2_surplusEdges_55 rfl ?_
        refine z_istore C (lv2 := [(0, .ref ((zw K).2.1 39)), (1, .int a1), (2, .int a2), (3, .int i7), (4, .int x5), (5, .int i8), (6, .int 1)]) [1, 2, 3, 4, 5, 6, 0] dX2_surplusEdges_56 (Nat.le_of_ble_eq_true rfl) rfl ?_
        obtain ⟨y28, m29, hg, hf⟩ := zb2_el hf
        refine z_sub [0, 1, 2, 3, 4, 5, 6] rfl (w_X2_surplusEdges_58 C  ?_ _ _ _ _ hg)
        clear hg
        obtain ⟨x30, e_x30⟩ : ∃ y : Int32, y = i8 + 1 := ⟨_, rfl⟩
        replace hf := bn_to e_x30 hf
        refine z_iinc C (lv2 := [(0, .ref ((zw K).2.1 39)), (1, .int a1), (2, .int a2), (3, .int y28), (4, .int x5), (5, .int x30)]) 5 [1, 2, 3, 4, 5, 0] dX2_surplusEdges_122 rfl rfl (Nat.le_of_ble_eq_true rfl) e_x30 rfl ?_
        refine z_goto (tgt := 43) C dX2_surplusEdges_125 (by decide) ?_
        cases hf
        exact z_sub [0, 1, 2, 3, 4, 5] rfl (ih y28 x30 m29 hz)
set_option maxRecDepth 100000 in
set_option maxHeartbeats 4000000 in
theorem c_X2_surplusEdges (l : Launch) (w : ZW) {m : Mem} {a1 : Int32} {a2 : Int32} {r9 : Int32} {m9 : Mem}  (hf : s_X2_surplusEdges m a1 a2 = some (r9, m9)) : zCi MX l w yX2_surplusEdges wsX2_surplusEdges rmX2_surplusEdges [.ref (w.2.1 39), .int a1, .int a2] m m9 r9 := by
  refine z_met_i MX_ok (own := RX2) (by decide +kernel) rfl rfl (Nat.le_of_ble_eq_true rfl) ?_
  intro K C hKw hKl hret
  subst hKw
  subst hKl
  unfold s_X2_surplusEdges at hf
  show zGo MX K m [(0, .ref ((zw K).2.1 39)), (1, .int a1), (2, .int a2)] 0 []
  refine z_aload_n C 0 dX2_surplusEdges_0 rfl rfl ?_
  obtain ⟨m2, hc1, hf⟩ := zb_el hf
  refine z_cVv C (c_X2_readFits _ _ hc1) rfl gX2_surplusEdges_X2_readFits rfl rfl zdX2_readFits rfl (Nat.le_of_ble_eq_true rfl) rfl rfl rfl ⟨Nat.le_of_ble_eq_true rfl, Nat.le_of_ble_eq_true rfl⟩ (Nat.le_of_ble_eq_true rfl) dX2_surplusEdges_1 rfl ?_
  refine z_aload_n C 0 dX2_surplusEdges_4 rfl rfl ?_
  refine z_getr C (t := 40) (Nat.le_of_ble_eq_true rfl) rfl rfl 2 (Nat.le_of_ble_eq_true rfl) rfl kiX2_surplusEdges_X2 kfX2_surplusEdges_9 dX2_surplusEdges_5 ?_
  refine z_iload_n C 2 dX2_surplusEdges_8 rfl rfl ?_
  obtain ⟨hi3, hf⟩ := ck_el hf
  refine z_iald C (k := 40) (Nat.le_of_ble_eq_true rfl) rfl hi3 dX2_surplusEdges_9 ?_
  refine z_iload_n C 1 dX2_surplusEdges_10 rfl rfl ?_
  refine z_ishr C dX2_surplusEdges_11 ?_
  refine z_iconst C (v := 1) dX2_surplusEdges_12 rfl ?_
  refine z_iand C dX2_surplusEdges_13 ?_
  refine z_if_eq (tgt := 19) C dX2_surplusEdges_14 (by decide) (fun c38 => ?_) (fun c38 => ?_)
  · replace hf := if_t c38 hf
    refine z_bipush C (v := (-4)) dX2_surplusEdges_19 (by decide) ?_
    refine z_istore_n C (lv2 := [(0, .ref ((zw K).2.1 39)), (1, .int a1), (2, .int a2), (3, .int (-4))]) [1, 2, 3, 0] dX2_surplusEdges_21 rfl (Nat.le_of_ble_eq_true rfl) rfl ?_
    refine z_iconst C (v := 1) dX2_surplusEdges_22 rfl ?_
    refine z_aload_n C 0 dX2_surplusEdges_23 rfl rfl ?_
    refine z_getr C (t := 1) (Nat.le_of_ble_eq_true rfl) rfl rfl 0 (Nat.le_of_ble_eq_true rfl) rfl kiX2_surplusEdges_X2 kfX2_surplusEdges_24 dX2_surplusEdges_24 ?_
    refine z_getr C (t := 4) (Nat.le_of_ble_eq_true rfl) rfl rfl 4 (Nat.le_of_ble_eq_true rfl) rfl kiX2_surplusEdges_X1 kfX2_surplusEdges_71 dX2_surplusEdges_27 ?_
    refine z_iload_n C 1 dX2_surplusEdges_30 rfl rfl ?_
    obtain ⟨hi4, hf⟩ := ck_el hf
    refine z_iald C (k := 4) (Nat.le_of_ble_eq_true rfl) rfl hi4 dX2_surplusEdges_31 ?_
    refine z_ishl C dX2_surplusEdges_32 ?_
    refine z_topi (fun x5 e_x5 => ?_)
    replace hf := bn_to e_x5 hf
    refine z_istore C (lv2 := [(0, .ref ((zw K).2.1 39)), (1, .int a1), (2, .int a2), (3, .int (-4)), (4, .int x5)]) [1, 2, 3, 4, 0] dX2_surplusEdges_33 (Nat.le_of_ble_eq_true rfl) rfl ?_
    refine z_aload_n C 0 dX2_surplusEdges_35 rfl rfl ?_
    refine z_iload_n C 1 dX2_surplusEdges_36 rfl rfl ?_
    refine z_puti C (Nat.le_of_ble_eq_true rfl) rfl rfl 8 (Nat.le_of_ble_eq_true rfl) rfl kiX2_surplusEdges_X2 kfX2_surplusEdges_74 tyX2 tyX2_ok nmX2 rfl rfl dX2_surplusEdges_37 ?_
    refine z_nm (fun m6 e_m6 => ?_)
    replace hf := bn_to e_m6 hf
    refine z_iconst C (v := 1) dX2_surplusEdges_40 rfl ?_
    refine z_istore C (lv2 := [(0, .ref ((zw K).2.1 39)), (1, .int a1), (2, .int a2), (3, .int (-4)), (4, .int x5), (5, .int 1)]) [1, 2, 3, 4, 5, 0] dX2_surplusEdges_41 (Nat.le_of_ble_eq_true rfl) rfl ?_
    obtain ⟨y33, m34, hg, hf⟩ := zb2_el hf
    refine z_sub [0, 1, 2, 3, 4, 5] rfl (w_X2_surplusEdges_43 C  ?_ _ _ _ _ hg)
    clear hg
    refine z_aload_n C 0 dX2_surplusEdges_128 rfl rfl ?_
    refine z_iconst C (v := 0) dX2_surplusEdges_129 rfl ?_
    refine z_puti C (Nat.le_of_ble_eq_true rfl) rfl rfl 9 (Nat.le_of_ble_eq_true rfl) rfl kiX2_surplusEdges_X2 kfX2_surplusEdges_77 tyX2 tyX2_ok nmX2 rfl rfl dX2_surplusEdges_130 ?_
    refine z_nm (fun m35 e_m35 => ?_)
    replace hf := bn_to e_m35 hf
    refine z_aload_n C 0 dX2_surplusEdges_133 rfl rfl ?_
    obtain ⟨m37, hc36, hf⟩ := zb_el hf
    refine z_cVv C (c_X2_forget _ _ hc36) rfl gX2_surplusEdges_X2_forget rfl rfl zdX2_forget rfl (Nat.le_of_ble_eq_true rfl) rfl rfl rfl ⟨Nat.le_of_ble_eq_true rfl, Nat.le_of_ble_eq_true rfl⟩ (Nat.le_of_ble_eq_true rfl) dX2_surplusEdges_134 rfl ?_
    refine z_iload_n C 1 dX2_surplusEdges_137 rfl rfl ?_
    cases hf
    exact hret _ _ dX2_surplusEdges_138
  · replace hf := if_f c38 hf
    refine z_iconst C (v := 0) dX2_surplusEdges_17 rfl ?_
    cases hf
    exact hret _ _ dX2_surplusEdges_18
