theorem dX7_node_0 : decode cX7_node 0 = .ok (.aload_n 0, 1) := by decide +kernel
theorem dX7_node_1 : decode cX7_node 1 = .ok (.getfield 140, 3) := by decide +kernel
theorem dX7_node_4 : decode cX7_node 4 = .ok (.bipush 10, 2) := by decide +kernel
theorem dX7_node_6 : decode cX7_node 6 = .ok (.if_icmp .ne 6, 3) := by decide +kernel
theorem dX7_node_9 : decode cX7_node 9 = .ok (.bipush (-3), 2) := by decide +kernel
theorem dX7_node_11 : decode cX7_node 11 = .ok (.ireturn, 1) := by decide +kernel
theorem dX7_node_12 : decode cX7_node 12 = .ok (.aload_n 0, 1) := by decide +kernel
theorem dX7_node_13 : decode cX7_node 13 = .ok (.getfield 7, 3) := by decide +kernel
theorem dX7_node_16 : decode cX7_node 16 = .ok (.aload_n 0, 1) := by decide +kernel
theorem dX7_node_17 : decode cX7_node 17 = .ok (.getfield 140, 3) := by decide +kernel
theorem dX7_node_20 : decode cX7_node 20 = .ok (.iload_n 1, 1) := by decide +kernel
theorem dX7_node_21 : decode cX7_node 21 = .ok (.bastore, 1) := by decide +kernel
theorem dX7_node_22 : decode cX7_node 22 = .ok (.aload_n 0, 1) := by decide +kernel
theorem dX7_node_23 : decode cX7_node 23 = .ok (.getfield 13, 3) := by decide +kernel
theorem dX7_node_26 : decode cX7_node 26 = .ok (.aload_n 0, 1) := by decide +kernel
theorem dX7_node_27 : decode cX7_node 27 = .ok (.getfield 140, 3) := by decide +kernel
theorem dX7_node_30 : decode cX7_node 30 = .ok (.iload_n 2, 1) := by decide +kernel
theorem dX7_node_31 : decode cX7_node 31 = .ok (.iastore, 1) := by decide +kernel
theorem dX7_node_32 : decode cX7_node 32 = .ok (.aload_n 0, 1) := by decide +kernel
theorem dX7_node_33 : decode cX7_node 33 = .ok (.getfield 17, 3) := by decide +kernel
theorem dX7_node_36 : decode cX7_node 36 = .ok (.aload_n 0, 1) := by decide +kernel
theorem dX7_node_37 : decode cX7_node 37 = .ok (.getfield 140, 3) := by decide +kernel
theorem dX7_node_40 : decode cX7_node 40 = .ok (.iconst 0, 1) := by decide +kernel
theorem dX7_node_41 : decode cX7_node 41 = .ok (.iastore, 1) := by decide +kernel
theorem dX7_node_42 : decode cX7_node 42 = .ok (.aload_n 0, 1) := by decide +kernel
theorem dX7_node_43 : decode cX7_node 43 = .ok (.dup, 1) := by decide +kernel
theorem dX7_node_44 : decode cX7_node 44 = .ok (.getfield 140, 3) := by decide +kernel
theorem dX7_node_47 : decode cX7_node 47 = .ok (.iconst 1, 1) := by decide +kernel
theorem dX7_node_48 : decode cX7_node 48 = .ok (.iadd, 1) := by decide +kernel
theorem dX7_node_49 : decode cX7_node 49 = .ok (.putfield 140, 3) := by decide +kernel
theorem dX7_node_52 : decode cX7_node 52 = .ok (.aload_n 0, 1) := by decide +kernel
theorem dX7_node_53 : decode cX7_node 53 = .ok (.iconst 0, 1) := by decide +kernel
theorem dX7_node_54 : decode cX7_node 54 = .ok (.putfield 148, 3) := by decide +kernel
theorem dX7_node_57 : decode cX7_node 57 = .ok (.aload_n 0, 1) := by decide +kernel
theorem dX7_node_58 : decode cX7_node 58 = .ok (.getfield 140, 3) := by decide +kernel
theorem dX7_node_61 : decode cX7_node 61 = .ok (.iconst 1, 1) := by decide +kernel
theorem dX7_node_62 : decode cX7_node 62 = .ok (.isub, 1) := by decide +kernel
theorem dX7_node_63 : decode cX7_node 63 = .ok (.ireturn, 1) := by decide +kernel
def rmX7_node : Room := { frames := 0, cells := 0, slots := 0, locals := 0 }
theorem zdX7_node : yX7_node.cls = RX7 ∧ yX7_node.cls ≠ "java/lang/invoke/MethodHandle" ∧ yX7_node.cls ≠ "java/lang/invoke/VarHandle" ∧ (parseMethodDescriptor yX7_node.desc).map (fun d => d.parameters.length) = some 2 := by decide +kernel
theorem kiX7_node_X7 : ∀ w ∈ wsX70, w ∈ wsX7_node := fun _ h => (List.mem_cons_of_mem _ (List.mem_append_right _ h))
theorem kfX7_node_140 : Cond.fieldLink RX7 140 "ShapeJudgeModel" "nodes" "I" ∈ wsX7_node := (List.mem_of_getElem? (i := 1) rfl)
theorem kfX7_node_7 : Cond.fieldLink RX7 7 "ShapeJudgeModel" "hasValue" "[Z" ∈ wsX7_node := (List.mem_of_getElem? (i := 2) rfl)
theorem kfX7_node_13 : Cond.fieldLink RX7 13 "ShapeJudgeModel" "values" "[I" ∈ wsX7_node := (List.mem_of_getElem? (i := 3) rfl)
theorem kfX7_node_17 : Cond.fieldLink RX7 17 "ShapeJudgeModel" "many" "[I" ∈ wsX7_node := (List.mem_of_getElem? (i := 4) rfl)
theorem kfX7_node_148 : Cond.fieldLink RX7 148 "ShapeJudgeModel" "isRead" "Z" ∈ wsX7_node := (List.mem_of_getElem? (i := 5) rfl)
def s_X7_node (m : Mem) (a1 : Int32) (a2 : Int32) : Option (Int32 × Mem) :=
  (if (m 0 0) = 10 then (some ((-3), m)) else (ck (zin (m 0 0) 10 = true) (bn (sto m 1 (Int32.toNatClampNeg (m 0 0)) (vp_nar .boolean a1)) fun m2 => ck (zin (m2 0 0) 10 = true) (bn (sto m2 2 (Int32.toNatClampNeg (m2 0 0)) a2) fun m4 => ck (zin (m4 0 0) 10 = true) (bn (sto m4 3 (Int32.toNatClampNeg (m4 0 0)) 0) fun m6 => bn (sto m6 0 0 ((m6 0 0) + 1)) fun m7 => bn (sto m7 0 6 0) fun m8 => some (((m8 0 0) - 1), m8))))))
set_option maxRecDepth 100000 in
set_option maxHeartbeats 4000000 in
theorem c_X7_node (l : Launch) (w : ZW) {m : Mem} {a1 : Int32} {a2 : Int32} {r9 : Int32} {m9 : Mem}  (hf : s_X7_node m a1 a2 = some (r9, m9)) : zCi MM l w yX7_node wsX7_node rmX7_node [.ref (w.2.1 0), .int a1, .int a2] m m9 r9 := by
  refine z_met_i MM_ok (own := RX7) (by decide +kernel) rfl rfl (Nat.le_of_ble_eq_true rfl) ?_
  intro K C hKw hKl hret
  subst hKw
  subst hKl
  unfold s_X7_node at hf
  show zGo MM K m [(0, .ref ((zw K).2.1 0)), (1, .int a1), (2, .int a2)] 0 []
  refine z_aload_n C 0 dX7_node_0 rfl rfl ?_
  refine z_geti C (Nat.le_of_ble_eq_true rfl) rfl rfl 0 (Nat.le_of_ble_eq_true rfl) rfl kiX7_node_X7 kfX7_node_140 dX7_node_1 ?_
  refine z_bipush C (v := 10) dX7_node_4 rfl ?_
  refine z_icmp_ne (tgt := 12) C dX7_node_6 (by decide) (fun c9 => ?_) (fun c9 => ?_)
  · replace hf := if_f c9 hf
    refine z_aload_n C 0 dX7_node_12 rfl rfl ?_
    refine z_getr C (t := 1) (Nat.le_of_ble_eq_true rfl) rfl rfl 1 (Nat.le_of_ble_eq_true rfl) rfl kiX7_node_X7 kfX7_node_7 dX7_node_13 ?_
    refine z_aload_n C 0 dX7_node_16 rfl rfl ?_
    refine z_geti C (Nat.le_of_ble_eq_true rfl) rfl rfl 0 (Nat.le_of_ble_eq_true rfl) rfl kiX7_node_X7 kfX7_node_140 dX7_node_17 ?_
    refine z_iload_n C 1 dX7_node_20 rfl rfl ?_
    obtain ⟨hi1, hf⟩ := ck_el hf
    refine z_zast C (k := 1) (Nat.le_of_ble_eq_true rfl) rfl hi1 dX7_node_21 ?_
    refine z_nm (fun m2 e_m2 => ?_)
    replace hf := bn_to e_m2 hf
    refine z_aload_n C 0 dX7_node_22 rfl rfl ?_
    refine z_getr C (t := 2) (Nat.le_of_ble_eq_true rfl) rfl rfl 2 (Nat.le_of_ble_eq_true rfl) rfl kiX7_node_X7 kfX7_node_13 dX7_node_23 ?_
    refine z_aload_n C 0 dX7_node_26 rfl rfl ?_
    refine z_geti C (Nat.le_of_ble_eq_true rfl) rfl rfl 0 (Nat.le_of_ble_eq_true rfl) rfl kiX7_node_X7 kfX7_node_140 dX7_node_27 ?_
    refine z_iload_n C 2 dX7_node_30 rfl rfl ?_
    obtain ⟨hi3, hf⟩ := ck_el hf
    refine z_iast C (k := 2) (Nat.le_of_ble_eq_true rfl) rfl hi3 dX7_node_31 ?_
    refine z_nm (fun m4 e_m4 => ?_)
    replace hf := bn_to e_m4 hf
    refine z_aload_n C 0 dX7_node_32 rfl rfl ?_
    refine z_getr C (t := 3) (Nat.le_of_ble_eq_true rfl) rfl rfl 3 (Nat.le_of_ble_eq_true rfl) rfl kiX7_node_X7 kfX7_node_17 dX7_node_33 ?_
    refine z_aload_n C 0 dX7_node_36 rfl rfl ?_
    refine z_geti C (Nat.le_of_ble_eq_true rfl) rfl rfl 0 (Nat.le_of_ble_eq_true rfl) rfl kiX7_node_X7 kfX7_node_140 dX7_node_37 ?_
    refine z_iconst C (v := 0) dX7_node_40 rfl ?_
    obtain ⟨hi5, hf⟩ := ck_el hf
    refine z_iast C (k := 3) (Nat.le_of_ble_eq_true rfl) rfl hi5 dX7_node_41 ?_
    refine z_nm (fun m6 e_m6 => ?_)
    replace hf := bn_to e_m6 hf
    refine z_aload_n C 0 dX7_node_42 rfl rfl ?_
    refine z_dup_a C dX7_node_43 ?_
    refine z_geti C (Nat.le_of_ble_eq_true rfl) rfl rfl 0 (Nat.le_of_ble_eq_true rfl) rfl kiX7_node_X7 kfX7_node_140 dX7_node_44 ?_
    refine z_iconst C (v := 1) dX7_node_47 rfl ?_
    refine z_iadd C dX7_node_48 ?_
    refine z_puti C (Nat.le_of_ble_eq_true rfl) rfl rfl 0 (Nat.le_of_ble_eq_true rfl) rfl kiX7_node_X7 kfX7_node_140 tyX7 tyX7_ok nmX7 rfl rfl dX7_node_49 ?_
    refine z_nm (fun m7 e_m7 => ?_)
    replace hf := bn_to e_m7 hf
    refine z_aload_n C 0 dX7_node_52 rfl rfl ?_
    refine z_iconst C (v := 0) dX7_node_53 rfl ?_
    refine z_putz C (Nat.le_of_ble_eq_true rfl) rfl rfl 6 (Nat.le_of_ble_eq_true rfl) rfl kiX7_node_X7 kfX7_node_148 tyX7 tyX7_ok nmX7 rfl rfl (Or.inl rfl) dX7_node_54 ?_
    refine z_nm (fun m8 e_m8 => ?_)
    replace hf := bn_to e_m8 hf
    refine z_aload_n C 0 dX7_node_57 rfl rfl ?_
    refine z_geti C (Nat.le_of_ble_eq_true rfl) rfl rfl 0 (Nat.le_of_ble_eq_true rfl) rfl kiX7_node_X7 kfX7_node_140 dX7_node_58 ?_
    refine z_iconst C (v := 1) dX7_node_61 rfl ?_
    refine z_isub C dX7_node_62 ?_
    obtain ⟨e1, e2⟩ := sp_el hf
    subst e1
    subst e2
    exact hret _ _ dX7_node_63
  · replace hf := if_t c9 hf
    refine z_bipush C (v := (-3)) dX7_node_9 (by decide) ?_
    obtain ⟨e1, e2⟩ := sp_el hf
    subst e1
    subst e2
    exact hret _ _ dX7_node_11
set_option maxRecDepth 20000 in
theorem ggX7_taken_X7_fails : GoodIn wsX7_taken wsX7_fails := goodIn_sub (List.forall_mem_cons.mpr ⟨(List.mem_of_getElem? (i := 10) rfl), (List.forall_mem_append.mpr ⟨(List.forall_mem_cons.mpr ⟨(List.mem_of_getElem? (i := 1) rfl), (List.forall_mem_cons.mpr ⟨(List.mem_of_getElem? (i := 11) rfl), (fun _ h => absurd h List.not_mem_nil)⟩)⟩), (fun _ h => (List.mem_cons_of_mem _ (List.mem_append_right _ h)))⟩)⟩) (by decide +kernel)
set_option maxRecDepth 20000 in
theorem gX7_taken_X7_fails : GoodIn wsX7_taken (wsV RX7 207 RX7 yX7_fails wsX7_fails) := goodIn_app (goodIn_sub (List.forall_mem_cons.mpr ⟨(List.mem_of_getElem? (i := 6) rfl), (List.forall_mem_cons.mpr ⟨(List.mem_of_getElem? (i := 7) rfl), (List.forall_mem_cons.mpr ⟨(List.mem_of_getElem? (i := 8) rfl), (List.forall_mem_cons.mpr ⟨(List.mem_of_getElem? (i := 9) rfl), (fun _ h => absurd h List.not_mem_nil)⟩)⟩)⟩)⟩) (by decide +kernel)) ggX7_taken_X7_fails
set_option maxRecDepth 20000 in
theorem ggX7_taken_X7_next : GoodIn wsX7_taken wsX7_next := goodIn_sub (List.forall_mem_cons.mpr ⟨(List.mem_of_getElem? (i := 15) rfl), (List.forall_mem_append.mpr ⟨(List.forall_mem_append.mpr ⟨(show ∀ w ∈ wsX7_next_r1, w ∈ wsX7_taken from (List.forall_mem_cons.mpr ⟨(List.mem_of_getElem? (i := 16) rfl), (List.forall_mem_cons.mpr ⟨(List.mem_of_getElem? (i := 3) rfl), (List.forall_mem_cons.mpr ⟨(List.mem_of_getElem? (i := 2) rfl), (List.forall_mem_cons.mpr ⟨(List.mem_of_getElem? (i := 17) rfl), (List.forall_mem_cons.mpr ⟨(List.mem_of_getElem? (i := 18) rfl), (List.forall_mem_cons.mpr ⟨(List.mem_of_getElem? (i := 4) rfl), (List.forall_mem_cons.mpr ⟨(List.mem_of_getElem? (i := 19) rfl), (List.forall_mem_cons.mpr ⟨(List.mem_of_getElem? (i := 20) rfl), (List.forall_mem_cons.mpr ⟨(List.mem_of_getElem? (i := 21) rfl), (List.forall_mem_cons.mpr ⟨(List.mem_of_getElem? (i := 22) rfl), (List.forall_mem_cons.mpr ⟨(List.mem_of_getElem? (i := 23) rfl), (List.forall_mem_cons.mpr ⟨(List.mem_of_getElem? (i := 24) rfl), (List.forall_mem_cons.mpr ⟨(List.mem_of_getElem? (i := 25) rfl), (List.forall_mem_cons.mpr ⟨(List.mem_of_getElem? (i := 9) rfl), (List.forall_mem_cons.mpr ⟨(List.mem_of_getElem? (i := 26) rfl), (List.forall_mem_cons.mpr ⟨(List.mem_of_getElem? (i := 27) rfl), (List.forall_mem_cons.mpr ⟨(List.mem_of_getElem? (i := 28) rfl), (List.forall_mem_cons.mpr ⟨(List.mem_of_getElem? (i := 29) rfl), (List.forall_mem_cons.mpr ⟨(List.mem_of_getElem? (i := 30) rfl), (List.forall_mem_cons.mpr ⟨(List.mem_of_getElem? (i := 31) rfl), (List.forall_mem_cons.mpr ⟨(List.mem_of_getElem? (i := 6) rfl), (List.forall_mem_cons.mpr ⟨(List.mem_of_getElem? (i := 7) rfl), (List.forall_mem_cons.mpr ⟨(List.mem_of_getElem? (i := 8) rfl), (List.forall_mem_cons.mpr ⟨(List.mem_of_getElem? (i := 10) rfl), (fun _ h => absurd h List.not_mem_nil)⟩)⟩)⟩)⟩)⟩)⟩)⟩)⟩)⟩)⟩)⟩)⟩)⟩)⟩)⟩)⟩)⟩)⟩)⟩)⟩)⟩)⟩)⟩)⟩)), (show ∀ w ∈ wsX7_next_r2, w ∈ wsX7_taken from (List.forall_mem_cons.mpr ⟨(List.mem_of_getElem? (i := 1) rfl), (List.forall_mem_cons.mpr ⟨(List.mem_of_getElem? (i := 11) rfl), (List.forall_mem_cons.mpr ⟨(List.mem_of_getElem? (i := 32) rfl), (List.forall_mem_cons.mpr ⟨(List.mem_of_getElem? (i := 33) rfl), (List.forall_mem_cons.mpr ⟨(List.mem_of_getElem? (i := 34) rfl), (List.forall_mem_cons.mpr ⟨(List.mem_of_getElem? (i := 35) rfl), (List.forall_mem_cons.mpr ⟨(List.mem_of_getElem? (i := 36) rfl), (List.forall_mem_cons.mpr ⟨(List.mem_of_getElem? (i := 37) rfl), (List.forall_mem_cons.mpr ⟨(List.mem_of_getElem? (i := 38) rfl), (fun _ h => absurd h List.not_mem_nil)⟩)⟩)⟩)⟩)⟩)⟩)⟩)⟩)⟩))⟩), (fun _ h => (List.mem_cons_of_mem _ (List.mem_append_right _ h)))⟩)⟩) (by decide +kernel)
set_option maxRecDepth 20000 in
theorem gX7_taken_X7_next : GoodIn wsX7_taken (wsV RX7 225 RX7 yX7_next wsX7_next) := goodIn_app (goodIn_sub (List.forall_mem_cons.mpr ⟨(List.mem_of_getElem? (i := 12) rfl), (List.forall_mem_cons.mpr ⟨(List.mem_of_getElem? (i := 13) rfl), (List.forall_mem_cons.mpr ⟨(List.mem_of_getElem? (i := 14) rfl), (List.forall_mem_cons.mpr ⟨(List.mem_of_getElem? (i := 9) rfl), (fun _ h => absurd h List.not_mem_nil)⟩)⟩)⟩)⟩) (by decide +kernel)) ggX7_taken_X7_next
theorem dX7_taken_0 : decode cX7_taken 0 = .ok (.aload_n 0, 1) := by decide +kernel
theorem dX7_taken_1 : decode cX7_taken 1 = .ok (.getfield 177, 3) := by decide +kernel
theorem dX7_taken_4 : decode cX7_taken 4 = .ok (.ifCond .ne 20, 3) := by decide +kernel
theorem dX7_taken_7 : decode cX7_taken 7 = .ok (.aload_n 0, 1) := by decide +kernel
theorem dX7_taken_8 : decode cX7_taken 8 = .ok (.getfield 193, 3) := by decide +kernel
theorem dX7_taken_11 : decode cX7_taken 11 = .ok (.iload_n 1, 1) := by decide +kernel
theorem dX7_taken_12 : decode cX7_taken 12 = .ok (.if_icmp .eq 12, 3) := by decide +kernel
theorem dX7_taken_15 : decode cX7_taken 15 = .ok (.aload_n 0, 1) := by decide +kernel
theorem dX7_taken_16 : decode cX7_taken 16 = .ok (.iconst 2, 1) := by decide +kernel
theorem dX7_taken_17 : decode cX7_taken 17 = .ok (.aload_n 0, 1) := by decide +kernel
theorem dX7_taken_18 : decode cX7_taken 18 = .ok (.getfield 186, 3) := by decide +kernel
theorem dX7_taken_21 : decode cX7_taken 21 = .ok (.invokevirtual 207, 3) := by decide +kernel
theorem dX7_taken_24 : decode cX7_taken 24 = .ok (.aload_n 0, 1) := by decide +kernel
theorem dX7_taken_25 : decode cX7_taken 25 = .ok (.getfield 200, 3) := by decide +kernel
theorem dX7_taken_28 : decode cX7_taken 28 = .ok (.istore_n 2, 1) := by decide +kernel
theorem dX7_taken_29 : decode cX7_taken 29 = .ok (.aload_n 0, 1) := by decide +kernel
theorem dX7_taken_30 : decode cX7_taken 30 = .ok (.aload_n 0, 1) := by decide +kernel
theorem dX7_taken_31 : decode cX7_taken 31 = .ok (.getfield 186, 3) := by decide +kernel
theorem dX7_taken_34 : decode cX7_taken 34 = .ok (.putfield 222, 3) := by decide +kernel
theorem dX7_taken_37 : decode cX7_taken 37 = .ok (.aload_n 0, 1) := by decide +kernel
theorem dX7_taken_38 : decode cX7_taken 38 = .ok (.getfield 177, 3) := by decide +kernel
theorem dX7_taken_41 : decode cX7_taken 41 = .ok (.ifCond .ne 7, 3) := by decide +kernel
theorem dX7_taken_44 : decode cX7_taken 44 = .ok (.aload_n 0, 1) := by decide +kernel
theorem dX7_taken_45 : decode cX7_taken 45 = .ok (.invokevirtual 225, 3) := by decide +kernel
theorem dX7_taken_48 : decode cX7_taken 48 = .ok (.iload_n 2, 1) := by decide +kernel
theorem dX7_taken_49 : decode cX7_taken 49 = .ok (.ireturn, 1) := by decide +kernel
def rmX7_taken : Room := { frames := 3, cells := 0, slots := 0, locals := 63 }
theorem zdX7_taken : yX7_taken.cls = RX7 ∧ yX7_taken.cls ≠ "java/lang/invoke/MethodHandle" ∧ yX7_taken.cls ≠ "java/lang/invoke/VarHandle" ∧ (parseMethodDescriptor yX7_taken.desc).map (fun d => d.parameters.length) = some 1 := by decide +kernel
theorem kiX7_taken_X7 : ∀ w ∈ wsX70, w ∈ wsX7_taken := fun _ h => (List.mem_cons_of_mem _ (List.mem_append_right _ h))
theorem kfX7_taken_177 : Cond.fieldLink RX7 177 "ShapeJudgeModel" "fault" "I" ∈ wsX7_taken := (List.mem_of_getElem? (i := 1) rfl)
theorem kfX7_taken_200 : Cond.fieldLink RX7 200 "ShapeJudgeModel" "value" "I" ∈ wsX7_taken := (List.mem_of_getElem? (i := 4) rfl)
theorem kfX7_taken_186 : Cond.fieldLink RX7 186 "ShapeJudgeModel" "from" "I" ∈ wsX7_taken := (List.mem_of_getElem? (i := 3) rfl)
theorem kfX7_taken_222 : Cond.fieldLink RX7 222 "ShapeJudgeModel" "takenAt" "I" ∈ wsX7_taken := (List.mem_of_getElem? (i := 5) rfl)
theorem kfX7_taken_193 : Cond.fieldLink RX7 193 "ShapeJudgeModel" "sort" "I" ∈ wsX7_taken := (List.mem_of_getElem? (i := 2) rfl)
def s_X7_taken (m : Mem) (a1 : Int32) : Option (Int32 × Mem) :=
  (((if (m 0 42) = 0 then ((if (m 0 40) = a1 then (some m) else ((s_X7_fails m 2 (m 0 39)).bind fun m8 => some m8))) else (some m)) : Option (Mem)).bind fun m1 => bn (m1 0 41) fun x2 => bn (sto m1 0 44 (m1 0 39)) fun m3 => (if (m3 0 42) = 0 then ((s_X7_next m3).bind fun m5 => some (x2, m5)) else (some (x2, m3))))
set_option maxRecDepth 100000 in
set_option maxHeartbeats 4000000 in
theorem c_X7_taken (l : Launch) (w : ZW) {m : Mem} {a1 : Int32} {r9 : Int32} {m9 : Mem}  (hf : s_X7_taken m a1 = some (r9, m9)) : zCi MM l w yX7_taken wsX7_taken rmX7_taken [.ref (w.2.1 0), .int a1] m m9 r9 := by
  refine z_met_i MM_ok (own := RX7) (by decide +kernel) rfl rfl (Nat.le_of_ble_eq_true rfl) ?_
  intro K C hKw hKl hret
  subst hKw
  subst hKl
  unfold s_X7_taken at hf
  show zGo MM K m [(0, .ref ((zw K).2.1 0)), (1, .int a1)] 0 []
  refine z_aload_n C 0 dX7_taken_0 rfl rfl ?_
  refine z_geti C (Nat.le_of_ble_eq_true rfl) rfl rfl 42 (Nat.le_of_ble_eq_true rfl) rfl kiX7_taken_X7 kfX7_taken_177 dX7_taken_1 ?_
  obtain ⟨m1, hg, hf⟩ := zb_el hf
  have hj : zGo MM K m1 [(0, .ref ((zw K).2.1 0))] 24 [] := by
    refine z_aload_n C 0 dX7_taken_24 rfl rfl ?_
    refine z_geti C (Nat.le_of_ble_eq_true rfl) rfl rfl 41 (Nat.le_of_ble_eq_true rfl) rfl kiX7_taken_X7 kfX7_taken_200 dX7_taken_25 ?_
    refine z_topi (fun x2 e_x2 => ?_)
    replace hf := bn_to e_x2 hf
    refine z_istore_n C (lv2 := [(0, .ref ((zw K).2.1 0)), (2, .int x2)]) [1, 0] dX7_taken_28 rfl (Nat.le_of_ble_eq_true rfl) rfl ?_
    refine z_aload_n C 0 dX7_taken_29 rfl rfl ?_
    refine z_aload_n C 0 dX7_taken_30 rfl rfl ?_
    refine z_geti C (Nat.le_of_ble_eq_true rfl) rfl rfl 39 (Nat.le_of_ble_eq_true rfl) rfl kiX7_taken_X7 kfX7_taken_186 dX7_taken_31 ?_
    refine z_puti C (Nat.le_of_ble_eq_true rfl) rfl rfl 44 (Nat.le_of_ble_eq_true rfl) rfl kiX7_taken_X7 kfX7_taken_222 tyX7 tyX7_ok nmX7 rfl rfl dX7_taken_34 ?_
    refine z_nm (fun m3 e_m3 => ?_)
    replace hf := bn_to e_m3 hf
    refine z_aload_n C 0 dX7_taken_37 rfl rfl ?_
    refine z_geti C (Nat.le_of_ble_eq_true rfl) rfl rfl 42 (Nat.le_of_ble_eq_true rfl) rfl kiX7_taken_X7 kfX7_taken_177 dX7_taken_38 ?_
    refine z_if_ne (tgt := 48) C dX7_taken_41 (by decide) (fun c6 => ?_) (fun c6 => ?_)
    · replace hf := if_f c6 hf
      refine z_iload_n C 1 dX7_taken_48 rfl rfl ?_
      obtain ⟨e1, e2⟩ := sp_el hf
      subst e1
      subst e2
      exact hret _ _ dX7_taken_49
    · replace hf := if_t c6 hf
      refine z_aload_n C 0 dX7_taken_44 rfl rfl ?_
      obtain ⟨m5, hc4, hf⟩ := zb_el hf
      refine z_cVv C (c_X7_next _ _ hc4) rfl gX7_taken_X7_next rfl rfl zdX7_next rfl (Nat.le_of_ble_eq_true rfl) rfl rfl rfl ⟨Nat.le_of_ble_eq_true rfl, Nat.le_of_ble_eq_true rfl⟩ (Nat.le_of_ble_eq_true rfl) dX7_taken_45 rfl ?_
      refine z_iload_n C 1 dX7_taken_48 rfl rfl ?_
      obtain ⟨e1, e2⟩ := sp_el hf
      subst e1
      subst e2
      exact hret _ _ dX7_taken_49
  replace hf := hg
  clear hg
  refine z_if_ne (tgt := 24) C dX7_taken_4 (by decide) (fun c10 => ?_) (fun c10 => ?_)
  · replace hf := if_f c10 hf
    cases hf
    exact z_sub [0] rfl hj
  · replace hf := if_t c10 hf
    refine z_aload_n C 0 dX7_taken_7 rfl rfl ?_
    refine z_geti C (Nat.le_of_ble_eq_true rfl) rfl rfl 40 (Nat.le_of_ble_eq_true rfl) rfl kiX7_taken_X7 kfX7_taken_193 dX7_taken_8 ?_
    refine z_iload_n C 1 dX7_taken_11 rfl rfl ?_
    refine z_icmp_eq (tgt := 24) C dX7_taken_12 (by decide) (fun c9 => ?_) (fun c9 => ?_)
    · replace hf := if_t c9 hf
      cases hf
      exact z_sub [0] rfl hj
    · replace hf := if_f c9 hf
      refine z_aload_n C 0 dX7_taken_15 rfl rfl ?_
      refine z_iconst C (v := 2) dX7_taken_16 rfl ?_
      refine z_aload_n C 0 dX7_taken_17 rfl rfl ?_
      refine z_geti C (Nat.le_of_ble_eq_true rfl) rfl rfl 39 (Nat.le_of_ble_eq_true rfl) rfl kiX7_taken_X7 kfX7_taken_186 dX7_taken_18 ?_
      obtain ⟨m8, hc7, hf⟩ := zb_el hf
      refine z_cVv C (c_X7_fails _ _ hc7) rfl gX7_taken_X7_fails rfl rfl zdX7_fails rfl (Nat.le_of_ble_eq_true rfl) rfl rfl rfl ⟨Nat.le_of_ble_eq_true rfl, Nat.le_of_ble_eq_true rfl⟩ (Nat.le_of_ble_eq_true rfl) dX7_taken_21 rfl ?_
      cases hf
      exact z_sub [0] rfl hj
set_option maxRecDepth 20000 in
theorem ggX7_number_X7_in : GoodIn wsX7_number wsX7_in := goodIn_sub (List.forall_mem_cons.mpr ⟨(List.mem_of_getElem? (i := 8) rfl), (fun _ h => absurd h List.not_mem_nil)⟩) (by decide +kernel)
set_option maxRecDepth 20000 in
theorem gX7_number_X7_in : GoodIn wsX7_number (va_wsS RX7 144 yX7_in wsX7_in) := goodIn_app (goodIn_sub (List.forall_mem_cons.mpr ⟨(List.mem_of_getElem? (i := 5) rfl), (List.forall_mem_cons.mpr ⟨(List.mem_of_getElem? (i := 6) rfl), (List.forall_mem_cons.mpr ⟨(List.mem_of_getElem? (i := 7) rfl), (fun _ h => absurd h List.not_mem_nil)⟩)⟩)⟩) (by decide +kernel)) ggX7_number_X7_in
set_option maxRecDepth 20000 in
theorem ggX7_number_X7_fails : GoodIn wsX7_number wsX7_fails := goodIn_sub (List.forall_mem_cons.mpr ⟨(List.mem_of_getElem? (i := 12) rfl), (List.forall_mem_append.mpr ⟨(List.forall_mem_cons.mpr ⟨(List.mem_of_getElem? (i := 1) rfl), (List.forall_mem_cons.mpr ⟨(List.mem_of_getElem? (i := 13) rfl), (fun _ h => absurd h List.not_mem_nil)⟩)⟩), (fun _ h => (List.mem_cons_of_mem _ (List.mem_append_right _ h)))⟩)⟩) (by decide +kernel)
set_option maxRecDepth 20000 in
theorem gX7_number_X7_fails : GoodIn wsX7_number (wsV RX7 207 RX7 yX7_fails wsX7_fails) := goodIn_app (goodIn_sub (List.forall_mem_cons.mpr ⟨(List.mem_of_getElem? (i := 9) rfl), (List.forall_mem_cons.mpr ⟨(List.mem_of_getElem? (i := 10) rfl), (List.forall_mem_cons.mpr ⟨(List.mem_of_getElem? (i := 11) rfl), (List.forall_mem_cons.mpr ⟨(List.mem_of_getElem? (i := 7) rfl), (fun _ h => absurd h List.not_mem_nil)⟩)⟩)⟩)⟩) (by decide +kernel)) ggX7_number_X7_fails
set_option maxRecDepth 20000 in
theorem ggX7_number_X7_taken : GoodIn wsX7_number wsX7_taken := goodIn_sub (List.forall_mem_cons.mpr ⟨(List.mem_of_getElem? (i := 17) rfl), (List.forall_mem_append.mpr ⟨(List.forall_mem_append.mpr ⟨(show ∀ w ∈ wsX7_taken_r1, w ∈ wsX7_number from (List.forall_mem_cons.mpr ⟨(List.mem_of_getElem? (i := 1) rfl), (List.forall_mem_cons.mpr ⟨(List.mem_of_getElem? (i := 2) rfl), (List.forall_mem_cons.mpr ⟨(List.mem_of_getElem? (i := 4) rfl), (List.forall_mem_cons.mpr ⟨(List.mem_of_getElem? (i := 3) rfl), (List.forall_mem_cons.mpr ⟨(List.mem_of_getElem? (i := 18) rfl), (List.forall_mem_cons.mpr ⟨(List.mem_of_getElem? (i := 9) rfl), (List.forall_mem_cons.mpr ⟨(List.mem_of_getElem? (i := 10) rfl), (List.forall_mem_cons.mpr ⟨(List.mem_of_getElem? (i := 11) rfl), (List.forall_mem_cons.mpr ⟨(List.mem_of_getElem? (i := 7) rfl), (List.forall_mem_cons.mpr ⟨(List.mem_of_getElem? (i := 12) rfl), (List.forall_mem_cons.mpr ⟨(List.mem_of_getElem? (i := 13) rfl), (List.forall_mem_cons.mpr ⟨(List.mem_of_getElem? (i := 19) rfl), (List.forall_mem_cons.mpr ⟨(List.mem_of_getElem? (i := 20) rfl), (List.forall_mem_cons.mpr ⟨(List.mem_of_getElem? (i := 21) rfl), (List.forall_mem_cons.mpr ⟨(List.mem_of_getElem? (i := 22) rfl), (List.forall_mem_cons.mpr ⟨(List.mem_of_getElem? (i := 23) rfl), (List.forall_mem_cons.mpr ⟨(List.mem_of_getElem? (i := 24) rfl), (List.forall_mem_cons.mpr ⟨(List.mem_of_getElem? (i := 25) rfl), (List.forall_mem_cons.mpr ⟨(List.mem_of_getElem? (i := 26) rfl), (List.forall_mem_cons.mpr ⟨(List.mem_of_getElem? (i := 27) rfl), (List.forall_mem_cons.mpr ⟨(List.mem_of_getElem? (i := 28) rfl), (List.forall_mem_cons.mpr ⟨(List.mem_of_getElem? (i := 29) rfl), (List.forall_mem_cons.mpr ⟨(List.mem_of_getElem? (i := 30) rfl), (List.forall_mem_cons.mpr ⟨(List.mem_of_getElem? (i := 31) rfl), (fun _ h => absurd h List.not_mem_nil)⟩)⟩)⟩)⟩)⟩)⟩)⟩)⟩)⟩)⟩)⟩)⟩)⟩)⟩)⟩)⟩)⟩)⟩)⟩)⟩)⟩)⟩)⟩)⟩)), (show ∀ w ∈ wsX7_taken_r2, w ∈ wsX7_number from (List.forall_mem_cons.mpr ⟨(List.mem_of_getElem? (i := 32) rfl), (List.forall_mem_cons.mpr ⟨(List.mem_of_getElem? (i := 33) rfl), (List.forall_mem_cons.mpr ⟨(List.mem_of_getElem? (i := 34) rfl), (List.forall_mem_cons.mpr ⟨(List.mem_of_getElem? (i := 35) rfl), (List.forall_mem_cons.mpr ⟨(List.mem_of_getElem? (i := 5) rfl), (List.forall_mem_cons.mpr ⟨(List.mem_of_getElem? (i := 6) rfl), (List.forall_mem_cons.mpr ⟨(List.mem_of_getElem? (i := 8) rfl), (List.forall_mem_cons.mpr ⟨(List.mem_of_getElem? (i := 36) rfl), (List.forall_mem_cons.mpr ⟨(List.mem_of_getElem? (i := 37) rfl), (List.forall_mem_cons.mpr ⟨(List.mem_of_getElem? (i := 38) rfl), (List.forall_mem_cons.mpr ⟨(List.mem_of_getElem? (i := 39) rfl), (List.forall_mem_cons.mpr ⟨(List.mem_of_getElem? (i := 40) rfl), (List.forall_mem_cons.mpr ⟨(List.mem_of_getElem? (i := 41) rfl), (List.forall_mem_cons.mpr ⟨(List.mem_of_getElem? (i := 42) rfl), (fun _ h => absurd h List.not_mem_nil)⟩)⟩)⟩)⟩)⟩)⟩)⟩)⟩)⟩)⟩)⟩)⟩)⟩)⟩))⟩), (fun _ h => (List.mem_cons_of_mem _ (List.mem_append_right _ h)))⟩)⟩) (by decide +kernel)
set_option maxRecDepth 20000 in
theorem gX7_number_X7_taken : GoodIn wsX7_number (wsV RX7 231 RX7 yX7_taken wsX7_taken) := goodIn_app (goodIn_sub (List.forall_mem_cons.mpr ⟨(List.mem_of_getElem? (i := 14) rfl), (List.forall_mem_cons.mpr ⟨(List.mem_of_getElem? (i := 15) rfl), (List.forall_mem_cons.mpr ⟨(List.mem_of_getElem? (i := 16) rfl), (List.forall_mem_cons.mpr ⟨(List.mem_of_getElem? (i := 7) rfl), (fun _ h => absurd h List.not_mem_nil)⟩)⟩)⟩)⟩) (by decide +kernel)) ggX7_number_X7_taken
theorem dX7_number_0 : decode cX7_number 0 = .ok (.aload_n 0, 1) := by decide +kernel
theorem dX7_number_1 : decode cX7_number 1 = .ok (.getfield 177, 3) := by decide +kernel
theorem dX7_number_4 : decode cX7_number 4 = .ok (.ifCond .ne 35, 3) := by decide +kernel
theorem dX7_number_7 : decode cX7_number 7 = .ok (.aload_n 0, 1) := by decide +kernel
theorem dX7_number_8 : decode cX7_number 8 = .ok (.getfield 193, 3) := by decide +kernel
theorem dX7_number_11 : decode cX7_number 11 = .ok (.iconst 2, 1) := by decide +kernel
theorem dX7_number_12 : decode cX7_number 12 = .ok (.if_icmp .ne 27, 3) := by decide +kernel
theorem dX7_number_15 : decode cX7_number 15 = .ok (.aload_n 0, 1) := by decide +kernel
theorem dX7_number_16 : decode cX7_number 16 = .ok (.getfield 200, 3) := by decide +kernel
theorem dX7_number_19 : decode cX7_number 19 = .ok (.i2l, 1) := by decide +kernel
theorem dX7_number_20 : decode cX7_number 20 = .ok (.iload_n 1, 1) := by decide +kernel
theorem dX7_number_21 : decode cX7_number 21 = .ok (.i2l, 1) := by decide +kernel
theorem dX7_number_22 : decode cX7_number 22 = .ok (.iload_n 2, 1) := by decide +kernel
theorem dX7_number_23 : decode cX7_number 23 = .ok (.i2l, 1) := by decide +kernel
theorem dX7_number_24 : decode cX7_number 24 = .ok (.invokestatic 144, 3) := by decide +kernel
theorem dX7_number_27 : decode cX7_number 27 = .ok (.ifCond .ne 12, 3) := by decide +kernel
theorem dX7_number_30 : decode cX7_number 30 = .ok (.aload_n 0, 1) := by decide +kernel
theorem dX7_number_31 : decode cX7_number 31 = .ok (.iconst 3, 1) := by decide +kernel
theorem dX7_number_32 : decode cX7_number 32 = .ok (.aload_n 0, 1) := by decide +kernel
theorem dX7_number_33 : decode cX7_number 33 = .ok (.getfield 186, 3) := by decide +kernel
theorem dX7_number_36 : decode cX7_number 36 = .ok (.invokevirtual 207, 3) := by decide +kernel
theorem dX7_number_39 : decode cX7_number 39 = .ok (.aload_n 0, 1) := by decide +kernel
theorem dX7_number_40 : decode cX7_number 40 = .ok (.iconst 2, 1) := by decide +kernel
theorem dX7_number_41 : decode cX7_number 41 = .ok (.invokevirtual 231, 3) := by decide +kernel
theorem dX7_number_44 : decode cX7_number 44 = .ok (.ireturn, 1) := by decide +kernel
def rmX7_number : Room := { frames := 4, cells := 0, slots := 0, locals := 85 }
theorem zdX7_number : yX7_number.cls = RX7 ∧ yX7_number.cls ≠ "java/lang/invoke/MethodHandle" ∧ yX7_number.cls ≠ "java/lang/invoke/VarHandle" ∧ (parseMethodDescriptor yX7_number.desc).map (fun d => d.parameters.length) = some 2 := by decide +kernel
theorem kiX7_number_X7 : ∀ w ∈ wsX70, w ∈ wsX7_number := fun _ h => (List.mem_cons_of_mem _ (List.mem_append_right _ h))
theorem kfX7_number_177 : Cond.fieldLink RX7 177 "ShapeJudgeModel" "fault" "I" ∈ wsX7_number := (List.mem_of_getElem? (i := 1) rfl)
theorem kfX7_number_193 : Cond.fieldLink RX7 193 "ShapeJudgeModel" "sort" "I" ∈ wsX7_number := (List.mem_of_getElem? (i := 2) rfl)
theorem kfX7_number_200 : Cond.fieldLink RX7 200 "ShapeJudgeModel" "value" "I" ∈ wsX7_number := (List.mem_of_getElem? (i := 3) rfl)
theorem kfX7_number_186 : Cond.fieldLink RX7 186 "ShapeJudgeModel" "from" "I" ∈ wsX7_number := (List.mem_of_getElem? (i := 4) rfl)
def s_X7_number (m : Mem) (a1 : Int32) (a2 : Int32) : Option (Int32 × Mem) :=
  (if (m 0 42) = 0 then ((if (m 0 40) = 2 then ((s_X7_in (m 0 41).toInt64 (a1.toInt64) (a2.toInt64)).bind fun r8 => (if r8 = 0 then ((s_X7_fails m 3 (m 0 39)).bind fun m13 => zb2 (s_X7_taken m13 2) fun r15 m16 => some (r15, m16)) else (zb2 (s_X7_taken m 2) fun r10 m11 => some (r10, m11)))) else (zb2 (s_X7_taken m 2) fun r5 m6 => some (r5, m6)))) else (zb2 (s_X7_taken m 2) fun r2 m3 => some (r2, m3)))
set_option maxRecDepth 100000 in
set_option maxHeartbeats 4000000 in
theorem c_X7_number (l : Launch) (w : ZW) {m : Mem} {a1 : Int32} {a2 : Int32} {r9 : Int32} {m9 : Mem}  (hf : s_X7_number m a1 a2 = some (r9, m9)) : zCi MM l w yX7_number wsX7_number rmX7_number [.ref (w.2.1 0), .int a1, .int a2] m m9 r9 := by
  refine z_met_i MM_ok (own := RX7) (by decide +kernel) rfl rfl (Nat.le_of_ble_eq_true rfl) ?_
  intro K C hKw hKl hret
  subst hKw
  subst hKl
  unfold s_X7_number at hf
  show zGo MM K m [(0, .ref ((zw K).2.1 0)), (1, .int a1), (2, .int a2)] 0 []
  refine z_aload_n C 0 dX7_number_0 rfl rfl ?_
  refine z_geti C (Nat.le_of_ble_eq_true rfl) rfl rfl 42 (Nat.le_of_ble_eq_true rfl) rfl kiX7_number_X7 kfX7_number_177 dX7_number_1 ?_
  refine z_if_ne (tgt := 39) C dX7_number_4 (by decide) (fun c19 => ?_) (fun c19 => ?_)
  · replace hf := if_f c19 hf
    refine z_aload_n C 0 dX7_number_39 rfl rfl ?_
    refine z_iconst C (v := 2) dX7_number_40 rfl ?_
    obtain ⟨r2, m3, hc1, hf⟩ := zb2_el hf
    refine z_cVi C (c_X7_taken _ _ hc1) rfl gX7_number_X7_taken rfl rfl zdX7_taken rfl (Nat.le_of_ble_eq_true rfl) rfl rfl rfl ⟨Nat.le_of_ble_eq_true rfl, Nat.le_of_ble_eq_true rfl⟩ (Nat.le_of_ble_eq_true rfl) dX7_number_41 rfl ?_
    obtain ⟨e1, e2⟩ := sp_el hf
    subst e1
    subst e2
    exact hret _ _ dX7_number_44
  · replace hf := if_t c19 hf
    refine z_aload_n C 0 dX7_number_7 rfl rfl ?_
    refine z_geti C (Nat.le_of_ble_eq_true rfl) rfl rfl 40 (Nat.le_of_ble_eq_true rfl) rfl kiX7_number_X7 kfX7_number_193 dX7_number_8 ?_
    refine z_iconst C (v := 2) dX7_number_11 rfl ?_
    refine z_icmp_ne (tgt := 39) C dX7_number_12 (by decide) (fun c18 => ?_) (fun c18 => ?_)
    · replace hf := if_f c18 hf
      refine z_aload_n C 0 dX7_number_39 rfl rfl ?_
      refine z_iconst C (v := 2) dX7_number_40 rfl ?_
      obtain ⟨r5, m6, hc4, hf⟩ := zb2_el hf
      refine z_cVi C (c_X7_taken _ _ hc4) rfl gX7_number_X7_taken rfl rfl zdX7_taken rfl (Nat.le_of_ble_eq_true rfl) rfl rfl rfl ⟨Nat.le_of_ble_eq_true rfl, Nat.le_of_ble_eq_true rfl⟩ (Nat.le_of_ble_eq_true rfl) dX7_number_41 rfl ?_
      obtain ⟨e1, e2⟩ := sp_el hf
      subst e1
      subst e2
      exact hret _ _ dX7_number_44
    · replace hf := if_t c18 hf
      refine z_aload_n C 0 dX7_number_15 rfl rfl ?_
      refine z_geti C (Nat.le_of_ble_eq_true rfl) rfl rfl 41 (Nat.le_of_ble_eq_true rfl) rfl kiX7_number_X7 kfX7_number_200 dX7_number_16 ?_
      refine z_i2l C dX7_number_19 ?_
      refine z_iload_n C 1 dX7_number_20 rfl rfl ?_
      refine z_i2l C dX7_number_21 ?_
      refine z_iload_n C 2 dX7_number_22 rfl rfl ?_
      refine z_i2l C dX7_number_23 ?_
      obtain ⟨r8, hc7, hf⟩ := zb_el hf
      refine z_cSi C (c_X7_in _ _ hc7) rfl gX7_number_X7_in rfl rfl zdX7_in.2 rfl ⟨Nat.le_of_ble_eq_true rfl, Nat.le_of_ble_eq_true rfl⟩ (Nat.le_of_ble_eq_true rfl) dX7_number_24 rfl ?_
      refine z_if_ne (tgt := 39) C dX7_number_27 (by decide) (fun c17 => ?_) (fun c17 => ?_)
      · replace hf := if_f c17 hf
        refine z_aload_n C 0 dX7_number_39 rfl rfl ?_
        refine z_iconst C (v := 2) dX7_number_40 rfl ?_
        obtain ⟨r10, m11, hc9, hf⟩ := zb2_el hf
        refine z_cVi C (c_X7_taken _ _ hc9) rfl gX7_number_X7_taken rfl rfl zdX7_taken rfl (Nat.le_of_ble_eq_true rfl) rfl rfl rfl ⟨Nat.le_of_ble_eq_true rfl, Nat.le_of_ble_eq_true rfl⟩ (Nat.le_of_ble_eq_true rfl) dX7_number_41 rfl ?_
        obtain ⟨e1, e2⟩ := sp_el hf
        subst e1
        subst e2
        exact hret _ _ dX7_number_44
      · replace hf := if_t c17 hf
        refine z_aload_n C 0 dX7_number_30 rfl rfl ?_
        refine z_iconst C (v := 3) dX7_number_31 rfl ?_
        refine z_aload_n C 0 dX7_number_32 rfl rfl ?_
        refine z_geti C (Nat.le_of_ble_eq_true rfl) rfl rfl 39 (Nat.le_of_ble_eq_true rfl) rfl kiX7_number_X7 kfX7_number_186 dX7_number_33 ?_
        obtain ⟨m13, hc12, hf⟩ := zb_el hf
        refine z_cVv C (c_X7_fails _ _ hc12) rfl gX7_number_X7_fails rfl rfl zdX7_fails rfl (Nat.le_of_ble_eq_true rfl) rfl rfl rfl ⟨Nat.le_of_ble_eq_true rfl, Nat.le_of_ble_eq_true rfl⟩ (Nat.le_of_ble_eq_true rfl) dX7_number_36 rfl ?_
        refine z_aload_n C 0 dX7_number_39 rfl rfl ?_
        refine z_iconst C (v := 2) dX7_number_40 rfl ?_
        obtain ⟨r15, m16, hc14, hf⟩ := zb2_el hf
        refine z_cVi C (c_X7_taken _ _ hc14) rfl gX7_number_X7_taken rfl rfl zdX7_taken rfl (Nat.le_of_ble_eq_true rfl) rfl rfl rfl ⟨Nat.le_of_ble_eq_true rfl, Nat.le_of_ble_eq_true rfl⟩ (Nat.le_of_ble_eq_true rfl) dX7_number_41 rfl ?_
        obtain ⟨e1, e2⟩ := sp_el hf
        subst e1
        subst e2
        exact hret _ _ dX7_number_44
set_option maxRecDepth 20000 in
theorem ggX7_part_X7_isShape : GoodIn wsX7_part wsX7_isShape := goodIn_sub (List.forall_mem_cons.mpr ⟨(List.mem_of_getElem? (i := 11) rfl), (List.forall_mem_append.mpr ⟨(List.forall_mem_cons.mpr ⟨(List.mem_of_getElem? (i := 12) rfl), (List.forall_mem_cons.mpr ⟨(List.mem_of_getElem? (i := 13) rfl), (List.forall_mem_cons.mpr ⟨(List.mem_of_getElem? (i := 14) rfl), (List.forall_mem_cons.mpr ⟨(List.mem_of_getElem? (i := 10) rfl), (List.forall_mem_cons.mpr ⟨(List.mem_of_getElem? (i := 15) rfl), (fun _ h => absurd h List.not_mem_nil)⟩)⟩)⟩)⟩)⟩), (fun _ h => (List.mem_cons_of_mem _ (List.mem_append_right _ h)))⟩)⟩) (by decide +kernel)
set_option maxRecDepth 20000 in
theorem gX7_part_X7_isShape : GoodIn wsX7_part (wsV RX7 309 RX7 yX7_isShape wsX7_isShape) := goodIn_app (goodIn_sub (List.forall_mem_cons.mpr ⟨(List.mem_of_getElem? (i := 7) rfl), (List.forall_mem_cons.mpr ⟨(List.mem_of_getElem? (i := 8) rfl), (List.forall_mem_cons.mpr ⟨(List.mem_of_getElem? (i := 9) rfl), (List.forall_mem_cons.mpr ⟨(List.mem_of_getElem? (i := 10) rfl), (fun _ h => absurd h List.not_mem_nil)⟩)⟩)⟩)⟩) (by decide +kernel)) ggX7_part_X7_isShape
set_option maxRecDepth 20000 in
theorem ggX7_part_X7_in : GoodIn wsX7_part wsX7_in := goodIn_sub (List.forall_mem_cons.mpr ⟨(List.mem_of_getElem? (i := 15) rfl), (fun _ h => absurd h List.not_mem_nil)⟩) (by decide +kernel)
set_option maxRecDepth 20000 in
theorem gX7_part_X7_in : GoodIn wsX7_part (va_wsS RX7 144 yX7_in wsX7_in) := goodIn_app (goodIn_sub (List.forall_mem_cons.mpr ⟨(List.mem_of_getElem? (i := 13) rfl), (List.forall_mem_cons.mpr ⟨(List.mem_of_getElem? (i := 14) rfl), (List.forall_mem_cons.mpr ⟨(List.mem_of_getElem? (i := 10) rfl), (fun _ h => absurd h List.not_mem_nil)⟩)⟩)⟩) (by decide +kernel)) ggX7_part_X7_in
set_option maxRecDepth 100000 in
theorem daX7_part : ∀ q ∈ ([(0, .aload_n 0, 1), (1, .iload_n 1, 1), (2, .invokevirtual 309, 3), (5, .ifCond .eq 33, 3), (8, .iload_n 2, 1), (9, .i2l, 1), (10, .lconst 0, 1), (11, .aload_n 0, 1), (12, .getfield 32, 3), (15, .iload_n 1, 1), (16, .iaload, 1), (17, .iconst 1, 1), (18, .isub, 1), (19, .i2l, 1), (20, .invokestatic 144, 3), (23, .ifCond .eq 15, 3), (26, .iload_n 3, 1), (27, .i2l, 1), (28, .lconst 0, 1), (29, .ldc2_w 330, 3), (32, .invokestatic 144, 3), (35, .ifCond .ne 5, 3), (38, .iconst (-1), 1), (39, .ireturn, 1), (40, .bipush 6, 2), (42, .iload_n 1, 1), (43, .imul, 1), (44, .iload_n 2, 1), (45, .iadd, 1), (46, .istore 4, 2), (48, .iload_n 3, 1), (49, .ifCond .ne 13, 3), (52, .aload_n 0, 1), (53, .getfield 35, 3), (56, .iload 4, 2), (58, .iaload, 1), (59, .goto 40, 3), (62, .iload_n 3, 1), (63, .iconst 1, 1), (64, .if_icmp .ne 13, 3), (67, .aload_n 0, 1), (68, .getfield 38, 3), (71, .iload 4, 2), (73, .iaload, 1), (74, .goto 25, 3), (77, .iload_n 3, 1), (78, .iconst 2, 1), (79, .if_icmp .ne 13, 3), (82, .aload_n 0, 1), (83, .getfield 41, 3), (86, .iload 4, 2), (88, .iaload, 1), (89, .goto 10, 3), (92, .aload_n 0, 1), (93, .getfield 44, 3), (96, .iload 4, 2), (98, .iaload, 1), (99, .ireturn, 1)] : List (Nat × Instr × Nat)), decode cX7_part q.1 = .ok q.2 := by decide +kernel
theorem dX7_part_0 : decode cX7_part 0 = .ok (.aload_n 0, 1) := daX7_part (0, .aload_n 0, 1) (List.mem_of_getElem? (i := 0) rfl)
theorem dX7_part_1 : decode cX7_part 1 = .ok (.iload_n 1, 1) := daX7_part (1, .iload_n 1, 1) (List.mem_of_getElem? (i := 1) rfl)
theorem dX7_part_2 : decode cX7_part 2 = .ok (.invokevirtual 309, 3) := daX7_part (2, .invokevirtual 309, 3) (List.mem_of_getElem? (i := 2) rfl)
theorem dX7_part_5 : decode cX7_part 5 = .ok (.ifCond .eq 33, 3) := daX7_part (5, .ifCond .eq 33, 3) (List.mem_of_getElem? (i := 3) rfl)
theorem dX7_part_8 : decode cX7_part 8 = .ok (.iload_n 2, 1) := daX7_part (8, .iload_n 2, 1) (List.mem_of_getElem? (i := 4) rfl)
theorem dX7_part_9 : decode cX7_part 9 = .ok (.i2l, 1) := daX7_part (9, .i2l, 1) (List.mem_of_getElem? (i := 5) rfl)
theorem dX7_part_10 : decode cX7_part 10 = .ok (.lconst 0, 1) := daX7_part (10, .lconst 0, 1) (List.mem_of_getElem? (i := 6) rfl)
theorem dX7_part_11 : decode cX7_part 11 = .ok (.aload_n 0, 1) := daX7_part (11, .aload_n 0, 1) (List.mem_of_getElem? (i := 7) rfl)
theorem dX7_part_12 : decode cX7_part 12 = .ok (.getfield 32, 3) := daX7_part (12, .getfield 32, 3) (List.mem_of_getElem? (i := 8) rfl)
theorem dX7_part_15 : decode cX7_part 15 = .ok (.iload_n 1, 1) := daX7_part (15, .iload_n 1, 1) (List.mem_of_getElem? (i := 9) rfl)
theorem dX7_part_16 : decode cX7_part 16 = .ok (.iaload, 1) := daX7_part (16, .iaload, 1) (List.mem_of_getElem? (i := 10) rfl)
theorem dX7_part_17 : decode cX7_part 17 = .ok (.iconst 1, 1) := daX7_part (17, .iconst 1, 1) (List.mem_of_getElem? (i := 11) rfl)
theorem dX7_part_18 : decode cX7_part 18 = .ok (.isub, 1) := daX7_part (18, .isub, 1) (List.mem_of_getElem? (i := 12) rfl)
theorem dX7_part_19 : decode cX7_part 19 = .ok (.i2l, 1) := daX7_part (19, .i2l, 1) (List.mem_of_getElem? (i := 13) rfl)
theorem dX7_part_20 : decode cX7_part 20 = .ok (.invokestatic 144, 3) := daX7_part (20, .invokestatic 144, 3) (List.mem_of_getElem? (i := 14) rfl)
theorem dX7_part_23 : decode cX7_part 23 = .ok (.ifCond .eq 15, 3) := daX7_part (23, .ifCond .eq 15, 3) (List.mem_of_getElem? (i := 15) rfl)
theorem dX7_part_26 : decode cX7_part 26 = .ok (.iload_n 3, 1) := daX7_part (26, .iload_n 3, 1) (List.mem_of_getElem? (i := 16) rfl)
theorem dX7_part_27 : decode cX7_part 27 = .ok (.i2l, 1) := daX7_part (27, .i2l, 1) (List.mem_of_getElem? (i := 17) rfl)
theorem dX7_part_28 : decode cX7_part 28 = .ok (.lconst 0, 1) := daX7_part (28, .lconst 0, 1) (List.mem_of_getElem? (i := 18) rfl)
theorem dX7_part_29 : decode cX7_part 29 = .ok (.ldc2_w 330, 3) := daX7_part (29, .ldc2_w 330, 3) (List.mem_of_getElem? (i := 19) rfl)
theorem dX7_part_32 : decode cX7_part 32 = .ok (.invokestatic 144, 3) := daX7_part (32, .invokestatic 144, 3) (List.mem_of_getElem? (i := 20) rfl)
theorem dX7_part_35 : decode cX7_part 35 = .ok (.ifCond .ne 5, 3) := daX7_part (35, .ifCond .ne 5, 3) (List.mem_of_getElem? (i := 21) rfl)
theorem dX7_part_38 : decode cX7_part 38 = .ok (.iconst (-1), 1) := daX7_part (38, .iconst (-1), 1) (List.mem_of_getElem? (i := 22) rfl)
theorem dX7_part_39 : decode cX7_part 39 = .ok (.ireturn, 1) := daX7_part (39, .ireturn, 1) (List.mem_of_getElem? (i := 23) rfl)
theorem dX7_part_40 : decode cX7_part 40 = .ok (.bipush 6, 2) := daX7_part (40, .bipush 6, 2) (List.mem_of_getElem? (i := 24) rfl)
theorem dX7_part_42 : decode cX7_part 42 = .ok (.iload_n 1, 1) := daX7_part (42, .iload_n 1, 1) (List.mem_of_getElem? (i := 25) rfl)
theorem dX7_part_43 : decode cX7_part 43 = .ok (.imul, 1) := daX7_part (43, .imul, 1) (List.mem_of_getElem? (i := 26) rfl)
theorem dX7_part_44 : decode cX7_part 44 = .ok (.iload_n 2, 1) := daX7_part (44, .iload_n 2, 1) (List.mem_of_getElem? (i := 27) rfl)
theorem dX7_part_45 : decode cX7_part 45 = .ok (.iadd, 1) := daX7_part (45, .iadd, 1) (List.mem_of_getElem? (i := 28) rfl)
theorem dX7_part_46 : decode cX7_part 46 = .ok (.istore 4, 2) := daX7_part (46, .istore 4, 2) (List.mem_of_getElem? (i := 29) rfl)
theorem dX7_part_48 : decode cX7_part 48 = .ok (.iload_n 3, 1) := daX7_part (48, .iload_n 3, 1) (List.mem_of_getElem? (i := 30) rfl)
theorem dX7_part_49 : decode cX7_part 49 = .ok (.ifCond .ne 13, 3) := daX7_part (49, .ifCond .ne 13, 3) (List.mem_of_getElem? (i := 31) rfl)
theorem dX7_part_52 : decode cX7_part 52 = .ok (.aload_n 0, 1) := daX7_part (52, .aload_n 0, 1) (List.mem_of_getElem? (i := 32) rfl)
theorem dX7_part_53 : decode cX7_part 53 = .ok (.getfield 35, 3) := daX7_part (53, .getfield 35, 3) (List.mem_of_getElem? (i := 33) rfl)
theorem dX7_part_56 : decode cX7_part 56 = .ok (.iload 4, 2) := daX7_part (56, .iload 4, 2) (List.mem_of_getElem? (i := 34) rfl)
theorem dX7_part_58 : decode cX7_part 58 = .ok (.iaload, 1) := daX7_part (58, .iaload, 1) (List.mem_of_getElem? (i := 35) rfl)
theorem dX7_part_59 : decode cX7_part 59 = .ok (.goto 40, 3) := daX7_part (59, .goto 40, 3) (List.mem_of_getElem? (i := 36) rfl)
theorem dX7_part_62 : decode cX7_part 62 = .ok (.iload_n 3, 1) := daX7_part (62, .iload_n 3, 1) (List.mem_of_getElem? (i := 37) rfl)
theorem dX7_part_63 : decode cX7_part 63 = .ok (.iconst 1, 1) := daX7_part (63, .iconst 1, 1) (List.mem_of_getElem? (i := 38) rfl)
theorem dX7_part_64 : decode cX7_part 64 = .ok (.if_icmp .ne 13, 3) := daX7_part (64, .if_icmp .ne 13, 3) (List.mem_of_getElem? (i := 39) rfl)
theorem dX7_part_67 : decode cX7_part 67 = .ok (.aload_n 0, 1) := daX7_part (67, .aload_n 0, 1) (List.mem_of_getElem? (i := 40) rfl)
theorem dX7_part_68 : decode cX7_part 68 = .ok (.getfield 38, 3) := daX7_part (68, .getfield 38, 3) (List.mem_of_getElem? (i := 41) rfl)
theorem dX7_part_71 : decode cX7_part 71 = .ok (.iload 4, 2) := daX7_part (71, .iload 4, 2) (List.mem_of_getElem? (i := 42) rfl)
theorem dX7_part_73 : decode cX7_part 73 = .ok (.iaload, 1) := daX7_part (73, .iaload, 1) (List.mem_of_getElem? (i := 43) rfl)
theorem dX7_part_74 : decode cX7_part 74 = .ok (.goto 25, 3) := daX7_part (74, .goto 25, 3) (List.mem_of_getElem? (i := 44) rfl)
theorem dX7_part_77 : decode cX7_part 77 = .ok (.iload_n 3, 1) := daX7_part (77, .iload_n 3, 1) (List.mem_of_getElem? (i := 45) rfl)
theorem dX7_part_78 : decode cX7_part 78 = .ok (.iconst 2, 1) := daX7_part (78, .iconst 2, 1) (List.mem_of_getElem? (i := 46) rfl)
theorem dX7_part_79 : decode cX7_part 79 = .ok (.if_icmp .ne 13, 3) := daX7_part (79, .if_icmp .ne 13, 3) (List.mem_of_getElem? (i := 47) rfl)
theorem dX7_part_82 : decode cX7_part 82 = .ok (.aload_n 0, 1) := daX7_part (82, .aload_n 0, 1) (List.mem_of_getElem? (i := 48) rfl)
theorem dX7_part_83 : decode cX7_part 83 = .ok (.getfield 41, 3) := daX7_part (83, .getfield 41, 3) (List.mem_of_getElem? (i := 49) rfl)
theorem dX7_part_86 : decode cX7_part 86 = .ok (.iload 4, 2) := daX7_part (86, .iload 4, 2) (List.mem_of_getElem? (i := 50) rfl)
theorem dX7_part_88 : decode cX7_part 88 = .ok (.iaload, 1) := daX7_part (88, .iaload, 1) (List.mem_of_getElem? (i := 51) rfl)
theorem dX7_part_89 : decode cX7_part 89 = .ok (.goto 10, 3) := daX7_part (89, .goto 10, 3) (List.mem_of_getElem? (i := 52) rfl)
theorem dX7_part_92 : decode cX7_part 92 = .ok (.aload_n 0, 1) := daX7_part (92, .aload_n 0, 1) (List.mem_of_getElem? (i := 53) rfl)
theorem dX7_part_93 : decode cX7_part 93 = .ok (.getfield 44, 3) := daX7_part (93, .getfield 44, 3) (List.mem_of_getElem? (i := 54) rfl)
theorem dX7_part_96 : decode cX7_part 96 = .ok (.iload 4, 2) := daX7_part (96, .iload 4, 2) (List.mem_of_getElem? (i := 55) rfl)
theorem dX7_part_98 : decode cX7_part 98 = .ok (.iaload, 1) := daX7_part (98, .iaload, 1) (List.mem_of_getElem? (i := 56) rfl)
theorem dX7_part_99 : decode cX7_part 99 = .ok (.ireturn, 1) := daX7_part (99, .ireturn, 1) (List.mem_of_getElem? (i := 57) rfl)
def rmX7_part : Room := { frames := 2, cells := 0, slots := 0, locals := 46 }
theorem zdX7_part : yX7_part.cls = RX7 ∧ yX7_part.cls ≠ "java/lang/invoke/MethodHandle" ∧ yX7_part.cls ≠ "java/lang/invoke/VarHandle" ∧ (parseMethodDescriptor yX7_part.desc).map (fun d => d.parameters.length) = some 3 := by decide +kernel
theorem kiX7_part_X7 : ∀ w ∈ wsX70, w ∈ wsX7_part := fun _ h => (List.mem_cons_of_mem _ (List.mem_append_right _ h))
theorem kfX7_part_32 : Cond.fieldLink RX7 32 "ShapeJudgeModel" "parts" "[I" ∈ wsX7_part := (List.mem_of_getElem? (i := 1) rfl)
theorem kcX7_part_330 : Cond.constantLong RX7 330 (3) ∈ wsX7_part := (List.mem_of_getElem? (i := 2) rfl)
theorem kfX7_part_44 : Cond.fieldLink RX7 44 "ShapeJudgeModel" "pSecond" "[I" ∈ wsX7_part := (List.mem_of_getElem? (i := 6) rfl)
theorem kfX7_part_41 : Cond.fieldLink RX7 41 "ShapeJudgeModel" "pFirst" "[I" ∈ wsX7_part := (List.mem_of_getElem? (i := 5) rfl)
theorem kfX7_part_38 : Cond.fieldLink RX7 38 "ShapeJudgeModel" "pTest" "[I" ∈ wsX7_part := (List.mem_of_getElem? (i := 4) rfl)
theorem kfX7_part_35 : Cond.fieldLink RX7 35 "ShapeJudgeModel" "pName" "[I" ∈ wsX7_part := (List.mem_of_getElem? (i := 3) rfl)
def s_X7_part (m : Mem) (a1 : Int32) (a2 : Int32) (a3 : Int32) : Option (Int32) :=
  (s_X7_isShape m a1).bind fun r2 => (if r2 = 0 then (some (-1)) else (ck (zin a1 6 = true) ((s_X7_in (a2.toInt64) 0 ((m 8 (Int32.toNatClampNeg a1)) - 1).toInt64).bind fun r5 => (if r5 = 0 then (some (-1)) else ((s_X7_in (a3.toInt64) 0 3).bind fun r7 => (if r7 = 0 then (some (-1)) else (bn (((6 : Int32) * a1) + a2) fun x8 => (if a3 = 0 then (ck (zin x8 36 = true) (some (m 9 (Int32.toNatClampNeg x8)))) else ((if a3 = 1 then (ck (zin x8 36 = true) (some (m 10 (Int32.toNatClampNeg x8)))) else ((if a3 = 2 then (ck (zin x8 36 = true) (some (m 11 (Int32.toNatClampNeg x8)))) else (ck (zin x8 36 = true) (some (m 12 (Int32.toNatClampNeg x8))))))))))))))))
set_option maxRecDepth 100000 in
set_option maxHeartbeats 4000000 in
theorem c_X7_part (l : Launch) (w : ZW) {m : Mem} {a1 : Int32} {a2 : Int32} {a3 : Int32} {r9 : Int32}  (hf : s_X7_part m a1 a2 a3 = some r9) : zCi MM l w yX7_part wsX7_part rmX7_part [.ref (w.2.1 0), .int a1, .int a2, .int a3] m m r9 := by
  refine z_met_i MM_ok (own := RX7) (by decide +kernel) rfl rfl (Nat.le_of_ble_eq_true rfl) ?_
  intro K C hKw hKl hret
  subst hKw
  subst hKl
  unfold s_X7_part at hf
  show zGo MM K m [(0, .ref ((zw K).2.1 0)), (1, .int a1), (2, .int a2), (3, .int a3)] 0 []
  refine z_aload_n C 0 dX7_part_0 rfl rfl ?_
  refine z_iload_n C 1 dX7_part_1 rfl rfl ?_
  obtain ⟨r2, hc1, hf⟩ := zb_el hf
  refine z_cVi C (c_X7_isShape _ _ hc1) rfl gX7_part_X7_isShape rfl rfl zdX7_isShape rfl (Nat.le_of_ble_eq_true rfl) rfl rfl rfl ⟨Nat.le_of_ble_eq_true rfl, Nat.le_of_ble_eq_true rfl⟩ (Nat.le_of_ble_eq_true rfl) dX7_part_2 rfl ?_
  refine z_if_eq (tgt := 38) C dX7_part_5 (by decide) (fun c18 => ?_) (fun c18 => ?_)
  · replace hf := if_t c18 hf
    refine z_iconst C (v := (-1)) dX7_part_38 (by decide) ?_
    have e1 := Option.some.inj hf
    subst e1
    exact hret _ _ dX7_part_39
  · replace hf := if_f c18 hf
    refine z_iload_n C 2 dX7_part_8 rfl rfl ?_
    refine z_i2l C dX7_part_9 ?_
    refine z_lconst C (v := 0) dX7_part_10 rfl ?_
    refine z_aload_n C 0 dX7_part_11 rfl rfl ?_
    refine z_getr C (t := 8) (Nat.le_of_ble_eq_true rfl) rfl rfl 10 (Nat.le_of_ble_eq_true rfl) rfl kiX7_part_X7 kfX7_part_32 dX7_part_12 ?_
    refine z_iload_n C 1 dX7_part_15 rfl rfl ?_
    obtain ⟨hi3, hf⟩ := ck_el hf
    refine z_iald C (k := 8) (Nat.le_of_ble_eq_true rfl) rfl hi3 dX7_part_16 ?_
    refine z_iconst C (v := 1) dX7_part_17 rfl ?_
    refine z_isub C dX7_part_18 ?_
    refine z_i2l C dX7_part_19 ?_
    obtain ⟨r5, hc4, hf⟩ := zb_el hf
    refine z_cSi C (c_X7_in _ _ hc4) rfl gX7_part_X7_in rfl rfl zdX7_in.2 rfl ⟨Nat.le_of_ble_eq_true rfl, Nat.le_of_ble_eq_true rfl⟩ (Nat.le_of_ble_eq_true rfl) dX7_part_20 rfl ?_
    refine z_if_eq (tgt := 38) C dX7_part_23 (by decide) (fun c17 => ?_) (fun c17 => ?_)
    · replace hf := if_t c17 hf
      refine z_iconst C (v := (-1)) dX7_part_38 (by decide) ?_
      have e1 := Option.some.inj hf
      subst e1
      exact hret _ _ dX7_part_39
    · replace hf := if_f c17 hf
      refine z_iload_n C 3 dX7_part_26 rfl rfl ?_
      refine z_i2l C dX7_part_27 ?_
      refine z_lconst C (v := 0) dX7_part_28 rfl ?_
      refine z_ldc2 C (v := 3) dX7_part_29 kcX7_part_330 ?_
      obtain ⟨r7, hc6, hf⟩ := zb_el hf
      refine z_cSi C (c_X7_in _ _ hc6) rfl gX7_part_X7_in rfl rfl zdX7_in.2 rfl ⟨Nat.le_of_ble_eq_true rfl, Nat.le_of_ble_eq_true rfl⟩ (Nat.le_of_ble_eq_true rfl) dX7_part_32 rfl ?_
      refine z_if_ne (tgt := 40) C dX7_part_35 (by decide) (fun c16 => ?_) (fun c16 => ?_)
      · replace hf := if_f c16 hf
        refine z_bipush C (v := 6) dX7_part_40 rfl ?_
        refine z_iload_n C 1 dX7_part_42 rfl rfl ?_
        refine z_imul C dX7_part_43 ?_
        refine z_iload_n C 2 dX7_part_44 rfl rfl ?_
        refine z_iadd C dX7_part_45 ?_
        refine z_topi (fun x8 e_x8 => ?_)
        replace hf := bn_to e_x8 hf
        refine z_istore C (lv2 := [(0, .ref ((zw K).2.1 0)), (1, .int a1), (2, .int a2), (3, .int a3), (4, .int x8)]) [1, 2, 3, 4, 0] dX7_part_46 (Nat.le_of_ble_eq_true rfl) rfl ?_
        refine z_iload_n C 3 dX7_part_48 rfl rfl ?_
        refine z_if_ne (tgt := 62) C dX7_part_49 (by decide) (fun c15 => ?_) (fun c15 => ?_)
        · replace hf := if_f c15 hf
          refine z_iload_n C 3 dX7_part_62 rfl rfl ?_
          refine z_iconst C (v := 1) dX7_part_63 rfl ?_
          refine z_icmp_ne (tgt := 77) C dX7_part_64 (by decide) (fun c13 => ?_) (fun c13 => ?_)
          · replace hf := if_f c13 hf
            refine z_iload_n C 3 dX7_part_77 rfl rfl ?_
            refine z_iconst C (v := 2) dX7_part_78 rfl ?_
            refine z_icmp_ne (tgt := 92) C dX7_part_79 (by decide) (fun c11 => ?_) (fun c11 => ?_)
            · replace hf := if_f c11 hf
              refine z_aload_n C 0 dX7_part_92 rfl rfl ?_
              refine z_getr C (t := 12) (Nat.le_of_ble_eq_true rfl) rfl rfl 14 (Nat.le_of_ble_eq_true rfl) rfl kiX7_part_X7 kfX7_part_44 dX7_part_93 ?_
              refine z_iload C 4 dX7_part_96 rfl ?_
              obtain ⟨hi9, hf⟩ := ck_el hf
              refine z_iald C (k := 12) (Nat.le_of_ble_eq_true rfl) rfl hi9 dX7_part_98 ?_
              have e1 := Option.some.inj hf
              subst e1
              exact hret _ _ dX7_part_99
            · replace hf := if_t c11 hf
              refine z_aload_n C 0 dX7_part_82 rfl rfl ?_
              refine z_getr C (t := 11) (Nat.le_of_ble_eq_true rfl) rfl rfl 13 (Nat.le_of_ble_eq_true rfl) rfl kiX7_part_X7 kfX7_part_41 dX7_part_83 ?_
              refine z_iload C 4 dX7_part_86 rfl ?_
              obtain ⟨hi10, hf⟩ := ck_el hf
              refine z_iald C (k := 11) (Nat.le_of_ble_eq_true rfl) rfl hi10 dX7_part_88 ?_
              refine z_goto (tgt := 99) C dX7_part_89 (by decide) ?_
              have e1 := Option.some.inj hf
              subst e1
              exact hret _ _ dX7_part_99
          · replace hf := if_t c13 hf
            refine z_aload_n C 0 dX7_part_67 rfl rfl ?_
            refine z_getr C (t := 10) (Nat.le_of_ble_eq_true rfl) rfl rfl 12 (Nat.le_of_ble_eq_true rfl) rfl kiX7_part_X7 kfX7_part_38 dX7_part_68 ?_
            refine z_iload C 4 dX7_part_71 rfl ?_
            obtain ⟨hi12, hf⟩ := ck_el hf
            refine z_iald C (k := 10) (Nat.le_of_ble_eq_true rfl) rfl hi12 dX7_part_73 ?_
            refine z_goto (tgt := 99) C dX7_part_74 (by decide) ?_
            have e1 := Option.some.inj hf
            subst e1
            exact hret _ _ dX7_part_99
        · replace hf := if_t c15 hf
          refine z_aload_n C 0 dX7_part_52 rfl rfl ?_
          refine z_getr C (t := 9) (Nat.le_of_ble_eq_true rfl) rfl rfl 11 (Nat.le_of_ble_eq_true rfl) rfl kiX7_part_X7 kfX7_part_35 dX7_part_53 ?_
          refine z_iload C 4 dX7_part_56 rfl ?_
          obtain ⟨hi14, hf⟩ := ck_el hf
          refine z_iald C (k := 9) (Nat.le_of_ble_eq_true rfl) rfl hi14 dX7_part_58 ?_
          refine z_goto (tgt := 99) C dX7_part_59 (by decide) ?_
          have e1 := Option.some.inj hf
          subst e1
          exact hret _ _ dX7_part_99
      · replace hf := if_t c16 hf
        refine z_iconst C (v := (-1)) dX7_part_38 (by decide) ?_
        have e1 := Option.some.inj hf
        subst e1
        exact hret _ _ dX7_part_39
set_option maxRecDepth 20000 in
theorem ggX7_readPart_X7_in : GoodIn wsX7_readPart wsX7_in := goodIn_sub (List.forall_mem_cons.mpr ⟨(List.mem_of_getElem? (i := 18) rfl), (fun _ h => absurd h List.not_mem_nil)⟩) (by decide +kernel)
set_option maxRecDepth 20000 in
theorem gX7_readPart_X7_in : GoodIn wsX7_readPart (va_wsS RX7 144 yX7_in wsX7_in) := goodIn_app (goodIn_sub (List.forall_mem_cons.mpr ⟨(List.mem_of_getElem? (i := 15) rfl), (List.forall_mem_cons.mpr ⟨(List.mem_of_getElem? (i := 16) rfl), (List.forall_mem_cons.mpr ⟨(List.mem_of_getElem? (i := 17) rfl), (fun _ h => absurd h List.not_mem_nil)⟩)⟩)⟩) (by decide +kernel)) ggX7_readPart_X7_in
set_option maxRecDepth 20000 in
theorem ggX7_readPart_X7_fails : GoodIn wsX7_readPart wsX7_fails := goodIn_sub (List.forall_mem_cons.mpr ⟨(List.mem_of_getElem? (i := 22) rfl), (List.forall_mem_append.mpr ⟨(List.forall_mem_cons.mpr ⟨(List.mem_of_getElem? (i := 1) rfl), (List.forall_mem_cons.mpr ⟨(List.mem_of_getElem? (i := 23) rfl), (fun _ h => absurd h List.not_mem_nil)⟩)⟩), (fun _ h => (List.mem_cons_of_mem _ (List.mem_append_right _ h)))⟩)⟩) (by decide +kernel)
set_option maxRecDepth 20000 in
theorem gX7_readPart_X7_fails : GoodIn wsX7_readPart (wsV RX7 207 RX7 yX7_fails wsX7_fails) := goodIn_app (goodIn_sub (List.forall_mem_cons.mpr ⟨(List.mem_of_getElem? (i := 19) rfl), (List.forall_mem_cons.mpr ⟨(List.mem_of_getElem? (i := 20) rfl), (List.forall_mem_cons.mpr ⟨(List.mem_of_getElem? (i := 21) rfl), (List.forall_mem_cons.mpr ⟨(List.mem_of_getElem? (i := 17) rfl), (fun _ h => absurd h List.not_mem_nil)⟩)⟩)⟩)⟩) (by decide +kernel)) ggX7_readPart_X7_fails
set_option maxRecDepth 20000 in
theorem ggX7_readPart_X7_taken : GoodIn wsX7_readPart wsX7_taken := goodIn_sub (List.forall_mem_cons.mpr ⟨(List.mem_of_getElem? (i := 27) rfl), (List.forall_mem_append.mpr ⟨(List.forall_mem_append.mpr ⟨(show ∀ w ∈ wsX7_taken_r1, w ∈ wsX7_readPart from (List.forall_mem_cons.mpr ⟨(List.mem_of_getElem? (i := 1) rfl), (List.forall_mem_cons.mpr ⟨(List.mem_of_getElem? (i := 14) rfl), (List.forall_mem_cons.mpr ⟨(List.mem_of_getElem? (i := 4) rfl), (List.forall_mem_cons.mpr ⟨(List.mem_of_getElem? (i := 2) rfl), (List.forall_mem_cons.mpr ⟨(List.mem_of_getElem? (i := 13) rfl), (List.forall_mem_cons.mpr ⟨(List.mem_of_getElem? (i := 19) rfl), (List.forall_mem_cons.mpr ⟨(List.mem_of_getElem? (i := 20) rfl), (List.forall_mem_cons.mpr ⟨(List.mem_of_getElem? (i := 21) rfl), (List.forall_mem_cons.mpr ⟨(List.mem_of_getElem? (i := 17) rfl), (List.forall_mem_cons.mpr ⟨(List.mem_of_getElem? (i := 22) rfl), (List.forall_mem_cons.mpr ⟨(List.mem_of_getElem? (i := 23) rfl), (List.forall_mem_cons.mpr ⟨(List.mem_of_getElem? (i := 28) rfl), (List.forall_mem_cons.mpr ⟨(List.mem_of_getElem? (i := 29) rfl), (List.forall_mem_cons.mpr ⟨(List.mem_of_getElem? (i := 30) rfl), (List.forall_mem_cons.mpr ⟨(List.mem_of_getElem? (i := 31) rfl), (List.forall_mem_cons.mpr ⟨(List.mem_of_getElem? (i := 32) rfl), (List.forall_mem_cons.mpr ⟨(List.mem_of_getElem? (i := 33) rfl), (List.forall_mem_cons.mpr ⟨(List.mem_of_getElem? (i := 34) rfl), (List.forall_mem_cons.mpr ⟨(List.mem_of_getElem? (i := 35) rfl), (List.forall_mem_cons.mpr ⟨(List.mem_of_getElem? (i := 36) rfl), (List.forall_mem_cons.mpr ⟨(List.mem_of_getElem? (i := 37) rfl), (List.forall_mem_cons.mpr ⟨(List.mem_of_getElem? (i := 38) rfl), (List.forall_mem_cons.mpr ⟨(List.mem_of_getElem? (i := 39) rfl), (List.forall_mem_cons.mpr ⟨(List.mem_of_getElem? (i := 40) rfl), (fun _ h => absurd h List.not_mem_nil)⟩)⟩)⟩)⟩)⟩)⟩)⟩)⟩)⟩)⟩)⟩)⟩)⟩)⟩)⟩)⟩)⟩)⟩)⟩)⟩)⟩)⟩)⟩)⟩)), (show ∀ w ∈ wsX7_taken_r2, w ∈ wsX7_readPart from (List.forall_mem_cons.mpr ⟨(List.mem_of_getElem? (i := 41) rfl), (List.forall_mem_cons.mpr ⟨(List.mem_of_getElem? (i := 42) rfl), (List.forall_mem_cons.mpr ⟨(List.mem_of_getElem? (i := 43) rfl), (List.forall_mem_cons.mpr ⟨(List.mem_of_getElem? (i := 44) rfl), (List.forall_mem_cons.mpr ⟨(List.mem_of_getElem? (i := 15) rfl), (List.forall_mem_cons.mpr ⟨(List.mem_of_getElem? (i := 16) rfl), (List.forall_mem_cons.mpr ⟨(List.mem_of_getElem? (i := 18) rfl), (List.forall_mem_cons.mpr ⟨(List.mem_of_getElem? (i := 45) rfl), (List.forall_mem_cons.mpr ⟨(List.mem_of_getElem? (i := 46) rfl), (List.forall_mem_cons.mpr ⟨(List.mem_of_getElem? (i := 47) rfl), (List.forall_mem_cons.mpr ⟨(List.mem_of_getElem? (i := 48) rfl), (List.forall_mem_cons.mpr ⟨(List.mem_of_getElem? (i := 49) rfl), (List.forall_mem_cons.mpr ⟨(List.mem_of_getElem? (i := 50) rfl), (List.forall_mem_cons.mpr ⟨(List.mem_of_getElem? (i := 51) rfl), (fun _ h => absurd h List.not_mem_nil)⟩)⟩)⟩)⟩)⟩)⟩)⟩)⟩)⟩)⟩)⟩)⟩)⟩)⟩))⟩), (fun _ h => (List.mem_cons_of_mem _ (List.mem_append_right _ h)))⟩)⟩) (by decide +kernel)
set_option maxRecDepth 20000 in
theorem gX7_readPart_X7_taken : GoodIn wsX7_readPart (wsV RX7 231 RX7 yX7_taken wsX7_taken) := goodIn_app (goodIn_sub (List.forall_mem_cons.mpr ⟨(List.mem_of_getElem? (i := 24) rfl), (List.forall_mem_cons.mpr ⟨(List.mem_of_getElem? (i := 25) rfl), (List.forall_mem_cons.mpr ⟨(List.mem_of_getElem? (i := 26) rfl), (List.forall_mem_cons.mpr ⟨(List.mem_of_getElem? (i := 17) rfl), (fun _ h => absurd h List.not_mem_nil)⟩)⟩)⟩)⟩) (by decide +kernel)) ggX7_readPart_X7_taken
set_option maxRecDepth 20000 in
theorem ggX7_readPart_X7_is : GoodIn wsX7_readPart wsX7_is := goodIn_sub (List.forall_mem_cons.mpr ⟨(List.mem_of_getElem? (i := 55) rfl), (List.forall_mem_append.mpr ⟨(List.forall_mem_cons.mpr ⟨(List.mem_of_getElem? (i := 1) rfl), (List.forall_mem_cons.mpr ⟨(List.mem_of_getElem? (i := 14) rfl), (List.forall_mem_cons.mpr ⟨(List.mem_of_getElem? (i := 2) rfl), (fun _ h => absurd h List.not_mem_nil)⟩)⟩)⟩), (fun _ h => (List.mem_cons_of_mem _ (List.mem_append_right _ h)))⟩)⟩) (by decide +kernel)
set_option maxRecDepth 20000 in
theorem gX7_readPart_X7_is : GoodIn wsX7_readPart (wsV RX7 228 RX7 yX7_is wsX7_is) := goodIn_app (goodIn_sub (List.forall_mem_cons.mpr ⟨(List.mem_of_getElem? (i := 52) rfl), (List.forall_mem_cons.mpr ⟨(List.mem_of_getElem? (i := 53) rfl), (List.forall_mem_cons.mpr ⟨(List.mem_of_getElem? (i := 54) rfl), (List.forall_mem_cons.mpr ⟨(List.mem_of_getElem? (i := 17) rfl), (fun _ h => absurd h List.not_mem_nil)⟩)⟩)⟩)⟩) (by decide +kernel)) ggX7_readPart_X7_is
set_option maxRecDepth 20000 in
theorem ggX7_readPart_X7_next : GoodIn wsX7_readPart wsX7_next := goodIn_sub (List.forall_mem_cons.mpr ⟨(List.mem_of_getElem? (i := 31) rfl), (List.forall_mem_append.mpr ⟨(List.forall_mem_append.mpr ⟨(show ∀ w ∈ wsX7_next_r1, w ∈ wsX7_readPart from (List.forall_mem_cons.mpr ⟨(List.mem_of_getElem? (i := 32) rfl), (List.forall_mem_cons.mpr ⟨(List.mem_of_getElem? (i := 4) rfl), (List.forall_mem_cons.mpr ⟨(List.mem_of_getElem? (i := 14) rfl), (List.forall_mem_cons.mpr ⟨(List.mem_of_getElem? (i := 33) rfl), (List.forall_mem_cons.mpr ⟨(List.mem_of_getElem? (i := 34) rfl), (List.forall_mem_cons.mpr ⟨(List.mem_of_getElem? (i := 2) rfl), (List.forall_mem_cons.mpr ⟨(List.mem_of_getElem? (i := 35) rfl), (List.forall_mem_cons.mpr ⟨(List.mem_of_getElem? (i := 36) rfl), (List.forall_mem_cons.mpr ⟨(List.mem_of_getElem? (i := 37) rfl), (List.forall_mem_cons.mpr ⟨(List.mem_of_getElem? (i := 38) rfl), (List.forall_mem_cons.mpr ⟨(List.mem_of_getElem? (i := 39) rfl), (List.forall_mem_cons.mpr ⟨(List.mem_of_getElem? (i := 40) rfl), (List.forall_mem_cons.mpr ⟨(List.mem_of_getElem? (i := 41) rfl), (List.forall_mem_cons.mpr ⟨(List.mem_of_getElem? (i := 17) rfl), (List.forall_mem_cons.mpr ⟨(List.mem_of_getElem? (i := 42) rfl), (List.forall_mem_cons.mpr ⟨(List.mem_of_getElem? (i := 43) rfl), (List.forall_mem_cons.mpr ⟨(List.mem_of_getElem? (i := 44) rfl), (List.forall_mem_cons.mpr ⟨(List.mem_of_getElem? (i := 15) rfl), (List.forall_mem_cons.mpr ⟨(List.mem_of_getElem? (i := 16) rfl), (List.forall_mem_cons.mpr ⟨(List.mem_of_getElem? (i := 18) rfl), (List.forall_mem_cons.mpr ⟨(List.mem_of_getElem? (i := 19) rfl), (List.forall_mem_cons.mpr ⟨(List.mem_of_getElem? (i := 20) rfl), (List.forall_mem_cons.mpr ⟨(List.mem_of_getElem? (i := 21) rfl), (List.forall_mem_cons.mpr ⟨(List.mem_of_getElem? (i := 22) rfl), (fun _ h => absurd h List.not_mem_nil)⟩)⟩)⟩)⟩)⟩)⟩)⟩)⟩)⟩)⟩)⟩)⟩)⟩)⟩)⟩)⟩)⟩)⟩)⟩)⟩)⟩)⟩)⟩)⟩)), (show ∀ w ∈ wsX7_next_r2, w ∈ wsX7_readPart from (List.forall_mem_cons.mpr ⟨(List.mem_of_getElem? (i := 1) rfl), (List.forall_mem_cons.mpr ⟨(List.mem_of_getElem? (i := 23) rfl), (List.forall_mem_cons.mpr ⟨(List.mem_of_getElem? (i := 45) rfl), (List.forall_mem_cons.mpr ⟨(List.mem_of_getElem? (i := 46) rfl), (List.forall_mem_cons.mpr ⟨(List.mem_of_getElem? (i := 47) rfl), (List.forall_mem_cons.mpr ⟨(List.mem_of_getElem? (i := 48) rfl), (List.forall_mem_cons.mpr ⟨(List.mem_of_getElem? (i := 49) rfl), (List.forall_mem_cons.mpr ⟨(List.mem_of_getElem? (i := 50) rfl), (List.forall_mem_cons.mpr ⟨(List.mem_of_getElem? (i := 51) rfl), (fun _ h => absurd h List.not_mem_nil)⟩)⟩)⟩)⟩)⟩)⟩)⟩)⟩)⟩))⟩), (fun _ h => (List.mem_cons_of_mem _ (List.mem_append_right _ h)))⟩)⟩) (by decide +kernel)
set_option maxRecDepth 20000 in
theorem gX7_readPart_X7_next : GoodIn wsX7_readPart (wsV RX7 225 RX7 yX7_next wsX7_next) := goodIn_app (goodIn_sub (List.forall_mem_cons.mpr ⟨(List.mem_of_getElem? (i := 28) rfl), (List.forall_mem_cons.mpr ⟨(List.mem_of_getElem? (i := 29) rfl), (List.forall_mem_cons.mpr ⟨(List.mem_of_getElem? (i := 30) rfl), (List.forall_mem_cons.mpr ⟨(List.mem_of_getElem? (i := 17) rfl), (fun _ h => absurd h List.not_mem_nil)⟩)⟩)⟩)⟩) (by decide +kernel)) ggX7_readPart_X7_next
set_option maxRecDepth 100000 in
theorem daX7_readPart : ∀ q ∈ ([(0, .aload_n 0, 1), (1, .getfield 177, 3), (4, .ifCond .ne 27, 3), (7, .aload_n 0, 1), (8, .getfield 200, 3), (11, .i2l, 1), (12, .lconst 0, 1), (13, .ldc2_w 160, 3), (16, .invokestatic 144, 3), (19, .ifCond .ne 12, 3), (22, .aload_n 0, 1), (23, .iconst 3, 1), (24, .aload_n 0, 1), (25, .getfield 186, 3), (28, .invokevirtual 207, 3), (31, .aload_n 0, 1), (32, .getfield 177, 3), (35, .ifCond .ne 26, 3), (38, .aload_n 0, 1), (39, .getfield 71, 3), (42, .aload_n 0, 1), (43, .getfield 234, 3), (46, .iaload, 1), (47, .bipush 6, 2), (49, .if_icmp .ne 12, 3), (52, .aload_n 0, 1), (53, .iconst 4, 1), (54, .aload_n 0, 1), (55, .getfield 186, 3), (58, .invokevirtual 207, 3), (61, .aload_n 0, 1), (62, .getfield 177, 3), (65, .ifCond .le 4, 3), (68, .return_, 1), (69, .bipush 6, 2), (71, .aload_n 0, 1), (72, .getfield 234, 3), (75, .imul, 1), (76, .aload_n 0, 1), (77, .getfield 71, 3), (80, .aload_n 0, 1), (81, .getfield 234, 3), (84, .iaload, 1), (85, .iadd, 1), (86, .istore_n 2, 1), (87, .aload_n 0, 1), (88, .getfield 104, 3), (91, .iload_n 1, 1), (92, .iload_n 2, 1), (93, .iastore, 1), (94, .aload_n 0, 1), (95, .getfield 71, 3), (98, .aload_n 0, 1), (99, .getfield 234, 3), (102, .dup2, 1), (103, .iaload, 1), (104, .iconst 1, 1), (105, .iadd, 1), (106, .iastore, 1), (107, .aload_n 0, 1), (108, .getfield 74, 3), (111, .iload_n 2, 1), (112, .aload_n 0, 1), (113, .iconst 2, 1), (114, .invokevirtual 231, 3), (117, .iastore, 1), (118, .aload_n 0, 1), (119, .getfield 80, 3), (122, .iload_n 2, 1), (123, .iconst 0, 1), (124, .iastore, 1), (125, .aload_n 0, 1), (126, .getfield 83, 3), (129, .iload_n 2, 1), (130, .iconst 0, 1), (131, .iastore, 1), (132, .aload_n 0, 1), (133, .getfield 86, 3), (136, .iload_n 2, 1), (137, .iconst 0, 1), (138, .iastore, 1), (139, .aload_n 0, 1), (140, .bipush 46, 2), (142, .invokevirtual 228, 3), (145, .ifCond .eq 17, 3), (148, .aload_n 0, 1), (149, .getfield 77, 3), (152, .iload_n 2, 1), (153, .iconst 0, 1), (154, .iastore, 1), (155, .aload_n 0, 1), (156, .invokevirtual 225, 3), (159, .goto 141, 3), (162, .aload_n 0, 1), (163, .bipush 64, 2), (165, .invokevirtual 228, 3), (168, .ifCond .ne 12, 3), (171, .aload_n 0, 1), (172, .bipush 33, 2), (174, .invokevirtual 228, 3), (177, .ifCond .eq 51, 3), (180, .aload_n 0, 1), (181, .getfield 77, 3), (184, .iload_n 2, 1), (185, .aload_n 0, 1), (186, .bipush 64, 2), (188, .invokevirtual 228, 3), (191, .ifCond .eq 7, 3), (194, .iconst 1, 1), (195, .goto 4, 3), (198, .iconst 2, 1), (199, .iastore, 1), (200, .aload_n 0, 1), (201, .invokevirtual 225, 3), (204, .aload_n 0, 1), (205, .getfield 80, 3), (208, .iload_n 2, 1), (209, .aload_n 0, 1), (210, .iconst 1, 1), (211, .invokevirtual 231, 3), (214, .iastore, 1), (215, .aload_n 0, 1), (216, .getfield 86, 3), (219, .iload_n 2, 1), (220, .aload_n 0, 1), (221, .getfield 222, 3), (224, .iastore, 1), (225, .goto 75, 3), (228, .aload_n 0, 1), (229, .getfield 77, 3), (232, .iload_n 2, 1), (233, .iconst 3, 1), (234, .iastore, 1), (235, .aload_n 0, 1), (236, .getfield 80, 3), (239, .iload_n 2, 1), (240, .aload_n 0, 1), (241, .iconst 2, 1), (242, .invokevirtual 231, 3), (245, .iastore, 1), (246, .aload_n 0, 1), (247, .iconst 5, 1), (248, .invokevirtual 231, 3), (251, .pop, 1), (252, .aload_n 0, 1), (253, .getfield 177, 3), (256, .ifCond .ne 33, 3), (259, .aload_n 0, 1), (260, .getfield 193, 3), (263, .iconst 2, 1), (264, .if_icmp .ne 25, 3), (267, .aload_n 0, 1), (268, .getfield 200, 3), (271, .aload_n 0, 1), (272, .getfield 80, 3), (275, .iload_n 2, 1), (276, .iaload, 1), (277, .if_icmp .ge 12, 3), (280, .aload_n 0, 1), (281, .iconst 3, 1), (282, .aload_n 0, 1), (283, .getfield 186, 3), (286, .invokevirtual 207, 3), (289, .aload_n 0, 1), (290, .getfield 83, 3), (293, .iload_n 2, 1), (294, .aload_n 0, 1), (295, .iconst 2, 1), (296, .invokevirtual 231, 3), (299, .iastore, 1), (300, .return_, 1)] : List (Nat × Instr × Nat)), decode cX7_readPart q.1 = .ok q.2 := by decide +kernel
theorem dX7_readPart_0 : decode cX7_readPart 0 = .ok (.aload_n 0, 1) := daX7_readPart (0, .aload_n 0, 1) (List.mem_of_getElem? (i := 0) rfl)
theorem dX7_readPart_1 : decode cX7_readPart 1 = .ok (.getfield 177, 3) := daX7_readPart (1, .getfield 177, 3) (List.mem_of_getElem? (i := 1) rfl)
theorem dX7_readPart_4 : decode cX7_readPart 4 = .ok (.ifCond .ne 27, 3) := daX7_readPart (4, .ifCond .ne 27, 3) (List.mem_of_getElem? (i := 2) rfl)
theorem dX7_readPart_7 : decode cX7_readPart 7 = .ok (.aload_n 0, 1) := daX7_readPart (7, .aload_n 0, 1) (List.mem_of_getElem? (i := 3) rfl)
theorem dX7_readPart_8 : decode cX7_readPart 8 = .ok (.getfield 200, 3) := daX7_readPart (8, .getfield 200, 3) (List.mem_of_getElem? (i := 4) rfl)
theorem dX7_readPart_11 : decode cX7_readPart 11 = .ok (.i2l, 1) := daX7_readPart (11, .i2l, 1) (List.mem_of_getElem? (i := 5) rfl)
theorem dX7_readPart_12 : decode cX7_readPart 12 = .ok (.lconst 0, 1) := daX7_readPart (12, .lconst 0, 1) (List.mem_of_getElem? (i := 6) rfl)
theorem dX7_readPart_13 : decode cX7_readPart 13 = .ok (.ldc2_w 160, 3) := daX7_readPart (13, .ldc2_w 160, 3) (List.mem_of_getElem? (i := 7) rfl)
theorem dX7_readPart_16 : decode cX7_readPart 16 = .ok (.invokestatic 144, 3) := daX7_readPart (16, .invokestatic 144, 3) (List.mem_of_getElem? (i := 8) rfl)
theorem dX7_readPart_19 : decode cX7_readPart 19 = .ok (.ifCond .ne 12, 3) := daX7_readPart (19, .ifCond .ne 12, 3) (List.mem_of_getElem? (i := 9) rfl)
theorem dX7_readPart_22 : decode cX7_readPart 22 = .ok (.aload_n 0, 1) := daX7_readPart (22, .aload_n 0, 1) (List.mem_of_getElem? (i := 10) rfl)
theorem dX7_readPart_23 : decode cX7_readPart 23 = .ok (.iconst 3, 1) := daX7_readPart (23, .iconst 3, 1) (List.mem_of_getElem? (i := 11) rfl)
theorem dX7_readPart_24 : decode cX7_readPart 24 = .ok (.aload_n 0, 1) := daX7_readPart (24, .aload_n 0, 1) (List.mem_of_getElem? (i := 12) rfl)
theorem dX7_readPart_25 : decode cX7_readPart 25 = .ok (.getfield 186, 3) := daX7_readPart (25, .getfield 186, 3) (List.mem_of_getElem? (i := 13) rfl)
theorem dX7_readPart_28 : decode cX7_readPart 28 = .ok (.invokevirtual 207, 3) := daX7_readPart (28, .invokevirtual 207, 3) (List.mem_of_getElem? (i := 14) rfl)
theorem dX7_readPart_31 : decode cX7_readPart 31 = .ok (.aload_n 0, 1) := daX7_readPart (31, .aload_n 0, 1) (List.mem_of_getElem? (i := 15) rfl)
theorem dX7_readPart_32 : decode cX7_readPart 32 = .ok (.getfield 177, 3) := daX7_readPart (32, .getfield 177, 3) (List.mem_of_getElem? (i := 16) rfl)
theorem dX7_readPart_35 : decode cX7_readPart 35 = .ok (.ifCond .ne 26, 3) := daX7_readPart (35, .ifCond .ne 26, 3) (List.mem_of_getElem? (i := 17) rfl)
theorem dX7_readPart_38 : decode cX7_readPart 38 = .ok (.aload_n 0, 1) := daX7_readPart (38, .aload_n 0, 1) (List.mem_of_getElem? (i := 18) rfl)
theorem dX7_readPart_39 : decode cX7_readPart 39 = .ok (.getfield 71, 3) := daX7_readPart (39, .getfield 71, 3) (List.mem_of_getElem? (i := 19) rfl)
theorem dX7_readPart_42 : decode cX7_readPart 42 = .ok (.aload_n 0, 1) := daX7_readPart (42, .aload_n 0, 1) (List.mem_of_getElem? (i := 20) rfl)
theorem dX7_readPart_43 : decode cX7_readPart 43 = .ok (.getfield 234, 3) := daX7_readPart (43, .getfield 234, 3) (List.mem_of_getElem? (i := 21) rfl)
theorem dX7_readPart_46 : decode cX7_readPart 46 = .ok (.iaload, 1) := daX7_readPart (46, .iaload, 1) (List.mem_of_getElem? (i := 22) rfl)
theorem dX7_readPart_47 : decode cX7_readPart 47 = .ok (.bipush 6, 2) := daX7_readPart (47, .bipush 6, 2) (List.mem_of_getElem? (i := 23) rfl)
theorem dX7_readPart_49 : decode cX7_readPart 49 = .ok (.if_icmp .ne 12, 3) := daX7_readPart (49, .if_icmp .ne 12, 3) (List.mem_of_getElem? (i := 24) rfl)
theorem dX7_readPart_52 : decode cX7_readPart 52 = .ok (.aload_n 0, 1) := daX7_readPart (52, .aload_n 0, 1) (List.mem_of_getElem? (i := 25) rfl)
theorem dX7_readPart_53 : decode cX7_readPart 53 = .ok (.iconst 4, 1) := daX7_readPart (53, .iconst 4, 1) (List.mem_of_getElem? (i := 26) rfl)
theorem dX7_readPart_54 : decode cX7_readPart 54 = .ok (.aload_n 0, 1) := daX7_readPart (54, .aload_n 0, 1) (List.mem_of_getElem? (i := 27) rfl)
theorem dX7_readPart_55 : decode cX7_readPart 55 = .ok (.getfield 186, 3) := daX7_readPart (55, .getfield 186, 3) (List.mem_of_getElem? (i := 28) rfl)
theorem dX7_readPart_58 : decode cX7_readPart 58 = .ok (.invokevirtual 207, 3) := daX7_readPart (58, .invokevirtual 207, 3) (List.mem_of_getElem? (i := 29) rfl)
theorem dX7_readPart_61 : decode cX7_readPart 61 = .ok (.aload_n 0, 1) := daX7_readPart (61, .aload_n 0, 1) (List.mem_of_getElem? (i := 30) rfl)
theorem dX7_readPart_62 : decode cX7_readPart 62 = .ok (.getfield 177, 3) := daX7_readPart (62, .getfield 177, 3) (List.mem_of_getElem? (i := 31) rfl)
theorem dX7_readPart_65 : decode cX7_readPart 65 = .ok (.ifCond .le 4, 3) := daX7_readPart (65, .ifCond .le 4, 3) (List.mem_of_getElem? (i := 32) rfl)
theorem dX7_readPart_68 : decode cX7_readPart 68 = .ok (.return_, 1) := daX7_readPart (68, .return_, 1) (List.mem_of_getElem? (i := 33) rfl)
theorem dX7_readPart_69 : decode cX7_readPart 69 = .ok (.bipush 6, 2) := daX7_readPart (69, .bipush 6, 2) (List.mem_of_getElem? (i := 34) rfl)
theorem dX7_readPart_71 : decode cX7_readPart 71 = .ok (.aload_n 0, 1) := daX7_readPart (71, .aload_n 0, 1) (List.mem_of_getElem? (i := 35) rfl)
theorem dX7_readPart_72 : decode cX7_readPart 72 = .ok (.getfield 234, 3) := daX7_readPart (72, .getfield 234, 3) (List.mem_of_getElem? (i := 36) rfl)
theorem dX7_readPart_75 : decode cX7_readPart 75 = .ok (.imul, 1) := daX7_readPart (75, .imul, 1) (List.mem_of_getElem? (i := 37) rfl)
theorem dX7_readPart_76 : decode cX7_readPart 76 = .ok (.aload_n 0, 1) := daX7_readPart (76, .aload_n 0, 1) (List.mem_of_getElem? (i := 38) rfl)
theorem dX7_readPart_77 : decode cX7_readPart 77 = .ok (.getfield 71, 3) := daX7_readPart (77, .getfield 71, 3) (List.mem_of_getElem? (i := 39) rfl)
theorem dX7_readPart_80 : decode cX7_readPart 80 = .ok (.aload_n 0, 1) := daX7_readPart (80, .aload_n 0, 1) (List.mem_of_getElem? (i := 40) rfl)
theorem dX7_readPart_81 : decode cX7_readPart 81 = .ok (.getfield 234, 3) := daX7_readPart (81, .getfield 234, 3) (List.mem_of_getElem? (i := 41) rfl)
theorem dX7_readPart_84 : decode cX7_readPart 84 = .ok (.iaload, 1) := daX7_readPart (84, .iaload, 1) (List.mem_of_getElem? (i := 42) rfl)
theorem dX7_readPart_85 : decode cX7_readPart 85 = .ok (.iadd, 1) := daX7_readPart (85, .iadd, 1) (List.mem_of_getElem? (i := 43) rfl)
theorem dX7_readPart_86 : decode cX7_readPart 86 = .ok (.istore_n 2, 1) := daX7_readPart (86, .istore_n 2, 1) (List.mem_of_getElem? (i := 44) rfl)
theorem dX7_readPart_87 : decode cX7_readPart 87 = .ok (.aload_n 0, 1) := daX7_readPart (87, .aload_n 0, 1) (List.mem_of_getElem? (i := 45) rfl)
theorem dX7_readPart_88 : decode cX7_readPart 88 = .ok (.getfield 104, 3) := daX7_readPart (88, .getfield 104, 3) (List.mem_of_getElem? (i := 46) rfl)
theorem dX7_readPart_91 : decode cX7_readPart 91 = .ok (.iload_n 1, 1) := daX7_readPart (91, .iload_n 1, 1) (List.mem_of_getElem? (i := 47) rfl)
theorem dX7_readPart_92 : decode cX7_readPart 92 = .ok (.iload_n 2, 1) := daX7_readPart (92, .iload_n 2, 1) (List.mem_of_getElem? (i := 48) rfl)
theorem dX7_readPart_93 : decode cX7_readPart 93 = .ok (.iastore, 1) := daX7_readPart (93, .iastore, 1) (List.mem_of_getElem? (i := 49) rfl)
theorem dX7_readPart_94 : decode cX7_readPart 94 = .ok (.aload_n 0, 1) := daX7_readPart (94, .aload_n 0, 1) (List.mem_of_getElem? (i := 50) rfl)
theorem dX7_readPart_95 : decode cX7_readPart 95 = .ok (.getfield 71, 3) := daX7_readPart (95, .getfield 71, 3) (List.mem_of_getElem? (i := 51) rfl)
theorem dX7_readPart_98 : decode cX7_readPart 98 = .ok (.aload_n 0, 1) := daX7_readPart (98, .aload_n 0, 1) (List.mem_of_getElem? (i := 52) rfl)
theorem dX7_readPart_99 : decode cX7_readPart 99 = .ok (.getfield 234, 3) := daX7_readPart (99, .getfield 234, 3) (List.mem_of_getElem? (i := 53) rfl)
theorem dX7_readPart_102 : decode cX7_readPart 102 = .ok (.dup2, 1) := daX7_readPart (102, .dup2, 1) (List.mem_of_getElem? (i := 54) rfl)
theorem dX7_readPart_103 : decode cX7_readPart 103 = .ok (.iaload, 1) := daX7_readPart (103, .iaload, 1) (List.mem_of_getElem? (i := 55) rfl)
theorem dX7_readPart_104 : decode cX7_readPart 104 = .ok (.iconst 1, 1) := daX7_readPart (104, .iconst 1, 1) (List.mem_of_getElem? (i := 56) rfl)
theorem dX7_readPart_105 : decode cX7_readPart 105 = .ok (.iadd, 1) := daX7_readPart (105, .iadd, 1) (List.mem_of_getElem? (i := 57) rfl)
theorem dX7_readPart_106 : decode cX7_readPart 106 = .ok (.iastore, 1) := daX7_readPart (106, .iastore, 1) (List.mem_of_getElem? (i := 58) rfl)
theorem dX7_readPart_107 : decode cX7_readPart 107 = .ok (.aload_n 0, 1) := daX7_readPart (107, .aload_n 0, 1) (List.mem_of_getElem? (i := 59) rfl)
theorem dX7_readPart_108 : decode cX7_readPart 108 = .ok (.getfield 74, 3) := daX7_readPart (108, .getfield 74, 3) (List.mem_of_getElem? (i := 60) rfl)
theorem dX7_readPart_111 : decode cX7_readPart 111 = .ok (.iload_n 2, 1) := daX7_readPart (111, .iload_n 2, 1) (List.mem_of_getElem? (i := 61) rfl)
theorem dX7_readPart_112 : decode cX7_readPart 112 = .ok (.aload_n 0, 1) := daX7_readPart (112, .aload_n 0, 1) (List.mem_of_getElem? (i := 62) rfl)
theorem dX7_readPart_113 : decode cX7_readPart 113 = .ok (.iconst 2, 1) := daX7_readPart (113, .iconst 2, 1) (List.mem_of_getElem? (i := 63) rfl)
theorem dX7_readPart_114 : decode cX7_readPart 114 = .ok (.invokevirtual 231, 3) := daX7_readPart (114, .invokevirtual 231, 3) (List.mem_of_getElem? (i := 64) rfl)
theorem dX7_readPart_117 : decode cX7_readPart 117 = .ok (.iastore, 1) := daX7_readPart (117, .iastore, 1) (List.mem_of_getElem? (i := 65) rfl)
theorem dX7_readPart_118 : decode cX7_readPart 118 = .ok (.aload_n 0, 1) := daX7_readPart (118, .aload_n 0, 1) (List.mem_of_getElem? (i := 66) rfl)
theorem dX7_readPart_119 : decode cX7_readPart 119 = .ok (.getfield 80, 3) := daX7_readPart (119, .getfield 80, 3) (List.mem_of_getElem? (i := 67) rfl)
theorem dX7_readPart_122 : decode cX7_readPart 122 = .ok (.iload_n 2, 1) := daX7_readPart (122, .iload_n 2, 1) (List.mem_of_getElem? (i := 68) rfl)
theorem dX7_readPart_123 : decode cX7_readPart 123 = .ok (.iconst 0, 1) := daX7_readPart (123, .iconst 0, 1) (List.mem_of_getElem? (i := 69) rfl)
theorem dX7_readPart_124 : decode cX7_readPart 124 = .ok (.iastore, 1) := daX7_readPart (124, .iastore, 1) (List.mem_of_getElem? (i := 70) rfl)
theorem dX7_readPart_125 : decode cX7_readPart 125 = .ok (.aload_n 0, 1) := daX7_readPart (125, .aload_n 0, 1) (List.mem_of_getElem? (i := 71) rfl)
theorem dX7_readPart_126 : decode cX7_readPart 126 = .ok (.getfield 83, 3) := daX7_readPart (126, .getfield 83, 3) (List.mem_of_getElem? (i := 72) rfl)
theorem dX7_readPart_129 : decode cX7_readPart 129 = .ok (.iload_n 2, 1) := daX7_readPart (129, .iload_n 2, 1) (List.mem_of_getElem? (i := 73) rfl)
theorem dX7_readPart_130 : decode cX7_readPart 130 = .ok (.iconst 0, 1) := daX7_readPart (130, .iconst 0, 1) (List.mem_of_getElem? (i := 74) rfl)
theorem dX7_readPart_131 : decode cX7_readPart 131 = .ok (.iastore, 1) := daX7_readPart (131, .iastore, 1) (List.mem_of_getElem? (i := 75) rfl)
theorem dX7_readPart_132 : decode cX7_readPart 132 = .ok (.aload_n 0, 1) := daX7_readPart (132, .aload_n 0, 1) (List.mem_of_getElem? (i := 76) rfl)
theorem dX7_readPart_133 : decode cX7_readPart 133 = .ok (.getfield 86, 3) := daX7_readPart (133, .getfield 86, 3) (List.mem_of_getElem? (i := 77) rfl)
theorem dX7_readPart_136 : decode cX7_readPart 136 = .ok (.iload_n 2, 1) := daX7_readPart (136, .iload_n 2, 1) (List.mem_of_getElem? (i := 78) rfl)
theorem dX7_readPart_137 : decode cX7_readPart 137 = .ok (.iconst 0, 1) := daX7_readPart (137, .iconst 0, 1) (List.mem_of_getElem? (i := 79) rfl)
theorem dX7_readPart_138 : decode cX7_readPart 138 = .ok (.iastore, 1) := daX7_readPart (138, .iastore, 1) (List.mem_of_getElem? (i := 80) rfl)
theorem dX7_readPart_139 : decode cX7_readPart 139 = .ok (.aload_n 0, 1) := daX7_readPart (139, .aload_n 0, 1) (List.mem_of_getElem? (i := 81) rfl)
theorem dX7_readPart_140 : decode cX7_readPart 140 = .ok (.bipush 46, 2) := daX7_readPart (140, .bipush 46, 2) (List.mem_of_getElem? (i := 82) rfl)
theorem dX7_readPart_142 : decode cX7_readPart 142 = .ok (.invokevirtual 228, 3) := daX7_readPart (142, .invokevirtual 228, 3) (List.mem_of_getElem? (i := 83) rfl)
theorem dX7_readPart_145 : decode cX7_readPart 145 = .ok (.ifCond .eq 17, 3) := daX7_readPart (145, .ifCond .eq 17, 3) (List.mem_of_getElem? (i := 84) rfl)
theorem dX7_readPart_148 : decode cX7_readPart 148 = .ok (.aload_n 0, 1) := daX7_readPart (148, .aload_n 0, 1) (List.mem_of_getElem? (i := 85) rfl)
theorem dX7_readPart_149 : decode cX7_readPart 149 = .ok (.getfield 77, 3) := daX7_readPart (149, .getfield 77, 3) (List.mem_of_getElem? (i := 86) rfl)
theorem dX7_readPart_152 : decode cX7_readPart 152 = .ok (.iload_n 2, 1) := daX7_readPart (152, .iload_n 2, 1) (List.mem_of_getElem? (i := 87) rfl)
theorem dX7_readPart_153 : decode cX7_readPart 153 = .ok (.iconst 0, 1) := daX7_readPart (153, .iconst 0, 1) (List.mem_of_getElem? (i := 88) rfl)
theorem dX7_readPart_154 : decode cX7_readPart 154 = .ok (.iastore, 1) := daX7_readPart (154, .iastore, 1) (List.mem_of_getElem? (i := 89) rfl)
theorem dX7_readPart_155 : decode cX7_readPart 155 = .ok (.aload_n 0, 1) := daX7_readPart (155, .aload_n 0, 1) (List.mem_of_getElem? (i := 90) rfl)
theorem dX7_readPart_156 : decode cX7_readPart 156 = .ok (.invokevirtual 225, 3) := daX7_readPart (156, .invokevirtual 225, 3) (List.mem_of_getElem? (i := 91) rfl)
theorem dX7_readPart_159 : decode cX7_readPart 159 = .ok (.goto 141, 3) := daX7_readPart (159, .goto 141, 3) (List.mem_of_getElem? (i := 92) rfl)
theorem dX7_readPart_162 : decode cX7_readPart 162 = .ok (.aload_n 0, 1) := daX7_readPart (162, .aload_n 0, 1) (List.mem_of_getElem? (i := 93) rfl)
theorem dX7_readPart_163 : decode cX7_readPart 163 = .ok (.bipush 64, 2) := daX7_readPart (163, .bipush 64, 2) (List.mem_of_getElem? (i := 94) rfl)
theorem dX7_readPart_165 : decode cX7_readPart 165 = .ok (.invokevirtual 228, 3) := daX7_readPart (165, .invokevirtual 228, 3) (List.mem_of_getElem? (i := 95) rfl)
theorem dX7_readPart_168 : decode cX7_readPart 168 = .ok (.ifCond .ne 12, 3) := daX7_readPart (168, .ifCond .ne 12, 3) (List.mem_of_getElem? (i := 96) rfl)
theorem dX7_readPart_171 : decode cX7_readPart 171 = .ok (.aload_n 0, 1) := daX7_readPart (171, .aload_n 0, 1) (List.mem_of_getElem? (i := 97) rfl)
theorem dX7_readPart_172 : decode cX7_readPart 172 = .ok (.bipush 33, 2) := daX7_readPart (172, .bipush 33, 2) (List.mem_of_getElem? (i := 98) rfl)
theorem dX7_readPart_174 : decode cX7_readPart 174 = .ok (.invokevirtual 228, 3) := daX7_readPart (174, .invokevirtual 228, 3) (List.mem_of_getElem? (i := 99) rfl)
theorem dX7_readPart_177 : decode cX7_readPart 177 = .ok (.ifCond .eq 51, 3) := daX7_readPart (177, .ifCond .eq 51, 3) (List.mem_of_getElem? (i := 100) rfl)
theorem dX7_readPart_180 : decode cX7_readPart 180 = .ok (.aload_n 0, 1) := daX7_readPart (180, .aload_n 0, 1) (List.mem_of_getElem? (i := 101) rfl)
theorem dX7_readPart_181 : decode cX7_readPart 181 = .ok (.getfield 77, 3) := daX7_readPart (181, .getfield 77, 3) (List.mem_of_getElem? (i := 102) rfl)
theorem dX7_readPart_184 : decode cX7_readPart 184 = .ok (.iload_n 2, 1) := daX7_readPart (184, .iload_n 2, 1) (List.mem_of_getElem? (i := 103) rfl)
theorem dX7_readPart_185 : decode cX7_readPart 185 = .ok (.aload_n 0, 1) := daX7_readPart (185, .aload_n 0, 1) (List.mem_of_getElem? (i := 104) rfl)
theorem dX7_readPart_186 : decode cX7_readPart 186 = .ok (.bipush 64, 2) := daX7_readPart (186, .bipush 64, 2) (List.mem_of_getElem? (i := 105) rfl)
theorem dX7_readPart_188 : decode cX7_readPart 188 = .ok (.invokevirtual 228, 3) := daX7_readPart (188, .invokevirtual 228, 3) (List.mem_of_getElem? (i := 106) rfl)
theorem dX7_readPart_191 : decode cX7_readPart 191 = .ok (.ifCond .eq 7, 3) := daX7_readPart (191, .ifCond .eq 7, 3) (List.mem_of_getElem? (i := 107) rfl)
theorem dX7_readPart_194 : decode cX7_readPart 194 = .ok (.iconst 1, 1) := daX7_readPart (194, .iconst 1, 1) (List.mem_of_getElem? (i := 108) rfl)
theorem dX7_readPart_195 : decode cX7_readPart 195 = .ok (.goto 4, 3) := daX7_readPart (195, .goto 4, 3) (List.mem_of_getElem? (i := 109) rfl)
theorem dX7_readPart_198 : decode cX7_readPart 198 = .ok (.iconst 2, 1) := daX7_readPart (198, .iconst 2, 1) (List.mem_of_getElem? (i := 110) rfl)
theorem dX7_readPart_199 : decode cX7_readPart 199 = .ok (.iastore, 1) := daX7_readPart (199, .iastore, 1) (List.mem_of_getElem? (i := 111) rfl)
theorem dX7_readPart_200 : decode cX7_readPart 200 = .ok (.aload_n 0, 1) := daX7_readPart (200, .aload_n 0, 1) (List.mem_of_getElem? (i := 112) rfl)
theorem dX7_readPart_201 : decode cX7_readPart 201 = .ok (.invokevirtual 225, 3) := daX7_readPart (201, .invokevirtual 225, 3) (List.mem_of_getElem? (i := 113) rfl)
theorem dX7_readPart_204 : decode cX7_readPart 204 = .ok (.aload_n 0, 1) := daX7_readPart (204, .aload_n 0, 1) (List.mem_of_getElem? (i := 114) rfl)
theorem dX7_readPart_205 : decode cX7_readPart 205 = .ok (.getfield 80, 3) := daX7_readPart (205, .getfield 80, 3) (List.mem_of_getElem? (i := 115) rfl)
theorem dX7_readPart_208 : decode cX7_readPart 208 = .ok (.iload_n 2, 1) := daX7_readPart (208, .iload_n 2, 1) (List.mem_of_getElem? (i := 116) rfl)
theorem dX7_readPart_209 : decode cX7_readPart 209 = .ok (.aload_n 0, 1) := daX7_readPart (209, .aload_n 0, 1) (List.mem_of_getElem? (i := 117) rfl)
theorem dX7_readPart_210 : decode cX7_readPart 210 = .ok (.iconst 1, 1) := daX7_readPart (210, .iconst 1, 1) (List.mem_of_getElem? (i := 118) rfl)
theorem dX7_readPart_211 : decode cX7_readPart 211 = .ok (.invokevirtual 231, 3) := daX7_readPart (211, .invokevirtual 231, 3) (List.mem_of_getElem? (i := 119) rfl)
theorem dX7_readPart_214 : decode cX7_readPart 214 = .ok (.iastore, 1) := daX7_readPart (214, .iastore, 1) (List.mem_of_getElem? (i := 120) rfl)
theorem dX7_readPart_215 : decode cX7_readPart 215 = .ok (.aload_n 0, 1) := daX7_readPart (215, .aload_n 0, 1) (List.mem_of_getElem? (i := 121) rfl)
theorem dX7_readPart_216 : decode cX7_readPart 216 = .ok (.getfield 86, 3) := daX7_readPart (216, .getfield 86, 3) (List.mem_of_getElem? (i := 122) rfl)
theorem dX7_readPart_219 : decode cX7_readPart 219 = .ok (.iload_n 2, 1) := daX7_readPart (219, .iload_n 2, 1) (List.mem_of_getElem? (i := 123) rfl)
theorem dX7_readPart_220 : decode cX7_readPart 220 = .ok (.aload_n 0, 1) := daX7_readPart (220, .aload_n 0, 1) (List.mem_of_getElem? (i := 124) rfl)
theorem dX7_readPart_221 : decode cX7_readPart 221 = .ok (.getfield 222, 3) := daX7_readPart (221, .getfield 222, 3) (List.mem_of_getElem? (i := 125) rfl)
theorem dX7_readPart_224 : decode cX7_readPart 224 = .ok (.iastore, 1) := daX7_readPart (224, .iastore, 1) (List.mem_of_getElem? (i := 126) rfl)
theorem dX7_readPart_225 : decode cX7_readPart 225 = .ok (.goto 75, 3) := daX7_readPart (225, .goto 75, 3) (List.mem_of_getElem? (i := 127) rfl)
theorem dX7_readPart_228 : decode cX7_readPart 228 = .ok (.aload_n 0, 1) := daX7_readPart (228, .aload_n 0, 1) (List.mem_of_getElem? (i := 128) rfl)
theorem dX7_readPart_229 : decode cX7_readPart 229 = .ok (.getfield 77, 3) := daX7_readPart (229, .getfield 77, 3) (List.mem_of_getElem? (i := 129) rfl)
theorem dX7_readPart_232 : decode cX7_readPart 232 = .ok (.iload_n 2, 1) := daX7_readPart (232, .iload_n 2, 1) (List.mem_of_getElem? (i := 130) rfl)
theorem dX7_readPart_233 : decode cX7_readPart 233 = .ok (.iconst 3, 1) := daX7_readPart (233, .iconst 3, 1) (List.mem_of_getElem? (i := 131) rfl)
theorem dX7_readPart_234 : decode cX7_readPart 234 = .ok (.iastore, 1) := daX7_readPart (234, .iastore, 1) (List.mem_of_getElem? (i := 132) rfl)
theorem dX7_readPart_235 : decode cX7_readPart 235 = .ok (.aload_n 0, 1) := daX7_readPart (235, .aload_n 0, 1) (List.mem_of_getElem? (i := 133) rfl)
theorem dX7_readPart_236 : decode cX7_readPart 236 = .ok (.getfield 80, 3) := daX7_readPart (236, .getfield 80, 3) (List.mem_of_getElem? (i := 134) rfl)
theorem dX7_readPart_239 : decode cX7_readPart 239 = .ok (.iload_n 2, 1) := daX7_readPart (239, .iload_n 2, 1) (List.mem_of_getElem? (i := 135) rfl)
theorem dX7_readPart_240 : decode cX7_readPart 240 = .ok (.aload_n 0, 1) := daX7_readPart (240, .aload_n 0, 1) (List.mem_of_getElem? (i := 136) rfl)
theorem dX7_readPart_241 : decode cX7_readPart 241 = .ok (.iconst 2, 1) := daX7_readPart (241, .iconst 2, 1) (List.mem_of_getElem? (i := 137) rfl)
theorem dX7_readPart_242 : decode cX7_readPart 242 = .ok (.invokevirtual 231, 3) := daX7_readPart (242, .invokevirtual 231, 3) (List.mem_of_getElem? (i := 138) rfl)
theorem dX7_readPart_245 : decode cX7_readPart 245 = .ok (.iastore, 1) := daX7_readPart (245, .iastore, 1) (List.mem_of_getElem? (i := 139) rfl)
theorem dX7_readPart_246 : decode cX7_readPart 246 = .ok (.aload_n 0, 1) := daX7_readPart (246, .aload_n 0, 1) (List.mem_of_getElem? (i := 140) rfl)
theorem dX7_readPart_247 : decode cX7_readPart 247 = .ok (.iconst 5, 1) := daX7_readPart (247, .iconst 5, 1) (List.mem_of_getElem? (i := 141) rfl)
theorem dX7_readPart_248 : decode cX7_readPart 248 = .ok (.invokevirtual 231, 3) := daX7_readPart (248, .invokevirtual 231, 3) (List.mem_of_getElem? (i := 142) rfl)
theorem dX7_readPart_251 : decode cX7_readPart 251 = .ok (.pop, 1) := daX7_readPart (251, .pop, 1) (List.mem_of_getElem? (i := 143) rfl)
theorem dX7_readPart_252 : decode cX7_readPart 252 = .ok (.aload_n 0, 1) := daX7_readPart (252, .aload_n 0, 1) (List.mem_of_getElem? (i := 144) rfl)
theorem dX7_readPart_253 : decode cX7_readPart 253 = .ok (.getfield 177, 3) := daX7_readPart (253, .getfield 177, 3) (List.mem_of_getElem? (i := 145) rfl)
theorem dX7_readPart_256 : decode cX7_readPart 256 = .ok (.ifCond .ne 33, 3) := daX7_readPart (256, .ifCond .ne 33, 3) (List.mem_of_getElem? (i := 146) rfl)
theorem dX7_readPart_259 : decode cX7_readPart 259 = .ok (.aload_n 0, 1) := daX7_readPart (259, .aload_n 0, 1) (List.mem_of_getElem? (i := 147) rfl)
theorem dX7_readPart_260 : decode cX7_readPart 260 = .ok (.getfield 193, 3) := daX7_readPart (260, .getfield 193, 3) (List.mem_of_getElem? (i := 148) rfl)
theorem dX7_readPart_263 : decode cX7_readPart 263 = .ok (.iconst 2, 1) := daX7_readPart (263, .iconst 2, 1) (List.mem_of_getElem? (i := 149) rfl)
theorem dX7_readPart_264 : decode cX7_readPart 264 = .ok (.if_icmp .ne 25, 3) := daX7_readPart (264, .if_icmp .ne 25, 3) (List.mem_of_getElem? (i := 150) rfl)
theorem dX7_readPart_267 : decode cX7_readPart 267 = .ok (.aload_n 0, 1) := daX7_readPart (267, .aload_n 0, 1) (List.mem_of_getElem? (i := 151) rfl)
theorem dX7_readPart_268 : decode cX7_readPart 268 = .ok (.getfield 200, 3) := daX7_readPart (268, .getfield 200, 3) (List.mem_of_getElem? (i := 152) rfl)
theorem dX7_readPart_271 : decode cX7_readPart 271 = .ok (.aload_n 0, 1) := daX7_readPart (271, .aload_n 0, 1) (List.mem_of_getElem? (i := 153) rfl)
theorem dX7_readPart_272 : decode cX7_readPart 272 = .ok (.getfield 80, 3) := daX7_readPart (272, .getfield 80, 3) (List.mem_of_getElem? (i := 154) rfl)
theorem dX7_readPart_275 : decode cX7_readPart 275 = .ok (.iload_n 2, 1) := daX7_readPart (275, .iload_n 2, 1) (List.mem_of_getElem? (i := 155) rfl)
theorem dX7_readPart_276 : decode cX7_readPart 276 = .ok (.iaload, 1) := daX7_readPart (276, .iaload, 1) (List.mem_of_getElem? (i := 156) rfl)
theorem dX7_readPart_277 : decode cX7_readPart 277 = .ok (.if_icmp .ge 12, 3) := daX7_readPart (277, .if_icmp .ge 12, 3) (List.mem_of_getElem? (i := 157) rfl)
theorem dX7_readPart_280 : decode cX7_readPart 280 = .ok (.aload_n 0, 1) := daX7_readPart (280, .aload_n 0, 1) (List.mem_of_getElem? (i := 158) rfl)
theorem dX7_readPart_281 : decode cX7_readPart 281 = .ok (.iconst 3, 1) := daX7_readPart (281, .iconst 3, 1) (List.mem_of_getElem? (i := 159) rfl)
theorem dX7_readPart_282 : decode cX7_readPart 282 = .ok (.aload_n 0, 1) := daX7_readPart (282, .aload_n 0, 1) (List.mem_of_getElem? (i := 160) rfl)
theorem dX7_readPart_283 : decode cX7_readPart 283 = .ok (.getfield 186, 3) := daX7_readPart (283, .getfield 186, 3) (List.mem_of_getElem? (i := 161) rfl)
theorem dX7_readPart_286 : decode cX7_readPart 286 = .ok (.invokevirtual 207, 3) := daX7_readPart (286, .invokevirtual 207, 3) (List.mem_of_getElem? (i := 162) rfl)
theorem dX7_readPart_289 : decode cX7_readPart 289 = .ok (.aload_n 0, 1) := daX7_readPart (289, .aload_n 0, 1) (List.mem_of_getElem? (i := 163) rfl)
theorem dX7_readPart_290 : decode cX7_readPart 290 = .ok (.getfield 83, 3) := daX7_readPart (290, .getfield 83, 3) (List.mem_of_getElem? (i := 164) rfl)
theorem dX7_readPart_293 : decode cX7_readPart 293 = .ok (.iload_n 2, 1) := daX7_readPart (293, .iload_n 2, 1) (List.mem_of_getElem? (i := 165) rfl)
theorem dX7_readPart_294 : decode cX7_readPart 294 = .ok (.aload_n 0, 1) := daX7_readPart (294, .aload_n 0, 1) (List.mem_of_getElem? (i := 166) rfl)
theorem dX7_readPart_295 : decode cX7_readPart 295 = .ok (.iconst 2, 1) := daX7_readPart (295, .iconst 2, 1) (List.mem_of_getElem? (i := 167) rfl)
theorem dX7_readPart_296 : decode cX7_readPart 296 = .ok (.invokevirtual 231, 3) := daX7_readPart (296, .invokevirtual 231, 3) (List.mem_of_getElem? (i := 168) rfl)
theorem dX7_readPart_299 : decode cX7_readPart 299 = .ok (.iastore, 1) := daX7_readPart (299, .iastore, 1) (List.mem_of_getElem? (i := 169) rfl)
theorem dX7_readPart_300 : decode cX7_readPart 300 = .ok (.return_, 1) := daX7_readPart (300, .return_, 1) (List.mem_of_getElem? (i := 170) rfl)
def rmX7_readPart : Room := { frames := 4, cells := 0, slots := 0, locals := 85 }
theorem zdX7_readPart : yX7_readPart.cls = RX7 ∧ yX7_readPart.cls ≠ "java/lang/invoke/MethodHandle" ∧ yX7_readPart.cls ≠ "java/lang/invoke/VarHandle" ∧ (parseMethodDescriptor yX7_readPart.desc).map (fun d => d.parameters.length) = some 1 := by decide +kernel
theorem kiX7_readPart_X7 : ∀ w ∈ wsX70, w ∈ wsX7_readPart := fun _ h => (List.mem_cons_of_mem _ (List.mem_append_right _ h))
theorem kfX7_readPart_177 : Cond.fieldLink RX7 177 "ShapeJudgeModel" "fault" "I" ∈ wsX7_readPart := (List.mem_of_getElem? (i := 1) rfl)
theorem kfX7_readPart_234 : Cond.fieldLink RX7 234 "ShapeJudgeModel" "dShapes" "I" ∈ wsX7_readPart := (List.mem_of_getElem? (i := 6) rfl)
theorem kfX7_readPart_71 : Cond.fieldLink RX7 71 "ShapeJudgeModel" "dParts" "[I" ∈ wsX7_readPart := (List.mem_of_getElem? (i := 5) rfl)
theorem kfX7_readPart_104 : Cond.fieldLink RX7 104 "ShapeJudgeModel" "dPartOf" "[I" ∈ wsX7_readPart := (List.mem_of_getElem? (i := 7) rfl)
theorem kfX7_readPart_74 : Cond.fieldLink RX7 74 "ShapeJudgeModel" "dName" "[I" ∈ wsX7_readPart := (List.mem_of_getElem? (i := 8) rfl)
theorem kfX7_readPart_80 : Cond.fieldLink RX7 80 "ShapeJudgeModel" "dFirst" "[I" ∈ wsX7_readPart := (List.mem_of_getElem? (i := 9) rfl)
theorem kfX7_readPart_83 : Cond.fieldLink RX7 83 "ShapeJudgeModel" "dSecond" "[I" ∈ wsX7_readPart := (List.mem_of_getElem? (i := 10) rfl)
theorem kfX7_readPart_86 : Cond.fieldLink RX7 86 "ShapeJudgeModel" "dPlace" "[I" ∈ wsX7_readPart := (List.mem_of_getElem? (i := 11) rfl)
theorem kfX7_readPart_77 : Cond.fieldLink RX7 77 "ShapeJudgeModel" "dTest" "[I" ∈ wsX7_readPart := (List.mem_of_getElem? (i := 12) rfl)
theorem kfX7_readPart_222 : Cond.fieldLink RX7 222 "ShapeJudgeModel" "takenAt" "I" ∈ wsX7_readPart := (List.mem_of_getElem? (i := 13) rfl)
theorem kfX7_readPart_193 : Cond.fieldLink RX7 193 "ShapeJudgeModel" "sort" "I" ∈ wsX7_readPart := (List.mem_of_getElem? (i := 14) rfl)
theorem kfX7_readPart_200 : Cond.fieldLink RX7 200 "ShapeJudgeModel" "value" "I" ∈ wsX7_readPart := (List.mem_of_getElem? (i := 2) rfl)
theorem kfX7_readPart_186 : Cond.fieldLink RX7 186 "ShapeJudgeModel" "from" "I" ∈ wsX7_readPart := (List.mem_of_getElem? (i := 4) rfl)
theorem kcX7_readPart_160 : Cond.constantLong RX7 160 (9) ∈ wsX7_readPart := (List.mem_of_getElem? (i := 3) rfl)
def s_X7_readPart (m : Mem) (a1 : Int32) : Option (Mem) :=
  (((if (m 0 42) = 0 then ((s_X7_in (m 0 41).toInt64 0 9).bind fun r107 => (if r107 = 0 then ((s_X7_fails m 3 (m 0 39)).bind fun m109 => some m109) else (some m))) else (some m)) : Option (Mem)).bind fun m1 => (((if (m1 0 42) = 0 then (ck (zin (m1 0 21) 6 = true) ((if (m1 21 (Int32.toNatClampNeg (m1 0 21))) = 6 then ((s_X7_fails m1 4 (m1 0 39)).bind fun m103 => some m103) else (some m1)))) else (some m1)) : Option (Mem)).bind fun m2 => (if (m2 0 42) ≤ 0 then (ck (zin (m2 0 21) 6 = true) (bn (((6 : Int32) * (m2 0 21)) + (m2 21 (Int32.toNatClampNeg (m2 0 21)))) fun x4 => ck (zin a1 960 = true) (bn (sto m2 32 (Int32.toNatClampNeg a1) x4) fun m6 => ck (zin (m6 0 21) 6 = true) (ck (zin (m6 0 21) 6 = true) (bn (sto m6 21 (Int32.toNatClampNeg (m6 0 21)) ((m6 21 (Int32.toNatClampNeg (m6 0 21))) + 1)) fun m9 => zb2 (s_X7_taken m9 2) fun r11 m12 => ck (zin x4 36 = true) (bn (sto m12 22 (Int32.toNatClampNeg x4) r11) fun m14 => ck (zin x4 36 = true) (bn (sto m14 24 (Int32.toNatClampNeg x4) 0) fun m16 => ck (zin x4 36 = true) (bn (sto m16 25 (Int32.toNatClampNeg x4) 0) fun m18 => ck (zin x4 36 = true) (bn (sto m18 26 (Int32.toNatClampNeg x4) 0) fun m20 => (s_X7_is m20 46).bind fun r22 => (if r22 = 0 then ((s_X7_is m20 64).bind fun r24 => (if r24 = 0 then ((s_X7_is m20 33).bind fun r41 => (if r41 = 0 then (ck (zin x4 36 = true) (bn (sto m20 23 (Int32.toNatClampNeg x4) 3) fun m43 => zb2 (s_X7_taken m43 2) fun r45 m46 => ck (zin x4 36 = true) (bn (sto m46 24 (Int32.toNatClampNeg x4) r45) fun m48 => zb2 (s_X7_taken m48 5) fun r50 m51 => (if (m51 0 42) = 0 then ((if (m51 0 40) = 2 then (ck (zin x4 36 = true) ((if (m51 24 (Int32.toNatClampNeg x4)) ≤ (m51 0 41) then (zb2 (s_X7_taken m51 2) fun r64 m65 => ck (zin x4 36 = true) (bn (sto m65 25 (Int32.toNatClampNeg x4) r64) fun m67 => some m67)) else ((s_X7_fails m51 3 (m51 0 39)).bind fun m69 => zb2 (s_X7_taken m69 2) fun r71 m72 => ck (zin x4 36 = true) (bn (sto m72 25 (Int32.toNatClampNeg x4) r71) fun m74 => some m74))))) else (zb2 (s_X7_taken m51 2) fun r58 m59 => ck (zin x4 36 = true) (bn (sto m59 25 (Int32.toNatClampNeg x4) r58) fun m61 => some m61)))) else (zb2 (s_X7_taken m51 2) fun r53 m54 => ck (zin x4 36 = true) (bn (sto m54 25 (Int32.toNatClampNeg x4) r53) fun m56 => some m56)))))) else ((s_X7_is m20 64).bind fun r79 => (((if r79 = 0 then (some 2) else (some 1)) : Option (Int32)).bind fun y80 => ck (zin x4 36 = true) (bn (sto m20 23 (Int32.toNatClampNeg x4) y80) fun m82 => (s_X7_next m82).bind fun m84 => zb2 (s_X7_taken m84 1) fun r86 m87 => ck (zin x4 36 = true) (bn (sto m87 24 (Int32.toNatClampNeg x4) r86) fun m89 => ck (zin x4 36 = true) (bn (sto m89 26 (Int32.toNatClampNeg x4) (m89 0 44)) fun m91 => some m91))))))) else ((s_X7_is m20 64).bind fun r26 => (((if r26 = 0 then (some 2) else (some 1)) : Option (Int32)).bind fun y27 => ck (zin x4 36 = true) (bn (sto m20 23 (Int32.toNatClampNeg x4) y27) fun m29 => (s_X7_next m29).bind fun m31 => zb2 (s_X7_taken m31 1) fun r33 m34 => ck (zin x4 36 = true) (bn (sto m34 24 (Int32.toNatClampNeg x4) r33) fun m36 => ck (zin x4 36 = true) (bn (sto m36 26 (Int32.toNatClampNeg x4) (m36 0 44)) fun m38 => some m38))))))) else (ck (zin x4 36 = true) (bn (sto m20 23 (Int32.toNatClampNeg x4) 0) fun m96 => (s_X7_next m96).bind fun m98 => some m98)))))))))))) else (some m2))))
set_option maxRecDepth 100000 in
set_option maxHeartbeats 4000000 in
theorem c_X7_readPart (l : Launch) (w : ZW) {m : Mem} {a1 : Int32} {m9 : Mem}  (hf : s_X7_readPart m a1 = some m9) : zCv MM l w yX7_readPart wsX7_readPart rmX7_readPart [.ref (w.2.1 0), .int a1] m m9 := by
  refine z_met_v MM_ok (own := RX7) (by decide +kernel) rfl rfl (Nat.le_of_ble_eq_true rfl) ?_
  intro K C hKw hKl hret
  subst hKw
  subst hKl
  unfold s_X7_readPart at hf
  show zGo MM K m [(0, .ref ((zw K).2.1 0)), (1, .int a1)] 0 []
  refine z_aload_n C 0 dX7_readPart_0 rfl rfl ?_
  refine z_geti C (Nat.le_of_ble_eq_true rfl) rfl rfl 42 (Nat.le_of_ble_eq_true rfl) rfl kiX7_readPart_X7 kfX7_readPart_177 dX7_readPart_1 ?_
  obtain ⟨m1, hg, hf⟩ := zb_el hf
  have hj : zGo MM K m1 [(0, .ref ((zw K).2.1 0)), (1, .int a1)] 31 [] := by
    refine z_aload_n C 0 dX7_readPart_31 rfl rfl ?_
    refine z_geti C (Nat.le_of_ble_eq_true rfl) rfl rfl 42 (Nat.le_of_ble_eq_true rfl) rfl kiX7_readPart_X7 kfX7_readPart_177 dX7_readPart_32 ?_
    obtain ⟨m2, hg, hf⟩ := zb_el hf
    have hj : zGo MM K m2 [(0, .ref ((zw K).2.1 0)), (1, .int a1)] 61 [] := by
      refine z_aload_n C 0 dX7_readPart_61 rfl rfl ?_
      refine z_geti C (Nat.le_of_ble_eq_true rfl) rfl rfl 42 (Nat.le_of_ble_eq_true rfl) rfl kiX7_readPart_X7 kfX7_readPart_177 dX7_readPart_62 ?_
      refine z_if_le (tgt := 69) C dX7_readPart_65 (by decide) (fun c100 => ?_) (fun c100 => ?_)
      · replace hf := if_t c100 hf
        refine z_bipush C (v := 6) dX7_readPart_69 rfl ?_
        refine z_aload_n C 0 dX7_readPart_71 rfl rfl ?_
        refine z_geti C (Nat.le_of_ble_eq_true rfl) rfl rfl 21 (Nat.le_of_ble_eq_true rfl) rfl kiX7_readPart_X7 kfX7_readPart_234 dX7_readPart_72 ?_
        refine z_imul C dX7_readPart_75 ?_
        refine z_aload_n C 0 dX7_readPart_76 rfl rfl ?_
        refine z_getr C (t := 21) (Nat.le_of_ble_eq_true rfl) rfl rfl 24 (Nat.le_of_ble_eq_true rfl) rfl kiX7_readPart_X7 kfX7_readPart_71 dX7_readPart_77 ?_
        refine z_aload_n C 0 dX7_readPart_80 rfl rfl ?_
        refine z_geti C (Nat.le_of_ble_eq_true rfl) rfl rfl 21 (Nat.le_of_ble_eq_true rfl) rfl kiX7_readPart_X7 kfX7_readPart_234 dX7_readPart_81 ?_
        obtain ⟨hi3, hf⟩ := ck_el hf
        refine z_iald C (k := 21) (Nat.le_of_ble_eq_true rfl) rfl hi3 dX7_readPart_84 ?_
        refine z_iadd C dX7_readPart_85 ?_
        refine z_topi (fun x4 e_x4 => ?_)
        replace hf := bn_to e_x4 hf
        refine z_istore_n C (lv2 := [(0, .ref ((zw K).2.1 0)), (1, .int a1), (2, .int x4)]) [1, 2, 0] dX7_readPart_86 rfl (Nat.le_of_ble_eq_true rfl) rfl ?_
        refine z_aload_n C 0 dX7_readPart_87 rfl rfl ?_
        refine z_getr C (t := 32) (Nat.le_of_ble_eq_true rfl) rfl rfl 35 (Nat.le_of_ble_eq_true rfl) rfl kiX7_readPart_X7 kfX7_readPart_104 dX7_readPart_88 ?_
        refine z_iload_n C 1 dX7_readPart_91 rfl rfl ?_
        refine z_iload_n C 2 dX7_readPart_92 rfl rfl ?_
        obtain ⟨hi5, hf⟩ := ck_el hf
        refine z_iast C (k := 32) (Nat.le_of_ble_eq_true rfl) rfl hi5 dX7_readPart_93 ?_
        refine z_nm (fun m6 e_m6 => ?_)
        replace hf := bn_to e_m6 hf
        refine z_aload_n C 0 dX7_readPart_94 rfl rfl ?_
        refine z_getr C (t := 21) (Nat.le_of_ble_eq_true rfl) rfl rfl 24 (Nat.le_of_ble_eq_true rfl) rfl kiX7_readPart_X7 kfX7_readPart_71 dX7_readPart_95 ?_
        refine z_aload_n C 0 dX7_readPart_98 rfl rfl ?_
        refine z_geti C (Nat.le_of_ble_eq_true rfl) rfl rfl 21 (Nat.le_of_ble_eq_true rfl) rfl kiX7_readPart_X7 kfX7_readPart_234 dX7_readPart_99 ?_
        refine z_dup2 C dX7_readPart_102 ?_
        obtain ⟨hi7, hf⟩ := ck_el hf
        refine z_iald C (k := 21) (Nat.le_of_ble_eq_true rfl) rfl hi7 dX7_readPart_103 ?_
        refine z_iconst C (v := 1) dX7_readPart_104 rfl ?_
        refine z_iadd C dX7_readPart_105 ?_
        obtain ⟨hi8, hf⟩ := ck_el hf
        refine z_iast C (k := 21) (Nat.le_of_ble_eq_true rfl) rfl hi8 dX7_readPart_106 ?_
        refine z_nm (fun m9 e_m9 => ?_)
        replace hf := bn_to e_m9 hf
        refine z_aload_n C 0 dX7_readPart_107 rfl rfl ?_
        refine z_getr C (t := 22) (Nat.le_of_ble_eq_true rfl) rfl rfl 25 (Nat.le_of_ble_eq_true rfl) rfl kiX7_readPart_X7 kfX7_readPart_74 dX7_readPart_108 ?_
        refine z_iload_n C 2 dX7_readPart_111 rfl rfl ?_
        refine z_aload_n C 0 dX7_readPart_112 rfl rfl ?_
        refine z_iconst C (v := 2) dX7_readPart_113 rfl ?_
        obtain ⟨r11, m12, hc10, hf⟩ := zb2_el hf
        refine z_cVi C (c_X7_taken _ _ hc10) rfl gX7_readPart_X7_taken rfl rfl zdX7_taken rfl (Nat.le_of_ble_eq_true rfl) rfl rfl rfl ⟨Nat.le_of_ble_eq_true rfl, Nat.le_of_ble_eq_true rfl⟩ (Nat.le_of_ble_eq_true rfl) dX7_readPart_114 rfl ?_
        obtain ⟨hi13, hf⟩ := ck_el hf
        refine z_iast C (k := 22) (Nat.le_of_ble_eq_true rfl) rfl hi13 dX7_readPart_117 ?_
        refine z_nm (fun m14 e_m14 => ?_)
        replace hf := bn_to e_m14 hf
        refine z_aload_n C 0 dX7_readPart_118 rfl rfl ?_
        refine z_getr C (t := 24) (Nat.le_of_ble_eq_true rfl) rfl rfl 27 (Nat.le_of_ble_eq_true rfl) rfl kiX7_readPart_X7 kfX7_readPart_80 dX7_readPart_119 ?_
        refine z_iload_n C 2 dX7_readPart_122 rfl rfl ?_
        refine z_iconst C (v := 0) dX7_readPart_123 rfl ?_
        obtain ⟨hi15, hf⟩ := ck_el hf
        refine z_iast C (k := 24) (Nat.le_of_ble_eq_true rfl) rfl hi15 dX7_readPart_124 ?_
        refine z_nm (fun m16 e_m16 => ?_)
        replace hf := bn_to e_m16 hf
        refine z_aload_n C 0 dX7_readPart_125 rfl rfl ?_
        refine z_getr C (t := 25) (Nat.le_of_ble_eq_true rfl) rfl rfl 28 (Nat.le_of_ble_eq_true rfl) rfl kiX7_readPart_X7 kfX7_readPart_83 dX7_readPart_126 ?_
        refine z_iload_n C 2 dX7_readPart_129 rfl rfl ?_
        refine z_iconst C (v := 0) dX7_readPart_130 rfl ?_
        obtain ⟨hi17, hf⟩ := ck_el hf
        refine z_iast C (k := 25) (Nat.le_of_ble_eq_true rfl) rfl hi17 dX7_readPart_131 ?_
        refine z_nm (fun m18 e_m18 => ?_)
        replace hf := bn_to e_m18 hf
        refine z_aload_n C 0 dX7_readPart_132 rfl rfl ?_
        refine z_getr C (t := 26) (Nat.le_of_ble_eq_true rfl) rfl rfl 29 (Nat.le_of_ble_eq_true rfl) rfl kiX7_readPart_X7 kfX7_readPart_86 dX7_readPart_133 ?_
        refine z_iload_n C 2 dX7_readPart_136 rfl rfl ?_
        refine z_iconst C (v := 0) dX7_readPart_137 rfl ?_
        obtain ⟨hi19, hf⟩ := ck_el hf
        refine z_iast C (k := 26) (Nat.le_of_ble_eq_true rfl) rfl hi19 dX7_readPart_138 ?_
        refine z_nm (fun m20 e_m20 => ?_)
        replace hf := bn_to e_m20 hf
        refine z_aload_n C 0 dX7_readPart_139 rfl rfl ?_
        refine z_bipush C (v := 46) dX7_readPart_140 rfl ?_
        obtain ⟨r22, hc21, hf⟩ := zb_el hf
        refine z_cVi C (c_X7_is _ _ hc21) rfl gX7_readPart_X7_is rfl rfl zdX7_is rfl (Nat.le_of_ble_eq_true rfl) rfl rfl rfl ⟨Nat.le_of_ble_eq_true rfl, Nat.le_of_ble_eq_true rfl⟩ (Nat.le_of_ble_eq_true rfl) dX7_readPart_142 rfl ?_
        refine z_if_eq (tgt := 162) C dX7_readPart_145 (by decide) (fun c99 => ?_) (fun c99 => ?_)
        · replace hf := if_t c99 hf
          refine z_aload_n C 0 dX7_readPart_162 rfl rfl ?_
          refine z_bipush C (v := 64) dX7_readPart_163 rfl ?_
          obtain ⟨r24, hc23, hf⟩ := zb_el hf
          refine z_cVi C (c_X7_is _ _ hc23) rfl gX7_readPart_X7_is rfl rfl zdX7_is rfl (Nat.le_of_ble_eq_true rfl) rfl rfl rfl ⟨Nat.le_of_ble_eq_true rfl, Nat.le_of_ble_eq_true rfl⟩ (Nat.le_of_ble_eq_true rfl) dX7_readPart_165 rfl ?_
          refine z_if_ne (tgt := 180) C dX7_readPart_168 (by decide) (fun c94 => ?_) (fun c94 => ?_)
          · replace hf := if_f c94 hf
            refine z_aload_n C 0 dX7_readPart_180 rfl rfl ?_
            refine z_getr C (t := 23) (Nat.le_of_ble_eq_true rfl) rfl rfl 26 (Nat.le_of_ble_eq_true rfl) rfl kiX7_readPart_X7 kfX7_readPart_77 dX7_readPart_181 ?_
            refine z_iload_n C 2 dX7_readPart_184 rfl rfl ?_
            refine z_aload_n C 0 dX7_readPart_185 rfl rfl ?_
            refine z_bipush C (v := 64) dX7_readPart_186 rfl ?_
            obtain ⟨r26, hc25, hf⟩ := zb_el hf
            refine z_cVi C (c_X7_is _ _ hc25) rfl gX7_readPart_X7_is rfl rfl zdX7_is rfl (Nat.le_of_ble_eq_true rfl) rfl rfl rfl ⟨Nat.le_of_ble_eq_true rfl, Nat.le_of_ble_eq_true rfl⟩ (Nat.le_of_ble_eq_true rfl) dX7_readPart_188 rfl ?_
            obtain ⟨y27, hg, hf⟩ := zb_el hf
            have hj : zGo MM K m20 [(0, .ref ((zw K).2.1 0)), (2, .int x4)] 199 [.int y27, .int x4, .ref ((zw K).2.1 23)] := by
              obtain ⟨hi28, hf⟩ := ck_el hf
              refine z_iast C (k := 23) (Nat.le_of_ble_eq_true rfl) rfl hi28 dX7_readPart_199 ?_
              refine z_nm (fun m29 e_m29 => ?_)
              replace hf := bn_to e_m29 hf
              refine z_aload_n C 0 dX7_readPart_200 rfl rfl ?_
              obtain ⟨m31, hc30, hf⟩ := zb_el hf
              refine z_cVv C (c_X7_next _ _ hc30) rfl gX7_readPart_X7_next rfl rfl zdX7_next rfl (Nat.le_of_ble_eq_true rfl) rfl rfl rfl ⟨Nat.le_of_ble_eq_true rfl, Nat.le_of_ble_eq_true rfl⟩ (Nat.le_of_ble_eq_true rfl) dX7_readPart_201 rfl ?_
              refine z_aload_n C 0 dX7_readPart_204 rfl rfl ?_
              refine z_getr C (t := 24) (Nat.le_of_ble_eq_true rfl) rfl rfl 27 (Nat.le_of_ble_eq_true rfl) rfl kiX7_readPart_X7 kfX7_readPart_80 dX7_readPart_205 ?_
              refine z_iload_n C 1 dX7_readPart_208 rfl rfl ?_
              refine z_aload_n C 0 dX7_readPart_209 rfl rfl ?_
              refine z_iconst C (v := 1) dX7_readPart_210 rfl ?_
              obtain ⟨r33, m34, hc32, hf⟩ := zb2_el hf
              refine z_cVi C (c_X7_taken _ _ hc32) rfl gX7_readPart_X7_taken rfl rfl zdX7_taken rfl (Nat.le_of_ble_eq_true rfl) rfl rfl rfl ⟨Nat.le_of_ble_eq_true rfl, Nat.le_of_ble_eq_true rfl⟩ (Nat.le_of_ble_eq_true rfl) dX7_readPart_211 rfl ?_
              obtain ⟨hi35, hf⟩ := ck_el hf
              refine z_iast C (k := 24) (Nat.le_of_ble_eq_true rfl) rfl hi35 dX7_readPart_214 ?_
              refine z_nm (fun m36 e_m36 => ?_)
              replace hf := bn_to e_m36 hf
              refine z_aload_n C 0 dX7_readPart_215 rfl rfl ?_
              refine z_getr C (t := 26) (Nat.le_of_ble_eq_true rfl) rfl rfl 29 (Nat.le_of_ble_eq_true rfl) rfl kiX7_readPart_X7 kfX7_readPart_86 dX7_readPart_216 ?_
              refine z_iload_n C 1 dX7_readPart_219 rfl rfl ?_
              refine z_aload_n C 0 dX7_readPart_220 rfl rfl ?_
              refine z_geti C (Nat.le_of_ble_eq_true rfl) rfl rfl 44 (Nat.le_of_ble_eq_true rfl) rfl kiX7_readPart_X7 kfX7_readPart_222 dX7_readPart_221 ?_
              obtain ⟨hi37, hf⟩ := ck_el hf
              refine z_iast C (k := 26) (Nat.le_of_ble_eq_true rfl) rfl hi37 dX7_readPart_224 ?_
              refine z_nm (fun m38 e_m38 => ?_)
              replace hf := bn_to e_m38 hf
              refine z_goto (tgt := 300) C dX7_readPart_225 (by decide) ?_
              have e1 := Option.some.inj hf
              subst e1
              exact hret _ _ dX7_readPart_300
            replace hf := hg
            clear hg
            refine z_if_eq (tgt := 198) C dX7_readPart_191 (by decide) (fun c39 => ?_) (fun c39 => ?_)
            · replace hf := if_t c39 hf
              refine z_iconst C (v := 2) dX7_readPart_198 rfl ?_
              cases hf
              exact z_sub [0, 2] rfl hj
            · replace hf := if_f c39 hf
              refine z_iconst C (v := 1) dX7_readPart_194 rfl ?_
              refine z_goto (tgt := 199) C dX7_readPart_195 (by decide) ?_
              cases hf
              exact z_sub [0, 2] rfl hj
          · replace hf := if_t c94 hf
            refine z_aload_n C 0 dX7_readPart_171 rfl rfl ?_
            refine z_bipush C (v := 33) dX7_readPart_172 rfl ?_
            obtain ⟨r41, hc40, hf⟩ := zb_el hf
            refine z_cVi C (c_X7_is _ _ hc40) rfl gX7_readPart_X7_is rfl rfl zdX7_is rfl (Nat.le_of_ble_eq_true rfl) rfl rfl rfl ⟨Nat.le_of_ble_eq_true rfl, Nat.le_of_ble_eq_true rfl⟩ (Nat.le_of_ble_eq_true rfl) dX7_readPart_174 rfl ?_
            refine z_if_eq (tgt := 228) C dX7_readPart_177 (by decide) (fun c93 => ?_) (fun c93 => ?_)
            · replace hf := if_t c93 hf
              refine z_aload_n C 0 dX7_readPart_228 rfl rfl ?_
              refine z_getr C (t := 23) (Nat.le_of_ble_eq_true rfl) rfl rfl 26 (Nat.le_of_ble_eq_true rfl) rfl kiX7_readPart_X7 kfX7_readPart_77 dX7_readPart_229 ?_
              refine z_iload_n C 2 dX7_readPart_232 rfl rfl ?_
              refine z_iconst C (v := 3) dX7_readPart_233 rfl ?_
              obtain ⟨hi42, hf⟩ := ck_el hf
              refine z_iast C (k := 23) (Nat.le_of_ble_eq_true rfl) rfl hi42 dX7_readPart_234 ?_
              refine z_nm (fun m43 e_m43 => ?_)
              replace hf := bn_to e_m43 hf
              refine z_aload_n C 0 dX7_readPart_235 rfl rfl ?_
              refine z_getr C (t := 24) (Nat.le_of_ble_eq_true rfl) rfl rfl 27 (Nat.le_of_ble_eq_true rfl) rfl kiX7_readPart_X7 kfX7_readPart_80 dX7_readPart_236 ?_
              refine z_iload_n C 2 dX7_readPart_239 rfl rfl ?_
              refine z_aload_n C 0 dX7_readPart_240 rfl rfl ?_
              refine z_iconst C (v := 2) dX7_readPart_241 rfl ?_
              obtain ⟨r45, m46, hc44, hf⟩ := zb2_el hf
              refine z_cVi C (c_X7_taken _ _ hc44) rfl gX7_readPart_X7_taken rfl rfl zdX7_taken rfl (Nat.le_of_ble_eq_true rfl) rfl rfl rfl ⟨Nat.le_of_ble_eq_true rfl, Nat.le_of_ble_eq_true rfl⟩ (Nat.le_of_ble_eq_true rfl) dX7_readPart_242 rfl ?_
              obtain ⟨hi47, hf⟩ := ck_el hf
              refine z_iast C (k := 24) (Nat.le_of_ble_eq_true rfl) rfl hi47 dX7_readPart_245 ?_
              refine z_nm (fun m48 e_m48 => ?_)
              replace hf := bn_to e_m48 hf
              refine z_aload_n C 0 dX7_readPart_246 rfl rfl ?_
              refine z_iconst C (v := 5) dX7_readPart_247 rfl ?_
              obtain ⟨r50, m51, hc49, hf⟩ := zb2_el hf
              refine z_cVi C (c_X7_taken _ _ hc49) rfl gX7_readPart_X7_taken rfl rfl zdX7_taken rfl (Nat.le_of_ble_eq_true rfl) rfl rfl rfl ⟨Nat.le_of_ble_eq_true rfl, Nat.le_of_ble_eq_true rfl⟩ (Nat.le_of_ble_eq_true rfl) dX7_readPart_248 rfl ?_
              refine z_pop C dX7_readPart_251 ?_
              refine z_aload_n C 0 dX7_readPart_252 rfl rfl ?_
              refine z_geti C (Nat.le_of_ble_eq_true rfl) rfl rfl 42 (Nat.le_of_ble_eq_true rfl) rfl kiX7_readPart_X7 kfX7_readPart_177 dX7_readPart_253 ?_
              refine z_if_ne (tgt := 289) C dX7_readPart_256 (by decide) (fun c77 => ?_) (fun c77 => ?_)
              · replace hf := if_f c77 hf
                refine z_aload_n C 0 dX7_readPart_289 rfl rfl ?_
                refine z_getr C (t := 25) (Nat.le_of_ble_eq_true rfl) rfl rfl 28 (Nat.le_of_ble_eq_true rfl) rfl kiX7_readPart_X7 kfX7_readPart_83 dX7_readPart_290 ?_
                refine z_iload_n C 2 dX7_readPart_293 rfl rfl ?_
                refine z_aload_n C 0 dX7_readPart_294 rfl rfl ?_
                refine z_iconst C (v := 2) dX7_readPart_295 rfl ?_
                obtain ⟨r53, m54, hc52, hf⟩ := zb2_el hf
                refine z_cVi C (c_X7_taken _ _ hc52) rfl gX7_readPart_X7_taken rfl rfl zdX7_taken rfl (Nat.le_of_ble_eq_true rfl) rfl rfl rfl ⟨Nat.le_of_ble_eq_true rfl, Nat.le_of_ble_eq_true rfl⟩ (Nat.le_of_ble_eq_true rfl) dX7_readPart_296 rfl ?_
                obtain ⟨hi55, hf⟩ := ck_el hf
                refine z_iast C (k := 25) (Nat.le_of_ble_eq_true rfl) rfl hi55 dX7_readPart_299 ?_
                refine z_nm (fun m56 e_m56 => ?_)
                replace hf := bn_to e_m56 hf
                have e1 := Option.some.inj hf
                subst e1
                exact hret _ _ dX7_readPart_300
              · replace hf := if_t c77 hf
                refine z_aload_n C 0 dX7_readPart_259 rfl rfl ?_
                refine z_geti C (Nat.le_of_ble_eq_true rfl) rfl rfl 40 (Nat.le_of_ble_eq_true rfl) rfl kiX7_readPart_X7 kfX7_readPart_193 dX7_readPart_260 ?_
                refine z_iconst C (v := 2) dX7_readPart_263 rfl ?_
                refine z_icmp_ne (tgt := 289) C dX7_readPart_264 (by decide) (fun c76 => ?_) (fun c76 => ?_)
                · replace hf := if_f c76 hf
                  refine z_aload_n C 0 dX7_readPart_289 rfl rfl ?_
                  refine z_getr C (t := 25) (Nat.le_of_ble_eq_true rfl) rfl rfl 28 (Nat.le_of_ble_eq_true rfl) rfl kiX7_readPart_X7 kfX7_readPart_83 dX7_readPart_290 ?_
                  refine z_iload_n C 2 dX7_readPart_293 rfl rfl ?_
                  refine z_aload_n C 0 dX7_readPart_294 rfl rfl ?_
                  refine z_iconst C (v := 2) dX7_readPart_295 rfl ?_
                  obtain ⟨r58, m59, hc57, hf⟩ := zb2_el hf
                  refine z_cVi C (c_X7_taken _ _ hc57) rfl gX7_readPart_X7_taken rfl rfl zdX7_taken rfl (Nat.le_of_ble_eq_true rfl) rfl rfl rfl ⟨Nat.le_of_ble_eq_true rfl, Nat.le_of_ble_eq_true rfl⟩ (Nat.le_of_ble_eq_true rfl) dX7_readPart_296 rfl ?_
                  obtain ⟨hi60, hf⟩ := ck_el hf
                  refine z_iast C (k := 25) (Nat.le_of_ble_eq_true rfl) rfl hi60 dX7_readPart_299 ?_
                  refine z_nm (fun m61 e_m61 => ?_)
                  replace hf := bn_to e_m61 hf
                  have e1 := Option.some.inj hf
                  subst e1
                  exact hret _ _ dX7_readPart_300
                · replace hf := if_t c76 hf
                  refine z_aload_n C 0 dX7_readPart_267 rfl rfl ?_
                  refine z_geti C (Nat.le_of_ble_eq_true rfl) rfl rfl 41 (Nat.le_of_ble_eq_true rfl) rfl kiX7_readPart_X7 kfX7_readPart_200 dX7_readPart_268 ?_
                  refine z_aload_n C 0 dX7_readPart_271 rfl rfl ?_
                  refine z_getr C (t := 24) (Nat.le_of_ble_eq_true rfl) rfl rfl 27 (Nat.le_of_ble_eq_true rfl) rfl kiX7_readPart_X7 kfX7_readPart_80 dX7_readPart_272 ?_
                  refine z_iload_n C 2 dX7_readPart_275 rfl rfl ?_
                  obtain ⟨hi62, hf⟩ := ck_el hf
                  refine z_iald C (k := 24) (Nat.le_of_ble_eq_true rfl) rfl hi62 dX7_readPart_276 ?_
                  refine z_icmp_ge (tgt := 289) C dX7_readPart_277 (by decide) (fun c75 => ?_) (fun c75 => ?_)
                  · replace hf := if_t c75 hf
                    refine z_aload_n C 0 dX7_readPart_289 rfl rfl ?_
                    refine z_getr C (t := 25) (Nat.le_of_ble_eq_true rfl) rfl rfl 28 (Nat.le_of_ble_eq_true rfl) rfl kiX7_readPart_X7 kfX7_readPart_83 dX7_readPart_290 ?_
                    refine z_iload_n C 2 dX7_readPart_293 rfl rfl ?_
                    refine z_aload_n C 0 dX7_readPart_294 rfl rfl ?_
                    refine z_iconst C (v := 2) dX7_readPart_295 rfl ?_
                    obtain ⟨r64, m65, hc63, hf⟩ := zb2_el hf
                    refine z_cVi C (c_X7_taken _ _ hc63) rfl gX7_readPart_X7_taken rfl rfl zdX7_taken rfl (Nat.le_of_ble_eq_true rfl) rfl rfl rfl ⟨Nat.le_of_ble_eq_true rfl, Nat.le_of_ble_eq_true rfl⟩ (Nat.le_of_ble_eq_true rfl) dX7_readPart_296 rfl ?_
                    obtain ⟨hi66, hf⟩ := ck_el hf
                    refine z_iast C (k := 25) (Nat.le_of_ble_eq_true rfl) rfl hi66 dX7_readPart_299 ?_
                    refine z_nm (fun m67 e_m67 => ?_)
                    replace hf := bn_to e_m67 hf
                    have e1 := Option.some.inj hf
                    subst e1
                    exact hret _ _ dX7_readPart_300
                  · replace hf := if_f c75 hf
                    refine z_aload_n C 0 dX7_readPart_280 rfl rfl ?_
                    refine z_iconst C (v := 3) dX7_readPart_281 rfl ?_
                    refine z_aload_n C 0 dX7_readPart_282 rfl rfl ?_
                    refine z_geti C (Nat.le_of_ble_eq_true rfl) rfl rfl 39 (Nat.le_of_ble_eq_true rfl) rfl kiX7_readPart_X7 kfX7_readPart_186 dX7_readPart_283 ?_
                    obtain ⟨m69, hc68, hf⟩ := zb_el hf
                    refine z_cVv C (c_X7_fails _ _ hc68) rfl gX7_readPart_X7_fails rfl rfl zdX7_fails rfl (Nat.le_of_ble_eq_true rfl) rfl rfl rfl ⟨Nat.le_of_ble_eq_true rfl, Nat.le_of_ble_eq_true rfl⟩ (Nat.le_of_ble_eq_true rfl) dX7_readPart_286 rfl ?_
                    refine z_aload_n C 0 dX7_readPart_289 rfl rfl ?_
                    refine z_getr C (t := 25) (Nat.le_of_ble_eq_true rfl) rfl rfl 28 (Nat.le_of_ble_eq_true rfl) rfl kiX7_readPart_X7 kfX7_readPart_83 dX7_readPart_290 ?_
                    refine z_iload_n C 2 dX7_readPart_293 rfl rfl ?_
                    refine z_aload_n C 0 dX7_readPart_294 rfl rfl ?_
                    refine z_iconst C (v := 2) dX7_readPart_295 rfl ?_
                    obtain ⟨r71, m72, hc70, hf⟩ := zb2_el hf
                    refine z_cVi C (c_X7_taken _ _ hc70) rfl gX7_readPart_X7_taken rfl rfl zdX7_taken rfl (Nat.le_of_ble_eq_true rfl) rfl rfl rfl ⟨Nat.le_of_ble_eq_true rfl, Nat.le_of_ble_eq_true rfl⟩ (Nat.le_of_ble_eq_true rfl) dX7_readPart_296 rfl ?_
                    obtain ⟨hi73, hf⟩ := ck_el hf
                    refine z_iast C (k := 25) (Nat.le_of_ble_eq_true rfl) rfl hi73 dX7_readPart_299 ?_
                    refine z_nm (fun m74 e_m74 => ?_)
                    replace hf := bn_to e_m74 hf
                    have e1 := Option.some.inj hf
                    subst e1
                    exact hret _ _ dX7_readPart_300
            · replace hf := if_f c93 hf
              refine z_aload_n C 0 dX7_readPart_180 rfl rfl ?_
              refine z_getr C (t := 23) (Nat.le_of_ble_eq_true rfl) rfl rfl 26 (Nat.le_of_ble_eq_true rfl) rfl kiX7_readPart_X7 kfX7_readPart_77 dX7_readPart_181 ?_
              refine z_iload_n C 2 dX7_readPart_184 rfl rfl ?_
              refine z_aload_n C 0 dX7_readPart_185 rfl rfl ?_
              refine z_bipush C (v := 64) dX7_readPart_186 rfl ?_
              obtain ⟨r79, hc78, hf⟩ := zb_el hf
              refine z_cVi C (c_X7_is _ _ hc78) rfl gX7_readPart_X7_is rfl rfl zdX7_is rfl (Nat.le_of_ble_eq_true rfl) rfl rfl rfl ⟨Nat.le_of_ble_eq_true rfl, Nat.le_of_ble_eq_true rfl⟩ (Nat.le_of_ble_eq_true rfl) dX7_readPart_188 rfl ?_
              obtain ⟨y80, hg, hf⟩ := zb_el hf
              have hj : zGo MM K m20 [(0, .ref ((zw K).2.1 0)), (2, .int x4)] 199 [.int y80, .int x4, .ref ((zw K).2.1 23)] := by
                obtain ⟨hi81, hf⟩ := ck_el hf
                refine z_iast C (k := 23) (Nat.le_of_ble_eq_true rfl) rfl hi81 dX7_readPart_199 ?_
                refine z_nm (fun m82 e_m82 => ?_)
                replace hf := bn_to e_m82 hf
                refine z_aload_n C 0 dX7_readPart_200 rfl rfl ?_
                obtain ⟨m84, hc83, hf⟩ := zb_el hf
                refine z_cVv C (c_X7_next _ _ hc83) rfl gX7_readPart_X7_next rfl rfl zdX7_next rfl (Nat.le_of_ble_eq_true rfl) rfl rfl rfl ⟨Nat.le_of_ble_eq_true rfl, Nat.le_of_ble_eq_true rfl⟩ (Nat.le_of_ble_eq_true rfl) dX7_readPart_201 rfl ?_
                refine z_aload_n C 0 dX7_readPart_204 rfl rfl ?_
                refine z_getr C (t := 24) (Nat.le_of_ble_eq_true rfl) rfl rfl 27 (Nat.le_of_ble_eq_true rfl) rfl kiX7_readPart_X7 kfX7_readPart_80 dX7_readPart_205 ?_
                refine z_iload_n C 1 dX7_readPart_208 rfl rfl ?_
                refine z_aload_n C 0 dX7_readPart_209 rfl rfl ?_
                refine z_iconst C (v := 1) dX7_readPart_210 rfl ?_
                obtain ⟨r86, m87, hc85, hf⟩ := zb2_el hf
                refine z_cVi C (c_X7_taken _ _ hc85) rfl gX7_readPart_X7_taken rfl rfl zdX7_taken rfl (Nat.le_of_ble_eq_true rfl) rfl rfl rfl ⟨Nat.le_of_ble_eq_true rfl, Nat.le_of_ble_eq_true rfl⟩ (Nat.le_of_ble_eq_true rfl) dX7_readPart_211 rfl ?_
                obtain ⟨hi88, hf⟩ := ck_el hf
                refine z_iast C (k := 24) (Nat.le_of_ble_eq_true rfl) rfl hi88 dX7_readPart_214 ?_
                refine z_nm (fun m89 e_m89 => ?_)
                replace hf := bn_to e_m89 hf
                refine z_aload_n C 0 dX7_readPart_215 rfl rfl ?_
                refine z_getr C (t := 26) (Nat.le_of_ble_eq_true rfl) rfl rfl 29 (Nat.le_of_ble_eq_true rfl) rfl kiX7_readPart_X7 kfX7_readPart_86 dX7_readPart_216 ?_
                refine z_iload_n C 1 dX7_readPart_219 rfl rfl ?_
                refine z_aload_n C 0 dX7_readPart_220 rfl rfl ?_
                refine z_geti C (Nat.le_of_ble_eq_true rfl) rfl rfl 44 (Nat.le_of_ble_eq_true rfl) rfl kiX7_readPart_X7 kfX7_readPart_222 dX7_readPart_221 ?_
                obtain ⟨hi90, hf⟩ := ck_el hf
                refine z_iast C (k := 26) (Nat.le_of_ble_eq_true rfl) rfl hi90 dX7_readPart_224 ?_
                refine z_nm (fun m91 e_m91 => ?_)
                replace hf := bn_to e_m91 hf
                refine z_goto (tgt := 300) C dX7_readPart_225 (by decide) ?_
                have e1 := Option.some.inj hf
                subst e1
                exact hret _ _ dX7_readPart_300
              replace hf := hg
              clear hg
              refine z_if_eq (tgt := 198) C dX7_readPart_191 (by decide) (fun c92 => ?_) (fun c92 => ?_)
              · replace hf := if_t c92 hf
                refine z_iconst C (v := 2) dX7_readPart_198 rfl ?_
                cases hf
                exact z_sub [0, 2] rfl hj
              · replace hf := if_f c92 hf
                refine z_iconst C (v := 1) dX7_readPart_194 rfl ?_
                refine z_goto (tgt := 199) C dX7_readPart_195 (by decide) ?_
                cases hf
                exact z_sub [0, 2] rfl hj
        · replace hf := if_f c99 hf
          refine z_aload_n C 0 dX7_readPart_148 rfl rfl ?_
          refine z_getr C (t := 23) (Nat.le_of_ble_eq_true rfl) rfl rfl 26 (Nat.le_of_ble_eq_true rfl) rfl kiX7_readPart_X7 kfX7_readPart_77 dX7_readPart_149 ?_
          refine z_iload_n C 2 dX7_readPart_152 rfl rfl ?_
          refine z_iconst C (v := 0) dX7_readPart_153 rfl ?_
          obtain ⟨hi95, hf⟩ := ck_el hf
          refine z_iast C (k := 23) (Nat.le_of_ble_eq_true rfl) rfl hi95 dX7_readPart_154 ?_
          refine z_nm (fun m96 e_m96 => ?_)
          replace hf := bn_to e_m96 hf
          refine z_aload_n C 0 dX7_readPart_155 rfl rfl ?_
          obtain ⟨m98, hc97, hf⟩ := zb_el hf
          refine z_cVv C (c_X7_next _ _ hc97) rfl gX7_readPart_X7_next rfl rfl zdX7_next rfl (Nat.le_of_ble_eq_true rfl) rfl rfl rfl ⟨Nat.le_of_ble_eq_true rfl, Nat.le_of_ble_eq_true rfl⟩ (Nat.le_of_ble_eq_true rfl) dX7_readPart_156 rfl ?_
          refine z_goto (tgt := 300) C dX7_readPart_159 (by decide) ?_
          have e1 := Option.some.inj hf
          subst e1
          exact hret _ _ dX7_readPart_300
      · replace hf := if_f c100 hf
        have e1 := Option.some.inj hf
        subst e1
        exact hret _ _ dX7_readPart_68
    replace hf := hg
    clear hg
    refine z_if_ne (tgt := 61) C dX7_readPart_35 (by decide) (fun c105 => ?_) (fun c105 => ?_)
    · replace hf := if_f c105 hf
      cases hf
      exact z_sub [0, 1] rfl hj
    · replace hf := if_t c105 hf
      refine z_aload_n C 0 dX7_readPart_38 rfl rfl ?_
      refine z_getr C (t := 21) (Nat.le_of_ble_eq_true rfl) rfl rfl 24 (Nat.le_of_ble_eq_true rfl) rfl kiX7_readPart_X7 kfX7_readPart_71 dX7_readPart_39 ?_
      refine z_aload_n C 0 dX7_readPart_42 rfl rfl ?_
      refine z_geti C (Nat.le_of_ble_eq_true rfl) rfl rfl 21 (Nat.le_of_ble_eq_true rfl) rfl kiX7_readPart_X7 kfX7_readPart_234 dX7_readPart_43 ?_
      obtain ⟨hi101, hf⟩ := ck_el hf
      refine z_iald C (k := 21) (Nat.le_of_ble_eq_true rfl) rfl hi101 dX7_readPart_46 ?_
      refine z_bipush C (v := 6) dX7_readPart_47 rfl ?_
      refine z_icmp_ne (tgt := 61) C dX7_readPart_49 (by decide) (fun c104 => ?_) (fun c104 => ?_)
      · replace hf := if_f c104 hf
        cases hf
        exact z_sub [0, 1] rfl hj
      · replace hf := if_t c104 hf
        refine z_aload_n C 0 dX7_readPart_52 rfl rfl ?_
        refine z_iconst C (v := 4) dX7_readPart_53 rfl ?_
        refine z_aload_n C 0 dX7_readPart_54 rfl rfl ?_
        refine z_geti C (Nat.le_of_ble_eq_true rfl) rfl rfl 39 (Nat.le_of_ble_eq_true rfl) rfl kiX7_readPart_X7 kfX7_readPart_186 dX7_readPart_55 ?_
        obtain ⟨m103, hc102, hf⟩ := zb_el hf
        refine z_cVv C (c_X7_fails _ _ hc102) rfl gX7_readPart_X7_fails rfl rfl zdX7_fails rfl (Nat.le_of_ble_eq_true rfl) rfl rfl rfl ⟨Nat.le_of_ble_eq_true rfl, Nat.le_of_ble_eq_true rfl⟩ (Nat.le_of_ble_eq_true rfl) dX7_readPart_58 rfl ?_
        cases hf
        exact z_sub [0, 1] rfl hj
  replace hf := hg
  clear hg
  refine z_if_ne (tgt := 31) C dX7_readPart_4 (by decide) (fun c111 => ?_) (fun c111 => ?_)
  · replace hf := if_f c111 hf
    cases hf
    exact z_sub [0, 1] rfl hj
  · replace hf := if_t c111 hf
    refine z_aload_n C 0 dX7_readPart_7 rfl rfl ?_
    refine z_geti C (Nat.le_of_ble_eq_true rfl) rfl rfl 41 (Nat.le_of_ble_eq_true rfl) rfl kiX7_readPart_X7 kfX7_readPart_200 dX7_readPart_8 ?_
    refine z_i2l C dX7_readPart_11 ?_
    refine z_lconst C (v := 0) dX7_readPart_12 rfl ?_
    refine z_ldc2 C (v := 9) dX7_readPart_13 kcX7_readPart_160 ?_
    obtain ⟨r107, hc106, hf⟩ := zb_el hf
    refine z_cSi C (c_X7_in _ _ hc106) rfl gX7_readPart_X7_in rfl rfl zdX7_in.2 rfl ⟨Nat.le_of_ble_eq_true rfl, Nat.le_of_ble_eq_true rfl⟩ (Nat.le_of_ble_eq_true rfl) dX7_readPart_16 rfl ?_
    refine z_if_ne (tgt := 31) C dX7_readPart_19 (by decide) (fun c110 => ?_) (fun c110 => ?_)
    · replace hf := if_f c110 hf
      cases hf
      exact z_sub [0, 1] rfl hj
    · replace hf := if_t c110 hf
      refine z_aload_n C 0 dX7_readPart_22 rfl rfl ?_
      refine z_iconst C (v := 3) dX7_readPart_23 rfl ?_
      refine z_aload_n C 0 dX7_readPart_24 rfl rfl ?_
      refine z_geti C (Nat.le_of_ble_eq_true rfl) rfl rfl 39 (Nat.le_of_ble_eq_true rfl) rfl kiX7_readPart_X7 kfX7_readPart_186 dX7_readPart_25 ?_
      obtain ⟨m109, hc108, hf⟩ := zb_el hf
      refine z_cVv C (c_X7_fails _ _ hc108) rfl gX7_readPart_X7_fails rfl rfl zdX7_fails rfl (Nat.le_of_ble_eq_true rfl) rfl rfl rfl ⟨Nat.le_of_ble_eq_true rfl, Nat.le_of_ble_eq_true rfl⟩ (Nat.le_of_ble_eq_true rfl) dX7_readPart_28 rfl ?_
      cases hf
      exact z_sub [0, 1] rfl hj
set_option maxRecDepth 20000 in
theorem ggX7_taken2_X7_is : GoodIn wsX7_taken2 wsX7_is := goodIn_sub (List.forall_mem_cons.mpr ⟨(List.mem_of_getElem? (i := 7) rfl), (List.forall_mem_append.mpr ⟨(List.forall_mem_cons.mpr ⟨(List.mem_of_getElem? (i := 1) rfl), (List.forall_mem_cons.mpr ⟨(List.mem_of_getElem? (i := 8) rfl), (List.forall_mem_cons.mpr ⟨(List.mem_of_getElem? (i := 9) rfl), (fun _ h => absurd h List.not_mem_nil)⟩)⟩)⟩), (fun _ h => (List.mem_cons_of_mem _ (List.mem_append_right _ h)))⟩)⟩) (by decide +kernel)
set_option maxRecDepth 20000 in
theorem gX7_taken2_X7_is : GoodIn wsX7_taken2 (wsV RX7 228 RX7 yX7_is wsX7_is) := goodIn_app (goodIn_sub (List.forall_mem_cons.mpr ⟨(List.mem_of_getElem? (i := 3) rfl), (List.forall_mem_cons.mpr ⟨(List.mem_of_getElem? (i := 4) rfl), (List.forall_mem_cons.mpr ⟨(List.mem_of_getElem? (i := 5) rfl), (List.forall_mem_cons.mpr ⟨(List.mem_of_getElem? (i := 6) rfl), (fun _ h => absurd h List.not_mem_nil)⟩)⟩)⟩)⟩) (by decide +kernel)) ggX7_taken2_X7_is
set_option maxRecDepth 20000 in
theorem ggX7_taken2_X7_fails : GoodIn wsX7_taken2 wsX7_fails := goodIn_sub (List.forall_mem_cons.mpr ⟨(List.mem_of_getElem? (i := 13) rfl), (List.forall_mem_append.mpr ⟨(List.forall_mem_cons.mpr ⟨(List.mem_of_getElem? (i := 1) rfl), (List.forall_mem_cons.mpr ⟨(List.mem_of_getElem? (i := 14) rfl), (fun _ h => absurd h List.not_mem_nil)⟩)⟩), (fun _ h => (List.mem_cons_of_mem _ (List.mem_append_right _ h)))⟩)⟩) (by decide +kernel)
set_option maxRecDepth 20000 in
theorem gX7_taken2_X7_fails : GoodIn wsX7_taken2 (wsV RX7 207 RX7 yX7_fails wsX7_fails) := goodIn_app (goodIn_sub (List.forall_mem_cons.mpr ⟨(List.mem_of_getElem? (i := 10) rfl), (List.forall_mem_cons.mpr ⟨(List.mem_of_getElem? (i := 11) rfl), (List.forall_mem_cons.mpr ⟨(List.mem_of_getElem? (i := 12) rfl), (List.forall_mem_cons.mpr ⟨(List.mem_of_getElem? (i := 6) rfl), (fun _ h => absurd h List.not_mem_nil)⟩)⟩)⟩)⟩) (by decide +kernel)) ggX7_taken2_X7_fails
set_option maxRecDepth 20000 in
theorem ggX7_taken2_X7_next : GoodIn wsX7_taken2 wsX7_next := goodIn_sub (List.forall_mem_cons.mpr ⟨(List.mem_of_getElem? (i := 18) rfl), (List.forall_mem_append.mpr ⟨(List.forall_mem_append.mpr ⟨(show ∀ w ∈ wsX7_next_r1, w ∈ wsX7_taken2 from (List.forall_mem_cons.mpr ⟨(List.mem_of_getElem? (i := 19) rfl), (List.forall_mem_cons.mpr ⟨(List.mem_of_getElem? (i := 2) rfl), (List.forall_mem_cons.mpr ⟨(List.mem_of_getElem? (i := 8) rfl), (List.forall_mem_cons.mpr ⟨(List.mem_of_getElem? (i := 20) rfl), (List.forall_mem_cons.mpr ⟨(List.mem_of_getElem? (i := 21) rfl), (List.forall_mem_cons.mpr ⟨(List.mem_of_getElem? (i := 9) rfl), (List.forall_mem_cons.mpr ⟨(List.mem_of_getElem? (i := 22) rfl), (List.forall_mem_cons.mpr ⟨(List.mem_of_getElem? (i := 23) rfl), (List.forall_mem_cons.mpr ⟨(List.mem_of_getElem? (i := 24) rfl), (List.forall_mem_cons.mpr ⟨(List.mem_of_getElem? (i := 25) rfl), (List.forall_mem_cons.mpr ⟨(List.mem_of_getElem? (i := 26) rfl), (List.forall_mem_cons.mpr ⟨(List.mem_of_getElem? (i := 27) rfl), (List.forall_mem_cons.mpr ⟨(List.mem_of_getElem? (i := 28) rfl), (List.forall_mem_cons.mpr ⟨(List.mem_of_getElem? (i := 6) rfl), (List.forall_mem_cons.mpr ⟨(List.mem_of_getElem? (i := 29) rfl), (List.forall_mem_cons.mpr ⟨(List.mem_of_getElem? (i := 30) rfl), (List.forall_mem_cons.mpr ⟨(List.mem_of_getElem? (i := 31) rfl), (List.forall_mem_cons.mpr ⟨(List.mem_of_getElem? (i := 32) rfl), (List.forall_mem_cons.mpr ⟨(List.mem_of_getElem? (i := 33) rfl), (List.forall_mem_cons.mpr ⟨(List.mem_of_getElem? (i := 34) rfl), (List.forall_mem_cons.mpr ⟨(List.mem_of_getElem? (i := 10) rfl), (List.forall_mem_cons.mpr ⟨(List.mem_of_getElem? (i := 11) rfl), (List.forall_mem_cons.mpr ⟨(List.mem_of_getElem? (i := 12) rfl), (List.forall_mem_cons.mpr ⟨(List.mem_of_getElem? (i := 13) rfl), (fun _ h => absurd h List.not_mem_nil)⟩)⟩)⟩)⟩)⟩)⟩)⟩)⟩)⟩)⟩)⟩)⟩)⟩)⟩)⟩)⟩)⟩)⟩)⟩)⟩)⟩)⟩)⟩)⟩)), (show ∀ w ∈ wsX7_next_r2, w ∈ wsX7_taken2 from (List.forall_mem_cons.mpr ⟨(List.mem_of_getElem? (i := 1) rfl), (List.forall_mem_cons.mpr ⟨(List.mem_of_getElem? (i := 14) rfl), (List.forall_mem_cons.mpr ⟨(List.mem_of_getElem? (i := 35) rfl), (List.forall_mem_cons.mpr ⟨(List.mem_of_getElem? (i := 36) rfl), (List.forall_mem_cons.mpr ⟨(List.mem_of_getElem? (i := 37) rfl), (List.forall_mem_cons.mpr ⟨(List.mem_of_getElem? (i := 38) rfl), (List.forall_mem_cons.mpr ⟨(List.mem_of_getElem? (i := 39) rfl), (List.forall_mem_cons.mpr ⟨(List.mem_of_getElem? (i := 40) rfl), (List.forall_mem_cons.mpr ⟨(List.mem_of_getElem? (i := 41) rfl), (fun _ h => absurd h List.not_mem_nil)⟩)⟩)⟩)⟩)⟩)⟩)⟩)⟩)⟩))⟩), (fun _ h => (List.mem_cons_of_mem _ (List.mem_append_right _ h)))⟩)⟩) (by decide +kernel)
set_option maxRecDepth 20000 in
theorem gX7_taken2_X7_next : GoodIn wsX7_taken2 (wsV RX7 225 RX7 yX7_next wsX7_next) := goodIn_app (goodIn_sub (List.forall_mem_cons.mpr ⟨(List.mem_of_getElem? (i := 15) rfl), (List.forall_mem_cons.mpr ⟨(List.mem_of_getElem? (i := 16) rfl), (List.forall_mem_cons.mpr ⟨(List.mem_of_getElem? (i := 17) rfl), (List.forall_mem_cons.mpr ⟨(List.mem_of_getElem? (i := 6) rfl), (fun _ h => absurd h List.not_mem_nil)⟩)⟩)⟩)⟩) (by decide +kernel)) ggX7_taken2_X7_next
theorem dX7_taken2_0 : decode cX7_taken2 0 = .ok (.aload_n 0, 1) := by decide +kernel
theorem dX7_taken2_1 : decode cX7_taken2 1 = .ok (.getfield 177, 3) := by decide +kernel
theorem dX7_taken2_4 : decode cX7_taken2 4 = .ok (.ifCond .ne 20, 3) := by decide +kernel
theorem dX7_taken2_7 : decode cX7_taken2 7 = .ok (.aload_n 0, 1) := by decide +kernel
theorem dX7_taken2_8 : decode cX7_taken2 8 = .ok (.iload_n 1, 1) := by decide +kernel
theorem dX7_taken2_9 : decode cX7_taken2 9 = .ok (.invokevirtual 228, 3) := by decide +kernel
theorem dX7_taken2_12 : decode cX7_taken2 12 = .ok (.ifCond .ne 12, 3) := by decide +kernel
theorem dX7_taken2_15 : decode cX7_taken2 15 = .ok (.aload_n 0, 1) := by decide +kernel
theorem dX7_taken2_16 : decode cX7_taken2 16 = .ok (.iconst 2, 1) := by decide +kernel
theorem dX7_taken2_17 : decode cX7_taken2 17 = .ok (.aload_n 0, 1) := by decide +kernel
theorem dX7_taken2_18 : decode cX7_taken2 18 = .ok (.getfield 186, 3) := by decide +kernel
theorem dX7_taken2_21 : decode cX7_taken2 21 = .ok (.invokevirtual 207, 3) := by decide +kernel
theorem dX7_taken2_24 : decode cX7_taken2 24 = .ok (.aload_n 0, 1) := by decide +kernel
theorem dX7_taken2_25 : decode cX7_taken2 25 = .ok (.getfield 177, 3) := by decide +kernel
theorem dX7_taken2_28 : decode cX7_taken2 28 = .ok (.ifCond .ne 7, 3) := by decide +kernel
theorem dX7_taken2_31 : decode cX7_taken2 31 = .ok (.aload_n 0, 1) := by decide +kernel
theorem dX7_taken2_32 : decode cX7_taken2 32 = .ok (.invokevirtual 225, 3) := by decide +kernel
theorem dX7_taken2_35 : decode cX7_taken2 35 = .ok (.return_, 1) := by decide +kernel
def rmX7_taken2 : Room := { frames := 3, cells := 0, slots := 0, locals := 63 }
theorem zdX7_taken2 : yX7_taken2.cls = RX7 ∧ yX7_taken2.cls ≠ "java/lang/invoke/MethodHandle" ∧ yX7_taken2.cls ≠ "java/lang/invoke/VarHandle" ∧ (parseMethodDescriptor yX7_taken2.desc).map (fun d => d.parameters.length) = some 1 := by decide +kernel
theorem kiX7_taken2_X7 : ∀ w ∈ wsX70, w ∈ wsX7_taken2 := fun _ h => (List.mem_cons_of_mem _ (List.mem_append_right _ h))
theorem kfX7_taken2_177 : Cond.fieldLink RX7 177 "ShapeJudgeModel" "fault" "I" ∈ wsX7_taken2 := (List.mem_of_getElem? (i := 1) rfl)
theorem kfX7_taken2_186 : Cond.fieldLink RX7 186 "ShapeJudgeModel" "from" "I" ∈ wsX7_taken2 := (List.mem_of_getElem? (i := 2) rfl)
def s_X7_taken2 (m : Mem) (a1 : Int32) : Option (Mem) :=
  (((if (m 0 42) = 0 then ((s_X7_is m a1).bind fun r6 => (if r6 = 0 then ((s_X7_fails m 2 (m 0 39)).bind fun m8 => some m8) else (some m))) else (some m)) : Option (Mem)).bind fun m1 => (if (m1 0 42) = 0 then ((s_X7_next m1).bind fun m3 => some m3) else (some m1)))
set_option maxRecDepth 100000 in
set_option maxHeartbeats 4000000 in
theorem c_X7_taken2 (l : Launch) (w : ZW) {m : Mem} {a1 : Int32} {m9 : Mem}  (hf : s_X7_taken2 m a1 = some m9) : zCv MM l w yX7_taken2 wsX7_taken2 rmX7_taken2 [.ref (w.2.1 0), .int a1] m m9 := by
  refine z_met_v MM_ok (own := RX7) (by decide +kernel) rfl rfl (Nat.le_of_ble_eq_true rfl) ?_
  intro K C hKw hKl hret
  subst hKw
  subst hKl
  unfold s_X7_taken2 at hf
  show zGo MM K m [(0, .ref ((zw K).2.1 0)), (1, .int a1)] 0 []
  refine z_aload_n C 0 dX7_taken2_0 rfl rfl ?_
  refine z_geti C (Nat.le_of_ble_eq_true rfl) rfl rfl 42 (Nat.le_of_ble_eq_true rfl) rfl kiX7_taken2_X7 kfX7_taken2_177 dX7_taken2_1 ?_
  obtain ⟨m1, hg, hf⟩ := zb_el hf
  have hj : zGo MM K m1 [(0, .ref ((zw K).2.1 0))] 24 [] := by
    refine z_aload_n C 0 dX7_taken2_24 rfl rfl ?_
    refine z_geti C (Nat.le_of_ble_eq_true rfl) rfl rfl 42 (Nat.le_of_ble_eq_true rfl) rfl kiX7_taken2_X7 kfX7_taken2_177 dX7_taken2_25 ?_
    refine z_if_ne (tgt := 35) C dX7_taken2_28 (by decide) (fun c4 => ?_) (fun c4 => ?_)
    · replace hf := if_f c4 hf
      have e1 := Option.some.inj hf
      subst e1
      exact hret _ _ dX7_taken2_35
    · replace hf := if_t c4 hf
      refine z_aload_n C 0 dX7_taken2_31 rfl rfl ?_
      obtain ⟨m3, hc2, hf⟩ := zb_el hf
      refine z_cVv C (c_X7_next _ _ hc2) rfl gX7_taken2_X7_next rfl rfl zdX7_next rfl (Nat.le_of_ble_eq_true rfl) rfl rfl rfl ⟨Nat.le_of_ble_eq_true rfl, Nat.le_of_ble_eq_true rfl⟩ (Nat.le_of_ble_eq_true rfl) dX7_taken2_32 rfl ?_
      have e1 := Option.some.inj hf
      subst e1
      exact hret _ _ dX7_taken2_35
  replace hf := hg
  clear hg
  refine z_if_ne (tgt := 24) C dX7_taken2_4 (by decide) (fun c10 => ?_) (fun c10 => ?_)
  · replace hf := if_f c10 hf
    cases hf
    exact z_sub [0] rfl hj
  · replace hf := if_t c10 hf
    refine z_aload_n C 0 dX7_taken2_7 rfl rfl ?_
    refine z_iload_n C 1 dX7_taken2_8 rfl rfl ?_
    obtain ⟨r6, hc5, hf⟩ := zb_el hf
    refine z_cVi C (c_X7_is _ _ hc5) rfl gX7_taken2_X7_is rfl rfl zdX7_is rfl (Nat.le_of_ble_eq_true rfl) rfl rfl rfl ⟨Nat.le_of_ble_eq_true rfl, Nat.le_of_ble_eq_true rfl⟩ (Nat.le_of_ble_eq_true rfl) dX7_taken2_9 rfl ?_
    refine z_if_ne (tgt := 24) C dX7_taken2_12 (by decide) (fun c9 => ?_) (fun c9 => ?_)
    · replace hf := if_f c9 hf
      cases hf
      exact z_sub [0] rfl hj
    · replace hf := if_t c9 hf
      refine z_aload_n C 0 dX7_taken2_15 rfl rfl ?_
      refine z_iconst C (v := 2) dX7_taken2_16 rfl ?_
      refine z_aload_n C 0 dX7_taken2_17 rfl rfl ?_
      refine z_geti C (Nat.le_of_ble_eq_true rfl) rfl rfl 39 (Nat.le_of_ble_eq_true rfl) rfl kiX7_taken2_X7 kfX7_taken2_186 dX7_taken2_18 ?_
      obtain ⟨m8, hc7, hf⟩ := zb_el hf
      refine z_cVv C (c_X7_fails _ _ hc7) rfl gX7_taken2_X7_fails rfl rfl zdX7_fails rfl (Nat.le_of_ble_eq_true rfl) rfl rfl rfl ⟨Nat.le_of_ble_eq_true rfl, Nat.le_of_ble_eq_true rfl⟩ (Nat.le_of_ble_eq_true rfl) dX7_taken2_21 rfl ?_
      cases hf
      exact z_sub [0] rfl hj
