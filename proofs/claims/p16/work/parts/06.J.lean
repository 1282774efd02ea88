set_option maxRecDepth 100000 in
theorem daJ6_bitCount_0f7a4 : ∀ q ∈ ([(0, .iload_n 0, 1), (1, .iload_n 0, 1), (2, .iconst 1, 1), (3, .iushr, 1), (4, .ldc_w 265, 3), (7, .iand, 1), (8, .isub, 1), (9, .istore_n 0, 1), (10, .iload_n 0, 1), (11, .ldc_w 266, 3), (14, .iand, 1), (15, .iload_n 0, 1), (16, .iconst 2, 1), (17, .iushr, 1), (18, .ldc_w 266, 3), (21, .iand, 1), (22, .iadd, 1), (23, .istore_n 0, 1), (24, .iload_n 0, 1), (25, .iload_n 0, 1), (26, .iconst 4, 1), (27, .iushr, 1), (28, .iadd, 1), (29, .ldc_w 267, 3), (32, .iand, 1), (33, .istore_n 0, 1), (34, .iload_n 0, 1), (35, .iload_n 0, 1), (36, .bipush 8, 2), (38, .iushr, 1), (39, .iadd, 1), (40, .istore_n 0, 1), (41, .iload_n 0, 1), (42, .iload_n 0, 1), (43, .bipush 16, 2), (45, .iushr, 1), (46, .iadd, 1), (47, .istore_n 0, 1), (48, .iload_n 0, 1), (49, .bipush 63, 2), (51, .iand, 1), (52, .ireturn, 1)] : List (Nat × Instr × Nat)), decode cJ6_bitCount_0f7a4 q.1 = .ok q.2 := by decide +kernel
theorem dJ6_bitCount_0f7a4_0 : decode cJ6_bitCount_0f7a4 0 = .ok (.iload_n 0, 1) := daJ6_bitCount_0f7a4 (0, .iload_n 0, 1) (List.mem_of_getElem? (i := 0) rfl)
theorem dJ6_bitCount_0f7a4_1 : decode cJ6_bitCount_0f7a4 1 = .ok (.iload_n 0, 1) := daJ6_bitCount_0f7a4 (1, .iload_n 0, 1) (List.mem_of_getElem? (i := 1) rfl)
theorem dJ6_bitCount_0f7a4_2 : decode cJ6_bitCount_0f7a4 2 = .ok (.iconst 1, 1) := daJ6_bitCount_0f7a4 (2, .iconst 1, 1) (List.mem_of_getElem? (i := 2) rfl)
theorem dJ6_bitCount_0f7a4_3 : decode cJ6_bitCount_0f7a4 3 = .ok (.iushr, 1) := daJ6_bitCount_0f7a4 (3, .iushr, 1) (List.mem_of_getElem? (i := 3) rfl)
theorem dJ6_bitCount_0f7a4_4 : decode cJ6_bitCount_0f7a4 4 = .ok (.ldc_w 265, 3) := daJ6_bitCount_0f7a4 (4, .ldc_w 265, 3) (List.mem_of_getElem? (i := 4) rfl)
theorem dJ6_bitCount_0f7a4_7 : decode cJ6_bitCount_0f7a4 7 = .ok (.iand, 1) := daJ6_bitCount_0f7a4 (7, .iand, 1) (List.mem_of_getElem? (i := 5) rfl)
theorem dJ6_bitCount_0f7a4_8 : decode cJ6_bitCount_0f7a4 8 = .ok (.isub, 1) := daJ6_bitCount_0f7a4 (8, .isub, 1) (List.mem_of_getElem? (i := 6) rfl)
theorem dJ6_bitCount_0f7a4_9 : decode cJ6_bitCount_0f7a4 9 = .ok (.istore_n 0, 1) := daJ6_bitCount_0f7a4 (9, .istore_n 0, 1) (List.mem_of_getElem? (i := 7) rfl)
theorem dJ6_bitCount_0f7a4_10 : decode cJ6_bitCount_0f7a4 10 = .ok (.iload_n 0, 1) := daJ6_bitCount_0f7a4 (10, .iload_n 0, 1) (List.mem_of_getElem? (i := 8) rfl)
theorem dJ6_bitCount_0f7a4_11 : decode cJ6_bitCount_0f7a4 11 = .ok (.ldc_w 266, 3) := daJ6_bitCount_0f7a4 (11, .ldc_w 266, 3) (List.mem_of_getElem? (i := 9) rfl)
theorem dJ6_bitCount_0f7a4_14 : decode cJ6_bitCount_0f7a4 14 = .ok (.iand, 1) := daJ6_bitCount_0f7a4 (14, .iand, 1) (List.mem_of_getElem? (i := 10) rfl)
theorem dJ6_bitCount_0f7a4_15 : decode cJ6_bitCount_0f7a4 15 = .ok (.iload_n 0, 1) := daJ6_bitCount_0f7a4 (15, .iload_n 0, 1) (List.mem_of_getElem? (i := 11) rfl)
theorem dJ6_bitCount_0f7a4_16 : decode cJ6_bitCount_0f7a4 16 = .ok (.iconst 2, 1) := daJ6_bitCount_0f7a4 (16, .iconst 2, 1) (List.mem_of_getElem? (i := 12) rfl)
theorem dJ6_bitCount_0f7a4_17 : decode cJ6_bitCount_0f7a4 17 = .ok (.iushr, 1) := daJ6_bitCount_0f7a4 (17, .iushr, 1) (List.mem_of_getElem? (i := 13) rfl)
theorem dJ6_bitCount_0f7a4_18 : decode cJ6_bitCount_0f7a4 18 = .ok (.ldc_w 266, 3) := daJ6_bitCount_0f7a4 (18, .ldc_w 266, 3) (List.mem_of_getElem? (i := 14) rfl)
theorem dJ6_bitCount_0f7a4_21 : decode cJ6_bitCount_0f7a4 21 = .ok (.iand, 1) := daJ6_bitCount_0f7a4 (21, .iand, 1) (List.mem_of_getElem? (i := 15) rfl)
theorem dJ6_bitCount_0f7a4_22 : decode cJ6_bitCount_0f7a4 22 = .ok (.iadd, 1) := daJ6_bitCount_0f7a4 (22, .iadd, 1) (List.mem_of_getElem? (i := 16) rfl)
theorem dJ6_bitCount_0f7a4_23 : decode cJ6_bitCount_0f7a4 23 = .ok (.istore_n 0, 1) := daJ6_bitCount_0f7a4 (23, .istore_n 0, 1) (List.mem_of_getElem? (i := 17) rfl)
theorem dJ6_bitCount_0f7a4_24 : decode cJ6_bitCount_0f7a4 24 = .ok (.iload_n 0, 1) := daJ6_bitCount_0f7a4 (24, .iload_n 0, 1) (List.mem_of_getElem? (i := 18) rfl)
theorem dJ6_bitCount_0f7a4_25 : decode cJ6_bitCount_0f7a4 25 = .ok (.iload_n 0, 1) := daJ6_bitCount_0f7a4 (25, .iload_n 0, 1) (List.mem_of_getElem? (i := 19) rfl)
theorem dJ6_bitCount_0f7a4_26 : decode cJ6_bitCount_0f7a4 26 = .ok (.iconst 4, 1) := daJ6_bitCount_0f7a4 (26, .iconst 4, 1) (List.mem_of_getElem? (i := 20) rfl)
theorem dJ6_bitCount_0f7a4_27 : decode cJ6_bitCount_0f7a4 27 = .ok (.iushr, 1) := daJ6_bitCount_0f7a4 (27, .iushr, 1) (List.mem_of_getElem? (i := 21) rfl)
theorem dJ6_bitCount_0f7a4_28 : decode cJ6_bitCount_0f7a4 28 = .ok (.iadd, 1) := daJ6_bitCount_0f7a4 (28, .iadd, 1) (List.mem_of_getElem? (i := 22) rfl)
theorem dJ6_bitCount_0f7a4_29 : decode cJ6_bitCount_0f7a4 29 = .ok (.ldc_w 267, 3) := daJ6_bitCount_0f7a4 (29, .ldc_w 267, 3) (List.mem_of_getElem? (i := 23) rfl)
theorem dJ6_bitCount_0f7a4_32 : decode cJ6_bitCount_0f7a4 32 = .ok (.iand, 1) := daJ6_bitCount_0f7a4 (32, .iand, 1) (List.mem_of_getElem? (i := 24) rfl)
theorem dJ6_bitCount_0f7a4_33 : decode cJ6_bitCount_0f7a4 33 = .ok (.istore_n 0, 1) := daJ6_bitCount_0f7a4 (33, .istore_n 0, 1) (List.mem_of_getElem? (i := 25) rfl)
theorem dJ6_bitCount_0f7a4_34 : decode cJ6_bitCount_0f7a4 34 = .ok (.iload_n 0, 1) := daJ6_bitCount_0f7a4 (34, .iload_n 0, 1) (List.mem_of_getElem? (i := 26) rfl)
theorem dJ6_bitCount_0f7a4_35 : decode cJ6_bitCount_0f7a4 35 = .ok (.iload_n 0, 1) := daJ6_bitCount_0f7a4 (35, .iload_n 0, 1) (List.mem_of_getElem? (i := 27) rfl)
theorem dJ6_bitCount_0f7a4_36 : decode cJ6_bitCount_0f7a4 36 = .ok (.bipush 8, 2) := daJ6_bitCount_0f7a4 (36, .bipush 8, 2) (List.mem_of_getElem? (i := 28) rfl)
theorem dJ6_bitCount_0f7a4_38 : decode cJ6_bitCount_0f7a4 38 = .ok (.iushr, 1) := daJ6_bitCount_0f7a4 (38, .iushr, 1) (List.mem_of_getElem? (i := 29) rfl)
theorem dJ6_bitCount_0f7a4_39 : decode cJ6_bitCount_0f7a4 39 = .ok (.iadd, 1) := daJ6_bitCount_0f7a4 (39, .iadd, 1) (List.mem_of_getElem? (i := 30) rfl)
theorem dJ6_bitCount_0f7a4_40 : decode cJ6_bitCount_0f7a4 40 = .ok (.istore_n 0, 1) := daJ6_bitCount_0f7a4 (40, .istore_n 0, 1) (List.mem_of_getElem? (i := 31) rfl)
theorem dJ6_bitCount_0f7a4_41 : decode cJ6_bitCount_0f7a4 41 = .ok (.iload_n 0, 1) := daJ6_bitCount_0f7a4 (41, .iload_n 0, 1) (List.mem_of_getElem? (i := 32) rfl)
theorem dJ6_bitCount_0f7a4_42 : decode cJ6_bitCount_0f7a4 42 = .ok (.iload_n 0, 1) := daJ6_bitCount_0f7a4 (42, .iload_n 0, 1) (List.mem_of_getElem? (i := 33) rfl)
theorem dJ6_bitCount_0f7a4_43 : decode cJ6_bitCount_0f7a4 43 = .ok (.bipush 16, 2) := daJ6_bitCount_0f7a4 (43, .bipush 16, 2) (List.mem_of_getElem? (i := 34) rfl)
theorem dJ6_bitCount_0f7a4_45 : decode cJ6_bitCount_0f7a4 45 = .ok (.iushr, 1) := daJ6_bitCount_0f7a4 (45, .iushr, 1) (List.mem_of_getElem? (i := 35) rfl)
theorem dJ6_bitCount_0f7a4_46 : decode cJ6_bitCount_0f7a4 46 = .ok (.iadd, 1) := daJ6_bitCount_0f7a4 (46, .iadd, 1) (List.mem_of_getElem? (i := 36) rfl)
theorem dJ6_bitCount_0f7a4_47 : decode cJ6_bitCount_0f7a4 47 = .ok (.istore_n 0, 1) := daJ6_bitCount_0f7a4 (47, .istore_n 0, 1) (List.mem_of_getElem? (i := 37) rfl)
theorem dJ6_bitCount_0f7a4_48 : decode cJ6_bitCount_0f7a4 48 = .ok (.iload_n 0, 1) := daJ6_bitCount_0f7a4 (48, .iload_n 0, 1) (List.mem_of_getElem? (i := 38) rfl)
theorem dJ6_bitCount_0f7a4_49 : decode cJ6_bitCount_0f7a4 49 = .ok (.bipush 63, 2) := daJ6_bitCount_0f7a4 (49, .bipush 63, 2) (List.mem_of_getElem? (i := 39) rfl)
theorem dJ6_bitCount_0f7a4_51 : decode cJ6_bitCount_0f7a4 51 = .ok (.iand, 1) := daJ6_bitCount_0f7a4 (51, .iand, 1) (List.mem_of_getElem? (i := 40) rfl)
theorem dJ6_bitCount_0f7a4_52 : decode cJ6_bitCount_0f7a4 52 = .ok (.ireturn, 1) := daJ6_bitCount_0f7a4 (52, .ireturn, 1) (List.mem_of_getElem? (i := 41) rfl)
def rmJ6_bitCount_0f7a4 : Room := { frames := 0, cells := 0, slots := 0, locals := 0 }
theorem zdJ6_bitCount_0f7a4 : yJ6_bitCount_0f7a4.cls = RJ6 ∧ yJ6_bitCount_0f7a4.cls ≠ "java/lang/invoke/MethodHandle" ∧ yJ6_bitCount_0f7a4.cls ≠ "java/lang/invoke/VarHandle" ∧ (parseMethodDescriptor yJ6_bitCount_0f7a4.desc).map (fun d => d.parameters.length) = some 1 := by decide +kernel
theorem kcJ6_bitCount_0f7a4_265 : Cond.constant RJ6 265 (1431655765) ∈ wsJ6_bitCount_0f7a4 := (List.mem_of_getElem? (i := 1) rfl)
theorem kcJ6_bitCount_0f7a4_266 : Cond.constant RJ6 266 (858993459) ∈ wsJ6_bitCount_0f7a4 := (List.mem_of_getElem? (i := 2) rfl)
theorem kcJ6_bitCount_0f7a4_267 : Cond.constant RJ6 267 (252645135) ∈ wsJ6_bitCount_0f7a4 := (List.mem_of_getElem? (i := 3) rfl)
def s_J6_bitCount_0f7a4 (a1 : Int32) : Option (Int32) :=
  bn (a1 - ((zus a1 1) &&& 1431655765)) fun x1 => bn ((x1 &&& 858993459) + ((zus x1 2) &&& 858993459)) fun x2 => bn ((x2 + (zus x2 4)) &&& 252645135) fun x3 => bn (x3 + (zus x3 8)) fun x4 => bn (x4 + (zus x4 16)) fun x5 => some (x5 &&& 63)
set_option maxRecDepth 100000 in
set_option maxHeartbeats 4000000 in
theorem c_J6_bitCount_0f7a4 (l : Launch) (w : ZW) {m : Mem} {a1 : Int32} {r9 : Int32}  (hf : s_J6_bitCount_0f7a4 a1 = some r9) : zCi MX l w yJ6_bitCount_0f7a4 wsJ6_bitCount_0f7a4 rmJ6_bitCount_0f7a4 [.int a1] m m r9 := by
  refine z_met_i MX_ok (own := RJ6) (by decide +kernel) rfl rfl (Nat.le_of_ble_eq_true rfl) ?_
  intro K C hKw hKl hret
  subst hKw
  subst hKl
  unfold s_J6_bitCount_0f7a4 at hf
  show zGo MX K m [(0, .int a1)] 0 []
  refine z_iload_n C 0 dJ6_bitCount_0f7a4_0 rfl rfl ?_
  refine z_iload_n C 0 dJ6_bitCount_0f7a4_1 rfl rfl ?_
  refine z_iconst C (v := 1) dJ6_bitCount_0f7a4_2 rfl ?_
  refine z_iushr C dJ6_bitCount_0f7a4_3 ?_
  refine z_ldcw C (v := 1431655765) dJ6_bitCount_0f7a4_4 kcJ6_bitCount_0f7a4_265 ?_
  refine z_iand C dJ6_bitCount_0f7a4_7 ?_
  refine z_isub C dJ6_bitCount_0f7a4_8 ?_
  refine z_topi (fun x1 e_x1 => ?_)
  replace hf := bn_to e_x1 hf
  refine z_istore_n C (lv2 := [(0, .int x1)]) [0] dJ6_bitCount_0f7a4_9 rfl (Nat.le_of_ble_eq_true rfl) rfl ?_
  refine z_iload_n C 0 dJ6_bitCount_0f7a4_10 rfl rfl ?_
  refine z_ldcw C (v := 858993459) dJ6_bitCount_0f7a4_11 kcJ6_bitCount_0f7a4_266 ?_
  refine z_iand C dJ6_bitCount_0f7a4_14 ?_
  refine z_iload_n C 0 dJ6_bitCount_0f7a4_15 rfl rfl ?_
  refine z_iconst C (v := 2) dJ6_bitCount_0f7a4_16 rfl ?_
  refine z_iushr C dJ6_bitCount_0f7a4_17 ?_
  refine z_ldcw C (v := 858993459) dJ6_bitCount_0f7a4_18 kcJ6_bitCount_0f7a4_266 ?_
  refine z_iand C dJ6_bitCount_0f7a4_21 ?_
  refine z_iadd C dJ6_bitCount_0f7a4_22 ?_
  refine z_topi (fun x2 e_x2 => ?_)
  replace hf := bn_to e_x2 hf
  refine z_istore_n C (lv2 := [(0, .int x2)]) [0] dJ6_bitCount_0f7a4_23 rfl (Nat.le_of_ble_eq_true rfl) rfl ?_
  refine z_iload_n C 0 dJ6_bitCount_0f7a4_24 rfl rfl ?_
  refine z_iload_n C 0 dJ6_bitCount_0f7a4_25 rfl rfl ?_
  refine z_iconst C (v := 4) dJ6_bitCount_0f7a4_26 rfl ?_
  refine z_iushr C dJ6_bitCount_0f7a4_27 ?_
  refine z_iadd C dJ6_bitCount_0f7a4_28 ?_
  refine z_ldcw C (v := 252645135) dJ6_bitCount_0f7a4_29 kcJ6_bitCount_0f7a4_267 ?_
  refine z_iand C dJ6_bitCount_0f7a4_32 ?_
  refine z_topi (fun x3 e_x3 => ?_)
  replace hf := bn_to e_x3 hf
  refine z_istore_n C (lv2 := [(0, .int x3)]) [0] dJ6_bitCount_0f7a4_33 rfl (Nat.le_of_ble_eq_true rfl) rfl ?_
  refine z_iload_n C 0 dJ6_bitCount_0f7a4_34 rfl rfl ?_
  refine z_iload_n C 0 dJ6_bitCount_0f7a4_35 rfl rfl ?_
  refine z_bipush C (v := 8) dJ6_bitCount_0f7a4_36 rfl ?_
  refine z_iushr C dJ6_bitCount_0f7a4_38 ?_
  refine z_iadd C dJ6_bitCount_0f7a4_39 ?_
  refine z_topi (fun x4 e_x4 => ?_)
  replace hf := bn_to e_x4 hf
  refine z_istore_n C (lv2 := [(0, .int x4)]) [0] dJ6_bitCount_0f7a4_40 rfl (Nat.le_of_ble_eq_true rfl) rfl ?_
  refine z_iload_n C 0 dJ6_bitCount_0f7a4_41 rfl rfl ?_
  refine z_iload_n C 0 dJ6_bitCount_0f7a4_42 rfl rfl ?_
  refine z_bipush C (v := 16) dJ6_bitCount_0f7a4_43 rfl ?_
  refine z_iushr C dJ6_bitCount_0f7a4_45 ?_
  refine z_iadd C dJ6_bitCount_0f7a4_46 ?_
  refine z_topi (fun x5 e_x5 => ?_)
  replace hf := bn_to e_x5 hf
  refine z_istore_n C (lv2 := [(0, .int x5)]) [0] dJ6_bitCount_0f7a4_47 rfl (Nat.le_of_ble_eq_true rfl) rfl ?_
  refine z_iload_n C 0 dJ6_bitCount_0f7a4_48 rfl rfl ?_
  refine z_bipush C (v := 63) dJ6_bitCount_0f7a4_49 rfl ?_
  refine z_iand C dJ6_bitCount_0f7a4_51 ?_
  cases hf
  exact hret _ _ dJ6_bitCount_0f7a4_52
theorem dJ0_coder_7d493_0 : decode cJ0_coder_7d493 0 = .ok (.getstatic 38, 3) := by decide +kernel
theorem dJ0_coder_7d493_3 : decode cJ0_coder_7d493 3 = .ok (.ifCond .eq 10, 3) := by decide +kernel
theorem dJ0_coder_7d493_6 : decode cJ0_coder_7d493 6 = .ok (.aload_n 0, 1) := by decide +kernel
theorem dJ0_coder_7d493_7 : decode cJ0_coder_7d493 7 = .ok (.getfield 15, 3) := by decide +kernel
theorem dJ0_coder_7d493_10 : decode cJ0_coder_7d493 10 = .ok (.goto 4, 3) := by decide +kernel
theorem dJ0_coder_7d493_13 : decode cJ0_coder_7d493 13 = .ok (.iconst 1, 1) := by decide +kernel
theorem dJ0_coder_7d493_14 : decode cJ0_coder_7d493 14 = .ok (.ireturn, 1) := by decide +kernel
def rmJ0_coder_7d493 : Room := { frames := 0, cells := 0, slots := 0, locals := 0 }
theorem zdJ0_coder_7d493 : yJ0_coder_7d493.cls = RJ0 ∧ yJ0_coder_7d493.cls ≠ "java/lang/invoke/MethodHandle" ∧ yJ0_coder_7d493.cls ≠ "java/lang/invoke/VarHandle" ∧ (parseMethodDescriptor yJ0_coder_7d493.desc).map (fun d => d.parameters.length) = some 0 := by decide +kernel
theorem kfJ0_coder_7d493_38 : Cond.fieldLink RJ0 38 "java/lang/String" "COMPACT_STRINGS" "Z" ∈ wsJ0_coder_7d493 := (List.mem_of_getElem? (i := 1) rfl)
theorem kfJ0_coder_7d493_15 : Cond.fieldLink RJ0 15 "java/lang/String" "coder" "B" ∈ wsJ0_coder_7d493 := (List.mem_of_getElem? (i := 2) rfl)
def s_J0_coder_7d493  : Option (Int32) :=
  (if (1 : Int32) = 0 then (some 1) else (some 0))
set_option maxRecDepth 100000 in
set_option maxHeartbeats 4000000 in
theorem c_J0_coder_7d493 (l : Launch) (w : ZW) {m : Mem}  {r9 : Int32}  (hf : s_J0_coder_7d493  = some r9) : zCi MX l w yJ0_coder_7d493 wsJ0_coder_7d493 rmJ0_coder_7d493 [.ref (w.2.1 101)] m m r9 := by
  refine z_met_t MX_ok (own := RJ0) (by decide +kernel) rfl rfl (Nat.le_of_ble_eq_true rfl) ?_
  intro K C hKw hKl hret
  subst hKw
  subst hKl
  unfold s_J0_coder_7d493 at hf
  show zGo MX K m [(0, .ref ((zw K).2.1 101))] 0 []
  refine z_gcom C kfJ0_coder_7d493_38 dJ0_coder_7d493_0 ?_
  refine z_if_eq (tgt := 13) C dJ0_coder_7d493_3 (by decide) (fun c1 => ?_) (fun c1 => ?_)
  · replace hf := if_t c1 hf
    refine z_iconst C (v := 1) dJ0_coder_7d493_13 rfl ?_
    cases hf
    exact hret _ _ dJ0_coder_7d493_14 rfl
  · replace hf := if_f c1 hf
    refine z_aload_n C 0 dJ0_coder_7d493_6 rfl rfl ?_
    refine z_strc C kfJ0_coder_7d493_15 dJ0_coder_7d493_7 ?_
    refine z_goto (tgt := 14) C dJ0_coder_7d493_10 (by decide) ?_
    cases hf
    exact hret _ _ dJ0_coder_7d493_14 rfl
set_option maxRecDepth 20000 in
theorem ggJ0_length_8abf5_J0_coder_7d493 : GoodIn wsJ0_length_8abf5 wsJ0_coder_7d493 := goodIn_sub (List.forall_mem_cons.mpr ⟨(List.mem_of_getElem? (i := 6) rfl), (List.forall_mem_cons.mpr ⟨(List.mem_of_getElem? (i := 7) rfl), (List.forall_mem_cons.mpr ⟨(List.mem_of_getElem? (i := 8) rfl), (fun _ h => absurd h List.not_mem_nil)⟩)⟩)⟩) (by decide +kernel)
set_option maxRecDepth 20000 in
theorem gJ0_length_8abf5_J0_coder_7d493 : GoodIn wsJ0_length_8abf5 (wsV RJ0 335 RJ0 yJ0_coder_7d493 wsJ0_coder_7d493) := goodIn_app (goodIn_sub (List.forall_mem_cons.mpr ⟨(List.mem_of_getElem? (i := 2) rfl), (List.forall_mem_cons.mpr ⟨(List.mem_of_getElem? (i := 3) rfl), (List.forall_mem_cons.mpr ⟨(List.mem_of_getElem? (i := 4) rfl), (List.forall_mem_cons.mpr ⟨(List.mem_of_getElem? (i := 5) rfl), (fun _ h => absurd h List.not_mem_nil)⟩)⟩)⟩)⟩) (by decide +kernel)) ggJ0_length_8abf5_J0_coder_7d493
theorem dJ0_length_8abf5_0 : decode cJ0_length_8abf5 0 = .ok (.aload_n 0, 1) := by decide +kernel
theorem dJ0_length_8abf5_1 : decode cJ0_length_8abf5 1 = .ok (.getfield 9, 3) := by decide +kernel
theorem dJ0_length_8abf5_4 : decode cJ0_length_8abf5 4 = .ok (.arraylength, 1) := by decide +kernel
theorem dJ0_length_8abf5_5 : decode cJ0_length_8abf5 5 = .ok (.aload_n 0, 1) := by decide +kernel
theorem dJ0_length_8abf5_6 : decode cJ0_length_8abf5 6 = .ok (.invokevirtual 335, 3) := by decide +kernel
theorem dJ0_length_8abf5_9 : decode cJ0_length_8abf5 9 = .ok (.ishr, 1) := by decide +kernel
theorem dJ0_length_8abf5_10 : decode cJ0_length_8abf5 10 = .ok (.ireturn, 1) := by decide +kernel
def rmJ0_length_8abf5 : Room := { frames := 1, cells := 0, slots := 0, locals := 20 }
theorem zdJ0_length_8abf5 : yJ0_length_8abf5.cls = RJ0 ∧ yJ0_length_8abf5.cls ≠ "java/lang/invoke/MethodHandle" ∧ yJ0_length_8abf5.cls ≠ "java/lang/invoke/VarHandle" ∧ (parseMethodDescriptor yJ0_length_8abf5.desc).map (fun d => d.parameters.length) = some 0 := by decide +kernel
theorem kfJ0_length_8abf5_9 : Cond.fieldLink RJ0 9 "java/lang/String" "value" "[B" ∈ wsJ0_length_8abf5 := (List.mem_of_getElem? (i := 1) rfl)
def s_J0_length_8abf5  : Option (Int32) :=
  (s_J0_coder_7d493 ).bind fun r2 => some ((6 : Int32) >>> (r2 &&& 31))
set_option maxRecDepth 100000 in
set_option maxHeartbeats 4000000 in
theorem c_J0_length_8abf5 (l : Launch) (w : ZW) {m : Mem}  {r9 : Int32}  (hf : s_J0_length_8abf5  = some r9) : zCi MX l w yJ0_length_8abf5 wsJ0_length_8abf5 rmJ0_length_8abf5 [.ref (w.2.1 101)] m m r9 := by
  refine z_met_i MX_ok (own := RJ0) (by decide +kernel) rfl rfl (Nat.le_of_ble_eq_true rfl) ?_
  intro K C hKw hKl hret
  subst hKw
  subst hKl
  unfold s_J0_length_8abf5 at hf
  show zGo MX K m [(0, .ref ((zw K).2.1 101))] 0 []
  refine z_aload_n C 0 dJ0_length_8abf5_0 rfl rfl ?_
  refine z_strv C kfJ0_length_8abf5_9 dJ0_length_8abf5_1 ?_
  refine z_strn C dJ0_length_8abf5_4 ?_
  refine z_aload_n C 0 dJ0_length_8abf5_5 rfl rfl ?_
  obtain ⟨r2, hc1, hf⟩ := zb_el hf
  refine z_cVs C (c_J0_coder_7d493 _ _ hc1) rfl gJ0_length_8abf5_J0_coder_7d493 rfl rfl zdJ0_coder_7d493 rfl rfl ⟨Nat.le_of_ble_eq_true rfl, Nat.le_of_ble_eq_true rfl⟩ (Nat.le_of_ble_eq_true rfl) dJ0_length_8abf5_6 rfl ?_
  refine z_ishr C dJ0_length_8abf5_9 ?_
  cases hf
  exact hret _ _ dJ0_length_8abf5_10
theorem dJ0_isLatin1_aae02_0 : decode cJ0_isLatin1_aae02 0 = .ok (.getstatic 38, 3) := by decide +kernel
theorem dJ0_isLatin1_aae02_3 : decode cJ0_isLatin1_aae02 3 = .ok (.ifCond .eq 14, 3) := by decide +kernel
theorem dJ0_isLatin1_aae02_6 : decode cJ0_isLatin1_aae02 6 = .ok (.aload_n 0, 1) := by decide +kernel
theorem dJ0_isLatin1_aae02_7 : decode cJ0_isLatin1_aae02 7 = .ok (.getfield 15, 3) := by decide +kernel
theorem dJ0_isLatin1_aae02_10 : decode cJ0_isLatin1_aae02 10 = .ok (.ifCond .ne 7, 3) := by decide +kernel
theorem dJ0_isLatin1_aae02_13 : decode cJ0_isLatin1_aae02 13 = .ok (.iconst 1, 1) := by decide +kernel
theorem dJ0_isLatin1_aae02_14 : decode cJ0_isLatin1_aae02 14 = .ok (.goto 4, 3) := by decide +kernel
theorem dJ0_isLatin1_aae02_17 : decode cJ0_isLatin1_aae02 17 = .ok (.iconst 0, 1) := by decide +kernel
theorem dJ0_isLatin1_aae02_18 : decode cJ0_isLatin1_aae02 18 = .ok (.ireturn, 1) := by decide +kernel
def rmJ0_isLatin1_aae02 : Room := { frames := 0, cells := 0, slots := 0, locals := 0 }
theorem zdJ0_isLatin1_aae02 : yJ0_isLatin1_aae02.cls = RJ0 ∧ yJ0_isLatin1_aae02.cls ≠ "java/lang/invoke/MethodHandle" ∧ yJ0_isLatin1_aae02.cls ≠ "java/lang/invoke/VarHandle" ∧ (parseMethodDescriptor yJ0_isLatin1_aae02.desc).map (fun d => d.parameters.length) = some 0 := by decide +kernel
theorem kfJ0_isLatin1_aae02_38 : Cond.fieldLink RJ0 38 "java/lang/String" "COMPACT_STRINGS" "Z" ∈ wsJ0_isLatin1_aae02 := (List.mem_of_getElem? (i := 1) rfl)
theorem kfJ0_isLatin1_aae02_15 : Cond.fieldLink RJ0 15 "java/lang/String" "coder" "B" ∈ wsJ0_isLatin1_aae02 := (List.mem_of_getElem? (i := 2) rfl)
def s_J0_isLatin1_aae02  : Option (Int32) :=
  (if (1 : Int32) = 0 then (some 0) else ((if (0 : Int32) = 0 then (some 1) else (some 0))))
set_option maxRecDepth 100000 in
set_option maxHeartbeats 4000000 in
theorem c_J0_isLatin1_aae02 (l : Launch) (w : ZW) {m : Mem}  {r9 : Int32}  (hf : s_J0_isLatin1_aae02  = some r9) : zCi MX l w yJ0_isLatin1_aae02 wsJ0_isLatin1_aae02 rmJ0_isLatin1_aae02 [.ref (w.2.1 101)] m m r9 := by
  refine z_met_z MX_ok (own := RJ0) (by decide +kernel) rfl rfl (Nat.le_of_ble_eq_true rfl) ?_
  intro K C hKw hKl hret
  subst hKw
  subst hKl
  unfold s_J0_isLatin1_aae02 at hf
  show zGo MX K m [(0, .ref ((zw K).2.1 101))] 0 []
  refine z_gcom C kfJ0_isLatin1_aae02_38 dJ0_isLatin1_aae02_0 ?_
  refine z_if_eq (tgt := 17) C dJ0_isLatin1_aae02_3 (by decide) (fun c2 => ?_) (fun c2 => ?_)
  · replace hf := if_t c2 hf
    refine z_iconst C (v := 0) dJ0_isLatin1_aae02_17 rfl ?_
    cases hf
    exact hret _ _ dJ0_isLatin1_aae02_18 (Or.inl rfl)
  · replace hf := if_f c2 hf
    refine z_aload_n C 0 dJ0_isLatin1_aae02_6 rfl rfl ?_
    refine z_strc C kfJ0_isLatin1_aae02_15 dJ0_isLatin1_aae02_7 ?_
    refine z_if_ne (tgt := 17) C dJ0_isLatin1_aae02_10 (by decide) (fun c1 => ?_) (fun c1 => ?_)
    · replace hf := if_f c1 hf
      refine z_iconst C (v := 0) dJ0_isLatin1_aae02_17 rfl ?_
      cases hf
      exact hret _ _ dJ0_isLatin1_aae02_18 (Or.inl rfl)
    · replace hf := if_t c1 hf
      refine z_iconst C (v := 1) dJ0_isLatin1_aae02_13 rfl ?_
      refine z_goto (tgt := 18) C dJ0_isLatin1_aae02_14 (by decide) ?_
      cases hf
      exact hret _ _ dJ0_isLatin1_aae02_18 (Or.inr rfl)
theorem dJ3_checkIndex_8e157_0 : decode cJ3_checkIndex_8e157 0 = .ok (.iload_n 0, 1) := by decide +kernel
theorem dJ3_checkIndex_8e157_1 : decode cJ3_checkIndex_8e157 1 = .ok (.ifCond .lt 8, 3) := by decide +kernel
theorem dJ3_checkIndex_8e157_4 : decode cJ3_checkIndex_8e157 4 = .ok (.iload_n 0, 1) := by decide +kernel
theorem dJ3_checkIndex_8e157_5 : decode cJ3_checkIndex_8e157 5 = .ok (.iload_n 1, 1) := by decide +kernel
theorem dJ3_checkIndex_8e157_6 : decode cJ3_checkIndex_8e157 6 = .ok (.if_icmp .lt 10, 3) := by decide +kernel
theorem dJ3_checkIndex_8e157_9 : decode cJ3_checkIndex_8e157 9 = .ok (.aload_n 2, 1) := by decide +kernel
theorem dJ3_checkIndex_8e157_10 : decode cJ3_checkIndex_8e157 10 = .ok (.iload_n 0, 1) := by decide +kernel
theorem dJ3_checkIndex_8e157_11 : decode cJ3_checkIndex_8e157 11 = .ok (.iload_n 1, 1) := by decide +kernel
theorem dJ3_checkIndex_8e157_12 : decode cJ3_checkIndex_8e157 12 = .ok (.invokestatic 95, 3) := by decide +kernel
theorem dJ3_checkIndex_8e157_15 : decode cJ3_checkIndex_8e157 15 = .ok (.athrow, 1) := by decide +kernel
theorem dJ3_checkIndex_8e157_16 : decode cJ3_checkIndex_8e157 16 = .ok (.iload_n 0, 1) := by decide +kernel
theorem dJ3_checkIndex_8e157_17 : decode cJ3_checkIndex_8e157 17 = .ok (.ireturn, 1) := by decide +kernel
def rmJ3_checkIndex_8e157 : Room := { frames := 1, cells := 0, slots := 0, locals := 21 }
theorem zdJ3_checkIndex_8e157 : yJ3_checkIndex_8e157.cls = RJ3 ∧ yJ3_checkIndex_8e157.cls ≠ "java/lang/invoke/MethodHandle" ∧ yJ3_checkIndex_8e157.cls ≠ "java/lang/invoke/VarHandle" ∧ (parseMethodDescriptor yJ3_checkIndex_8e157.desc).map (fun d => d.parameters.length) = some 3 := by decide +kernel
def s_J3_checkIndex_8e157 (a1 : Int32) (a2 : Int32) : Option (Int32) :=
  (if a1 < 0 then (none) else ((if a1 < a2 then (some a1) else (none))))
set_option maxRecDepth 100000 in
set_option maxHeartbeats 4000000 in
theorem c_J3_checkIndex_8e157 (l : Launch) (w : ZW) {m : Mem} {a1 : Int32} {a2 : Int32} {r9 : Int32} {fv : Value} (hfv : fv = .null ∨ ∃ t : Nat, fv = .ref t) (hf : s_J3_checkIndex_8e157 a1 a2 = some r9) : zCi MX l w yJ3_checkIndex_8e157 wsJ3_checkIndex_8e157 rmJ3_checkIndex_8e157 [.int a1, .int a2, fv] m m r9 := by
  have hln : (lg_sl [.int a1, .int a2, fv]).length ≤ 3 := by rcases hfv with rfl | ⟨t, rfl⟩ <;> exact Nat.le_of_ble_eq_true rfl
  refine z_met_i MX_ok (own := RJ3) (by decide +kernel) rfl rfl hln ?_
  intro K C hKw hKl hret
  subst hKw
  subst hKl
  unfold s_J3_checkIndex_8e157 at hf
  show zGo MX K m [(0, .int a1), (1, .int a2), (2, fv)] 0 []
  refine z_iload_n C 0 dJ3_checkIndex_8e157_0 rfl rfl ?_
  refine z_if_lt (tgt := 9) C dJ3_checkIndex_8e157_1 (by decide) (fun c2 => ?_) (fun c2 => ?_)
  · replace hf := if_t c2 hf
    cases hf
  · replace hf := if_f c2 hf
    refine z_iload_n C 0 dJ3_checkIndex_8e157_4 rfl rfl ?_
    refine z_iload_n C 1 dJ3_checkIndex_8e157_5 rfl rfl ?_
    refine z_icmp_lt (tgt := 16) C dJ3_checkIndex_8e157_6 (by decide) (fun c1 => ?_) (fun c1 => ?_)
    · replace hf := if_t c1 hf
      refine z_iload_n C 0 dJ3_checkIndex_8e157_16 rfl rfl ?_
      cases hf
      exact hret _ _ dJ3_checkIndex_8e157_17
    · replace hf := if_f c1 hf
      cases hf
set_option maxRecDepth 20000 in
theorem ggJ0_checkIndex_df160_J3_checkIndex_8e157 : GoodIn wsJ0_checkIndex_df160 wsJ3_checkIndex_8e157 := goodIn_sub (List.forall_mem_cons.mpr ⟨(List.mem_of_getElem? (i := 5) rfl), (fun _ h => absurd h List.not_mem_nil)⟩) (by decide +kernel)
set_option maxRecDepth 20000 in
theorem gJ0_checkIndex_df160_J3_checkIndex_8e157 : GoodIn wsJ0_checkIndex_df160 (va_wsS RJ0 1059 yJ3_checkIndex_8e157 wsJ3_checkIndex_8e157) := goodIn_app (goodIn_sub (List.forall_mem_cons.mpr ⟨(List.mem_of_getElem? (i := 2) rfl), (List.forall_mem_cons.mpr ⟨(List.mem_of_getElem? (i := 3) rfl), (List.forall_mem_cons.mpr ⟨(List.mem_of_getElem? (i := 4) rfl), (fun _ h => absurd h List.not_mem_nil)⟩)⟩)⟩) (by decide +kernel)) ggJ0_checkIndex_df160_J3_checkIndex_8e157
theorem dJ0_checkIndex_df160_0 : decode cJ0_checkIndex_df160 0 = .ok (.iload_n 0, 1) := by decide +kernel
theorem dJ0_checkIndex_df160_1 : decode cJ0_checkIndex_df160 1 = .ok (.iload_n 1, 1) := by decide +kernel
theorem dJ0_checkIndex_df160_2 : decode cJ0_checkIndex_df160 2 = .ok (.getstatic 1053, 3) := by decide +kernel
theorem dJ0_checkIndex_df160_5 : decode cJ0_checkIndex_df160 5 = .ok (.invokestatic 1059, 3) := by decide +kernel
theorem dJ0_checkIndex_df160_8 : decode cJ0_checkIndex_df160 8 = .ok (.pop, 1) := by decide +kernel
theorem dJ0_checkIndex_df160_9 : decode cJ0_checkIndex_df160 9 = .ok (.return_, 1) := by decide +kernel
def rmJ0_checkIndex_df160 : Room := { frames := 2, cells := 0, slots := 0, locals := 43 }
theorem zdJ0_checkIndex_df160 : yJ0_checkIndex_df160.cls = RJ0 ∧ yJ0_checkIndex_df160.cls ≠ "java/lang/invoke/MethodHandle" ∧ yJ0_checkIndex_df160.cls ≠ "java/lang/invoke/VarHandle" ∧ (parseMethodDescriptor yJ0_checkIndex_df160.desc).map (fun d => d.parameters.length) = some 2 := by decide +kernel
theorem kfJ0_checkIndex_df160_1053 : Cond.fieldLink RJ0 1053 "jdk/internal/util/Preconditions" "SIOOBE_FORMATTER" "Ljava/util/function/BiFunction;" ∈ wsJ0_checkIndex_df160 := (List.mem_of_getElem? (i := 1) rfl)
def s_J0_checkIndex_df160 (a1 : Int32) (a2 : Int32) : Option (Unit) :=
  (s_J3_checkIndex_8e157 a1 a2).bind fun r2 => some ()
set_option maxRecDepth 100000 in
set_option maxHeartbeats 4000000 in
theorem c_J0_checkIndex_df160 (l : Launch) (w : ZW) {m : Mem} {a1 : Int32} {a2 : Int32}   (hf : s_J0_checkIndex_df160 a1 a2 = some ()) : zCv MX l w yJ0_checkIndex_df160 wsJ0_checkIndex_df160 rmJ0_checkIndex_df160 [.int a1, .int a2] m m := by
  refine z_met_v MX_ok (own := RJ0) (by decide +kernel) rfl rfl (Nat.le_of_ble_eq_true rfl) ?_
  intro K C hKw hKl hret
  subst hKw
  subst hKl
  unfold s_J0_checkIndex_df160 at hf
  show zGo MX K m [(0, .int a1), (1, .int a2)] 0 []
  refine z_iload_n C 0 dJ0_checkIndex_df160_0 rfl rfl ?_
  refine z_iload_n C 1 dJ0_checkIndex_df160_1 rfl rfl ?_
  refine z_gfmt C kfJ0_checkIndex_df160_1053 dJ0_checkIndex_df160_2 (fun fv hfv => ?_)
  obtain ⟨r2, hc1, hf⟩ := zb_el hf
  refine z_cSi C (c_J3_checkIndex_8e157 _ _ hfv hc1) rfl gJ0_checkIndex_df160_J3_checkIndex_8e157 rfl rfl zdJ3_checkIndex_8e157.2 rfl ⟨Nat.le_of_ble_eq_true rfl, Nat.le_of_ble_eq_true rfl⟩ (Nat.le_of_ble_eq_true rfl) dJ0_checkIndex_df160_5 rfl ?_
  refine z_pop C dJ0_checkIndex_df160_8 ?_
  cases hf
  exact hret _ _ dJ0_checkIndex_df160_9
set_option maxRecDepth 20000 in
theorem ggJ1_charAt_3b067_J0_checkIndex_df160 : GoodIn wsJ1_charAt_3b067 wsJ0_checkIndex_df160 := goodIn_sub (List.forall_mem_cons.mpr ⟨(List.mem_of_getElem? (i := 4) rfl), (List.forall_mem_cons.mpr ⟨(List.mem_of_getElem? (i := 5) rfl), (List.forall_mem_cons.mpr ⟨(List.mem_of_getElem? (i := 6) rfl), (List.forall_mem_cons.mpr ⟨(List.mem_of_getElem? (i := 7) rfl), (List.forall_mem_cons.mpr ⟨(List.mem_of_getElem? (i := 8) rfl), (List.forall_mem_cons.mpr ⟨(List.mem_of_getElem? (i := 9) rfl), (fun _ h => absurd h List.not_mem_nil)⟩)⟩)⟩)⟩)⟩)⟩) (by decide +kernel)
set_option maxRecDepth 20000 in
theorem gJ1_charAt_3b067_J0_checkIndex_df160 : GoodIn wsJ1_charAt_3b067 (va_wsS RJ1 9 yJ0_checkIndex_df160 wsJ0_checkIndex_df160) := goodIn_app (goodIn_sub (List.forall_mem_cons.mpr ⟨(List.mem_of_getElem? (i := 1) rfl), (List.forall_mem_cons.mpr ⟨(List.mem_of_getElem? (i := 2) rfl), (List.forall_mem_cons.mpr ⟨(List.mem_of_getElem? (i := 3) rfl), (fun _ h => absurd h List.not_mem_nil)⟩)⟩)⟩) (by decide +kernel)) ggJ1_charAt_3b067_J0_checkIndex_df160
theorem dJ1_charAt_3b067_0 : decode cJ1_charAt_3b067 0 = .ok (.iload_n 1, 1) := by decide +kernel
theorem dJ1_charAt_3b067_1 : decode cJ1_charAt_3b067 1 = .ok (.aload_n 0, 1) := by decide +kernel
theorem dJ1_charAt_3b067_2 : decode cJ1_charAt_3b067 2 = .ok (.arraylength, 1) := by decide +kernel
theorem dJ1_charAt_3b067_3 : decode cJ1_charAt_3b067 3 = .ok (.invokestatic 9, 3) := by decide +kernel
theorem dJ1_charAt_3b067_6 : decode cJ1_charAt_3b067 6 = .ok (.aload_n 0, 1) := by decide +kernel
theorem dJ1_charAt_3b067_7 : decode cJ1_charAt_3b067 7 = .ok (.iload_n 1, 1) := by decide +kernel
theorem dJ1_charAt_3b067_8 : decode cJ1_charAt_3b067 8 = .ok (.baload, 1) := by decide +kernel
theorem dJ1_charAt_3b067_9 : decode cJ1_charAt_3b067 9 = .ok (.sipush 255, 3) := by decide +kernel
theorem dJ1_charAt_3b067_12 : decode cJ1_charAt_3b067 12 = .ok (.iand, 1) := by decide +kernel
theorem dJ1_charAt_3b067_13 : decode cJ1_charAt_3b067 13 = .ok (.i2c, 1) := by decide +kernel
theorem dJ1_charAt_3b067_14 : decode cJ1_charAt_3b067 14 = .ok (.ireturn, 1) := by decide +kernel
def rmJ1_charAt_3b067 : Room := { frames := 3, cells := 0, slots := 0, locals := 64 }
theorem zdJ1_charAt_3b067 : yJ1_charAt_3b067.cls = RJ1 ∧ yJ1_charAt_3b067.cls ≠ "java/lang/invoke/MethodHandle" ∧ yJ1_charAt_3b067.cls ≠ "java/lang/invoke/VarHandle" ∧ (parseMethodDescriptor yJ1_charAt_3b067.desc).map (fun d => d.parameters.length) = some 2 := by decide +kernel
def s_J1_charAt_3b067 (a2 : Int32) : Option (Int32) :=
  (s_J0_checkIndex_df160 a2 6).bind fun u2 => ck (zin a2 6 = true) (some (((clo (Int32.toNatClampNeg a2)) &&& 255).toUInt32 % 65536).toInt32)
set_option maxRecDepth 100000 in
set_option maxHeartbeats 4000000 in
theorem c_J1_charAt_3b067 (l : Launch) (w : ZW) {m : Mem} {a2 : Int32} {r9 : Int32}  (hf : s_J1_charAt_3b067 a2 = some r9) : zCi MX l w yJ1_charAt_3b067 wsJ1_charAt_3b067 rmJ1_charAt_3b067 [.ref (w.2.1 102), .int a2] m m r9 := by
  refine z_met_t MX_ok (own := RJ1) (by decide +kernel) rfl rfl (Nat.le_of_ble_eq_true rfl) ?_
  intro K C hKw hKl hret
  subst hKw
  subst hKl
  unfold s_J1_charAt_3b067 at hf
  show zGo MX K m [(0, .ref ((zw K).2.1 102)), (1, .int a2)] 0 []
  refine z_iload_n C 1 dJ1_charAt_3b067_0 rfl rfl ?_
  refine z_aload_n C 0 dJ1_charAt_3b067_1 rfl rfl ?_
  refine z_strn C dJ1_charAt_3b067_2 ?_
  obtain ⟨u2, hc1, hf⟩ := zb_el hf
  refine z_cSv C (c_J0_checkIndex_df160 _ _ hc1) rfl gJ1_charAt_3b067_J0_checkIndex_df160 rfl rfl zdJ0_checkIndex_df160.2 rfl ⟨Nat.le_of_ble_eq_true rfl, Nat.le_of_ble_eq_true rfl⟩ (Nat.le_of_ble_eq_true rfl) dJ1_charAt_3b067_3 rfl ?_
  refine z_aload_n C 0 dJ1_charAt_3b067_6 rfl rfl ?_
  refine z_iload_n C 1 dJ1_charAt_3b067_7 rfl rfl ?_
  obtain ⟨hi3, hf⟩ := ck_el hf
  refine z_strl C hi3 dJ1_charAt_3b067_8 ?_
  refine z_sipush C (v := 255) dJ1_charAt_3b067_9 rfl ?_
  refine z_iand C dJ1_charAt_3b067_12 ?_
  refine z_i2c C dJ1_charAt_3b067_13 ?_
  cases hf
  exact hret _ _ dJ1_charAt_3b067_14 (pk_nc _)
set_option maxRecDepth 20000 in
theorem ggJ0_charAt_5068e_J0_isLatin1_aae02 : GoodIn wsJ0_charAt_5068e wsJ0_isLatin1_aae02 := goodIn_sub (List.forall_mem_cons.mpr ⟨(List.mem_of_getElem? (i := 6) rfl), (List.forall_mem_cons.mpr ⟨(List.mem_of_getElem? (i := 7) rfl), (List.forall_mem_cons.mpr ⟨(List.mem_of_getElem? (i := 8) rfl), (fun _ h => absurd h List.not_mem_nil)⟩)⟩)⟩) (by decide +kernel)
set_option maxRecDepth 20000 in
theorem gJ0_charAt_5068e_J0_isLatin1_aae02 : GoodIn wsJ0_charAt_5068e (wsV RJ0 492 RJ0 yJ0_isLatin1_aae02 wsJ0_isLatin1_aae02) := goodIn_app (goodIn_sub (List.forall_mem_cons.mpr ⟨(List.mem_of_getElem? (i := 2) rfl), (List.forall_mem_cons.mpr ⟨(List.mem_of_getElem? (i := 3) rfl), (List.forall_mem_cons.mpr ⟨(List.mem_of_getElem? (i := 4) rfl), (List.forall_mem_cons.mpr ⟨(List.mem_of_getElem? (i := 5) rfl), (fun _ h => absurd h List.not_mem_nil)⟩)⟩)⟩)⟩) (by decide +kernel)) ggJ0_charAt_5068e_J0_isLatin1_aae02
set_option maxRecDepth 20000 in
theorem ggJ0_charAt_5068e_J1_charAt_3b067 : GoodIn wsJ0_charAt_5068e wsJ1_charAt_3b067 := goodIn_sub (List.forall_mem_cons.mpr ⟨(List.mem_of_getElem? (i := 12) rfl), (List.forall_mem_cons.mpr ⟨(List.mem_of_getElem? (i := 13) rfl), (List.forall_mem_cons.mpr ⟨(List.mem_of_getElem? (i := 14) rfl), (List.forall_mem_cons.mpr ⟨(List.mem_of_getElem? (i := 5) rfl), (List.forall_mem_cons.mpr ⟨(List.mem_of_getElem? (i := 15) rfl), (List.forall_mem_cons.mpr ⟨(List.mem_of_getElem? (i := 16) rfl), (List.forall_mem_cons.mpr ⟨(List.mem_of_getElem? (i := 17) rfl), (List.forall_mem_cons.mpr ⟨(List.mem_of_getElem? (i := 18) rfl), (List.forall_mem_cons.mpr ⟨(List.mem_of_getElem? (i := 19) rfl), (List.forall_mem_cons.mpr ⟨(List.mem_of_getElem? (i := 20) rfl), (fun _ h => absurd h List.not_mem_nil)⟩)⟩)⟩)⟩)⟩)⟩)⟩)⟩)⟩)⟩) (by decide +kernel)
set_option maxRecDepth 20000 in
theorem gJ0_charAt_5068e_J1_charAt_3b067 : GoodIn wsJ0_charAt_5068e (va_wsS RJ0 495 yJ1_charAt_3b067 wsJ1_charAt_3b067) := goodIn_app (goodIn_sub (List.forall_mem_cons.mpr ⟨(List.mem_of_getElem? (i := 9) rfl), (List.forall_mem_cons.mpr ⟨(List.mem_of_getElem? (i := 10) rfl), (List.forall_mem_cons.mpr ⟨(List.mem_of_getElem? (i := 11) rfl), (fun _ h => absurd h List.not_mem_nil)⟩)⟩)⟩) (by decide +kernel)) ggJ0_charAt_5068e_J1_charAt_3b067
set_option maxRecDepth 20000 in
theorem ggJ0_charAt_5068e_J2_charAt_3b067 : GoodIn wsJ0_charAt_5068e wsJ2_charAt_3b067 := goodIn_sub (List.forall_mem_cons.mpr ⟨(List.mem_of_getElem? (i := 24) rfl), (List.forall_mem_cons.mpr ⟨(List.mem_of_getElem? (i := 25) rfl), (List.forall_mem_cons.mpr ⟨(List.mem_of_getElem? (i := 26) rfl), (List.forall_mem_cons.mpr ⟨(List.mem_of_getElem? (i := 23) rfl), (List.forall_mem_cons.mpr ⟨(List.mem_of_getElem? (i := 27) rfl), (List.forall_mem_cons.mpr ⟨(List.mem_of_getElem? (i := 28) rfl), (List.forall_mem_cons.mpr ⟨(List.mem_of_getElem? (i := 29) rfl), (List.forall_mem_cons.mpr ⟨(List.mem_of_getElem? (i := 30) rfl), (List.forall_mem_cons.mpr ⟨(List.mem_of_getElem? (i := 31) rfl), (List.forall_mem_cons.mpr ⟨(List.mem_of_getElem? (i := 14) rfl), (List.forall_mem_cons.mpr ⟨(List.mem_of_getElem? (i := 5) rfl), (List.forall_mem_cons.mpr ⟨(List.mem_of_getElem? (i := 15) rfl), (List.forall_mem_cons.mpr ⟨(List.mem_of_getElem? (i := 16) rfl), (List.forall_mem_cons.mpr ⟨(List.mem_of_getElem? (i := 17) rfl), (List.forall_mem_cons.mpr ⟨(List.mem_of_getElem? (i := 18) rfl), (List.forall_mem_cons.mpr ⟨(List.mem_of_getElem? (i := 19) rfl), (List.forall_mem_cons.mpr ⟨(List.mem_of_getElem? (i := 20) rfl), (List.forall_mem_cons.mpr ⟨(List.mem_of_getElem? (i := 32) rfl), (List.forall_mem_cons.mpr ⟨(List.mem_of_getElem? (i := 33) rfl), (List.forall_mem_cons.mpr ⟨(List.mem_of_getElem? (i := 34) rfl), (List.forall_mem_cons.mpr ⟨(List.mem_of_getElem? (i := 35) rfl), (List.forall_mem_cons.mpr ⟨(List.mem_of_getElem? (i := 36) rfl), (List.forall_mem_cons.mpr ⟨(List.mem_of_getElem? (i := 37) rfl), (fun _ h => absurd h List.not_mem_nil)⟩)⟩)⟩)⟩)⟩)⟩)⟩)⟩)⟩)⟩)⟩)⟩)⟩)⟩)⟩)⟩)⟩)⟩)⟩)⟩)⟩)⟩)⟩) (by decide +kernel)
set_option maxRecDepth 20000 in
theorem gJ0_charAt_5068e_J2_charAt_3b067 : GoodIn wsJ0_charAt_5068e (va_wsS RJ0 498 yJ2_charAt_3b067 wsJ2_charAt_3b067) := goodIn_app (goodIn_sub (List.forall_mem_cons.mpr ⟨(List.mem_of_getElem? (i := 21) rfl), (List.forall_mem_cons.mpr ⟨(List.mem_of_getElem? (i := 22) rfl), (List.forall_mem_cons.mpr ⟨(List.mem_of_getElem? (i := 23) rfl), (fun _ h => absurd h List.not_mem_nil)⟩)⟩)⟩) (by decide +kernel)) ggJ0_charAt_5068e_J2_charAt_3b067
theorem dJ0_charAt_5068e_0 : decode cJ0_charAt_5068e 0 = .ok (.aload_n 0, 1) := by decide +kernel
theorem dJ0_charAt_5068e_1 : decode cJ0_charAt_5068e 1 = .ok (.invokevirtual 492, 3) := by decide +kernel
theorem dJ0_charAt_5068e_4 : decode cJ0_charAt_5068e 4 = .ok (.ifCond .eq 12, 3) := by decide +kernel
theorem dJ0_charAt_5068e_7 : decode cJ0_charAt_5068e 7 = .ok (.aload_n 0, 1) := by decide +kernel
theorem dJ0_charAt_5068e_8 : decode cJ0_charAt_5068e 8 = .ok (.getfield 9, 3) := by decide +kernel
theorem dJ0_charAt_5068e_11 : decode cJ0_charAt_5068e 11 = .ok (.iload_n 1, 1) := by decide +kernel
theorem dJ0_charAt_5068e_12 : decode cJ0_charAt_5068e 12 = .ok (.invokestatic 495, 3) := by decide +kernel
theorem dJ0_charAt_5068e_15 : decode cJ0_charAt_5068e 15 = .ok (.ireturn, 1) := by decide +kernel
theorem dJ0_charAt_5068e_16 : decode cJ0_charAt_5068e 16 = .ok (.aload_n 0, 1) := by decide +kernel
theorem dJ0_charAt_5068e_17 : decode cJ0_charAt_5068e 17 = .ok (.getfield 9, 3) := by decide +kernel
theorem dJ0_charAt_5068e_20 : decode cJ0_charAt_5068e 20 = .ok (.iload_n 1, 1) := by decide +kernel
theorem dJ0_charAt_5068e_21 : decode cJ0_charAt_5068e 21 = .ok (.invokestatic 498, 3) := by decide +kernel
theorem dJ0_charAt_5068e_24 : decode cJ0_charAt_5068e 24 = .ok (.ireturn, 1) := by decide +kernel
theorem j1c {i r : Int32} (h : s_J1_charAt_3b067 i = some r) : narrow .char (.int r) = .int r := by
  unfold s_J1_charAt_3b067 at h
  obtain ⟨_, _, h⟩ := zb_el h
  obtain ⟨_, h⟩ := ck_el h
  cases h
  exact pk_nc _
def rmJ0_charAt_5068e : Room := { frames := 5, cells := 0, slots := 0, locals := 106 }
theorem zdJ0_charAt_5068e : yJ0_charAt_5068e.cls = RJ0 ∧ yJ0_charAt_5068e.cls ≠ "java/lang/invoke/MethodHandle" ∧ yJ0_charAt_5068e.cls ≠ "java/lang/invoke/VarHandle" ∧ (parseMethodDescriptor yJ0_charAt_5068e.desc).map (fun d => d.parameters.length) = some 1 := by decide +kernel
theorem kfJ0_charAt_5068e_9 : Cond.fieldLink RJ0 9 "java/lang/String" "value" "[B" ∈ wsJ0_charAt_5068e := (List.mem_of_getElem? (i := 1) rfl)
def s_J0_charAt_5068e (a1 : Int32) : Option (Int32) :=
  (s_J0_isLatin1_aae02 ).bind fun r2 => (if r2 = 0 then (none) else ((s_J1_charAt_3b067 a1).bind fun r4 => some r4))
set_option maxRecDepth 100000 in
set_option maxHeartbeats 4000000 in
theorem c_J0_charAt_5068e (l : Launch) (w : ZW) {m : Mem} {a1 : Int32} {r9 : Int32}  (hf : s_J0_charAt_5068e a1 = some r9) : zCi MX l w yJ0_charAt_5068e wsJ0_charAt_5068e rmJ0_charAt_5068e [.ref (w.2.1 101), .int a1] m m r9 := by
  refine z_met_t MX_ok (own := RJ0) (by decide +kernel) rfl rfl (Nat.le_of_ble_eq_true rfl) ?_
  intro K C hKw hKl hret
  subst hKw
  subst hKl
  unfold s_J0_charAt_5068e at hf
  show zGo MX K m [(0, .ref ((zw K).2.1 101)), (1, .int a1)] 0 []
  refine z_aload_n C 0 dJ0_charAt_5068e_0 rfl rfl ?_
  obtain ⟨r2, hc1, hf⟩ := zb_el hf
  refine z_cVs C (c_J0_isLatin1_aae02 _ _ hc1) rfl gJ0_charAt_5068e_J0_isLatin1_aae02 rfl rfl zdJ0_isLatin1_aae02 rfl rfl ⟨Nat.le_of_ble_eq_true rfl, Nat.le_of_ble_eq_true rfl⟩ (Nat.le_of_ble_eq_true rfl) dJ0_charAt_5068e_1 rfl ?_
  refine z_if_eq (tgt := 16) C dJ0_charAt_5068e_4 (by decide) (fun c5 => ?_) (fun c5 => ?_)
  · replace hf := if_t c5 hf
    cases hf
  · replace hf := if_f c5 hf
    refine z_aload_n C 0 dJ0_charAt_5068e_7 rfl rfl ?_
    refine z_strv C kfJ0_charAt_5068e_9 dJ0_charAt_5068e_8 ?_
    refine z_iload_n C 1 dJ0_charAt_5068e_11 rfl rfl ?_
    obtain ⟨r4, hc3, hf⟩ := zb_el hf
    refine z_cSi C (c_J1_charAt_3b067 _ _ hc3) rfl gJ0_charAt_5068e_J1_charAt_3b067 rfl rfl zdJ1_charAt_3b067.2 rfl ⟨Nat.le_of_ble_eq_true rfl, Nat.le_of_ble_eq_true rfl⟩ (Nat.le_of_ble_eq_true rfl) dJ0_charAt_5068e_12 rfl ?_
    cases hf
    exact hret _ _ dJ0_charAt_5068e_15 (j1c hc3)
