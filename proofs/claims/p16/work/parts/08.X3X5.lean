theorem dX3_append_0 : decode cX3_append 0 = .ok (.bipush 24, 2) := by decide +kernel
theorem dX3_append_2 : decode cX3_append 2 = .ok (.istore_n 2, 1) := by decide +kernel
theorem dX3_append_3 : decode cX3_append 3 = .ok (.iload_n 2, 1) := by decide +kernel
theorem dX3_append_4 : decode cX3_append 4 = .ok (.ifCond .lt 42, 3) := by decide +kernel
theorem dX3_append_7 : decode cX3_append 7 = .ok (.aload_n 0, 1) := by decide +kernel
theorem dX3_append_8 : decode cX3_append 8 = .ok (.getfield 15, 3) := by decide +kernel
theorem dX3_append_11 : decode cX3_append 11 = .ok (.sipush 400, 3) := by decide +kernel
theorem dX3_append_14 : decode cX3_append 14 = .ok (.if_icmp .ge 32, 3) := by decide +kernel
theorem dX3_append_17 : decode cX3_append 17 = .ok (.aload_n 0, 1) := by decide +kernel
theorem dX3_append_18 : decode cX3_append 18 = .ok (.getfield 9, 3) := by decide +kernel
theorem dX3_append_21 : decode cX3_append 21 = .ok (.aload_n 0, 1) := by decide +kernel
theorem dX3_append_22 : decode cX3_append 22 = .ok (.getfield 15, 3) := by decide +kernel
theorem dX3_append_25 : decode cX3_append 25 = .ok (.iload_n 1, 1) := by decide +kernel
theorem dX3_append_26 : decode cX3_append 26 = .ok (.iload_n 2, 1) := by decide +kernel
theorem dX3_append_27 : decode cX3_append 27 = .ok (.iushr, 1) := by decide +kernel
theorem dX3_append_28 : decode cX3_append 28 = .ok (.i2b, 1) := by decide +kernel
theorem dX3_append_29 : decode cX3_append 29 = .ok (.bastore, 1) := by decide +kernel
theorem dX3_append_30 : decode cX3_append 30 = .ok (.aload_n 0, 1) := by decide +kernel
theorem dX3_append_31 : decode cX3_append 31 = .ok (.dup, 1) := by decide +kernel
theorem dX3_append_32 : decode cX3_append 32 = .ok (.getfield 15, 3) := by decide +kernel
theorem dX3_append_35 : decode cX3_append 35 = .ok (.iconst 1, 1) := by decide +kernel
theorem dX3_append_36 : decode cX3_append 36 = .ok (.iadd, 1) := by decide +kernel
theorem dX3_append_37 : decode cX3_append 37 = .ok (.putfield 15, 3) := by decide +kernel
theorem dX3_append_40 : decode cX3_append 40 = .ok (.iinc 2 (-8), 3) := by decide +kernel
theorem dX3_append_43 : decode cX3_append 43 = .ok (.goto (-40), 3) := by decide +kernel
theorem dX3_append_46 : decode cX3_append 46 = .ok (.return_, 1) := by decide +kernel
def rmX3_append : Room := { frames := 0, cells := 0, slots := 0, locals := 0 }
theorem zdX3_append : yX3_append.cls = RX3 ∧ yX3_append.cls ≠ "java/lang/invoke/MethodHandle" ∧ yX3_append.cls ≠ "java/lang/invoke/VarHandle" ∧ (parseMethodDescriptor yX3_append.desc).map (fun d => d.parameters.length) = some 1 := by decide +kernel
theorem kiX3_append_X3 : ∀ w ∈ wsX30, w ∈ wsX3_append := fun _ h => (List.mem_cons_of_mem _ (List.mem_append_right _ h))
theorem kfX3_append_15 : Cond.fieldLink RX3 15 "ShapeJudge$Tape" "length" "I" ∈ wsX3_append := (List.mem_of_getElem? (i := 1) rfl)
theorem kfX3_append_9 : Cond.fieldLink RX3 9 "ShapeJudge$Tape" "bytes" "[B" ∈ wsX3_append := (List.mem_of_getElem? (i := 2) rfl)
def t_X3_append_3 (a1 : Int32) (i1 : Int32) (m2 : Mem) : Option ((Int32 × Mem) ⊕ (Mem)) :=
  (if i1 < 0 then (some (.inr m2)) else ((if 400 ≤ (m2 7 1) then (some (.inr m2)) else (ck (zin (m2 7 1) 400 = true) (bn (sto m2 8 (Int32.toNatClampNeg (m2 7 1)) (vp_nar .byte (zus a1 i1).toInt8.toInt32)) fun m4 => bn (sto m4 7 1 ((m4 7 1) + 1)) fun m5 => bn (i1 + (-8)) fun x6 => some (.inl (x6, m5)))))))
def l_X3_append_3 (a1 : Int32) (n : Nat) (i1 : Int32) (m2 : Mem) : Option (Mem) := zlp n (fun a => t_X3_append_3 a1 a.1 a.2) (i1, m2)
def s_X3_append (m : Mem) (a1 : Int32) : Option (Mem) :=
  ((l_X3_append_3 a1 FU 24 m).bind fun m9 => some m9)
set_option maxRecDepth 100000 in
set_option maxHeartbeats 4000000 in
theorem w_X3_append_3 {K : ZK} (C : zOK MX K cX3_append 3 none RX3 wsX3_append rmX3_append) {a1 : Int32}  {o0 : Mem} (hk : zGo MX K o0 [] 46 []) : ∀ (n : Nat) (i1 : Int32) (m2 : Mem), l_X3_append_3 a1 n i1 m2 = some o0 → zGo MX K m2 [(0, .ref ((zw K).2.1 7)), (1, .int a1), (2, .int i1)] 3 [] := by
  intro n
  induction n with
  | zero =>
    intro i1 m2 hf
    cases hf
  | succ n ih =>
    intro i1 m2 hf
    obtain ⟨z, hf, hz⟩ := zlp_el hf
    replace hf : t_X3_append_3 a1 i1 m2 = some z := hf
    unfold t_X3_append_3 at hf
    refine z_iload_n C 2 dX3_append_3 rfl rfl ?_
    refine z_if_lt (tgt := 46) C dX3_append_4 (by decide) (fun c8 => ?_) (fun c8 => ?_)
    · replace hf := if_t c8 hf
      cases hf
      replace hz := zlz_r hz
      cases hz
      exact z_sub [] rfl hk
    · replace hf := if_f c8 hf
      refine z_aload_n C 0 dX3_append_7 rfl rfl ?_
      refine z_geti C (Nat.le_of_ble_eq_true rfl) rfl rfl 1 (Nat.le_of_ble_eq_true rfl) rfl kiX3_append_X3 kfX3_append_15 dX3_append_8 ?_
      refine z_sipush C (v := 400) dX3_append_11 rfl ?_
      refine z_icmp_ge (tgt := 46) C dX3_append_14 (by decide) (fun c7 => ?_) (fun c7 => ?_)
      · replace hf := if_t c7 hf
        cases hf
        replace hz := zlz_r hz
        cases hz
        exact z_sub [] rfl hk
      · replace hf := if_f c7 hf
        refine z_aload_n C 0 dX3_append_17 rfl rfl ?_
        refine z_getr C (t := 8) (Nat.le_of_ble_eq_true rfl) rfl rfl 0 (Nat.le_of_ble_eq_true rfl) rfl kiX3_append_X3 kfX3_append_9 dX3_append_18 ?_
        refine z_aload_n C 0 dX3_append_21 rfl rfl ?_
        refine z_geti C (Nat.le_of_ble_eq_true rfl) rfl rfl 1 (Nat.le_of_ble_eq_true rfl) rfl kiX3_append_X3 kfX3_append_15 dX3_append_22 ?_
        refine z_iload_n C 1 dX3_append_25 rfl rfl ?_
        refine z_iload_n C 2 dX3_append_26 rfl rfl ?_
        refine z_iushr C dX3_append_27 ?_
        refine z_i2b C dX3_append_28 ?_
        obtain ⟨hi3, hf⟩ := ck_el hf
        refine z_bast C (k := 8) (Nat.le_of_ble_eq_true rfl) rfl hi3 dX3_append_29 ?_
        refine z_nm (fun m4 e_m4 => ?_)
        replace hf := bn_to e_m4 hf
        refine z_aload_n C 0 dX3_append_30 rfl rfl ?_
        refine z_dup_a C dX3_append_31 ?_
        refine z_geti C (Nat.le_of_ble_eq_true rfl) rfl rfl 1 (Nat.le_of_ble_eq_true rfl) rfl kiX3_append_X3 kfX3_append_15 dX3_append_32 ?_
        refine z_iconst C (v := 1) dX3_append_35 rfl ?_
        refine z_iadd C dX3_append_36 ?_
        refine z_puti C (Nat.le_of_ble_eq_true rfl) rfl rfl 1 (Nat.le_of_ble_eq_true rfl) rfl kiX3_append_X3 kfX3_append_15 tyX3 tyX3_ok nmX3 rfl rfl dX3_append_37 ?_
        refine z_nm (fun m5 e_m5 => ?_)
        replace hf := bn_to e_m5 hf
        obtain ⟨x6, e_x6⟩ : ∃ y : Int32, y = i1 + (-8) := ⟨_, rfl⟩
        replace hf := bn_to e_x6 hf
        refine z_iinc C (lv2 := [(0, .ref ((zw K).2.1 7)), (1, .int a1), (2, .int x6)]) 2 [1, 2, 0] dX3_append_40 (by decide) rfl (Nat.le_of_ble_eq_true rfl) e_x6 rfl ?_
        refine z_goto (tgt := 3) C dX3_append_43 (by decide) ?_
        cases hf
        exact z_sub [0, 1, 2] rfl (ih x6 m5 hz)
set_option maxRecDepth 100000 in
set_option maxHeartbeats 4000000 in
theorem c_X3_append (l : Launch) (w : ZW) {m : Mem} {a1 : Int32} {m9 : Mem}  (hf : s_X3_append m a1 = some m9) : zCv MX l w yX3_append wsX3_append rmX3_append [.ref (w.2.1 7), .int a1] m m9 := by
  refine z_met_v MX_ok (own := RX3) (by decide +kernel) rfl rfl (Nat.le_of_ble_eq_true rfl) ?_
  intro K C hKw hKl hret
  subst hKw
  subst hKl
  unfold s_X3_append at hf
  show zGo MX K m [(0, .ref ((zw K).2.1 7)), (1, .int a1)] 0 []
  refine z_bipush C (v := 24) dX3_append_0 rfl ?_
  refine z_istore_n C (lv2 := [(0, .ref ((zw K).2.1 7)), (1, .int a1), (2, .int 24)]) [1, 2, 0] dX3_append_2 rfl (Nat.le_of_ble_eq_true rfl) rfl ?_
  obtain ⟨m9, hg, hf⟩ := zb_el hf
  refine z_sub [0, 1, 2] rfl (w_X3_append_3 C  ?_ _ _ _ hg)
  clear hg
  cases hf
  exact hret _ _ dX3_append_46
theorem dX3_byteAt_0 : decode cX3_byteAt 0 = .ok (.iload_n 1, 1) := by decide +kernel
theorem dX3_byteAt_1 : decode cX3_byteAt 1 = .ok (.ifCond .lt 31, 3) := by decide +kernel
theorem dX3_byteAt_4 : decode cX3_byteAt 4 = .ok (.iload_n 1, 1) := by decide +kernel
theorem dX3_byteAt_5 : decode cX3_byteAt 5 = .ok (.aload_n 0, 1) := by decide +kernel
theorem dX3_byteAt_6 : decode cX3_byteAt 6 = .ok (.getfield 15, 3) := by decide +kernel
theorem dX3_byteAt_9 : decode cX3_byteAt 9 = .ok (.if_icmp .ge 23, 3) := by decide +kernel
theorem dX3_byteAt_12 : decode cX3_byteAt 12 = .ok (.iload_n 1, 1) := by decide +kernel
theorem dX3_byteAt_13 : decode cX3_byteAt 13 = .ok (.sipush 400, 3) := by decide +kernel
theorem dX3_byteAt_16 : decode cX3_byteAt 16 = .ok (.if_icmp .ge 16, 3) := by decide +kernel
theorem dX3_byteAt_19 : decode cX3_byteAt 19 = .ok (.aload_n 0, 1) := by decide +kernel
theorem dX3_byteAt_20 : decode cX3_byteAt 20 = .ok (.getfield 9, 3) := by decide +kernel
theorem dX3_byteAt_23 : decode cX3_byteAt 23 = .ok (.iload_n 1, 1) := by decide +kernel
theorem dX3_byteAt_24 : decode cX3_byteAt 24 = .ok (.baload, 1) := by decide +kernel
theorem dX3_byteAt_25 : decode cX3_byteAt 25 = .ok (.sipush 255, 3) := by decide +kernel
theorem dX3_byteAt_28 : decode cX3_byteAt 28 = .ok (.iand, 1) := by decide +kernel
theorem dX3_byteAt_29 : decode cX3_byteAt 29 = .ok (.goto 4, 3) := by decide +kernel
theorem dX3_byteAt_32 : decode cX3_byteAt 32 = .ok (.iconst (-1), 1) := by decide +kernel
theorem dX3_byteAt_33 : decode cX3_byteAt 33 = .ok (.ireturn, 1) := by decide +kernel
def rmX3_byteAt : Room := { frames := 0, cells := 0, slots := 0, locals := 0 }
theorem zdX3_byteAt : yX3_byteAt.cls = RX3 ∧ yX3_byteAt.cls ≠ "java/lang/invoke/MethodHandle" ∧ yX3_byteAt.cls ≠ "java/lang/invoke/VarHandle" ∧ (parseMethodDescriptor yX3_byteAt.desc).map (fun d => d.parameters.length) = some 1 := by decide +kernel
theorem kiX3_byteAt_X3 : ∀ w ∈ wsX30, w ∈ wsX3_byteAt := fun _ h => (List.mem_cons_of_mem _ (List.mem_append_right _ h))
theorem kfX3_byteAt_15 : Cond.fieldLink RX3 15 "ShapeJudge$Tape" "length" "I" ∈ wsX3_byteAt := (List.mem_of_getElem? (i := 1) rfl)
theorem kfX3_byteAt_9 : Cond.fieldLink RX3 9 "ShapeJudge$Tape" "bytes" "[B" ∈ wsX3_byteAt := (List.mem_of_getElem? (i := 2) rfl)
def s_X3_byteAt (m : Mem) (a1 : Int32) : Option (Int32) :=
  (if a1 < 0 then (some (-1)) else ((if (m 7 1) ≤ a1 then (some (-1)) else ((if 400 ≤ a1 then (some (-1)) else (ck (zin a1 400 = true) (some ((m 8 (Int32.toNatClampNeg a1)) &&& 255))))))))
set_option maxRecDepth 100000 in
set_option maxHeartbeats 4000000 in
theorem c_X3_byteAt (l : Launch) (w : ZW) {m : Mem} {a1 : Int32} {r9 : Int32}  (hf : s_X3_byteAt m a1 = some r9) : zCi MX l w yX3_byteAt wsX3_byteAt rmX3_byteAt [.ref (w.2.1 7), .int a1] m m r9 := by
  refine z_met_i MX_ok (own := RX3) (by decide +kernel) rfl rfl (Nat.le_of_ble_eq_true rfl) ?_
  intro K C hKw hKl hret
  subst hKw
  subst hKl
  unfold s_X3_byteAt at hf
  show zGo MX K m [(0, .ref ((zw K).2.1 7)), (1, .int a1)] 0 []
  refine z_iload_n C 1 dX3_byteAt_0 rfl rfl ?_
  refine z_if_lt (tgt := 32) C dX3_byteAt_1 (by decide) (fun c4 => ?_) (fun c4 => ?_)
  · replace hf := if_t c4 hf
    refine z_iconst C (v := (-1)) dX3_byteAt_32 (by decide) ?_
    cases hf
    exact hret _ _ dX3_byteAt_33
  · replace hf := if_f c4 hf
    refine z_iload_n C 1 dX3_byteAt_4 rfl rfl ?_
    refine z_aload_n C 0 dX3_byteAt_5 rfl rfl ?_
    refine z_geti C (Nat.le_of_ble_eq_true rfl) rfl rfl 1 (Nat.le_of_ble_eq_true rfl) rfl kiX3_byteAt_X3 kfX3_byteAt_15 dX3_byteAt_6 ?_
    refine z_icmp_ge (tgt := 32) C dX3_byteAt_9 (by decide) (fun c3 => ?_) (fun c3 => ?_)
    · replace hf := if_t c3 hf
      refine z_iconst C (v := (-1)) dX3_byteAt_32 (by decide) ?_
      cases hf
      exact hret _ _ dX3_byteAt_33
    · replace hf := if_f c3 hf
      refine z_iload_n C 1 dX3_byteAt_12 rfl rfl ?_
      refine z_sipush C (v := 400) dX3_byteAt_13 rfl ?_
      refine z_icmp_ge (tgt := 32) C dX3_byteAt_16 (by decide) (fun c2 => ?_) (fun c2 => ?_)
      · replace hf := if_t c2 hf
        refine z_iconst C (v := (-1)) dX3_byteAt_32 (by decide) ?_
        cases hf
        exact hret _ _ dX3_byteAt_33
      · replace hf := if_f c2 hf
        refine z_aload_n C 0 dX3_byteAt_19 rfl rfl ?_
        refine z_getr C (t := 8) (Nat.le_of_ble_eq_true rfl) rfl rfl 0 (Nat.le_of_ble_eq_true rfl) rfl kiX3_byteAt_X3 kfX3_byteAt_9 dX3_byteAt_20 ?_
        refine z_iload_n C 1 dX3_byteAt_23 rfl rfl ?_
        obtain ⟨hi1, hf⟩ := ck_el hf
        refine z_bald C (k := 8) (Nat.le_of_ble_eq_true rfl) rfl hi1 dX3_byteAt_24 ?_
        refine z_sipush C (v := 255) dX3_byteAt_25 rfl ?_
        refine z_iand C dX3_byteAt_28 ?_
        refine z_goto (tgt := 33) C dX3_byteAt_29 (by decide) ?_
        cases hf
        exact hret _ _ dX3_byteAt_33
theorem dX5_rewind_0 : decode cX5_rewind 0 = .ok (.aload_n 0, 1) := by decide +kernel
theorem dX5_rewind_1 : decode cX5_rewind 1 = .ok (.iconst 0, 1) := by decide +kernel
theorem dX5_rewind_2 : decode cX5_rewind 2 = .ok (.putfield 13, 3) := by decide +kernel
theorem dX5_rewind_5 : decode cX5_rewind 5 = .ok (.return_, 1) := by decide +kernel
def rmX5_rewind : Room := { frames := 0, cells := 0, slots := 0, locals := 0 }
theorem zdX5_rewind : yX5_rewind.cls = RX5 ∧ yX5_rewind.cls ≠ "java/lang/invoke/MethodHandle" ∧ yX5_rewind.cls ≠ "java/lang/invoke/VarHandle" ∧ (parseMethodDescriptor yX5_rewind.desc).map (fun d => d.parameters.length) = some 0 := by decide +kernel
theorem kiX5_rewind_X5 : ∀ w ∈ wsX50, w ∈ wsX5_rewind := fun _ h => (List.mem_cons_of_mem _ (List.mem_append_right _ h))
theorem kfX5_rewind_13 : Cond.fieldLink RX5 13 "ShapeJudge$Tokens" "next" "I" ∈ wsX5_rewind := (List.mem_of_getElem? (i := 1) rfl)
def s_X5_rewind (m : Mem)  : Option (Mem) :=
  bn (sto m 10 1 0) fun m1 => some m1
set_option maxRecDepth 100000 in
set_option maxHeartbeats 4000000 in
theorem c_X5_rewind (l : Launch) (w : ZW) {m : Mem}  {m9 : Mem}  (hf : s_X5_rewind m  = some m9) : zCv MX l w yX5_rewind wsX5_rewind rmX5_rewind [.ref (w.2.1 10)] m m9 := by
  refine z_met_v MX_ok (own := RX5) (by decide +kernel) rfl rfl (Nat.le_of_ble_eq_true rfl) ?_
  intro K C hKw hKl hret
  subst hKw
  subst hKl
  unfold s_X5_rewind at hf
  show zGo MX K m [(0, .ref ((zw K).2.1 10))] 0 []
  refine z_aload_n C 0 dX5_rewind_0 rfl rfl ?_
  refine z_iconst C (v := 0) dX5_rewind_1 rfl ?_
  refine z_puti C (Nat.le_of_ble_eq_true rfl) rfl rfl 1 (Nat.le_of_ble_eq_true rfl) rfl kiX5_rewind_X5 kfX5_rewind_13 tyX5 tyX5_ok nmX5 rfl rfl dX5_rewind_2 ?_
  refine z_nm (fun m1 e_m1 => ?_)
  replace hf := bn_to e_m1 hf
  cases hf
  exact hret _ _ dX5_rewind_5
theorem dX5_become_0 : decode cX5_become 0 = .ok (.aload_n 0, 1) := by decide +kernel
theorem dX5_become_1 : decode cX5_become 1 = .ok (.iload_n 1, 1) := by decide +kernel
theorem dX5_become_2 : decode cX5_become 2 = .ok (.putfield 57, 3) := by decide +kernel
theorem dX5_become_5 : decode cX5_become 5 = .ok (.aload_n 0, 1) := by decide +kernel
theorem dX5_become_6 : decode cX5_become 6 = .ok (.aload_n 0, 1) := by decide +kernel
theorem dX5_become_7 : decode cX5_become 7 = .ok (.getfield 26, 3) := by decide +kernel
theorem dX5_become_10 : decode cX5_become 10 = .ok (.iload_n 2, 1) := by decide +kernel
theorem dX5_become_11 : decode cX5_become 11 = .ok (.iadd, 1) := by decide +kernel
theorem dX5_become_12 : decode cX5_become 12 = .ok (.putfield 13, 3) := by decide +kernel
theorem dX5_become_15 : decode cX5_become 15 = .ok (.return_, 1) := by decide +kernel
def rmX5_become : Room := { frames := 0, cells := 0, slots := 0, locals := 0 }
theorem zdX5_become : yX5_become.cls = RX5 ∧ yX5_become.cls ≠ "java/lang/invoke/MethodHandle" ∧ yX5_become.cls ≠ "java/lang/invoke/VarHandle" ∧ (parseMethodDescriptor yX5_become.desc).map (fun d => d.parameters.length) = some 2 := by decide +kernel
theorem kiX5_become_X5 : ∀ w ∈ wsX50, w ∈ wsX5_become := fun _ h => (List.mem_cons_of_mem _ (List.mem_append_right _ h))
theorem kfX5_become_57 : Cond.fieldLink RX5 57 "ShapeJudge$Tokens" "kind" "I" ∈ wsX5_become := (List.mem_of_getElem? (i := 1) rfl)
theorem kfX5_become_26 : Cond.fieldLink RX5 26 "ShapeJudge$Tokens" "place" "I" ∈ wsX5_become := (List.mem_of_getElem? (i := 2) rfl)
theorem kfX5_become_13 : Cond.fieldLink RX5 13 "ShapeJudge$Tokens" "next" "I" ∈ wsX5_become := (List.mem_of_getElem? (i := 3) rfl)
def s_X5_become (m : Mem) (a1 : Int32) (a2 : Int32) : Option (Mem) :=
  bn (sto m 10 2 a1) fun m1 => bn (sto m1 10 1 ((m1 10 3) + a2)) fun m2 => some m2
set_option maxRecDepth 100000 in
set_option maxHeartbeats 4000000 in
theorem c_X5_become (l : Launch) (w : ZW) {m : Mem} {a1 : Int32} {a2 : Int32} {m9 : Mem}  (hf : s_X5_become m a1 a2 = some m9) : zCv MX l w yX5_become wsX5_become rmX5_become [.ref (w.2.1 10), .int a1, .int a2] m m9 := by
  refine z_met_v MX_ok (own := RX5) (by decide +kernel) rfl rfl (Nat.le_of_ble_eq_true rfl) ?_
  intro K C hKw hKl hret
  subst hKw
  subst hKl
  unfold s_X5_become at hf
  show zGo MX K m [(0, .ref ((zw K).2.1 10)), (1, .int a1), (2, .int a2)] 0 []
  refine z_aload_n C 0 dX5_become_0 rfl rfl ?_
  refine z_iload_n C 1 dX5_become_1 rfl rfl ?_
  refine z_puti C (Nat.le_of_ble_eq_true rfl) rfl rfl 2 (Nat.le_of_ble_eq_true rfl) rfl kiX5_become_X5 kfX5_become_57 tyX5 tyX5_ok nmX5 rfl rfl dX5_become_2 ?_
  refine z_nm (fun m1 e_m1 => ?_)
  replace hf := bn_to e_m1 hf
  refine z_aload_n C 0 dX5_become_5 rfl rfl ?_
  refine z_aload_n C 0 dX5_become_6 rfl rfl ?_
  refine z_geti C (Nat.le_of_ble_eq_true rfl) rfl rfl 3 (Nat.le_of_ble_eq_true rfl) rfl kiX5_become_X5 kfX5_become_26 dX5_become_7 ?_
  refine z_iload_n C 2 dX5_become_10 rfl rfl ?_
  refine z_iadd C dX5_become_11 ?_
  refine z_puti C (Nat.le_of_ble_eq_true rfl) rfl rfl 1 (Nat.le_of_ble_eq_true rfl) rfl kiX5_become_X5 kfX5_become_13 tyX5 tyX5_ok nmX5 rfl rfl dX5_become_12 ?_
  refine z_nm (fun m2 e_m2 => ?_)
  replace hf := bn_to e_m2 hf
  cases hf
  exact hret _ _ dX5_become_15
theorem dX5_isFigure_0 : decode cX5_isFigure 0 = .ok (.iload_n 0, 1) := by decide +kernel
theorem dX5_isFigure_1 : decode cX5_isFigure 1 = .ok (.bipush 48, 2) := by decide +kernel
theorem dX5_isFigure_3 : decode cX5_isFigure 3 = .ok (.if_icmp .lt 13, 3) := by decide +kernel
theorem dX5_isFigure_6 : decode cX5_isFigure 6 = .ok (.iload_n 0, 1) := by decide +kernel
theorem dX5_isFigure_7 : decode cX5_isFigure 7 = .ok (.bipush 57, 2) := by decide +kernel
theorem dX5_isFigure_9 : decode cX5_isFigure 9 = .ok (.if_icmp .gt 7, 3) := by decide +kernel
theorem dX5_isFigure_12 : decode cX5_isFigure 12 = .ok (.iconst 1, 1) := by decide +kernel
theorem dX5_isFigure_13 : decode cX5_isFigure 13 = .ok (.goto 4, 3) := by decide +kernel
theorem dX5_isFigure_16 : decode cX5_isFigure 16 = .ok (.iconst 0, 1) := by decide +kernel
theorem dX5_isFigure_17 : decode cX5_isFigure 17 = .ok (.ireturn, 1) := by decide +kernel
def rmX5_isFigure : Room := { frames := 0, cells := 0, slots := 0, locals := 0 }
theorem zdX5_isFigure : yX5_isFigure.cls = RX5 ∧ yX5_isFigure.cls ≠ "java/lang/invoke/MethodHandle" ∧ yX5_isFigure.cls ≠ "java/lang/invoke/VarHandle" ∧ (parseMethodDescriptor yX5_isFigure.desc).map (fun d => d.parameters.length) = some 1 := by decide +kernel
def s_X5_isFigure (a1 : Int32) : Option (Int32) :=
  (if a1 < 48 then (some 0) else ((if 57 < a1 then (some 0) else (some 1))))
set_option maxRecDepth 100000 in
set_option maxHeartbeats 4000000 in
theorem c_X5_isFigure (l : Launch) (w : ZW) {m : Mem} {a1 : Int32} {r9 : Int32}  (hf : s_X5_isFigure a1 = some r9) : zCi MX l w yX5_isFigure wsX5_isFigure rmX5_isFigure [.int a1] m m r9 := by
  refine z_met_z MX_ok (own := RX5) (by decide +kernel) rfl rfl (Nat.le_of_ble_eq_true rfl) ?_
  intro K C hKw hKl hret
  subst hKw
  subst hKl
  unfold s_X5_isFigure at hf
  show zGo MX K m [(0, .int a1)] 0 []
  refine z_iload_n C 0 dX5_isFigure_0 rfl rfl ?_
  refine z_bipush C (v := 48) dX5_isFigure_1 rfl ?_
  refine z_icmp_lt (tgt := 16) C dX5_isFigure_3 (by decide) (fun c2 => ?_) (fun c2 => ?_)
  · replace hf := if_t c2 hf
    refine z_iconst C (v := 0) dX5_isFigure_16 rfl ?_
    cases hf
    exact hret _ _ dX5_isFigure_17 (Or.inl rfl)
  · replace hf := if_f c2 hf
    refine z_iload_n C 0 dX5_isFigure_6 rfl rfl ?_
    refine z_bipush C (v := 57) dX5_isFigure_7 rfl ?_
    refine z_icmp_gt (tgt := 16) C dX5_isFigure_9 (by decide) (fun c1 => ?_) (fun c1 => ?_)
    · replace hf := if_t c1 hf
      refine z_iconst C (v := 0) dX5_isFigure_16 rfl ?_
      cases hf
      exact hret _ _ dX5_isFigure_17 (Or.inl rfl)
    · replace hf := if_f c1 hf
      refine z_iconst C (v := 1) dX5_isFigure_12 rfl ?_
      refine z_goto (tgt := 17) C dX5_isFigure_13 (by decide) ?_
      cases hf
      exact hret _ _ dX5_isFigure_17 (Or.inr rfl)
set_option maxRecDepth 20000 in
theorem ggX5_readNumber_X3_byteAt : GoodIn wsX5_readNumber wsX3_byteAt := goodIn_sub (List.forall_mem_cons.mpr ⟨(List.mem_of_getElem? (i := 8) rfl), (List.forall_mem_append.mpr ⟨(List.forall_mem_cons.mpr ⟨(List.mem_of_getElem? (i := 9) rfl), (List.forall_mem_cons.mpr ⟨(List.mem_of_getElem? (i := 10) rfl), (fun _ h => absurd h List.not_mem_nil)⟩)⟩), (fun _ h => (List.mem_cons_of_mem _ (List.mem_append_right _ h)))⟩)⟩) (by decide +kernel)
set_option maxRecDepth 20000 in
theorem gX5_readNumber_X3_byteAt : GoodIn wsX5_readNumber (wsV RX5 22 RX3 yX3_byteAt wsX3_byteAt) := goodIn_app (goodIn_sub (List.forall_mem_cons.mpr ⟨(List.mem_of_getElem? (i := 4) rfl), (List.forall_mem_cons.mpr ⟨(List.mem_of_getElem? (i := 5) rfl), (List.forall_mem_cons.mpr ⟨(List.mem_of_getElem? (i := 6) rfl), (List.forall_mem_cons.mpr ⟨(List.mem_of_getElem? (i := 7) rfl), (fun _ h => absurd h List.not_mem_nil)⟩)⟩)⟩)⟩) (by decide +kernel)) ggX5_readNumber_X3_byteAt
set_option maxRecDepth 20000 in
theorem ggX5_readNumber_X5_isFigure : GoodIn wsX5_readNumber wsX5_isFigure := goodIn_sub (List.forall_mem_cons.mpr ⟨(List.mem_of_getElem? (i := 14) rfl), (fun _ h => absurd h List.not_mem_nil)⟩) (by decide +kernel)
set_option maxRecDepth 20000 in
theorem gX5_readNumber_X5_isFigure : GoodIn wsX5_readNumber (va_wsS RX5 36 yX5_isFigure wsX5_isFigure) := goodIn_app (goodIn_sub (List.forall_mem_cons.mpr ⟨(List.mem_of_getElem? (i := 11) rfl), (List.forall_mem_cons.mpr ⟨(List.mem_of_getElem? (i := 12) rfl), (List.forall_mem_cons.mpr ⟨(List.mem_of_getElem? (i := 13) rfl), (fun _ h => absurd h List.not_mem_nil)⟩)⟩)⟩) (by decide +kernel)) ggX5_readNumber_X5_isFigure
set_option maxRecDepth 20000 in
theorem ggX5_readNumber_X5_become : GoodIn wsX5_readNumber wsX5_become := goodIn_sub (List.forall_mem_cons.mpr ⟨(List.mem_of_getElem? (i := 18) rfl), (List.forall_mem_append.mpr ⟨(List.forall_mem_cons.mpr ⟨(List.mem_of_getElem? (i := 19) rfl), (List.forall_mem_cons.mpr ⟨(List.mem_of_getElem? (i := 2) rfl), (List.forall_mem_cons.mpr ⟨(List.mem_of_getElem? (i := 20) rfl), (fun _ h => absurd h List.not_mem_nil)⟩)⟩)⟩), (fun _ h => (List.mem_cons_of_mem _ (List.mem_append_left _ (List.mem_append_right _ h))))⟩)⟩) (by decide +kernel)
set_option maxRecDepth 20000 in
theorem gX5_readNumber_X5_become : GoodIn wsX5_readNumber (wsV RX5 29 RX5 yX5_become wsX5_become) := goodIn_app (goodIn_sub (List.forall_mem_cons.mpr ⟨(List.mem_of_getElem? (i := 15) rfl), (List.forall_mem_cons.mpr ⟨(List.mem_of_getElem? (i := 16) rfl), (List.forall_mem_cons.mpr ⟨(List.mem_of_getElem? (i := 17) rfl), (List.forall_mem_cons.mpr ⟨(List.mem_of_getElem? (i := 13) rfl), (fun _ h => absurd h List.not_mem_nil)⟩)⟩)⟩)⟩) (by decide +kernel)) ggX5_readNumber_X5_become
set_option maxRecDepth 100000 in
theorem daX5_readNumber : ∀ q ∈ ([(0, .aload_n 0, 1), (1, .getfield 7, 3), (4, .aload_n 0, 1), (5, .getfield 26, 3), (8, .invokevirtual 22, 3), (11, .bipush 45, 2), (13, .if_icmp .ne 7, 3), (16, .iconst 1, 1), (17, .goto 4, 3), (20, .iconst 0, 1), (21, .istore_n 1, 1), (22, .iload_n 1, 1), (23, .ifCond .eq 12, 3), (26, .aload_n 0, 1), (27, .getfield 26, 3), (30, .iconst 1, 1), (31, .iadd, 1), (32, .goto 7, 3), (35, .aload_n 0, 1), (36, .getfield 26, 3), (39, .istore_n 2, 1), (40, .iconst 0, 1), (41, .istore_n 3, 1), (42, .iconst 0, 1), (43, .istore 4, 2), (45, .iload_n 3, 1), (46, .iconst 4, 1), (47, .if_icmp .gt 46, 3), (50, .aload_n 0, 1), (51, .getfield 7, 3), (54, .iload_n 2, 1), (55, .iload_n 3, 1), (56, .iadd, 1), (57, .invokevirtual 22, 3), (60, .invokestatic 36, 3), (63, .ifCond .eq 30, 3), (66, .iload 4, 2), (68, .bipush 10, 2), (70, .imul, 1), (71, .aload_n 0, 1), (72, .getfield 7, 3), (75, .iload_n 2, 1), (76, .iload_n 3, 1), (77, .iadd, 1), (78, .invokevirtual 22, 3), (81, .iadd, 1), (82, .bipush 48, 2), (84, .isub, 1), (85, .istore 4, 2), (87, .iinc 3 1, 3), (90, .goto (-45), 3), (93, .aload_n 0, 1), (94, .iload_n 1, 1), (95, .ifCond .eq 9, 3), (98, .iload 4, 2), (100, .ineg, 1), (101, .goto 5, 3), (104, .iload 4, 2), (106, .putfield 33, 3), (109, .aload_n 0, 1), (110, .iload_n 3, 1), (111, .iconst 1, 1), (112, .if_icmp .lt 12, 3), (115, .iload_n 3, 1), (116, .iconst 4, 1), (117, .if_icmp .gt 7, 3), (120, .iconst 3, 1), (121, .goto 4, 3), (124, .iconst 1, 1), (125, .iload_n 2, 1), (126, .aload_n 0, 1), (127, .getfield 26, 3), (130, .isub, 1), (131, .iload_n 3, 1), (132, .iadd, 1), (133, .invokevirtual 29, 3), (136, .return_, 1)] : List (Nat × Instr × Nat)), decode cX5_readNumber q.1 = .ok q.2 := by decide +kernel
theorem dX5_readNumber_0 : decode cX5_readNumber 0 = .ok (.aload_n 0, 1) := daX5_readNumber (0, .aload_n 0, 1) (List.mem_of_getElem? (i := 0) rfl)
theorem dX5_readNumber_1 : decode cX5_readNumber 1 = .ok (.getfield 7, 3) := daX5_readNumber (1, .getfield 7, 3) (List.mem_of_getElem? (i := 1) rfl)
theorem dX5_readNumber_4 : decode cX5_readNumber 4 = .ok (.aload_n 0, 1) := daX5_readNumber (4, .aload_n 0, 1) (List.mem_of_getElem? (i := 2) rfl)
theorem dX5_readNumber_5 : decode cX5_readNumber 5 = .ok (.getfield 26, 3) := daX5_readNumber (5, .getfield 26, 3) (List.mem_of_getElem? (i := 3) rfl)
theorem dX5_readNumber_8 : decode cX5_readNumber 8 = .ok (.invokevirtual 22, 3) := daX5_readNumber (8, .invokevirtual 22, 3) (List.mem_of_getElem? (i := 4) rfl)
theorem dX5_readNumber_11 : decode cX5_readNumber 11 = .ok (.bipush 45, 2) := daX5_readNumber (11, .bipush 45, 2) (List.mem_of_getElem? (i := 5) rfl)
theorem dX5_readNumber_13 : decode cX5_readNumber 13 = .ok (.if_icmp .ne 7, 3) := daX5_readNumber (13, .if_icmp .ne 7, 3) (List.mem_of_getElem? (i := 6) rfl)
theorem dX5_readNumber_16 : decode cX5_readNumber 16 = .ok (.iconst 1, 1) := daX5_readNumber (16, .iconst 1, 1) (List.mem_of_getElem? (i := 7) rfl)
theorem dX5_readNumber_17 : decode cX5_readNumber 17 = .ok (.goto 4, 3) := daX5_readNumber (17, .goto 4, 3) (List.mem_of_getElem? (i := 8) rfl)
theorem dX5_readNumber_20 : decode cX5_readNumber 20 = .ok (.iconst 0, 1) := daX5_readNumber (20, .iconst 0, 1) (List.mem_of_getElem? (i := 9) rfl)
theorem dX5_readNumber_21 : decode cX5_readNumber 21 = .ok (.istore_n 1, 1) := daX5_readNumber (21, .istore_n 1, 1) (List.mem_of_getElem? (i := 10) rfl)
theorem dX5_readNumber_22 : decode cX5_readNumber 22 = .ok (.iload_n 1, 1) := daX5_readNumber (22, .iload_n 1, 1) (List.mem_of_getElem? (i := 11) rfl)
theorem dX5_readNumber_23 : decode cX5_readNumber 23 = .ok (.ifCond .eq 12, 3) := daX5_readNumber (23, .ifCond .eq 12, 3) (List.mem_of_getElem? (i := 12) rfl)
theorem dX5_readNumber_26 : decode cX5_readNumber 26 = .ok (.aload_n 0, 1) := daX5_readNumber (26, .aload_n 0, 1) (List.mem_of_getElem? (i := 13) rfl)
theorem dX5_readNumber_27 : decode cX5_readNumber 27 = .ok (.getfield 26, 3) := daX5_readNumber (27, .getfield 26, 3) (List.mem_of_getElem? (i := 14) rfl)
theorem dX5_readNumber_30 : decode cX5_readNumber 30 = .ok (.iconst 1, 1) := daX5_readNumber (30, .iconst 1, 1) (List.mem_of_getElem? (i := 15) rfl)
theorem dX5_readNumber_31 : decode cX5_readNumber 31 = .ok (.iadd, 1) := daX5_readNumber (31, .iadd, 1) (List.mem_of_getElem? (i := 16) rfl)
theorem dX5_readNumber_32 : decode cX5_readNumber 32 = .ok (.goto 7, 3) := daX5_readNumber (32, .goto 7, 3) (List.mem_of_getElem? (i := 17) rfl)
theorem dX5_readNumber_35 : decode cX5_readNumber 35 = .ok (.aload_n 0, 1) := daX5_readNumber (35, .aload_n 0, 1) (List.mem_of_getElem? (i := 18) rfl)
theorem dX5_readNumber_36 : decode cX5_readNumber 36 = .ok (.getfield 26, 3) := daX5_readNumber (36, .getfield 26, 3) (List.mem_of_getElem? (i := 19) rfl)
theorem dX5_readNumber_39 : decode cX5_readNumber 39 = .ok (.istore_n 2, 1) := daX5_readNumber (39, .istore_n 2, 1) (List.mem_of_getElem? (i := 20) rfl)
theorem dX5_readNumber_40 : decode cX5_readNumber 40 = .ok (.iconst 0, 1) := daX5_readNumber (40, .iconst 0, 1) (List.mem_of_getElem? (i := 21) rfl)
theorem dX5_readNumber_41 : decode cX5_readNumber 41 = .ok (.istore_n 3, 1) := daX5_readNumber (41, .istore_n 3, 1) (List.mem_of_getElem? (i := 22) rfl)
theorem dX5_readNumber_42 : decode cX5_readNumber 42 = .ok (.iconst 0, 1) := daX5_readNumber (42, .iconst 0, 1) (List.mem_of_getElem? (i := 23) rfl)
theorem dX5_readNumber_43 : decode cX5_readNumber 43 = .ok (.istore 4, 2) := daX5_readNumber (43, .istore 4, 2) (List.mem_of_getElem? (i := 24) rfl)
theorem dX5_readNumber_45 : decode cX5_readNumber 45 = .ok (.iload_n 3, 1) := daX5_readNumber (45, .iload_n 3, 1) (List.mem_of_getElem? (i := 25) rfl)
theorem dX5_readNumber_46 : decode cX5_readNumber 46 = .ok (.iconst 4, 1) := daX5_readNumber (46, .iconst 4, 1) (List.mem_of_getElem? (i := 26) rfl)
theorem dX5_readNumber_47 : decode cX5_readNumber 47 = .ok (.if_icmp .gt 46, 3) := daX5_readNumber (47, .if_icmp .gt 46, 3) (List.mem_of_getElem? (i := 27) rfl)
theorem dX5_readNumber_50 : decode cX5_readNumber 50 = .ok (.aload_n 0, 1) := daX5_readNumber (50, .aload_n 0, 1) (List.mem_of_getElem? (i := 28) rfl)
theorem dX5_readNumber_51 : decode cX5_readNumber 51 = .ok (.getfield 7, 3) := daX5_readNumber (51, .getfield 7, 3) (List.mem_of_getElem? (i := 29) rfl)
theorem dX5_readNumber_54 : decode cX5_readNumber 54 = .ok (.iload_n 2, 1) := daX5_readNumber (54, .iload_n 2, 1) (List.mem_of_getElem? (i := 30) rfl)
theorem dX5_readNumber_55 : decode cX5_readNumber 55 = .ok (.iload_n 3, 1) := daX5_readNumber (55, .iload_n 3, 1) (List.mem_of_getElem? (i := 31) rfl)
theorem dX5_readNumber_56 : decode cX5_readNumber 56 = .ok (.iadd, 1) := daX5_readNumber (56, .iadd, 1) (List.mem_of_getElem? (i := 32) rfl)
theorem dX5_readNumber_57 : decode cX5_readNumber 57 = .ok (.invokevirtual 22, 3) := daX5_readNumber (57, .invokevirtual 22, 3) (List.mem_of_getElem? (i := 33) rfl)
theorem dX5_readNumber_60 : decode cX5_readNumber 60 = .ok (.invokestatic 36, 3) := daX5_readNumber (60, .invokestatic 36, 3) (List.mem_of_getElem? (i := 34) rfl)
theorem dX5_readNumber_63 : decode cX5_readNumber 63 = .ok (.ifCond .eq 30, 3) := daX5_readNumber (63, .ifCond .eq 30, 3) (List.mem_of_getElem? (i := 35) rfl)
theorem dX5_readNumber_66 : decode cX5_readNumber 66 = .ok (.iload 4, 2) := daX5_readNumber (66, .iload 4, 2) (List.mem_of_getElem? (i := 36) rfl)
theorem dX5_readNumber_68 : decode cX5_readNumber 68 = .ok (.bipush 10, 2) := daX5_readNumber (68, .bipush 10, 2) (List.mem_of_getElem? (i := 37) rfl)
theorem dX5_readNumber_70 : decode cX5_readNumber 70 = .ok (.imul, 1) := daX5_readNumber (70, .imul, 1) (List.mem_of_getElem? (i := 38) rfl)
theorem dX5_readNumber_71 : decode cX5_readNumber 71 = .ok (.aload_n 0, 1) := daX5_readNumber (71, .aload_n 0, 1) (List.mem_of_getElem? (i := 39) rfl)
theorem dX5_readNumber_72 : decode cX5_readNumber 72 = .ok (.getfield 7, 3) := daX5_readNumber (72, .getfield 7, 3) (List.mem_of_getElem? (i := 40) rfl)
theorem dX5_readNumber_75 : decode cX5_readNumber 75 = .ok (.iload_n 2, 1) := daX5_readNumber (75, .iload_n 2, 1) (List.mem_of_getElem? (i := 41) rfl)
theorem dX5_readNumber_76 : decode cX5_readNumber 76 = .ok (.iload_n 3, 1) := daX5_readNumber (76, .iload_n 3, 1) (List.mem_of_getElem? (i := 42) rfl)
theorem dX5_readNumber_77 : decode cX5_readNumber 77 = .ok (.iadd, 1) := daX5_readNumber (77, .iadd, 1) (List.mem_of_getElem? (i := 43) rfl)
theorem dX5_readNumber_78 : decode cX5_readNumber 78 = .ok (.invokevirtual 22, 3) := daX5_readNumber (78, .invokevirtual 22, 3) (List.mem_of_getElem? (i := 44) rfl)
theorem dX5_readNumber_81 : decode cX5_readNumber 81 = .ok (.iadd, 1) := daX5_readNumber (81, .iadd, 1) (List.mem_of_getElem? (i := 45) rfl)
theorem dX5_readNumber_82 : decode cX5_readNumber 82 = .ok (.bipush 48, 2) := daX5_readNumber (82, .bipush 48, 2) (List.mem_of_getElem? (i := 46) rfl)
theorem dX5_readNumber_84 : decode cX5_readNumber 84 = .ok (.isub, 1) := daX5_readNumber (84, .isub, 1) (List.mem_of_getElem? (i := 47) rfl)
theorem dX5_readNumber_85 : decode cX5_readNumber 85 = .ok (.istore 4, 2) := daX5_readNumber (85, .istore 4, 2) (List.mem_of_getElem? (i := 48) rfl)
theorem dX5_readNumber_87 : decode cX5_readNumber 87 = .ok (.iinc 3 1, 3) := daX5_readNumber (87, .iinc 3 1, 3) (List.mem_of_getElem? (i := 49) rfl)
theorem dX5_readNumber_90 : decode cX5_readNumber 90 = .ok (.goto (-45), 3) := daX5_readNumber (90, .goto (-45), 3) (List.mem_of_getElem? (i := 50) rfl)
theorem dX5_readNumber_93 : decode cX5_readNumber 93 = .ok (.aload_n 0, 1) := daX5_readNumber (93, .aload_n 0, 1) (List.mem_of_getElem? (i := 51) rfl)
theorem dX5_readNumber_94 : decode cX5_readNumber 94 = .ok (.iload_n 1, 1) := daX5_readNumber (94, .iload_n 1, 1) (List.mem_of_getElem? (i := 52) rfl)
theorem dX5_readNumber_95 : decode cX5_readNumber 95 = .ok (.ifCond .eq 9, 3) := daX5_readNumber (95, .ifCond .eq 9, 3) (List.mem_of_getElem? (i := 53) rfl)
theorem dX5_readNumber_98 : decode cX5_readNumber 98 = .ok (.iload 4, 2) := daX5_readNumber (98, .iload 4, 2) (List.mem_of_getElem? (i := 54) rfl)
theorem dX5_readNumber_100 : decode cX5_readNumber 100 = .ok (.ineg, 1) := daX5_readNumber (100, .ineg, 1) (List.mem_of_getElem? (i := 55) rfl)
theorem dX5_readNumber_101 : decode cX5_readNumber 101 = .ok (.goto 5, 3) := daX5_readNumber (101, .goto 5, 3) (List.mem_of_getElem? (i := 56) rfl)
theorem dX5_readNumber_104 : decode cX5_readNumber 104 = .ok (.iload 4, 2) := daX5_readNumber (104, .iload 4, 2) (List.mem_of_getElem? (i := 57) rfl)
theorem dX5_readNumber_106 : decode cX5_readNumber 106 = .ok (.putfield 33, 3) := daX5_readNumber (106, .putfield 33, 3) (List.mem_of_getElem? (i := 58) rfl)
theorem dX5_readNumber_109 : decode cX5_readNumber 109 = .ok (.aload_n 0, 1) := daX5_readNumber (109, .aload_n 0, 1) (List.mem_of_getElem? (i := 59) rfl)
theorem dX5_readNumber_110 : decode cX5_readNumber 110 = .ok (.iload_n 3, 1) := daX5_readNumber (110, .iload_n 3, 1) (List.mem_of_getElem? (i := 60) rfl)
theorem dX5_readNumber_111 : decode cX5_readNumber 111 = .ok (.iconst 1, 1) := daX5_readNumber (111, .iconst 1, 1) (List.mem_of_getElem? (i := 61) rfl)
theorem dX5_readNumber_112 : decode cX5_readNumber 112 = .ok (.if_icmp .lt 12, 3) := daX5_readNumber (112, .if_icmp .lt 12, 3) (List.mem_of_getElem? (i := 62) rfl)
theorem dX5_readNumber_115 : decode cX5_readNumber 115 = .ok (.iload_n 3, 1) := daX5_readNumber (115, .iload_n 3, 1) (List.mem_of_getElem? (i := 63) rfl)
theorem dX5_readNumber_116 : decode cX5_readNumber 116 = .ok (.iconst 4, 1) := daX5_readNumber (116, .iconst 4, 1) (List.mem_of_getElem? (i := 64) rfl)
theorem dX5_readNumber_117 : decode cX5_readNumber 117 = .ok (.if_icmp .gt 7, 3) := daX5_readNumber (117, .if_icmp .gt 7, 3) (List.mem_of_getElem? (i := 65) rfl)
theorem dX5_readNumber_120 : decode cX5_readNumber 120 = .ok (.iconst 3, 1) := daX5_readNumber (120, .iconst 3, 1) (List.mem_of_getElem? (i := 66) rfl)
theorem dX5_readNumber_121 : decode cX5_readNumber 121 = .ok (.goto 4, 3) := daX5_readNumber (121, .goto 4, 3) (List.mem_of_getElem? (i := 67) rfl)
theorem dX5_readNumber_124 : decode cX5_readNumber 124 = .ok (.iconst 1, 1) := daX5_readNumber (124, .iconst 1, 1) (List.mem_of_getElem? (i := 68) rfl)
theorem dX5_readNumber_125 : decode cX5_readNumber 125 = .ok (.iload_n 2, 1) := daX5_readNumber (125, .iload_n 2, 1) (List.mem_of_getElem? (i := 69) rfl)
theorem dX5_readNumber_126 : decode cX5_readNumber 126 = .ok (.aload_n 0, 1) := daX5_readNumber (126, .aload_n 0, 1) (List.mem_of_getElem? (i := 70) rfl)
theorem dX5_readNumber_127 : decode cX5_readNumber 127 = .ok (.getfield 26, 3) := daX5_readNumber (127, .getfield 26, 3) (List.mem_of_getElem? (i := 71) rfl)
theorem dX5_readNumber_130 : decode cX5_readNumber 130 = .ok (.isub, 1) := daX5_readNumber (130, .isub, 1) (List.mem_of_getElem? (i := 72) rfl)
theorem dX5_readNumber_131 : decode cX5_readNumber 131 = .ok (.iload_n 3, 1) := daX5_readNumber (131, .iload_n 3, 1) (List.mem_of_getElem? (i := 73) rfl)
theorem dX5_readNumber_132 : decode cX5_readNumber 132 = .ok (.iadd, 1) := daX5_readNumber (132, .iadd, 1) (List.mem_of_getElem? (i := 74) rfl)
theorem dX5_readNumber_133 : decode cX5_readNumber 133 = .ok (.invokevirtual 29, 3) := daX5_readNumber (133, .invokevirtual 29, 3) (List.mem_of_getElem? (i := 75) rfl)
theorem dX5_readNumber_136 : decode cX5_readNumber 136 = .ok (.return_, 1) := daX5_readNumber (136, .return_, 1) (List.mem_of_getElem? (i := 76) rfl)
def rmX5_readNumber : Room := { frames := 1, cells := 0, slots := 0, locals := 22 }
theorem zdX5_readNumber : yX5_readNumber.cls = RX5 ∧ yX5_readNumber.cls ≠ "java/lang/invoke/MethodHandle" ∧ yX5_readNumber.cls ≠ "java/lang/invoke/VarHandle" ∧ (parseMethodDescriptor yX5_readNumber.desc).map (fun d => d.parameters.length) = some 0 := by decide +kernel
theorem kiX5_readNumber_X5 : ∀ w ∈ wsX50, w ∈ wsX5_readNumber := fun _ h => (List.mem_cons_of_mem _ (List.mem_append_left _ (List.mem_append_right _ h)))
theorem kfX5_readNumber_7 : Cond.fieldLink RX5 7 "ShapeJudge$Tokens" "tape" "LShapeJudge$Tape;" ∈ wsX5_readNumber := (List.mem_of_getElem? (i := 1) rfl)
theorem kfX5_readNumber_26 : Cond.fieldLink RX5 26 "ShapeJudge$Tokens" "place" "I" ∈ wsX5_readNumber := (List.mem_of_getElem? (i := 2) rfl)
theorem kfX5_readNumber_33 : Cond.fieldLink RX5 33 "ShapeJudge$Tokens" "number" "I" ∈ wsX5_readNumber := (List.mem_of_getElem? (i := 3) rfl)
def t_X5_readNumber_45 (m : Mem) (y4 : Int32) (i5 : Int32) (i6 : Int32) : Option ((Int32 × Int32) ⊕ (Int32 × Int32)) :=
  (if 4 < i5 then (some (.inr (i5, i6))) else ((s_X3_byteAt m (y4 + i5)).bind fun r8 => (s_X5_isFigure r8).bind fun r10 => (if r10 = 0 then (some (.inr (i5, i6))) else ((s_X3_byteAt m (y4 + i5)).bind fun r12 => bn (((i6 * 10) + r12) - 48) fun x13 => bn (i5 + 1) fun x14 => some (.inl (x14, x13))))))
def l_X5_readNumber_45 (m : Mem) (y4 : Int32) (n : Nat) (i5 : Int32) (i6 : Int32) : Option (Int32 × Int32) := zlp n (fun a => t_X5_readNumber_45 m y4 a.1 a.2) (i5, i6)
def s_X5_readNumber (m : Mem)  : Option (Mem) :=
  (s_X3_byteAt m (m 10 3)).bind fun r2 => (((if r2 = 45 then (some 1) else (some 0)) : Option (Int32)).bind fun y3 => (((if y3 = 0 then (some (m 10 3)) else (some ((m 10 3) + 1))) : Option (Int32)).bind fun y4 => (zb2 (l_X5_readNumber_45 m y4 FU 0 0) fun y17 y18 => (((if y3 = 0 then (some y18) else (some (-y18))) : Option (Int32)).bind fun y19 => bn (sto m 10 4 y19) fun m20 => (if y17 < 1 then ((s_X5_become m20 1 ((y4 - (m20 10 3)) + y17)).bind fun m22 => some m22) else ((if 4 < y17 then ((s_X5_become m20 1 ((y4 - (m20 10 3)) + y17)).bind fun m24 => some m24) else ((s_X5_become m20 3 ((y4 - (m20 10 3)) + y17)).bind fun m26 => some m26))))))))
set_option maxRecDepth 100000 in
set_option maxHeartbeats 4000000 in
theorem w_X5_readNumber_45 {K : ZK} (C : zOK MX K cX5_readNumber 5 none RX5 wsX5_readNumber rmX5_readNumber) {m : Mem} {y3 : Int32} {y4 : Int32}  {o0 : Int32} {o1 : Int32} (hk : zGo MX K m [(0, .ref ((zw K).2.1 10)), (1, .int y3), (2, .int y4), (3, .int o0), (4, .int o1)] 93 []) : ∀ (n : Nat) (i5 : Int32) (i6 : Int32), l_X5_readNumber_45 m y4 n i5 i6 = some (o0, o1) → zGo MX K m [(0, .ref ((zw K).2.1 10)), (1, .int y3), (2, .int y4), (3, .int i5), (4, .int i6)] 45 [] := by
  intro n
  induction n with
  | zero =>
    intro i5 i6 hf
    cases hf
  | succ n ih =>
    intro i5 i6 hf
    obtain ⟨z, hf, hz⟩ := zlp_el hf
    replace hf : t_X5_readNumber_45 m y4 i5 i6 = some z := hf
    unfold t_X5_readNumber_45 at hf
    refine z_iload_n C 3 dX5_readNumber_45 rfl rfl ?_
    refine z_iconst C (v := 4) dX5_readNumber_46 rfl ?_
    refine z_icmp_gt (tgt := 93) C dX5_readNumber_47 (by decide) (fun c16 => ?_) (fun c16 => ?_)
    · replace hf := if_t c16 hf
      cases hf
      replace hz := zlz_r hz
      cases hz
      exact z_sub [0, 1, 2, 3, 4] rfl hk
    · replace hf := if_f c16 hf
      refine z_aload_n C 0 dX5_readNumber_50 rfl rfl ?_
      refine z_getr C (t := 7) (Nat.le_of_ble_eq_true rfl) rfl rfl 0 (Nat.le_of_ble_eq_true rfl) rfl kiX5_readNumber_X5 kfX5_readNumber_7 dX5_readNumber_51 ?_
      refine z_iload_n C 2 dX5_readNumber_54 rfl rfl ?_
      refine z_iload_n C 3 dX5_readNumber_55 rfl rfl ?_
      refine z_iadd C dX5_readNumber_56 ?_
      obtain ⟨r8, hc7, hf⟩ := zb_el hf
      refine z_cVi C (c_X3_byteAt _ _ hc7) rfl gX5_readNumber_X3_byteAt rfl rfl zdX3_byteAt rfl (Nat.le_of_ble_eq_true rfl) rfl rfl rfl ⟨Nat.le_of_ble_eq_true rfl, Nat.le_of_ble_eq_true rfl⟩ (Nat.le_of_ble_eq_true rfl) dX5_readNumber_57 rfl ?_
      obtain ⟨r10, hc9, hf⟩ := zb_el hf
      refine z_cSi C (c_X5_isFigure _ _ hc9) rfl gX5_readNumber_X5_isFigure rfl rfl zdX5_isFigure.2 rfl ⟨Nat.le_of_ble_eq_true rfl, Nat.le_of_ble_eq_true rfl⟩ (Nat.le_of_ble_eq_true rfl) dX5_readNumber_60 rfl ?_
      refine z_if_eq (tgt := 93) C dX5_readNumber_63 (by decide) (fun c15 => ?_) (fun c15 => ?_)
      · replace hf := if_t c15 hf
        cases hf
        replace hz := zlz_r hz
        cases hz
        exact z_sub [0, 1, 2, 3, 4] rfl hk
      · replace hf := if_f c15 hf
        refine z_iload C 4 dX5_readNumber_66 rfl ?_
        refine z_bipush C (v := 10) dX5_readNumber_68 rfl ?_
        refine z_imul C dX5_readNumber_70 ?_
        refine z_aload_n C 0 dX5_readNumber_71 rfl rfl ?_
        refine z_getr C (t := 7) (Nat.le_of_ble_eq_true rfl) rfl rfl 0 (Nat.le_of_ble_eq_true rfl) rfl kiX5_readNumber_X5 kfX5_readNumber_7 dX5_readNumber_72 ?_
        refine z_iload_n C 2 dX5_readNumber_75 rfl rfl ?_
        refine z_iload_n C 3 dX5_readNumber_76 rfl rfl ?_
        refine z_iadd C dX5_readNumber_77 ?_
        obtain ⟨r12, hc11, hf⟩ := zb_el hf
        refine z_cVi C (c_X3_byteAt _ _ hc11) rfl gX5_readNumber_X3_byteAt rfl rfl zdX3_byteAt rfl (Nat.le_of_ble_eq_true rfl) rfl rfl rfl ⟨Nat.le_of_ble_eq_true rfl, Nat.le_of_ble_eq_true rfl⟩ (Nat.le_of_ble_eq_true rfl) dX5_readNumber_78 rfl ?_
        refine z_iadd C dX5_readNumber_81 ?_
        refine z_bipush C (v := 48) dX5_readNumber_82 rfl ?_
        refine z_isub C dX5_readNumber_84 ?_
        refine z_topi (fun x13 e_x13 => ?_)
        replace hf := bn_to e_x13 hf
        refine z_istore C (lv2 := [(0, .ref ((zw K).2.1 10)), (1, .int y3), (2, .int y4), (3, .int i5), (4, .int x13)]) [1, 2, 3, 4, 0] dX5_readNumber_85 (Nat.le_of_ble_eq_true rfl) rfl ?_
        obtain ⟨x14, e_x14⟩ : ∃ y : Int32, y = i5 + 1 := ⟨_, rfl⟩
        replace hf := bn_to e_x14 hf
        refine z_iinc C (lv2 := [(0, .ref ((zw K).2.1 10)), (1, .int y3), (2, .int y4), (3, .int x14), (4, .int x13)]) 3 [1, 2, 3, 0, 4] dX5_readNumber_87 rfl rfl (Nat.le_of_ble_eq_true rfl) e_x14 rfl ?_
        refine z_goto (tgt := 45) C dX5_readNumber_90 (by decide) ?_
        cases hf
        exact z_sub [0, 1, 2, 3, 4] rfl (ih x14 x13 hz)
set_option maxRecDepth 100000 in
set_option maxHeartbeats 4000000 in
theorem c_X5_readNumber (l : Launch) (w : ZW) {m : Mem}  {m9 : Mem}  (hf : s_X5_readNumber m  = some m9) : zCv MX l w yX5_readNumber wsX5_readNumber rmX5_readNumber [.ref (w.2.1 10)] m m9 := by
  refine z_met_v MX_ok (own := RX5) (by decide +kernel) rfl rfl (Nat.le_of_ble_eq_true rfl) ?_
  intro K C hKw hKl hret
  subst hKw
  subst hKl
  unfold s_X5_readNumber at hf
  show zGo MX K m [(0, .ref ((zw K).2.1 10))] 0 []
  refine z_aload_n C 0 dX5_readNumber_0 rfl rfl ?_
  refine z_getr C (t := 7) (Nat.le_of_ble_eq_true rfl) rfl rfl 0 (Nat.le_of_ble_eq_true rfl) rfl kiX5_readNumber_X5 kfX5_readNumber_7 dX5_readNumber_1 ?_
  refine z_aload_n C 0 dX5_readNumber_4 rfl rfl ?_
  refine z_geti C (Nat.le_of_ble_eq_true rfl) rfl rfl 3 (Nat.le_of_ble_eq_true rfl) rfl kiX5_readNumber_X5 kfX5_readNumber_26 dX5_readNumber_5 ?_
  obtain ⟨r2, hc1, hf⟩ := zb_el hf
  refine z_cVi C (c_X3_byteAt _ _ hc1) rfl gX5_readNumber_X3_byteAt rfl rfl zdX3_byteAt rfl (Nat.le_of_ble_eq_true rfl) rfl rfl rfl ⟨Nat.le_of_ble_eq_true rfl, Nat.le_of_ble_eq_true rfl⟩ (Nat.le_of_ble_eq_true rfl) dX5_readNumber_8 rfl ?_
  refine z_bipush C (v := 45) dX5_readNumber_11 rfl ?_
  obtain ⟨y3, hg, hf⟩ := zb_el hf
  have hj : zGo MX K m [(0, .ref ((zw K).2.1 10))] 21 [.int y3] := by
    refine z_istore_n C (lv2 := [(0, .ref ((zw K).2.1 10)), (1, .int y3)]) [1, 0] dX5_readNumber_21 rfl (Nat.le_of_ble_eq_true rfl) rfl ?_
    refine z_iload_n C 1 dX5_readNumber_22 rfl rfl ?_
    obtain ⟨y4, hg, hf⟩ := zb_el hf
    have hj : zGo MX K m [(0, .ref ((zw K).2.1 10)), (1, .int y3)] 39 [.int y4] := by
      refine z_istore_n C (lv2 := [(0, .ref ((zw K).2.1 10)), (1, .int y3), (2, .int y4)]) [1, 2, 0] dX5_readNumber_39 rfl (Nat.le_of_ble_eq_true rfl) rfl ?_
      refine z_iconst C (v := 0) dX5_readNumber_40 rfl ?_
      refine z_istore_n C (lv2 := [(0, .ref ((zw K).2.1 10)), (1, .int y3), (2, .int y4), (3, .int 0)]) [1, 2, 3, 0] dX5_readNumber_41 rfl (Nat.le_of_ble_eq_true rfl) rfl ?_
      refine z_iconst C (v := 0) dX5_readNumber_42 rfl ?_
      refine z_istore C (lv2 := [(0, .ref ((zw K).2.1 10)), (1, .int y3), (2, .int y4), (3, .int 0), (4, .int 0)]) [1, 2, 3, 4, 0] dX5_readNumber_43 (Nat.le_of_ble_eq_true rfl) rfl ?_
      obtain ⟨y17, y18, hg, hf⟩ := zb2_el hf
      refine z_sub [0, 1, 2, 3, 4] rfl (w_X5_readNumber_45 C  ?_ _ _ _ hg)
      clear hg
      refine z_aload_n C 0 dX5_readNumber_93 rfl rfl ?_
      refine z_iload_n C 1 dX5_readNumber_94 rfl rfl ?_
      obtain ⟨y19, hg, hf⟩ := zb_el hf
      have hj : zGo MX K m [(0, .ref ((zw K).2.1 10)), (2, .int y4), (3, .int y17)] 106 [.int y19, .ref ((zw K).2.1 10)] := by
        refine z_puti C (Nat.le_of_ble_eq_true rfl) rfl rfl 4 (Nat.le_of_ble_eq_true rfl) rfl kiX5_readNumber_X5 kfX5_readNumber_33 tyX5 tyX5_ok nmX5 rfl rfl dX5_readNumber_106 ?_
        refine z_nm (fun m20 e_m20 => ?_)
        replace hf := bn_to e_m20 hf
        refine z_aload_n C 0 dX5_readNumber_109 rfl rfl ?_
        refine z_iload_n C 2 dX5_readNumber_110 rfl rfl ?_
        refine z_iconst C (v := 1) dX5_readNumber_111 rfl ?_
        refine z_icmp_lt (tgt := 124) C dX5_readNumber_112 (by decide) (fun c28 => ?_) (fun c28 => ?_)
        · replace hf := if_t c28 hf
          refine z_iconst C (v := 1) dX5_readNumber_124 rfl ?_
          refine z_iload_n C 1 dX5_readNumber_125 rfl rfl ?_
          refine z_aload_n C 0 dX5_readNumber_126 rfl rfl ?_
          refine z_geti C (Nat.le_of_ble_eq_true rfl) rfl rfl 3 (Nat.le_of_ble_eq_true rfl) rfl kiX5_readNumber_X5 kfX5_readNumber_26 dX5_readNumber_127 ?_
          refine z_isub C dX5_readNumber_130 ?_
          refine z_iload_n C 2 dX5_readNumber_131 rfl rfl ?_
          refine z_iadd C dX5_readNumber_132 ?_
          obtain ⟨m22, hc21, hf⟩ := zb_el hf
          refine z_cVv C (c_X5_become _ _ hc21) rfl gX5_readNumber_X5_become rfl rfl zdX5_become rfl (Nat.le_of_ble_eq_true rfl) rfl rfl rfl ⟨Nat.le_of_ble_eq_true rfl, Nat.le_of_ble_eq_true rfl⟩ (Nat.le_of_ble_eq_true rfl) dX5_readNumber_133 rfl ?_
          cases hf
          exact hret _ _ dX5_readNumber_136
        · replace hf := if_f c28 hf
          refine z_iload_n C 2 dX5_readNumber_115 rfl rfl ?_
          refine z_iconst C (v := 4) dX5_readNumber_116 rfl ?_
          refine z_icmp_gt (tgt := 124) C dX5_readNumber_117 (by decide) (fun c27 => ?_) (fun c27 => ?_)
          · replace hf := if_t c27 hf
            refine z_iconst C (v := 1) dX5_readNumber_124 rfl ?_
            refine z_iload_n C 1 dX5_readNumber_125 rfl rfl ?_
            refine z_aload_n C 0 dX5_readNumber_126 rfl rfl ?_
            refine z_geti C (Nat.le_of_ble_eq_true rfl) rfl rfl 3 (Nat.le_of_ble_eq_true rfl) rfl kiX5_readNumber_X5 kfX5_readNumber_26 dX5_readNumber_127 ?_
            refine z_isub C dX5_readNumber_130 ?_
            refine z_iload_n C 2 dX5_readNumber_131 rfl rfl ?_
            refine z_iadd C dX5_readNumber_132 ?_
            obtain ⟨m24, hc23, hf⟩ := zb_el hf
            refine z_cVv C (c_X5_become _ _ hc23) rfl gX5_readNumber_X5_become rfl rfl zdX5_become rfl (Nat.le_of_ble_eq_true rfl) rfl rfl rfl ⟨Nat.le_of_ble_eq_true rfl, Nat.le_of_ble_eq_true rfl⟩ (Nat.le_of_ble_eq_true rfl) dX5_readNumber_133 rfl ?_
            cases hf
            exact hret _ _ dX5_readNumber_136
          · replace hf := if_f c27 hf
            refine z_iconst C (v := 3) dX5_readNumber_120 rfl ?_
            refine z_goto (tgt := 125) C dX5_readNumber_121 (by decide) ?_
            refine z_iload_n C 1 dX5_readNumber_125 rfl rfl ?_
            refine z_aload_n C 0 dX5_readNumber_126 rfl rfl ?_
            refine z_geti C (Nat.le_of_ble_eq_true rfl) rfl rfl 3 (Nat.le_of_ble_eq_true rfl) rfl kiX5_readNumber_X5 kfX5_readNumber_26 dX5_readNumber_127 ?_
            refine z_isub C dX5_readNumber_130 ?_
            refine z_iload_n C 2 dX5_readNumber_131 rfl rfl ?_
            refine z_iadd C dX5_readNumber_132 ?_
            obtain ⟨m26, hc25, hf⟩ := zb_el hf
            refine z_cVv C (c_X5_become _ _ hc25) rfl gX5_readNumber_X5_become rfl rfl zdX5_become rfl (Nat.le_of_ble_eq_true rfl) rfl rfl rfl ⟨Nat.le_of_ble_eq_true rfl, Nat.le_of_ble_eq_true rfl⟩ (Nat.le_of_ble_eq_true rfl) dX5_readNumber_133 rfl ?_
            cases hf
            exact hret _ _ dX5_readNumber_136
      replace hf := hg
      clear hg
      refine z_if_eq (tgt := 104) C dX5_readNumber_95 (by decide) (fun c29 => ?_) (fun c29 => ?_)
      · replace hf := if_t c29 hf
        refine z_iload C 4 dX5_readNumber_104 rfl ?_
        cases hf
        exact z_sub [0, 2, 3] rfl hj
      · replace hf := if_f c29 hf
        refine z_iload C 4 dX5_readNumber_98 rfl ?_
        refine z_ineg C dX5_readNumber_100 ?_
        refine z_goto (tgt := 106) C dX5_readNumber_101 (by decide) ?_
        cases hf
        exact z_sub [0, 2, 3] rfl hj
    replace hf := hg
    clear hg
    refine z_if_eq (tgt := 35) C dX5_readNumber_23 (by decide) (fun c30 => ?_) (fun c30 => ?_)
    · replace hf := if_t c30 hf
      refine z_aload_n C 0 dX5_readNumber_35 rfl rfl ?_
      refine z_geti C (Nat.le_of_ble_eq_true rfl) rfl rfl 3 (Nat.le_of_ble_eq_true rfl) rfl kiX5_readNumber_X5 kfX5_readNumber_26 dX5_readNumber_36 ?_
      cases hf
      exact z_sub [0, 1] rfl hj
    · replace hf := if_f c30 hf
      refine z_aload_n C 0 dX5_readNumber_26 rfl rfl ?_
      refine z_geti C (Nat.le_of_ble_eq_true rfl) rfl rfl 3 (Nat.le_of_ble_eq_true rfl) rfl kiX5_readNumber_X5 kfX5_readNumber_26 dX5_readNumber_27 ?_
      refine z_iconst C (v := 1) dX5_readNumber_30 rfl ?_
      refine z_iadd C dX5_readNumber_31 ?_
      refine z_goto (tgt := 39) C dX5_readNumber_32 (by decide) ?_
      cases hf
      exact z_sub [0, 1] rfl hj
  replace hf := hg
  clear hg
  refine z_icmp_ne (tgt := 20) C dX5_readNumber_13 (by decide) (fun c31 => ?_) (fun c31 => ?_)
  · replace hf := if_f c31 hf
    refine z_iconst C (v := 0) dX5_readNumber_20 rfl ?_
    cases hf
    exact z_sub [0] rfl hj
  · replace hf := if_t c31 hf
    refine z_iconst C (v := 1) dX5_readNumber_16 rfl ?_
    refine z_goto (tgt := 21) C dX5_readNumber_17 (by decide) ?_
    cases hf
    exact z_sub [0] rfl hj
set_option maxRecDepth 20000 in
theorem ggX5_isClosedText_J0_length_8abf5 : GoodIn wsX5_isClosedText wsJ0_length_8abf5 := goodIn_sub (List.forall_mem_cons.mpr ⟨(List.mem_of_getElem? (i := 7) rfl), (List.forall_mem_cons.mpr ⟨(List.mem_of_getElem? (i := 8) rfl), (List.forall_mem_cons.mpr ⟨(List.mem_of_getElem? (i := 9) rfl), (List.forall_mem_cons.mpr ⟨(List.mem_of_getElem? (i := 10) rfl), (List.forall_mem_cons.mpr ⟨(List.mem_of_getElem? (i := 11) rfl), (List.forall_mem_cons.mpr ⟨(List.mem_of_getElem? (i := 6) rfl), (List.forall_mem_cons.mpr ⟨(List.mem_of_getElem? (i := 12) rfl), (List.forall_mem_cons.mpr ⟨(List.mem_of_getElem? (i := 13) rfl), (List.forall_mem_cons.mpr ⟨(List.mem_of_getElem? (i := 14) rfl), (fun _ h => absurd h List.not_mem_nil)⟩)⟩)⟩)⟩)⟩)⟩)⟩)⟩)⟩) (by decide +kernel)
set_option maxRecDepth 20000 in
theorem gX5_isClosedText_J0_length_8abf5 : GoodIn wsX5_isClosedText (wsV RX5 49 RJ0 yJ0_length_8abf5 wsJ0_length_8abf5) := goodIn_app (goodIn_sub (List.forall_mem_cons.mpr ⟨(List.mem_of_getElem? (i := 3) rfl), (List.forall_mem_cons.mpr ⟨(List.mem_of_getElem? (i := 4) rfl), (List.forall_mem_cons.mpr ⟨(List.mem_of_getElem? (i := 5) rfl), (List.forall_mem_cons.mpr ⟨(List.mem_of_getElem? (i := 6) rfl), (fun _ h => absurd h List.not_mem_nil)⟩)⟩)⟩)⟩) (by decide +kernel)) ggX5_isClosedText_J0_length_8abf5
set_option maxRecDepth 20000 in
theorem ggX5_isClosedText_X3_byteAt : GoodIn wsX5_isClosedText wsX3_byteAt := goodIn_sub (List.forall_mem_cons.mpr ⟨(List.mem_of_getElem? (i := 19) rfl), (List.forall_mem_append.mpr ⟨(List.forall_mem_cons.mpr ⟨(List.mem_of_getElem? (i := 20) rfl), (List.forall_mem_cons.mpr ⟨(List.mem_of_getElem? (i := 21) rfl), (fun _ h => absurd h List.not_mem_nil)⟩)⟩), (fun _ h => (List.mem_cons_of_mem _ (List.mem_append_right _ h)))⟩)⟩) (by decide +kernel)
set_option maxRecDepth 20000 in
theorem gX5_isClosedText_X3_byteAt : GoodIn wsX5_isClosedText (wsV RX5 22 RX3 yX3_byteAt wsX3_byteAt) := goodIn_app (goodIn_sub (List.forall_mem_cons.mpr ⟨(List.mem_of_getElem? (i := 15) rfl), (List.forall_mem_cons.mpr ⟨(List.mem_of_getElem? (i := 16) rfl), (List.forall_mem_cons.mpr ⟨(List.mem_of_getElem? (i := 17) rfl), (List.forall_mem_cons.mpr ⟨(List.mem_of_getElem? (i := 18) rfl), (fun _ h => absurd h List.not_mem_nil)⟩)⟩)⟩)⟩) (by decide +kernel)) ggX5_isClosedText_X3_byteAt
set_option maxRecDepth 20000 in
theorem ggX5_isClosedText_J0_charAt_5068e : GoodIn wsX5_isClosedText wsJ0_charAt_5068e := goodIn_sub (List.forall_mem_cons.mpr ⟨(List.mem_of_getElem? (i := 25) rfl), (List.forall_mem_append.mpr ⟨(show ∀ w ∈ wsJ0_charAt_5068e_r1, w ∈ wsX5_isClosedText from (List.forall_mem_cons.mpr ⟨(List.mem_of_getElem? (i := 8) rfl), (List.forall_mem_cons.mpr ⟨(List.mem_of_getElem? (i := 26) rfl), (List.forall_mem_cons.mpr ⟨(List.mem_of_getElem? (i := 27) rfl), (List.forall_mem_cons.mpr ⟨(List.mem_of_getElem? (i := 28) rfl), (List.forall_mem_cons.mpr ⟨(List.mem_of_getElem? (i := 6) rfl), (List.forall_mem_cons.mpr ⟨(List.mem_of_getElem? (i := 29) rfl), (List.forall_mem_cons.mpr ⟨(List.mem_of_getElem? (i := 13) rfl), (List.forall_mem_cons.mpr ⟨(List.mem_of_getElem? (i := 14) rfl), (List.forall_mem_cons.mpr ⟨(List.mem_of_getElem? (i := 30) rfl), (List.forall_mem_cons.mpr ⟨(List.mem_of_getElem? (i := 31) rfl), (List.forall_mem_cons.mpr ⟨(List.mem_of_getElem? (i := 32) rfl), (List.forall_mem_cons.mpr ⟨(List.mem_of_getElem? (i := 33) rfl), (List.forall_mem_cons.mpr ⟨(List.mem_of_getElem? (i := 34) rfl), (List.forall_mem_cons.mpr ⟨(List.mem_of_getElem? (i := 35) rfl), (List.forall_mem_cons.mpr ⟨(List.mem_of_getElem? (i := 36) rfl), (List.forall_mem_cons.mpr ⟨(List.mem_of_getElem? (i := 37) rfl), (List.forall_mem_cons.mpr ⟨(List.mem_of_getElem? (i := 38) rfl), (List.forall_mem_cons.mpr ⟨(List.mem_of_getElem? (i := 39) rfl), (List.forall_mem_cons.mpr ⟨(List.mem_of_getElem? (i := 40) rfl), (List.forall_mem_cons.mpr ⟨(List.mem_of_getElem? (i := 41) rfl), (List.forall_mem_cons.mpr ⟨(List.mem_of_getElem? (i := 42) rfl), (List.forall_mem_cons.mpr ⟨(List.mem_of_getElem? (i := 43) rfl), (List.forall_mem_cons.mpr ⟨(List.mem_of_getElem? (i := 44) rfl), (List.forall_mem_cons.mpr ⟨(List.mem_of_getElem? (i := 45) rfl), (fun _ h => absurd h List.not_mem_nil)⟩)⟩)⟩)⟩)⟩)⟩)⟩)⟩)⟩)⟩)⟩)⟩)⟩)⟩)⟩)⟩)⟩)⟩)⟩)⟩)⟩)⟩)⟩)⟩)), (show ∀ w ∈ wsJ0_charAt_5068e_r2, w ∈ wsX5_isClosedText from (List.forall_mem_cons.mpr ⟨(List.mem_of_getElem? (i := 46) rfl), (List.forall_mem_cons.mpr ⟨(List.mem_of_getElem? (i := 47) rfl), (List.forall_mem_cons.mpr ⟨(List.mem_of_getElem? (i := 48) rfl), (List.forall_mem_cons.mpr ⟨(List.mem_of_getElem? (i := 49) rfl), (List.forall_mem_cons.mpr ⟨(List.mem_of_getElem? (i := 50) rfl), (List.forall_mem_cons.mpr ⟨(List.mem_of_getElem? (i := 51) rfl), (List.forall_mem_cons.mpr ⟨(List.mem_of_getElem? (i := 52) rfl), (List.forall_mem_cons.mpr ⟨(List.mem_of_getElem? (i := 53) rfl), (List.forall_mem_cons.mpr ⟨(List.mem_of_getElem? (i := 54) rfl), (List.forall_mem_cons.mpr ⟨(List.mem_of_getElem? (i := 55) rfl), (List.forall_mem_cons.mpr ⟨(List.mem_of_getElem? (i := 56) rfl), (List.forall_mem_cons.mpr ⟨(List.mem_of_getElem? (i := 57) rfl), (List.forall_mem_cons.mpr ⟨(List.mem_of_getElem? (i := 58) rfl), (fun _ h => absurd h List.not_mem_nil)⟩)⟩)⟩)⟩)⟩)⟩)⟩)⟩)⟩)⟩)⟩)⟩)⟩))⟩)⟩) (by decide +kernel)
set_option maxRecDepth 20000 in
theorem gX5_isClosedText_J0_charAt_5068e : GoodIn wsX5_isClosedText (wsV RX5 60 RJ0 yJ0_charAt_5068e wsJ0_charAt_5068e) := goodIn_app (goodIn_sub (List.forall_mem_cons.mpr ⟨(List.mem_of_getElem? (i := 22) rfl), (List.forall_mem_cons.mpr ⟨(List.mem_of_getElem? (i := 23) rfl), (List.forall_mem_cons.mpr ⟨(List.mem_of_getElem? (i := 24) rfl), (List.forall_mem_cons.mpr ⟨(List.mem_of_getElem? (i := 6) rfl), (fun _ h => absurd h List.not_mem_nil)⟩)⟩)⟩)⟩) (by decide +kernel)) ggX5_isClosedText_J0_charAt_5068e
theorem dX5_isClosedText_0 : decode cX5_isClosedText 0 = .ok (.iconst 0, 1) := by decide +kernel
theorem dX5_isClosedText_1 : decode cX5_isClosedText 1 = .ok (.istore_n 1, 1) := by decide +kernel
theorem dX5_isClosedText_2 : decode cX5_isClosedText 2 = .ok (.iload_n 1, 1) := by decide +kernel
theorem dX5_isClosedText_3 : decode cX5_isClosedText 3 = .ok (.ldc 47, 2) := by decide +kernel
theorem dX5_isClosedText_5 : decode cX5_isClosedText 5 = .ok (.invokevirtual 49, 3) := by decide +kernel
theorem dX5_isClosedText_8 : decode cX5_isClosedText 8 = .ok (.if_icmp .ge 33, 3) := by decide +kernel
theorem dX5_isClosedText_11 : decode cX5_isClosedText 11 = .ok (.aload_n 0, 1) := by decide +kernel
theorem dX5_isClosedText_12 : decode cX5_isClosedText 12 = .ok (.getfield 7, 3) := by decide +kernel
theorem dX5_isClosedText_15 : decode cX5_isClosedText 15 = .ok (.aload_n 0, 1) := by decide +kernel
theorem dX5_isClosedText_16 : decode cX5_isClosedText 16 = .ok (.getfield 26, 3) := by decide +kernel
theorem dX5_isClosedText_19 : decode cX5_isClosedText 19 = .ok (.iload_n 1, 1) := by decide +kernel
theorem dX5_isClosedText_20 : decode cX5_isClosedText 20 = .ok (.iadd, 1) := by decide +kernel
theorem dX5_isClosedText_21 : decode cX5_isClosedText 21 = .ok (.invokevirtual 22, 3) := by decide +kernel
theorem dX5_isClosedText_24 : decode cX5_isClosedText 24 = .ok (.ldc 47, 2) := by decide +kernel
theorem dX5_isClosedText_26 : decode cX5_isClosedText 26 = .ok (.iload_n 1, 1) := by decide +kernel
theorem dX5_isClosedText_27 : decode cX5_isClosedText 27 = .ok (.invokevirtual 60, 3) := by decide +kernel
theorem dX5_isClosedText_30 : decode cX5_isClosedText 30 = .ok (.if_icmp .eq 5, 3) := by decide +kernel
theorem dX5_isClosedText_33 : decode cX5_isClosedText 33 = .ok (.iconst 0, 1) := by decide +kernel
theorem dX5_isClosedText_34 : decode cX5_isClosedText 34 = .ok (.ireturn, 1) := by decide +kernel
theorem dX5_isClosedText_35 : decode cX5_isClosedText 35 = .ok (.iinc 1 1, 3) := by decide +kernel
theorem dX5_isClosedText_38 : decode cX5_isClosedText 38 = .ok (.goto (-36), 3) := by decide +kernel
theorem dX5_isClosedText_41 : decode cX5_isClosedText 41 = .ok (.iconst 1, 1) := by decide +kernel
theorem dX5_isClosedText_42 : decode cX5_isClosedText 42 = .ok (.ireturn, 1) := by decide +kernel
def rmX5_isClosedText : Room := { frames := 6, cells := 0, slots := 0, locals := 127 }
theorem zdX5_isClosedText : yX5_isClosedText.cls = RX5 ∧ yX5_isClosedText.cls ≠ "java/lang/invoke/MethodHandle" ∧ yX5_isClosedText.cls ≠ "java/lang/invoke/VarHandle" ∧ (parseMethodDescriptor yX5_isClosedText.desc).map (fun d => d.parameters.length) = some 0 := by decide +kernel
theorem kiX5_isClosedText_X5 : ∀ w ∈ wsX50, w ∈ wsX5_isClosedText := fun _ h => (List.mem_cons_of_mem _ (List.mem_append_left _ (List.mem_append_right _ h)))
theorem kfX5_isClosedText_7 : Cond.fieldLink RX5 7 "ShapeJudge$Tokens" "tape" "LShapeJudge$Tape;" ∈ wsX5_isClosedText := (List.mem_of_getElem? (i := 1) rfl)
theorem kfX5_isClosedText_26 : Cond.fieldLink RX5 26 "ShapeJudge$Tokens" "place" "I" ∈ wsX5_isClosedText := (List.mem_of_getElem? (i := 2) rfl)
def t_X5_isClosedText_2 (m : Mem) (i1 : Int32) : Option ((Int32) ⊕ (Int32)) :=
  (s_J0_length_8abf5 ).bind fun r3 => (if r3 ≤ i1 then (some (.inr 1)) else ((s_X3_byteAt m ((m 10 3) + i1)).bind fun r5 => (s_J0_charAt_5068e i1).bind fun r7 => (if r5 = r7 then (bn (i1 + 1) fun x8 => some (.inl x8)) else (some (.inr 0)))))
def l_X5_isClosedText_2 (m : Mem) (n : Nat) (i1 : Int32) : Option (Int32) := zlp n (fun a => t_X5_isClosedText_2 m a) i1
def s_X5_isClosedText (m : Mem)  : Option (Int32) :=
  l_X5_isClosedText_2 m FU 0
set_option maxRecDepth 100000 in
set_option maxHeartbeats 4000000 in
theorem w_X5_isClosedText_2 {K : ZK} (C : zOK MX K cX5_isClosedText 2 (some .boolean) RX5 wsX5_isClosedText rmX5_isClosedText) {m : Mem}  {r9 : Int32} (hret : zRz MX K cX5_isClosedText m r9) : ∀ (n : Nat) (i1 : Int32), l_X5_isClosedText_2 m n i1 = some r9 → zGo MX K m [(0, .ref ((zw K).2.1 10)), (1, .int i1)] 2 [] := by
  intro n
  induction n with
  | zero =>
    intro i1 hf
    cases hf
  | succ n ih =>
    intro i1 hf
    obtain ⟨z, hf, hz⟩ := zlp_el hf
    replace hf : t_X5_isClosedText_2 m i1 = some z := hf
    unfold t_X5_isClosedText_2 at hf
    refine z_iload_n C 1 dX5_isClosedText_2 rfl rfl ?_
    refine z_ldcs C rfl dX5_isClosedText_3 ?_
    obtain ⟨r3, hc2, hf⟩ := zb_el hf
    refine z_cVs C (c_J0_length_8abf5 _ _ hc2) rfl gX5_isClosedText_J0_length_8abf5 rfl rfl zdJ0_length_8abf5 rfl rfl ⟨Nat.le_of_ble_eq_true rfl, Nat.le_of_ble_eq_true rfl⟩ (Nat.le_of_ble_eq_true rfl) dX5_isClosedText_5 rfl ?_
    refine z_icmp_ge (tgt := 41) C dX5_isClosedText_8 (by decide) (fun c10 => ?_) (fun c10 => ?_)
    · replace hf := if_t c10 hf
      refine z_iconst C (v := 1) dX5_isClosedText_41 rfl ?_
      cases hf
      replace hz := zlz_r hz
      cases hz
      exact hret _ _ dX5_isClosedText_42 (Or.inr rfl)
    · replace hf := if_f c10 hf
      refine z_aload_n C 0 dX5_isClosedText_11 rfl rfl ?_
      refine z_getr C (t := 7) (Nat.le_of_ble_eq_true rfl) rfl rfl 0 (Nat.le_of_ble_eq_true rfl) rfl kiX5_isClosedText_X5 kfX5_isClosedText_7 dX5_isClosedText_12 ?_
      refine z_aload_n C 0 dX5_isClosedText_15 rfl rfl ?_
      refine z_geti C (Nat.le_of_ble_eq_true rfl) rfl rfl 3 (Nat.le_of_ble_eq_true rfl) rfl kiX5_isClosedText_X5 kfX5_isClosedText_26 dX5_isClosedText_16 ?_
      refine z_iload_n C 1 dX5_isClosedText_19 rfl rfl ?_
      refine z_iadd C dX5_isClosedText_20 ?_
      obtain ⟨r5, hc4, hf⟩ := zb_el hf
      refine z_cVi C (c_X3_byteAt _ _ hc4) rfl gX5_isClosedText_X3_byteAt rfl rfl zdX3_byteAt rfl (Nat.le_of_ble_eq_true rfl) rfl rfl rfl ⟨Nat.le_of_ble_eq_true rfl, Nat.le_of_ble_eq_true rfl⟩ (Nat.le_of_ble_eq_true rfl) dX5_isClosedText_21 rfl ?_
      refine z_ldcs C rfl dX5_isClosedText_24 ?_
      refine z_iload_n C 1 dX5_isClosedText_26 rfl rfl ?_
      obtain ⟨r7, hc6, hf⟩ := zb_el hf
      refine z_cVs C (c_J0_charAt_5068e _ _ hc6) rfl gX5_isClosedText_J0_charAt_5068e rfl rfl zdJ0_charAt_5068e rfl rfl ⟨Nat.le_of_ble_eq_true rfl, Nat.le_of_ble_eq_true rfl⟩ (Nat.le_of_ble_eq_true rfl) dX5_isClosedText_27 rfl ?_
      refine z_icmp_eq (tgt := 35) C dX5_isClosedText_30 (by decide) (fun c9 => ?_) (fun c9 => ?_)
      · replace hf := if_t c9 hf
        obtain ⟨x8, e_x8⟩ : ∃ y : Int32, y = i1 + 1 := ⟨_, rfl⟩
        replace hf := bn_to e_x8 hf
        refine z_iinc C (lv2 := [(0, .ref ((zw K).2.1 10)), (1, .int x8)]) 1 [1, 0] dX5_isClosedText_35 rfl rfl (Nat.le_of_ble_eq_true rfl) e_x8 rfl ?_
        refine z_goto (tgt := 2) C dX5_isClosedText_38 (by decide) ?_
        cases hf
        exact z_sub [0, 1] rfl (ih x8 hz)
      · replace hf := if_f c9 hf
        refine z_iconst C (v := 0) dX5_isClosedText_33 rfl ?_
        cases hf
        replace hz := zlz_r hz
        cases hz
        exact hret _ _ dX5_isClosedText_34 (Or.inl rfl)
set_option maxRecDepth 100000 in
set_option maxHeartbeats 4000000 in
theorem c_X5_isClosedText (l : Launch) (w : ZW) {m : Mem}  {r9 : Int32}  (hf : s_X5_isClosedText m  = some r9) : zCi MX l w yX5_isClosedText wsX5_isClosedText rmX5_isClosedText [.ref (w.2.1 10)] m m r9 := by
  refine z_met_z MX_ok (own := RX5) (by decide +kernel) rfl rfl (Nat.le_of_ble_eq_true rfl) ?_
  intro K C hKw hKl hret
  subst hKw
  subst hKl
  unfold s_X5_isClosedText at hf
  show zGo MX K m [(0, .ref ((zw K).2.1 10))] 0 []
  refine z_iconst C (v := 0) dX5_isClosedText_0 rfl ?_
  refine z_istore_n C (lv2 := [(0, .ref ((zw K).2.1 10)), (1, .int 0)]) [1, 0] dX5_isClosedText_1 rfl (Nat.le_of_ble_eq_true rfl) rfl ?_
  exact z_sub [0, 1] rfl (w_X5_isClosedText_2 C  hret _ _ hf)
theorem dX5_isSign_0 : decode cX5_isSign 0 = .ok (.iload_n 0, 1) := by decide +kernel
theorem dX5_isSign_1 : decode cX5_isSign 1 = .ok (.lookupswitch 101 #[(33, 99), (40, 99), (41, 99), (44, 99), (46, 99), (59, 99), (61, 99), (64, 99), (91, 99), (93, 99), (124, 99)], 99) := by decide +kernel
theorem dX5_isSign_100 : decode cX5_isSign 100 = .ok (.iconst 1, 1) := by decide +kernel
theorem dX5_isSign_101 : decode cX5_isSign 101 = .ok (.ireturn, 1) := by decide +kernel
theorem dX5_isSign_102 : decode cX5_isSign 102 = .ok (.iconst 0, 1) := by decide +kernel
theorem dX5_isSign_103 : decode cX5_isSign 103 = .ok (.ireturn, 1) := by decide +kernel
def rmX5_isSign : Room := { frames := 0, cells := 0, slots := 0, locals := 0 }
theorem zdX5_isSign : yX5_isSign.cls = RX5 ∧ yX5_isSign.cls ≠ "java/lang/invoke/MethodHandle" ∧ yX5_isSign.cls ≠ "java/lang/invoke/VarHandle" ∧ (parseMethodDescriptor yX5_isSign.desc).map (fun d => d.parameters.length) = some 1 := by decide +kernel
def s_X5_isSign (a1 : Int32) : Option (Int32) :=
  (if a1 = 33 then (some 1) else ((if a1 = 40 then (some 1) else ((if a1 = 41 then (some 1) else ((if a1 = 44 then (some 1) else ((if a1 = 46 then (some 1) else ((if a1 = 59 then (some 1) else ((if a1 = 61 then (some 1) else ((if a1 = 64 then (some 1) else ((if a1 = 91 then (some 1) else ((if a1 = 93 then (some 1) else ((if a1 = 124 then (some 1) else (some 0))))))))))))))))))))))
set_option maxRecDepth 100000 in
set_option maxHeartbeats 4000000 in
theorem c_X5_isSign (l : Launch) (w : ZW) {m : Mem} {a1 : Int32} {r9 : Int32}  (hf : s_X5_isSign a1 = some r9) : zCi MX l w yX5_isSign wsX5_isSign rmX5_isSign [.int a1] m m r9 := by
  refine z_met_z MX_ok (own := RX5) (by decide +kernel) rfl rfl (Nat.le_of_ble_eq_true rfl) ?_
  intro K C hKw hKl hret
  subst hKw
  subst hKl
  unfold s_X5_isSign at hf
  show zGo MX K m [(0, .int a1)] 0 []
  refine z_iload_n C 0 dX5_isSign_0 rfl rfl ?_
  refine zby (c := a1 = 33) (fun c1 => ?_) (fun c1 => ?_)
  · replace hf := if_t c1 hf
    refine z_lkv (v := 33) (tgt := 100) (off := 99) C c1 dX5_isSign_1 (by decide) (by decide) (by decide) ?_
    refine z_iconst C (v := 1) dX5_isSign_100 rfl ?_
    cases hf
    exact hret _ _ dX5_isSign_101 (Or.inr rfl)
  · replace hf := if_f c1 hf
    refine zby (c := a1 = 40) (fun c2 => ?_) (fun c2 => ?_)
    · replace hf := if_t c2 hf
      refine z_lkv (v := 40) (tgt := 100) (off := 99) C c2 dX5_isSign_1 (by decide) (by decide) (by decide) ?_
      refine z_iconst C (v := 1) dX5_isSign_100 rfl ?_
      cases hf
      exact hret _ _ dX5_isSign_101 (Or.inr rfl)
    · replace hf := if_f c2 hf
      refine zby (c := a1 = 41) (fun c3 => ?_) (fun c3 => ?_)
      · replace hf := if_t c3 hf
        refine z_lkv (v := 41) (tgt := 100) (off := 99) C c3 dX5_isSign_1 (by decide) (by decide) (by decide) ?_
        refine z_iconst C (v := 1) dX5_isSign_100 rfl ?_
        cases hf
        exact hret _ _ dX5_isSign_101 (Or.inr rfl)
      · replace hf := if_f c3 hf
        refine zby (c := a1 = 44) (fun c4 => ?_) (fun c4 => ?_)
        · replace hf := if_t c4 hf
          refine z_lkv (v := 44) (tgt := 100) (off := 99) C c4 dX5_isSign_1 (by decide) (by decide) (by decide) ?_
          refine z_iconst C (v := 1) dX5_isSign_100 rfl ?_
          cases hf
          exact hret _ _ dX5_isSign_101 (Or.inr rfl)
        · replace hf := if_f c4 hf
          refine zby (c := a1 = 46) (fun c5 => ?_) (fun c5 => ?_)
          · replace hf := if_t c5 hf
            refine z_lkv (v := 46) (tgt := 100) (off := 99) C c5 dX5_isSign_1 (by decide) (by decide) (by decide) ?_
            refine z_iconst C (v := 1) dX5_isSign_100 rfl ?_
            cases hf
            exact hret _ _ dX5_isSign_101 (Or.inr rfl)
          · replace hf := if_f c5 hf
            refine zby (c := a1 = 59) (fun c6 => ?_) (fun c6 => ?_)
            · replace hf := if_t c6 hf
              refine z_lkv (v := 59) (tgt := 100) (off := 99) C c6 dX5_isSign_1 (by decide) (by decide) (by decide) ?_
              refine z_iconst C (v := 1) dX5_isSign_100 rfl ?_
              cases hf
              exact hret _ _ dX5_isSign_101 (Or.inr rfl)
            · replace hf := if_f c6 hf
              refine zby (c := a1 = 61) (fun c7 => ?_) (fun c7 => ?_)
              · replace hf := if_t c7 hf
                refine z_lkv (v := 61) (tgt := 100) (off := 99) C c7 dX5_isSign_1 (by decide) (by decide) (by decide) ?_
                refine z_iconst C (v := 1) dX5_isSign_100 rfl ?_
                cases hf
                exact hret _ _ dX5_isSign_101 (Or.inr rfl)
              · replace hf := if_f c7 hf
                refine zby (c := a1 = 64) (fun c8 => ?_) (fun c8 => ?_)
                · replace hf := if_t c8 hf
                  refine z_lkv (v := 64) (tgt := 100) (off := 99) C c8 dX5_isSign_1 (by decide) (by decide) (by decide) ?_
                  refine z_iconst C (v := 1) dX5_isSign_100 rfl ?_
                  cases hf
                  exact hret _ _ dX5_isSign_101 (Or.inr rfl)
                · replace hf := if_f c8 hf
                  refine zby (c := a1 = 91) (fun c9 => ?_) (fun c9 => ?_)
                  · replace hf := if_t c9 hf
                    refine z_lkv (v := 91) (tgt := 100) (off := 99) C c9 dX5_isSign_1 (by decide) (by decide) (by decide) ?_
                    refine z_iconst C (v := 1) dX5_isSign_100 rfl ?_
                    cases hf
                    exact hret _ _ dX5_isSign_101 (Or.inr rfl)
                  · replace hf := if_f c9 hf
                    refine zby (c := a1 = 93) (fun c10 => ?_) (fun c10 => ?_)
                    · replace hf := if_t c10 hf
                      refine z_lkv (v := 93) (tgt := 100) (off := 99) C c10 dX5_isSign_1 (by decide) (by decide) (by decide) ?_
                      refine z_iconst C (v := 1) dX5_isSign_100 rfl ?_
                      cases hf
                      exact hret _ _ dX5_isSign_101 (Or.inr rfl)
                    · replace hf := if_f c10 hf
                      refine zby (c := a1 = 124) (fun c11 => ?_) (fun c11 => ?_)
                      · replace hf := if_t c11 hf
                        refine z_lkv (v := 124) (tgt := 100) (off := 99) C c11 dX5_isSign_1 (by decide) (by decide) (by decide) ?_
                        refine z_iconst C (v := 1) dX5_isSign_100 rfl ?_
                        cases hf
                        exact hret _ _ dX5_isSign_101 (Or.inr rfl)
                      · replace hf := if_f c11 hf
                        refine z_lk (tgt := 102) (off := 101) C dX5_isSign_1 (by decide) (zlk_out (by simp only [List.forall_mem_cons]; exact ⟨zne_k (v := 33) (by decide) c1, zne_k (v := 40) (by decide) c2, zne_k (v := 41) (by decide) c3, zne_k (v := 44) (by decide) c4, zne_k (v := 46) (by decide) c5, zne_k (v := 59) (by decide) c6, zne_k (v := 61) (by decide) c7, zne_k (v := 64) (by decide) c8, zne_k (v := 91) (by decide) c9, zne_k (v := 93) (by decide) c10, zne_k (v := 124) (by decide) c11, fun _ h => by cases h⟩)) (by decide) ?_
                        refine z_iconst C (v := 0) dX5_isSign_102 rfl ?_
                        cases hf
                        exact hret _ _ dX5_isSign_103 (Or.inl rfl)
set_option maxRecDepth 20000 in
theorem ggX5_advance_X3_byteAt : GoodIn wsX5_advance wsX3_byteAt := goodIn_sub (List.forall_mem_cons.mpr ⟨(List.mem_of_getElem? (i := 10) rfl), (List.forall_mem_append.mpr ⟨(List.forall_mem_cons.mpr ⟨(List.mem_of_getElem? (i := 11) rfl), (List.forall_mem_cons.mpr ⟨(List.mem_of_getElem? (i := 12) rfl), (fun _ h => absurd h List.not_mem_nil)⟩)⟩), (fun _ h => (List.mem_cons_of_mem _ (List.mem_append_right _ h)))⟩)⟩) (by decide +kernel)
set_option maxRecDepth 20000 in
theorem gX5_advance_X3_byteAt : GoodIn wsX5_advance (wsV RX5 22 RX3 yX3_byteAt wsX3_byteAt) := goodIn_app (goodIn_sub (List.forall_mem_cons.mpr ⟨(List.mem_of_getElem? (i := 6) rfl), (List.forall_mem_cons.mpr ⟨(List.mem_of_getElem? (i := 7) rfl), (List.forall_mem_cons.mpr ⟨(List.mem_of_getElem? (i := 8) rfl), (List.forall_mem_cons.mpr ⟨(List.mem_of_getElem? (i := 9) rfl), (fun _ h => absurd h List.not_mem_nil)⟩)⟩)⟩)⟩) (by decide +kernel)) ggX5_advance_X3_byteAt
set_option maxRecDepth 20000 in
theorem ggX5_advance_X5_become : GoodIn wsX5_advance wsX5_become := goodIn_sub (List.forall_mem_cons.mpr ⟨(List.mem_of_getElem? (i := 17) rfl), (List.forall_mem_append.mpr ⟨(List.forall_mem_cons.mpr ⟨(List.mem_of_getElem? (i := 18) rfl), (List.forall_mem_cons.mpr ⟨(List.mem_of_getElem? (i := 4) rfl), (List.forall_mem_cons.mpr ⟨(List.mem_of_getElem? (i := 1) rfl), (fun _ h => absurd h List.not_mem_nil)⟩)⟩)⟩), (fun _ h => (List.mem_cons_of_mem _ (List.mem_append_left _ (List.mem_append_right _ h))))⟩)⟩) (by decide +kernel)
set_option maxRecDepth 20000 in
theorem gX5_advance_X5_become : GoodIn wsX5_advance (wsV RX5 29 RX5 yX5_become wsX5_become) := goodIn_app (goodIn_sub (List.forall_mem_cons.mpr ⟨(List.mem_of_getElem? (i := 13) rfl), (List.forall_mem_cons.mpr ⟨(List.mem_of_getElem? (i := 14) rfl), (List.forall_mem_cons.mpr ⟨(List.mem_of_getElem? (i := 15) rfl), (List.forall_mem_cons.mpr ⟨(List.mem_of_getElem? (i := 16) rfl), (fun _ h => absurd h List.not_mem_nil)⟩)⟩)⟩)⟩) (by decide +kernel)) ggX5_advance_X5_become
set_option maxRecDepth 20000 in
theorem ggX5_advance_X5_isFigure : GoodIn wsX5_advance wsX5_isFigure := goodIn_sub (List.forall_mem_cons.mpr ⟨(List.mem_of_getElem? (i := 21) rfl), (fun _ h => absurd h List.not_mem_nil)⟩) (by decide +kernel)
set_option maxRecDepth 20000 in
theorem gX5_advance_X5_isFigure : GoodIn wsX5_advance (va_wsS RX5 36 yX5_isFigure wsX5_isFigure) := goodIn_app (goodIn_sub (List.forall_mem_cons.mpr ⟨(List.mem_of_getElem? (i := 19) rfl), (List.forall_mem_cons.mpr ⟨(List.mem_of_getElem? (i := 20) rfl), (List.forall_mem_cons.mpr ⟨(List.mem_of_getElem? (i := 16) rfl), (fun _ h => absurd h List.not_mem_nil)⟩)⟩)⟩) (by decide +kernel)) ggX5_advance_X5_isFigure
set_option maxRecDepth 20000 in
theorem ggX5_advance_X5_readNumber : GoodIn wsX5_advance wsX5_readNumber := goodIn_sub (List.forall_mem_cons.mpr ⟨(List.mem_of_getElem? (i := 25) rfl), (List.forall_mem_append.mpr ⟨(List.forall_mem_append.mpr ⟨(List.forall_mem_cons.mpr ⟨(List.mem_of_getElem? (i := 2) rfl), (List.forall_mem_cons.mpr ⟨(List.mem_of_getElem? (i := 4) rfl), (List.forall_mem_cons.mpr ⟨(List.mem_of_getElem? (i := 5) rfl), (List.forall_mem_cons.mpr ⟨(List.mem_of_getElem? (i := 6) rfl), (List.forall_mem_cons.mpr ⟨(List.mem_of_getElem? (i := 7) rfl), (List.forall_mem_cons.mpr ⟨(List.mem_of_getElem? (i := 8) rfl), (List.forall_mem_cons.mpr ⟨(List.mem_of_getElem? (i := 9) rfl), (List.forall_mem_cons.mpr ⟨(List.mem_of_getElem? (i := 10) rfl), (List.forall_mem_cons.mpr ⟨(List.mem_of_getElem? (i := 11) rfl), (List.forall_mem_cons.mpr ⟨(List.mem_of_getElem? (i := 12) rfl), (List.forall_mem_cons.mpr ⟨(List.mem_of_getElem? (i := 19) rfl), (List.forall_mem_cons.mpr ⟨(List.mem_of_getElem? (i := 20) rfl), (List.forall_mem_cons.mpr ⟨(List.mem_of_getElem? (i := 16) rfl), (List.forall_mem_cons.mpr ⟨(List.mem_of_getElem? (i := 21) rfl), (List.forall_mem_cons.mpr ⟨(List.mem_of_getElem? (i := 13) rfl), (List.forall_mem_cons.mpr ⟨(List.mem_of_getElem? (i := 14) rfl), (List.forall_mem_cons.mpr ⟨(List.mem_of_getElem? (i := 15) rfl), (List.forall_mem_cons.mpr ⟨(List.mem_of_getElem? (i := 17) rfl), (List.forall_mem_cons.mpr ⟨(List.mem_of_getElem? (i := 18) rfl), (List.forall_mem_cons.mpr ⟨(List.mem_of_getElem? (i := 1) rfl), (fun _ h => absurd h List.not_mem_nil)⟩)⟩)⟩)⟩)⟩)⟩)⟩)⟩)⟩)⟩)⟩)⟩)⟩)⟩)⟩)⟩)⟩)⟩)⟩)⟩), (fun _ h => (List.mem_cons_of_mem _ (List.mem_append_left _ (List.mem_append_right _ h))))⟩), (fun _ h => (List.mem_cons_of_mem _ (List.mem_append_right _ h)))⟩)⟩) (by decide +kernel)
set_option maxRecDepth 20000 in
theorem gX5_advance_X5_readNumber : GoodIn wsX5_advance (wsV RX5 40 RX5 yX5_readNumber wsX5_readNumber) := goodIn_app (goodIn_sub (List.forall_mem_cons.mpr ⟨(List.mem_of_getElem? (i := 22) rfl), (List.forall_mem_cons.mpr ⟨(List.mem_of_getElem? (i := 23) rfl), (List.forall_mem_cons.mpr ⟨(List.mem_of_getElem? (i := 24) rfl), (List.forall_mem_cons.mpr ⟨(List.mem_of_getElem? (i := 16) rfl), (fun _ h => absurd h List.not_mem_nil)⟩)⟩)⟩)⟩) (by decide +kernel)) ggX5_advance_X5_readNumber
set_option maxRecDepth 20000 in
theorem ggX5_advance_X5_isClosedText : GoodIn wsX5_advance wsX5_isClosedText := goodIn_sub (List.forall_mem_cons.mpr ⟨(List.mem_of_getElem? (i := 29) rfl), (List.forall_mem_append.mpr ⟨(List.forall_mem_append.mpr ⟨(List.forall_mem_append.mpr ⟨(show ∀ w ∈ wsX5_isClosedText_r1, w ∈ wsX5_advance from (List.forall_mem_cons.mpr ⟨(List.mem_of_getElem? (i := 2) rfl), (List.forall_mem_cons.mpr ⟨(List.mem_of_getElem? (i := 4) rfl), (List.forall_mem_cons.mpr ⟨(List.mem_of_getElem? (i := 30) rfl), (List.forall_mem_cons.mpr ⟨(List.mem_of_getElem? (i := 31) rfl), (List.forall_mem_cons.mpr ⟨(List.mem_of_getElem? (i := 32) rfl), (List.forall_mem_cons.mpr ⟨(List.mem_of_getElem? (i := 33) rfl), (List.forall_mem_cons.mpr ⟨(List.mem_of_getElem? (i := 34) rfl), (List.forall_mem_cons.mpr ⟨(List.mem_of_getElem? (i := 35) rfl), (List.forall_mem_cons.mpr ⟨(List.mem_of_getElem? (i := 36) rfl), (List.forall_mem_cons.mpr ⟨(List.mem_of_getElem? (i := 37) rfl), (List.forall_mem_cons.mpr ⟨(List.mem_of_getElem? (i := 38) rfl), (List.forall_mem_cons.mpr ⟨(List.mem_of_getElem? (i := 39) rfl), (List.forall_mem_cons.mpr ⟨(List.mem_of_getElem? (i := 40) rfl), (List.forall_mem_cons.mpr ⟨(List.mem_of_getElem? (i := 41) rfl), (List.forall_mem_cons.mpr ⟨(List.mem_of_getElem? (i := 6) rfl), (List.forall_mem_cons.mpr ⟨(List.mem_of_getElem? (i := 7) rfl), (List.forall_mem_cons.mpr ⟨(List.mem_of_getElem? (i := 8) rfl), (List.forall_mem_cons.mpr ⟨(List.mem_of_getElem? (i := 9) rfl), (List.forall_mem_cons.mpr ⟨(List.mem_of_getElem? (i := 10) rfl), (List.forall_mem_cons.mpr ⟨(List.mem_of_getElem? (i := 11) rfl), (List.forall_mem_cons.mpr ⟨(List.mem_of_getElem? (i := 12) rfl), (List.forall_mem_cons.mpr ⟨(List.mem_of_getElem? (i := 42) rfl), (List.forall_mem_cons.mpr ⟨(List.mem_of_getElem? (i := 43) rfl), (List.forall_mem_cons.mpr ⟨(List.mem_of_getElem? (i := 44) rfl), (fun _ h => absurd h List.not_mem_nil)⟩)⟩)⟩)⟩)⟩)⟩)⟩)⟩)⟩)⟩)⟩)⟩)⟩)⟩)⟩)⟩)⟩)⟩)⟩)⟩)⟩)⟩)⟩)⟩)), (List.forall_mem_append.mpr ⟨(show ∀ w ∈ wsX5_isClosedText_r2, w ∈ wsX5_advance from (List.forall_mem_cons.mpr ⟨(List.mem_of_getElem? (i := 45) rfl), (List.forall_mem_cons.mpr ⟨(List.mem_of_getElem? (i := 46) rfl), (List.forall_mem_cons.mpr ⟨(List.mem_of_getElem? (i := 47) rfl), (List.forall_mem_cons.mpr ⟨(List.mem_of_getElem? (i := 48) rfl), (List.forall_mem_cons.mpr ⟨(List.mem_of_getElem? (i := 49) rfl), (List.forall_mem_cons.mpr ⟨(List.mem_of_getElem? (i := 50) rfl), (List.forall_mem_cons.mpr ⟨(List.mem_of_getElem? (i := 51) rfl), (List.forall_mem_cons.mpr ⟨(List.mem_of_getElem? (i := 52) rfl), (List.forall_mem_cons.mpr ⟨(List.mem_of_getElem? (i := 53) rfl), (List.forall_mem_cons.mpr ⟨(List.mem_of_getElem? (i := 54) rfl), (List.forall_mem_cons.mpr ⟨(List.mem_of_getElem? (i := 55) rfl), (List.forall_mem_cons.mpr ⟨(List.mem_of_getElem? (i := 56) rfl), (List.forall_mem_cons.mpr ⟨(List.mem_of_getElem? (i := 57) rfl), (List.forall_mem_cons.mpr ⟨(List.mem_of_getElem? (i := 58) rfl), (List.forall_mem_cons.mpr ⟨(List.mem_of_getElem? (i := 59) rfl), (List.forall_mem_cons.mpr ⟨(List.mem_of_getElem? (i := 60) rfl), (List.forall_mem_cons.mpr ⟨(List.mem_of_getElem? (i := 61) rfl), (List.forall_mem_cons.mpr ⟨(List.mem_of_getElem? (i := 62) rfl), (List.forall_mem_cons.mpr ⟨(List.mem_of_getElem? (i := 63) rfl), (List.forall_mem_cons.mpr ⟨(List.mem_of_getElem? (i := 64) rfl), (List.forall_mem_cons.mpr ⟨(List.mem_of_getElem? (i := 65) rfl), (List.forall_mem_cons.mpr ⟨(List.mem_of_getElem? (i := 66) rfl), (List.forall_mem_cons.mpr ⟨(List.mem_of_getElem? (i := 67) rfl), (List.forall_mem_cons.mpr ⟨(List.mem_of_getElem? (i := 68) rfl), (fun _ h => absurd h List.not_mem_nil)⟩)⟩)⟩)⟩)⟩)⟩)⟩)⟩)⟩)⟩)⟩)⟩)⟩)⟩)⟩)⟩)⟩)⟩)⟩)⟩)⟩)⟩)⟩)⟩)), (show ∀ w ∈ wsX5_isClosedText_r3, w ∈ wsX5_advance from (List.forall_mem_cons.mpr ⟨(List.mem_of_getElem? (i := 69) rfl), (List.forall_mem_cons.mpr ⟨(List.mem_of_getElem? (i := 70) rfl), (List.forall_mem_cons.mpr ⟨(List.mem_of_getElem? (i := 71) rfl), (List.forall_mem_cons.mpr ⟨(List.mem_of_getElem? (i := 72) rfl), (List.forall_mem_cons.mpr ⟨(List.mem_of_getElem? (i := 73) rfl), (List.forall_mem_cons.mpr ⟨(List.mem_of_getElem? (i := 74) rfl), (List.forall_mem_cons.mpr ⟨(List.mem_of_getElem? (i := 75) rfl), (List.forall_mem_cons.mpr ⟨(List.mem_of_getElem? (i := 76) rfl), (List.forall_mem_cons.mpr ⟨(List.mem_of_getElem? (i := 77) rfl), (List.forall_mem_cons.mpr ⟨(List.mem_of_getElem? (i := 78) rfl), (fun _ h => absurd h List.not_mem_nil)⟩)⟩)⟩)⟩)⟩)⟩)⟩)⟩)⟩)⟩))⟩)⟩), (fun _ h => (List.mem_cons_of_mem _ (List.mem_append_left _ (List.mem_append_right _ h))))⟩), (fun _ h => (List.mem_cons_of_mem _ (List.mem_append_right _ h)))⟩)⟩) (by decide +kernel)
set_option maxRecDepth 20000 in
theorem gX5_advance_X5_isClosedText : GoodIn wsX5_advance (wsV RX5 43 RX5 yX5_isClosedText wsX5_isClosedText) := goodIn_app (goodIn_sub (List.forall_mem_cons.mpr ⟨(List.mem_of_getElem? (i := 26) rfl), (List.forall_mem_cons.mpr ⟨(List.mem_of_getElem? (i := 27) rfl), (List.forall_mem_cons.mpr ⟨(List.mem_of_getElem? (i := 28) rfl), (List.forall_mem_cons.mpr ⟨(List.mem_of_getElem? (i := 16) rfl), (fun _ h => absurd h List.not_mem_nil)⟩)⟩)⟩)⟩) (by decide +kernel)) ggX5_advance_X5_isClosedText
set_option maxRecDepth 20000 in
theorem ggX5_advance_J0_length_8abf5 : GoodIn wsX5_advance wsJ0_length_8abf5 := goodIn_sub (List.forall_mem_cons.mpr ⟨(List.mem_of_getElem? (i := 34) rfl), (List.forall_mem_cons.mpr ⟨(List.mem_of_getElem? (i := 35) rfl), (List.forall_mem_cons.mpr ⟨(List.mem_of_getElem? (i := 36) rfl), (List.forall_mem_cons.mpr ⟨(List.mem_of_getElem? (i := 37) rfl), (List.forall_mem_cons.mpr ⟨(List.mem_of_getElem? (i := 38) rfl), (List.forall_mem_cons.mpr ⟨(List.mem_of_getElem? (i := 33) rfl), (List.forall_mem_cons.mpr ⟨(List.mem_of_getElem? (i := 39) rfl), (List.forall_mem_cons.mpr ⟨(List.mem_of_getElem? (i := 40) rfl), (List.forall_mem_cons.mpr ⟨(List.mem_of_getElem? (i := 41) rfl), (fun _ h => absurd h List.not_mem_nil)⟩)⟩)⟩)⟩)⟩)⟩)⟩)⟩)⟩) (by decide +kernel)
set_option maxRecDepth 20000 in
theorem gX5_advance_J0_length_8abf5 : GoodIn wsX5_advance (wsV RX5 49 RJ0 yJ0_length_8abf5 wsJ0_length_8abf5) := goodIn_app (goodIn_sub (List.forall_mem_cons.mpr ⟨(List.mem_of_getElem? (i := 30) rfl), (List.forall_mem_cons.mpr ⟨(List.mem_of_getElem? (i := 31) rfl), (List.forall_mem_cons.mpr ⟨(List.mem_of_getElem? (i := 32) rfl), (List.forall_mem_cons.mpr ⟨(List.mem_of_getElem? (i := 33) rfl), (fun _ h => absurd h List.not_mem_nil)⟩)⟩)⟩)⟩) (by decide +kernel)) ggX5_advance_J0_length_8abf5
set_option maxRecDepth 20000 in
theorem ggX5_advance_X5_isSign : GoodIn wsX5_advance wsX5_isSign := goodIn_sub (List.forall_mem_cons.mpr ⟨(List.mem_of_getElem? (i := 81) rfl), (fun _ h => absurd h List.not_mem_nil)⟩) (by decide +kernel)
set_option maxRecDepth 20000 in
theorem gX5_advance_X5_isSign : GoodIn wsX5_advance (va_wsS RX5 54 yX5_isSign wsX5_isSign) := goodIn_app (goodIn_sub (List.forall_mem_cons.mpr ⟨(List.mem_of_getElem? (i := 79) rfl), (List.forall_mem_cons.mpr ⟨(List.mem_of_getElem? (i := 80) rfl), (List.forall_mem_cons.mpr ⟨(List.mem_of_getElem? (i := 16) rfl), (fun _ h => absurd h List.not_mem_nil)⟩)⟩)⟩) (by decide +kernel)) ggX5_advance_X5_isSign
set_option maxRecDepth 100000 in
theorem daX5_advance : ∀ q ∈ ([(0, .aload_n 0, 1), (1, .getfield 13, 3), (4, .istore_n 1, 1), (5, .iload_n 1, 1), (6, .aload_n 0, 1), (7, .getfield 7, 3), (10, .getfield 17, 3), (13, .if_icmp .ge 22, 3), (16, .aload_n 0, 1), (17, .getfield 7, 3), (20, .iload_n 1, 1), (21, .invokevirtual 22, 3), (24, .bipush 32, 2), (26, .if_icmp .ne 9, 3), (29, .iinc 1 1, 3), (32, .goto (-27), 3), (35, .aload_n 0, 1), (36, .iload_n 1, 1), (37, .putfield 26, 3), (40, .aload_n 0, 1), (41, .getfield 7, 3), (44, .iload_n 1, 1), (45, .invokevirtual 22, 3), (48, .istore_n 2, 1), (49, .iload_n 2, 1), (50, .ifCond .ge 12, 3), (53, .aload_n 0, 1), (54, .iconst 0, 1), (55, .iconst 0, 1), (56, .invokevirtual 29, 3), (59, .goto 141, 3), (62, .iload_n 2, 1), (63, .bipush 65, 2), (65, .if_icmp .lt 23, 3), (68, .iload_n 2, 1), (69, .bipush 90, 2), (71, .if_icmp .gt 17, 3), (74, .aload_n 0, 1), (75, .iload_n 2, 1), (76, .putfield 33, 3), (79, .aload_n 0, 1), (80, .iconst 2, 1), (81, .iconst 1, 1), (82, .invokevirtual 29, 3), (85, .goto 115, 3), (88, .iload_n 2, 1), (89, .bipush 45, 2), (91, .if_icmp .eq 10, 3), (94, .iload_n 2, 1), (95, .invokestatic 36, 3), (98, .ifCond .eq 10, 3), (101, .aload_n 0, 1), (102, .invokevirtual 40, 3), (105, .goto 95, 3), (108, .iload_n 2, 1), (109, .bipush 99, 2), (111, .if_icmp .ne 27, 3), (114, .aload_n 0, 1), (115, .aload_n 0, 1), (116, .invokevirtual 43, 3), (119, .ifCond .eq 7, 3), (122, .iconst 4, 1), (123, .goto 4, 3), (126, .iconst 1, 1), (127, .ldc 47, 2), (129, .invokevirtual 49, 3), (132, .invokevirtual 29, 3), (135, .goto 65, 3), (138, .iload_n 2, 1), (139, .bipush 46, 2), (141, .if_icmp .ne 42, 3), (144, .aload_n 0, 1), (145, .getfield 7, 3), (148, .iload_n 1, 1), (149, .iconst 1, 1), (150, .iadd, 1), (151, .invokevirtual 22, 3), (154, .bipush 46, 2), (156, .if_icmp .ne 27, 3), (159, .aload_n 0, 1), (160, .getfield 7, 3), (163, .iload_n 1, 1), (164, .iconst 2, 1), (165, .iadd, 1), (166, .invokevirtual 22, 3), (169, .bipush 46, 2), (171, .if_icmp .ne 12, 3), (174, .aload_n 0, 1), (175, .iconst 5, 1), (176, .iconst 3, 1), (177, .invokevirtual 29, 3), (180, .goto 20, 3), (183, .aload_n 0, 1), (184, .iload_n 2, 1), (185, .invokestatic 54, 3), (188, .ifCond .eq 7, 3), (191, .iload_n 2, 1), (192, .goto 4, 3), (195, .iconst 1, 1), (196, .iconst 1, 1), (197, .invokevirtual 29, 3), (200, .return_, 1)] : List (Nat × Instr × Nat)), decode cX5_advance q.1 = .ok q.2 := by decide +kernel
theorem dX5_advance_0 : decode cX5_advance 0 = .ok (.aload_n 0, 1) := daX5_advance (0, .aload_n 0, 1) (List.mem_of_getElem? (i := 0) rfl)
theorem dX5_advance_1 : decode cX5_advance 1 = .ok (.getfield 13, 3) := daX5_advance (1, .getfield 13, 3) (List.mem_of_getElem? (i := 1) rfl)
theorem dX5_advance_4 : decode cX5_advance 4 = .ok (.istore_n 1, 1) := daX5_advance (4, .istore_n 1, 1) (List.mem_of_getElem? (i := 2) rfl)
theorem dX5_advance_5 : decode cX5_advance 5 = .ok (.iload_n 1, 1) := daX5_advance (5, .iload_n 1, 1) (List.mem_of_getElem? (i := 3) rfl)
theorem dX5_advance_6 : decode cX5_advance 6 = .ok (.aload_n 0, 1) := daX5_advance (6, .aload_n 0, 1) (List.mem_of_getElem? (i := 4) rfl)
theorem dX5_advance_7 : decode cX5_advance 7 = .ok (.getfield 7, 3) := daX5_advance (7, .getfield 7, 3) (List.mem_of_getElem? (i := 5) rfl)
theorem dX5_advance_10 : decode cX5_advance 10 = .ok (.getfield 17, 3) := daX5_advance (10, .getfield 17, 3) (List.mem_of_getElem? (i := 6) rfl)
theorem dX5_advance_13 : decode cX5_advance 13 = .ok (.if_icmp .ge 22, 3) := daX5_advance (13, .if_icmp .ge 22, 3) (List.mem_of_getElem? (i := 7) rfl)
theorem dX5_advance_16 : decode cX5_advance 16 = .ok (.aload_n 0, 1) := daX5_advance (16, .aload_n 0, 1) (List.mem_of_getElem? (i := 8) rfl)
theorem dX5_advance_17 : decode cX5_advance 17 = .ok (.getfield 7, 3) := daX5_advance (17, .getfield 7, 3) (List.mem_of_getElem? (i := 9) rfl)
theorem dX5_advance_20 : decode cX5_advance 20 = .ok (.iload_n 1, 1) := daX5_advance (20, .iload_n 1, 1) (List.mem_of_getElem? (i := 10) rfl)
theorem dX5_advance_21 : decode cX5_advance 21 = .ok (.invokevirtual 22, 3) := daX5_advance (21, .invokevirtual 22, 3) (List.mem_of_getElem? (i := 11) rfl)
theorem dX5_advance_24 : decode cX5_advance 24 = .ok (.bipush 32, 2) := daX5_advance (24, .bipush 32, 2) (List.mem_of_getElem? (i := 12) rfl)
theorem dX5_advance_26 : decode cX5_advance 26 = .ok (.if_icmp .ne 9, 3) := daX5_advance (26, .if_icmp .ne 9, 3) (List.mem_of_getElem? (i := 13) rfl)
theorem dX5_advance_29 : decode cX5_advance 29 = .ok (.iinc 1 1, 3) := daX5_advance (29, .iinc 1 1, 3) (List.mem_of_getElem? (i := 14) rfl)
theorem dX5_advance_32 : decode cX5_advance 32 = .ok (.goto (-27), 3) := daX5_advance (32, .goto (-27), 3) (List.mem_of_getElem? (i := 15) rfl)
theorem dX5_advance_35 : decode cX5_advance 35 = .ok (.aload_n 0, 1) := daX5_advance (35, .aload_n 0, 1) (List.mem_of_getElem? (i := 16) rfl)
theorem dX5_advance_36 : decode cX5_advance 36 = .ok (.iload_n 1, 1) := daX5_advance (36, .iload_n 1, 1) (List.mem_of_getElem? (i := 17) rfl)
theorem dX5_advance_37 : decode cX5_advance 37 = .ok (.putfield 26, 3) := daX5_advance (37, .putfield 26, 3) (List.mem_of_getElem? (i := 18) rfl)
theorem dX5_advance_40 : decode cX5_advance 40 = .ok (.aload_n 0, 1) := daX5_advance (40, .aload_n 0, 1) (List.mem_of_getElem? (i := 19) rfl)
theorem dX5_advance_41 : decode cX5_advance 41 = .ok (.getfield 7, 3) := daX5_advance (41, .getfield 7, 3) (List.mem_of_getElem? (i := 20) rfl)
theorem dX5_advance_44 : decode cX5_advance 44 = .ok (.iload_n 1, 1) := daX5_advance (44, .iload_n 1, 1) (List.mem_of_getElem? (i := 21) rfl)
theorem dX5_advance_45 : decode cX5_advance 45 = .ok (.invokevirtual 22, 3) := daX5_advance (45, .invokevirtual 22, 3) (List.mem_of_getElem? (i := 22) rfl)
theorem dX5_advance_48 : decode cX5_advance 48 = .ok (.istore_n 2, 1) := daX5_advance (48, .istore_n 2, 1) (List.mem_of_getElem? (i := 23) rfl)
theorem dX5_advance_49 : decode cX5_advance 49 = .ok (.iload_n 2, 1) := daX5_advance (49, .iload_n 2, 1) (List.mem_of_getElem? (i := 24) rfl)
theorem dX5_advance_50 : decode cX5_advance 50 = .ok (.ifCond .ge 12, 3) := daX5_advance (50, .ifCond .ge 12, 3) (List.mem_of_getElem? (i := 25) rfl)
theorem dX5_advance_53 : decode cX5_advance 53 = .ok (.aload_n 0, 1) := daX5_advance (53, .aload_n 0, 1) (List.mem_of_getElem? (i := 26) rfl)
theorem dX5_advance_54 : decode cX5_advance 54 = .ok (.iconst 0, 1) := daX5_advance (54, .iconst 0, 1) (List.mem_of_getElem? (i := 27) rfl)
theorem dX5_advance_55 : decode cX5_advance 55 = .ok (.iconst 0, 1) := daX5_advance (55, .iconst 0, 1) (List.mem_of_getElem? (i := 28) rfl)
theorem dX5_advance_56 : decode cX5_advance 56 = .ok (.invokevirtual 29, 3) := daX5_advance (56, .invokevirtual 29, 3) (List.mem_of_getElem? (i := 29) rfl)
theorem dX5_advance_59 : decode cX5_advance 59 = .ok (.goto 141, 3) := daX5_advance (59, .goto 141, 3) (List.mem_of_getElem? (i := 30) rfl)
theorem dX5_advance_62 : decode cX5_advance 62 = .ok (.iload_n 2, 1) := daX5_advance (62, .iload_n 2, 1) (List.mem_of_getElem? (i := 31) rfl)
theorem dX5_advance_63 : decode cX5_advance 63 = .ok (.bipush 65, 2) := daX5_advance (63, .bipush 65, 2) (List.mem_of_getElem? (i := 32) rfl)
theorem dX5_advance_65 : decode cX5_advance 65 = .ok (.if_icmp .lt 23, 3) := daX5_advance (65, .if_icmp .lt 23, 3) (List.mem_of_getElem? (i := 33) rfl)
theorem dX5_advance_68 : decode cX5_advance 68 = .ok (.iload_n 2, 1) := daX5_advance (68, .iload_n 2, 1) (List.mem_of_getElem? (i := 34) rfl)
theorem dX5_advance_69 : decode cX5_advance 69 = .ok (.bipush 90, 2) := daX5_advance (69, .bipush 90, 2) (List.mem_of_getElem? (i := 35) rfl)
theorem dX5_advance_71 : decode cX5_advance 71 = .ok (.if_icmp .gt 17, 3) := daX5_advance (71, .if_icmp .gt 17, 3) (List.mem_of_getElem? (i := 36) rfl)
theorem dX5_advance_74 : decode cX5_advance 74 = .ok (.aload_n 0, 1) := daX5_advance (74, .aload_n 0, 1) (List.mem_of_getElem? (i := 37) rfl)
theorem dX5_advance_75 : decode cX5_advance 75 = .ok (.iload_n 2, 1) := daX5_advance (75, .iload_n 2, 1) (List.mem_of_getElem? (i := 38) rfl)
theorem dX5_advance_76 : decode cX5_advance 76 = .ok (.putfield 33, 3) := daX5_advance (76, .putfield 33, 3) (List.mem_of_getElem? (i := 39) rfl)
theorem dX5_advance_79 : decode cX5_advance 79 = .ok (.aload_n 0, 1) := daX5_advance (79, .aload_n 0, 1) (List.mem_of_getElem? (i := 40) rfl)
theorem dX5_advance_80 : decode cX5_advance 80 = .ok (.iconst 2, 1) := daX5_advance (80, .iconst 2, 1) (List.mem_of_getElem? (i := 41) rfl)
theorem dX5_advance_81 : decode cX5_advance 81 = .ok (.iconst 1, 1) := daX5_advance (81, .iconst 1, 1) (List.mem_of_getElem? (i := 42) rfl)
theorem dX5_advance_82 : decode cX5_advance 82 = .ok (.invokevirtual 29, 3) := daX5_advance (82, .invokevirtual 29, 3) (List.mem_of_getElem? (i := 43) rfl)
theorem dX5_advance_85 : decode cX5_advance 85 = .ok (.goto 115, 3) := daX5_advance (85, .goto 115, 3) (List.mem_of_getElem? (i := 44) rfl)
theorem dX5_advance_88 : decode cX5_advance 88 = .ok (.iload_n 2, 1) := daX5_advance (88, .iload_n 2, 1) (List.mem_of_getElem? (i := 45) rfl)
theorem dX5_advance_89 : decode cX5_advance 89 = .ok (.bipush 45, 2) := daX5_advance (89, .bipush 45, 2) (List.mem_of_getElem? (i := 46) rfl)
theorem dX5_advance_91 : decode cX5_advance 91 = .ok (.if_icmp .eq 10, 3) := daX5_advance (91, .if_icmp .eq 10, 3) (List.mem_of_getElem? (i := 47) rfl)
theorem dX5_advance_94 : decode cX5_advance 94 = .ok (.iload_n 2, 1) := daX5_advance (94, .iload_n 2, 1) (List.mem_of_getElem? (i := 48) rfl)
theorem dX5_advance_95 : decode cX5_advance 95 = .ok (.invokestatic 36, 3) := daX5_advance (95, .invokestatic 36, 3) (List.mem_of_getElem? (i := 49) rfl)
theorem dX5_advance_98 : decode cX5_advance 98 = .ok (.ifCond .eq 10, 3) := daX5_advance (98, .ifCond .eq 10, 3) (List.mem_of_getElem? (i := 50) rfl)
theorem dX5_advance_101 : decode cX5_advance 101 = .ok (.aload_n 0, 1) := daX5_advance (101, .aload_n 0, 1) (List.mem_of_getElem? (i := 51) rfl)
theorem dX5_advance_102 : decode cX5_advance 102 = .ok (.invokevirtual 40, 3) := daX5_advance (102, .invokevirtual 40, 3) (List.mem_of_getElem? (i := 52) rfl)
theorem dX5_advance_105 : decode cX5_advance 105 = .ok (.goto 95, 3) := daX5_advance (105, .goto 95, 3) (List.mem_of_getElem? (i := 53) rfl)
theorem dX5_advance_108 : decode cX5_advance 108 = .ok (.iload_n 2, 1) := daX5_advance (108, .iload_n 2, 1) (List.mem_of_getElem? (i := 54) rfl)
theorem dX5_advance_109 : decode cX5_advance 109 = .ok (.bipush 99, 2) := daX5_advance (109, .bipush 99, 2) (List.mem_of_getElem? (i := 55) rfl)
theorem dX5_advance_111 : decode cX5_advance 111 = .ok (.if_icmp .ne 27, 3) := daX5_advance (111, .if_icmp .ne 27, 3) (List.mem_of_getElem? (i := 56) rfl)
theorem dX5_advance_114 : decode cX5_advance 114 = .ok (.aload_n 0, 1) := daX5_advance (114, .aload_n 0, 1) (List.mem_of_getElem? (i := 57) rfl)
theorem dX5_advance_115 : decode cX5_advance 115 = .ok (.aload_n 0, 1) := daX5_advance (115, .aload_n 0, 1) (List.mem_of_getElem? (i := 58) rfl)
theorem dX5_advance_116 : decode cX5_advance 116 = .ok (.invokevirtual 43, 3) := daX5_advance (116, .invokevirtual 43, 3) (List.mem_of_getElem? (i := 59) rfl)
theorem dX5_advance_119 : decode cX5_advance 119 = .ok (.ifCond .eq 7, 3) := daX5_advance (119, .ifCond .eq 7, 3) (List.mem_of_getElem? (i := 60) rfl)
theorem dX5_advance_122 : decode cX5_advance 122 = .ok (.iconst 4, 1) := daX5_advance (122, .iconst 4, 1) (List.mem_of_getElem? (i := 61) rfl)
theorem dX5_advance_123 : decode cX5_advance 123 = .ok (.goto 4, 3) := daX5_advance (123, .goto 4, 3) (List.mem_of_getElem? (i := 62) rfl)
theorem dX5_advance_126 : decode cX5_advance 126 = .ok (.iconst 1, 1) := daX5_advance (126, .iconst 1, 1) (List.mem_of_getElem? (i := 63) rfl)
theorem dX5_advance_127 : decode cX5_advance 127 = .ok (.ldc 47, 2) := daX5_advance (127, .ldc 47, 2) (List.mem_of_getElem? (i := 64) rfl)
theorem dX5_advance_129 : decode cX5_advance 129 = .ok (.invokevirtual 49, 3) := daX5_advance (129, .invokevirtual 49, 3) (List.mem_of_getElem? (i := 65) rfl)
theorem dX5_advance_132 : decode cX5_advance 132 = .ok (.invokevirtual 29, 3) := daX5_advance (132, .invokevirtual 29, 3) (List.mem_of_getElem? (i := 66) rfl)
theorem dX5_advance_135 : decode cX5_advance 135 = .ok (.goto 65, 3) := daX5_advance (135, .goto 65, 3) (List.mem_of_getElem? (i := 67) rfl)
theorem dX5_advance_138 : decode cX5_advance 138 = .ok (.iload_n 2, 1) := daX5_advance (138, .iload_n 2, 1) (List.mem_of_getElem? (i := 68) rfl)
theorem dX5_advance_139 : decode cX5_advance 139 = .ok (.bipush 46, 2) := daX5_advance (139, .bipush 46, 2) (List.mem_of_getElem? (i := 69) rfl)
theorem dX5_advance_141 : decode cX5_advance 141 = .ok (.if_icmp .ne 42, 3) := daX5_advance (141, .if_icmp .ne 42, 3) (List.mem_of_getElem? (i := 70) rfl)
theorem dX5_advance_144 : decode cX5_advance 144 = .ok (.aload_n 0, 1) := daX5_advance (144, .aload_n 0, 1) (List.mem_of_getElem? (i := 71) rfl)
theorem dX5_advance_145 : decode cX5_advance 145 = .ok (.getfield 7, 3) := daX5_advance (145, .getfield 7, 3) (List.mem_of_getElem? (i := 72) rfl)
theorem dX5_advance_148 : decode cX5_advance 148 = .ok (.iload_n 1, 1) := daX5_advance (148, .iload_n 1, 1) (List.mem_of_getElem? (i := 73) rfl)
theorem dX5_advance_149 : decode cX5_advance 149 = .ok (.iconst 1, 1) := daX5_advance (149, .iconst 1, 1) (List.mem_of_getElem? (i := 74) rfl)
theorem dX5_advance_150 : decode cX5_advance 150 = .ok (.iadd, 1) := daX5_advance (150, .iadd, 1) (List.mem_of_getElem? (i := 75) rfl)
theorem dX5_advance_151 : decode cX5_advance 151 = .ok (.invokevirtual 22, 3) := daX5_advance (151, .invokevirtual 22, 3) (List.mem_of_getElem? (i := 76) rfl)
theorem dX5_advance_154 : decode cX5_advance 154 = .ok (.bipush 46, 2) := daX5_advance (154, .bipush 46, 2) (List.mem_of_getElem? (i := 77) rfl)
theorem dX5_advance_156 : decode cX5_advance 156 = .ok (.if_icmp .ne 27, 3) := daX5_advance (156, .if_icmp .ne 27, 3) (List.mem_of_getElem? (i := 78) rfl)
theorem dX5_advance_159 : decode cX5_advance 159 = .ok (.aload_n 0, 1) := daX5_advance (159, .aload_n 0, 1) (List.mem_of_getElem? (i := 79) rfl)
theorem dX5_advance_160 : decode cX5_advance 160 = .ok (.getfield 7, 3) := daX5_advance (160, .getfield 7, 3) (List.mem_of_getElem? (i := 80) rfl)
theorem dX5_advance_163 : decode cX5_advance 163 = .ok (.iload_n 1, 1) := daX5_advance (163, .iload_n 1, 1) (List.mem_of_getElem? (i := 81) rfl)
theorem dX5_advance_164 : decode cX5_advance 164 = .ok (.iconst 2, 1) := daX5_advance (164, .iconst 2, 1) (List.mem_of_getElem? (i := 82) rfl)
theorem dX5_advance_165 : decode cX5_advance 165 = .ok (.iadd, 1) := daX5_advance (165, .iadd, 1) (List.mem_of_getElem? (i := 83) rfl)
theorem dX5_advance_166 : decode cX5_advance 166 = .ok (.invokevirtual 22, 3) := daX5_advance (166, .invokevirtual 22, 3) (List.mem_of_getElem? (i := 84) rfl)
theorem dX5_advance_169 : decode cX5_advance 169 = .ok (.bipush 46, 2) := daX5_advance (169, .bipush 46, 2) (List.mem_of_getElem? (i := 85) rfl)
theorem dX5_advance_171 : decode cX5_advance 171 = .ok (.if_icmp .ne 12, 3) := daX5_advance (171, .if_icmp .ne 12, 3) (List.mem_of_getElem? (i := 86) rfl)
theorem dX5_advance_174 : decode cX5_advance 174 = .ok (.aload_n 0, 1) := daX5_advance (174, .aload_n 0, 1) (List.mem_of_getElem? (i := 87) rfl)
theorem dX5_advance_175 : decode cX5_advance 175 = .ok (.iconst 5, 1) := daX5_advance (175, .iconst 5, 1) (List.mem_of_getElem? (i := 88) rfl)
theorem dX5_advance_176 : decode cX5_advance 176 = .ok (.iconst 3, 1) := daX5_advance (176, .iconst 3, 1) (List.mem_of_getElem? (i := 89) rfl)
theorem dX5_advance_177 : decode cX5_advance 177 = .ok (.invokevirtual 29, 3) := daX5_advance (177, .invokevirtual 29, 3) (List.mem_of_getElem? (i := 90) rfl)
theorem dX5_advance_180 : decode cX5_advance 180 = .ok (.goto 20, 3) := daX5_advance (180, .goto 20, 3) (List.mem_of_getElem? (i := 91) rfl)
theorem dX5_advance_183 : decode cX5_advance 183 = .ok (.aload_n 0, 1) := daX5_advance (183, .aload_n 0, 1) (List.mem_of_getElem? (i := 92) rfl)
theorem dX5_advance_184 : decode cX5_advance 184 = .ok (.iload_n 2, 1) := daX5_advance (184, .iload_n 2, 1) (List.mem_of_getElem? (i := 93) rfl)
theorem dX5_advance_185 : decode cX5_advance 185 = .ok (.invokestatic 54, 3) := daX5_advance (185, .invokestatic 54, 3) (List.mem_of_getElem? (i := 94) rfl)
theorem dX5_advance_188 : decode cX5_advance 188 = .ok (.ifCond .eq 7, 3) := daX5_advance (188, .ifCond .eq 7, 3) (List.mem_of_getElem? (i := 95) rfl)
theorem dX5_advance_191 : decode cX5_advance 191 = .ok (.iload_n 2, 1) := daX5_advance (191, .iload_n 2, 1) (List.mem_of_getElem? (i := 96) rfl)
theorem dX5_advance_192 : decode cX5_advance 192 = .ok (.goto 4, 3) := daX5_advance (192, .goto 4, 3) (List.mem_of_getElem? (i := 97) rfl)
theorem dX5_advance_195 : decode cX5_advance 195 = .ok (.iconst 1, 1) := daX5_advance (195, .iconst 1, 1) (List.mem_of_getElem? (i := 98) rfl)
theorem dX5_advance_196 : decode cX5_advance 196 = .ok (.iconst 1, 1) := daX5_advance (196, .iconst 1, 1) (List.mem_of_getElem? (i := 99) rfl)
theorem dX5_advance_197 : decode cX5_advance 197 = .ok (.invokevirtual 29, 3) := daX5_advance (197, .invokevirtual 29, 3) (List.mem_of_getElem? (i := 100) rfl)
theorem dX5_advance_200 : decode cX5_advance 200 = .ok (.return_, 1) := daX5_advance (200, .return_, 1) (List.mem_of_getElem? (i := 101) rfl)
def rmX5_advance : Room := { frames := 7, cells := 0, slots := 0, locals := 148 }
theorem zdX5_advance : yX5_advance.cls = RX5 ∧ yX5_advance.cls ≠ "java/lang/invoke/MethodHandle" ∧ yX5_advance.cls ≠ "java/lang/invoke/VarHandle" ∧ (parseMethodDescriptor yX5_advance.desc).map (fun d => d.parameters.length) = some 0 := by decide +kernel
theorem kiX5_advance_X5 : ∀ w ∈ wsX50, w ∈ wsX5_advance := fun _ h => (List.mem_cons_of_mem _ (List.mem_append_left _ (List.mem_append_right _ h)))
theorem kfX5_advance_13 : Cond.fieldLink RX5 13 "ShapeJudge$Tokens" "next" "I" ∈ wsX5_advance := (List.mem_of_getElem? (i := 1) rfl)
theorem kfX5_advance_7 : Cond.fieldLink RX5 7 "ShapeJudge$Tokens" "tape" "LShapeJudge$Tape;" ∈ wsX5_advance := (List.mem_of_getElem? (i := 2) rfl)
theorem kiX5_advance_X3 : ∀ w ∈ wsX30, w ∈ wsX5_advance := fun _ h => (List.mem_cons_of_mem _ (List.mem_append_right _ h))
theorem kfX5_advance_17 : Cond.fieldLink RX5 17 "ShapeJudge$Tape" "length" "I" ∈ wsX5_advance := (List.mem_of_getElem? (i := 3) rfl)
theorem kfX5_advance_26 : Cond.fieldLink RX5 26 "ShapeJudge$Tokens" "place" "I" ∈ wsX5_advance := (List.mem_of_getElem? (i := 4) rfl)
theorem kfX5_advance_33 : Cond.fieldLink RX5 33 "ShapeJudge$Tokens" "number" "I" ∈ wsX5_advance := (List.mem_of_getElem? (i := 5) rfl)
def t_X5_advance_5 (m : Mem) (i2 : Int32) : Option ((Int32) ⊕ (Int32)) :=
  (if (m 7 1) ≤ i2 then (some (.inr i2)) else ((s_X3_byteAt m i2).bind fun r4 => (if r4 = 32 then (bn (i2 + 1) fun x5 => some (.inl x5)) else (some (.inr i2)))))
def l_X5_advance_5 (m : Mem) (n : Nat) (i2 : Int32) : Option (Int32) := zlp n (fun a => t_X5_advance_5 m a) i2
def s_X5_advance (m : Mem)  : Option (Mem) :=
  bn (m 10 1) fun x1 => ((l_X5_advance_5 m FU x1).bind fun y8 => bn (sto m 10 3 y8) fun m9 => (s_X3_byteAt m9 y8).bind fun r11 => (if 0 ≤ r11 then ((if r11 < 65 then ((if r11 = 45 then ((s_X5_readNumber m9).bind fun m13 => some m13) else ((s_X5_isFigure r11).bind fun r15 => (if r15 = 0 then ((if r11 = 99 then ((s_X5_isClosedText m9).bind fun r47 => (if r47 = 0 then ((s_J0_length_8abf5 ).bind fun r49 => (s_X5_become m9 1 r49).bind fun m51 => some m51) else ((s_J0_length_8abf5 ).bind fun r53 => (s_X5_become m9 4 r53).bind fun m55 => some m55))) else ((if r11 = 46 then ((s_X3_byteAt m9 (y8 + 1)).bind fun r24 => (if r24 = 46 then ((s_X3_byteAt m9 (y8 + 2)).bind fun r33 => (if r33 = 46 then ((s_X5_become m9 5 3).bind fun m42 => some m42) else ((s_X5_isSign r11).bind fun r35 => (if r35 = 0 then ((s_X5_become m9 1 1).bind fun m37 => some m37) else ((s_X5_become m9 r11 1).bind fun m39 => some m39))))) else ((s_X5_isSign r11).bind fun r26 => (if r26 = 0 then ((s_X5_become m9 1 1).bind fun m28 => some m28) else ((s_X5_become m9 r11 1).bind fun m30 => some m30))))) else ((s_X5_isSign r11).bind fun r17 => (if r17 = 0 then ((s_X5_become m9 1 1).bind fun m19 => some m19) else ((s_X5_become m9 r11 1).bind fun m21 => some m21))))))) else ((s_X5_readNumber m9).bind fun m59 => some m59))))) else ((if 90 < r11 then ((if r11 = 45 then ((s_X5_readNumber m9).bind fun m63 => some m63) else ((s_X5_isFigure r11).bind fun r65 => (if r65 = 0 then ((if r11 = 99 then ((s_X5_isClosedText m9).bind fun r97 => (if r97 = 0 then ((s_J0_length_8abf5 ).bind fun r99 => (s_X5_become m9 1 r99).bind fun m101 => some m101) else ((s_J0_length_8abf5 ).bind fun r103 => (s_X5_become m9 4 r103).bind fun m105 => some m105))) else ((if r11 = 46 then ((s_X3_byteAt m9 (y8 + 1)).bind fun r74 => (if r74 = 46 then ((s_X3_byteAt m9 (y8 + 2)).bind fun r83 => (if r83 = 46 then ((s_X5_become m9 5 3).bind fun m92 => some m92) else ((s_X5_isSign r11).bind fun r85 => (if r85 = 0 then ((s_X5_become m9 1 1).bind fun m87 => some m87) else ((s_X5_become m9 r11 1).bind fun m89 => some m89))))) else ((s_X5_isSign r11).bind fun r76 => (if r76 = 0 then ((s_X5_become m9 1 1).bind fun m78 => some m78) else ((s_X5_become m9 r11 1).bind fun m80 => some m80))))) else ((s_X5_isSign r11).bind fun r67 => (if r67 = 0 then ((s_X5_become m9 1 1).bind fun m69 => some m69) else ((s_X5_become m9 r11 1).bind fun m71 => some m71))))))) else ((s_X5_readNumber m9).bind fun m109 => some m109))))) else (bn (sto m9 10 4 r11) fun m112 => (s_X5_become m112 2 1).bind fun m114 => some m114))))) else ((s_X5_become m9 0 0).bind fun m118 => some m118)))
set_option maxRecDepth 100000 in
set_option maxHeartbeats 4000000 in
theorem w_X5_advance_5 {K : ZK} (C : zOK MX K cX5_advance 3 none RX5 wsX5_advance rmX5_advance) {m : Mem}  {o0 : Int32} (hk : zGo MX K m [(0, .ref ((zw K).2.1 10)), (1, .int o0)] 35 []) : ∀ (n : Nat) (i2 : Int32), l_X5_advance_5 m n i2 = some o0 → zGo MX K m [(0, .ref ((zw K).2.1 10)), (1, .int i2)] 5 [] := by
  intro n
  induction n with
  | zero =>
    intro i2 hf
    cases hf
  | succ n ih =>
    intro i2 hf
    obtain ⟨z, hf, hz⟩ := zlp_el hf
    replace hf : t_X5_advance_5 m i2 = some z := hf
    unfold t_X5_advance_5 at hf
    refine z_iload_n C 1 dX5_advance_5 rfl rfl ?_
    refine z_aload_n C 0 dX5_advance_6 rfl rfl ?_
    refine z_getr C (t := 7) (Nat.le_of_ble_eq_true rfl) rfl rfl 0 (Nat.le_of_ble_eq_true rfl) rfl kiX5_advance_X5 kfX5_advance_7 dX5_advance_7 ?_
    refine z_geti C (Nat.le_of_ble_eq_true rfl) rfl rfl 1 (Nat.le_of_ble_eq_true rfl) rfl kiX5_advance_X3 kfX5_advance_17 dX5_advance_10 ?_
    refine z_icmp_ge (tgt := 35) C dX5_advance_13 (by decide) (fun c7 => ?_) (fun c7 => ?_)
    · replace hf := if_t c7 hf
      cases hf
      replace hz := zlz_r hz
      cases hz
      exact z_sub [0, 1] rfl hk
    · replace hf := if_f c7 hf
      refine z_aload_n C 0 dX5_advance_16 rfl rfl ?_
      refine z_getr C (t := 7) (Nat.le_of_ble_eq_true rfl) rfl rfl 0 (Nat.le_of_ble_eq_true rfl) rfl kiX5_advance_X5 kfX5_advance_7 dX5_advance_17 ?_
      refine z_iload_n C 1 dX5_advance_20 rfl rfl ?_
      obtain ⟨r4, hc3, hf⟩ := zb_el hf
      refine z_cVi C (c_X3_byteAt _ _ hc3) rfl gX5_advance_X3_byteAt rfl rfl zdX3_byteAt rfl (Nat.le_of_ble_eq_true rfl) rfl rfl rfl ⟨Nat.le_of_ble_eq_true rfl, Nat.le_of_ble_eq_true rfl⟩ (Nat.le_of_ble_eq_true rfl) dX5_advance_21 rfl ?_
      refine z_bipush C (v := 32) dX5_advance_24 rfl ?_
      refine z_icmp_ne (tgt := 35) C dX5_advance_26 (by decide) (fun c6 => ?_) (fun c6 => ?_)
      · replace hf := if_f c6 hf
        cases hf
        replace hz := zlz_r hz
        cases hz
        exact z_sub [0, 1] rfl hk
      · replace hf := if_t c6 hf
        obtain ⟨x5, e_x5⟩ : ∃ y : Int32, y = i2 + 1 := ⟨_, rfl⟩
        replace hf := bn_to e_x5 hf
        refine z_iinc C (lv2 := [(0, .ref ((zw K).2.1 10)), (1, .int x5)]) 1 [1, 0] dX5_advance_29 rfl rfl (Nat.le_of_ble_eq_true rfl) e_x5 rfl ?_
        refine z_goto (tgt := 5) C dX5_advance_32 (by decide) ?_
        cases hf
        exact z_sub [0, 1] rfl (ih x5 hz)
set_option maxRecDepth 100000 in
set_option maxHeartbeats 4000000 in
theorem c_X5_advance (l : Launch) (w : ZW) {m : Mem}  {m9 : Mem}  (hf : s_X5_advance m  = some m9) : zCv MX l w yX5_advance wsX5_advance rmX5_advance [.ref (w.2.1 10)] m m9 := by
  refine z_met_v MX_ok (own := RX5) (by decide +kernel) rfl rfl (Nat.le_of_ble_eq_true rfl) ?_
  intro K C hKw hKl hret
  subst hKw
  subst hKl
  unfold s_X5_advance at hf
  show zGo MX K m [(0, .ref ((zw K).2.1 10))] 0 []
  refine z_aload_n C 0 dX5_advance_0 rfl rfl ?_
  refine z_geti C (Nat.le_of_ble_eq_true rfl) rfl rfl 1 (Nat.le_of_ble_eq_true rfl) rfl kiX5_advance_X5 kfX5_advance_13 dX5_advance_1 ?_
  refine z_topi (fun x1 e_x1 => ?_)
  replace hf := bn_to e_x1 hf
  refine z_istore_n C (lv2 := [(0, .ref ((zw K).2.1 10)), (1, .int x1)]) [1, 0] dX5_advance_4 rfl (Nat.le_of_ble_eq_true rfl) rfl ?_
  obtain ⟨y8, hg, hf⟩ := zb_el hf
  refine z_sub [0, 1] rfl (w_X5_advance_5 C  ?_ _ _ hg)
  clear hg
  refine z_aload_n C 0 dX5_advance_35 rfl rfl ?_
  refine z_iload_n C 1 dX5_advance_36 rfl rfl ?_
  refine z_puti C (Nat.le_of_ble_eq_true rfl) rfl rfl 3 (Nat.le_of_ble_eq_true rfl) rfl kiX5_advance_X5 kfX5_advance_26 tyX5 tyX5_ok nmX5 rfl rfl dX5_advance_37 ?_
  refine z_nm (fun m9 e_m9 => ?_)
  replace hf := bn_to e_m9 hf
  refine z_aload_n C 0 dX5_advance_40 rfl rfl ?_
  refine z_getr C (t := 7) (Nat.le_of_ble_eq_true rfl) rfl rfl 0 (Nat.le_of_ble_eq_true rfl) rfl kiX5_advance_X5 kfX5_advance_7 dX5_advance_41 ?_
  refine z_iload_n C 1 dX5_advance_44 rfl rfl ?_
  obtain ⟨r11, hc10, hf⟩ := zb_el hf
  refine z_cVi C (c_X3_byteAt _ _ hc10) rfl gX5_advance_X3_byteAt rfl rfl zdX3_byteAt rfl (Nat.le_of_ble_eq_true rfl) rfl rfl rfl ⟨Nat.le_of_ble_eq_true rfl, Nat.le_of_ble_eq_true rfl⟩ (Nat.le_of_ble_eq_true rfl) dX5_advance_45 rfl ?_
  refine z_istore_n C (lv2 := [(0, .ref ((zw K).2.1 10)), (1, .int y8), (2, .int r11)]) [1, 2, 0] dX5_advance_48 rfl (Nat.le_of_ble_eq_true rfl) rfl ?_
  refine z_iload_n C 2 dX5_advance_49 rfl rfl ?_
  refine z_if_ge (tgt := 62) C dX5_advance_50 (by decide) (fun c119 => ?_) (fun c119 => ?_)
  · replace hf := if_t c119 hf
    refine z_iload_n C 2 dX5_advance_62 rfl rfl ?_
    refine z_bipush C (v := 65) dX5_advance_63 rfl ?_
    refine z_icmp_lt (tgt := 88) C dX5_advance_65 (by decide) (fun c116 => ?_) (fun c116 => ?_)
    · replace hf := if_t c116 hf
      refine z_iload_n C 2 dX5_advance_88 rfl rfl ?_
      refine z_bipush C (v := 45) dX5_advance_89 rfl ?_
      refine z_icmp_eq (tgt := 101) C dX5_advance_91 (by decide) (fun c61 => ?_) (fun c61 => ?_)
      · replace hf := if_t c61 hf
        refine z_aload_n C 0 dX5_advance_101 rfl rfl ?_
        obtain ⟨m13, hc12, hf⟩ := zb_el hf
        refine z_cVv C (c_X5_readNumber _ _ hc12) rfl gX5_advance_X5_readNumber rfl rfl zdX5_readNumber rfl (Nat.le_of_ble_eq_true rfl) rfl rfl rfl ⟨Nat.le_of_ble_eq_true rfl, Nat.le_of_ble_eq_true rfl⟩ (Nat.le_of_ble_eq_true rfl) dX5_advance_102 rfl ?_
        refine z_goto (tgt := 200) C dX5_advance_105 (by decide) ?_
        cases hf
        exact hret _ _ dX5_advance_200
      · replace hf := if_f c61 hf
        refine z_iload_n C 2 dX5_advance_94 rfl rfl ?_
        obtain ⟨r15, hc14, hf⟩ := zb_el hf
        refine z_cSi C (c_X5_isFigure _ _ hc14) rfl gX5_advance_X5_isFigure rfl rfl zdX5_isFigure.2 rfl ⟨Nat.le_of_ble_eq_true rfl, Nat.le_of_ble_eq_true rfl⟩ (Nat.le_of_ble_eq_true rfl) dX5_advance_95 rfl ?_
        refine z_if_eq (tgt := 108) C dX5_advance_98 (by decide) (fun c60 => ?_) (fun c60 => ?_)
        · replace hf := if_t c60 hf
          refine z_iload_n C 2 dX5_advance_108 rfl rfl ?_
          refine z_bipush C (v := 99) dX5_advance_109 rfl ?_
          refine z_icmp_ne (tgt := 138) C dX5_advance_111 (by decide) (fun c57 => ?_) (fun c57 => ?_)
          · replace hf := if_f c57 hf
            refine z_iload_n C 2 dX5_advance_138 rfl rfl ?_
            refine z_bipush C (v := 46) dX5_advance_139 rfl ?_
            refine z_icmp_ne (tgt := 183) C dX5_advance_141 (by decide) (fun c45 => ?_) (fun c45 => ?_)
            · replace hf := if_f c45 hf
              refine z_aload_n C 0 dX5_advance_183 rfl rfl ?_
              refine z_iload_n C 2 dX5_advance_184 rfl rfl ?_
              obtain ⟨r17, hc16, hf⟩ := zb_el hf
              refine z_cSi C (c_X5_isSign _ _ hc16) rfl gX5_advance_X5_isSign rfl rfl zdX5_isSign.2 rfl ⟨Nat.le_of_ble_eq_true rfl, Nat.le_of_ble_eq_true rfl⟩ (Nat.le_of_ble_eq_true rfl) dX5_advance_185 rfl ?_
              refine z_if_eq (tgt := 195) C dX5_advance_188 (by decide) (fun c22 => ?_) (fun c22 => ?_)
              · replace hf := if_t c22 hf
                refine z_iconst C (v := 1) dX5_advance_195 rfl ?_
                refine z_iconst C (v := 1) dX5_advance_196 rfl ?_
                obtain ⟨m19, hc18, hf⟩ := zb_el hf
                refine z_cVv C (c_X5_become _ _ hc18) rfl gX5_advance_X5_become rfl rfl zdX5_become rfl (Nat.le_of_ble_eq_true rfl) rfl rfl rfl ⟨Nat.le_of_ble_eq_true rfl, Nat.le_of_ble_eq_true rfl⟩ (Nat.le_of_ble_eq_true rfl) dX5_advance_197 rfl ?_
                cases hf
                exact hret _ _ dX5_advance_200
              · replace hf := if_f c22 hf
                refine z_iload_n C 2 dX5_advance_191 rfl rfl ?_
                refine z_goto (tgt := 196) C dX5_advance_192 (by decide) ?_
                refine z_iconst C (v := 1) dX5_advance_196 rfl ?_
                obtain ⟨m21, hc20, hf⟩ := zb_el hf
                refine z_cVv C (c_X5_become _ _ hc20) rfl gX5_advance_X5_become rfl rfl zdX5_become rfl (Nat.le_of_ble_eq_true rfl) rfl rfl rfl ⟨Nat.le_of_ble_eq_true rfl, Nat.le_of_ble_eq_true rfl⟩ (Nat.le_of_ble_eq_true rfl) dX5_advance_197 rfl ?_
                cases hf
                exact hret _ _ dX5_advance_200
            · replace hf := if_t c45 hf
              refine z_aload_n C 0 dX5_advance_144 rfl rfl ?_
              refine z_getr C (t := 7) (Nat.le_of_ble_eq_true rfl) rfl rfl 0 (Nat.le_of_ble_eq_true rfl) rfl kiX5_advance_X5 kfX5_advance_7 dX5_advance_145 ?_
              refine z_iload_n C 1 dX5_advance_148 rfl rfl ?_
              refine z_iconst C (v := 1) dX5_advance_149 rfl ?_
              refine z_iadd C dX5_advance_150 ?_
              obtain ⟨r24, hc23, hf⟩ := zb_el hf
              refine z_cVi C (c_X3_byteAt _ _ hc23) rfl gX5_advance_X3_byteAt rfl rfl zdX3_byteAt rfl (Nat.le_of_ble_eq_true rfl) rfl rfl rfl ⟨Nat.le_of_ble_eq_true rfl, Nat.le_of_ble_eq_true rfl⟩ (Nat.le_of_ble_eq_true rfl) dX5_advance_151 rfl ?_
              refine z_bipush C (v := 46) dX5_advance_154 rfl ?_
              refine z_icmp_ne (tgt := 183) C dX5_advance_156 (by decide) (fun c44 => ?_) (fun c44 => ?_)
              · replace hf := if_f c44 hf
                refine z_aload_n C 0 dX5_advance_183 rfl rfl ?_
                refine z_iload_n C 2 dX5_advance_184 rfl rfl ?_
                obtain ⟨r26, hc25, hf⟩ := zb_el hf
                refine z_cSi C (c_X5_isSign _ _ hc25) rfl gX5_advance_X5_isSign rfl rfl zdX5_isSign.2 rfl ⟨Nat.le_of_ble_eq_true rfl, Nat.le_of_ble_eq_true rfl⟩ (Nat.le_of_ble_eq_true rfl) dX5_advance_185 rfl ?_
                refine z_if_eq (tgt := 195) C dX5_advance_188 (by decide) (fun c31 => ?_) (fun c31 => ?_)
                · replace hf := if_t c31 hf
                  refine z_iconst C (v := 1) dX5_advance_195 rfl ?_
                  refine z_iconst C (v := 1) dX5_advance_196 rfl ?_
                  obtain ⟨m28, hc27, hf⟩ := zb_el hf
                  refine z_cVv C (c_X5_become _ _ hc27) rfl gX5_advance_X5_become rfl rfl zdX5_become rfl (Nat.le_of_ble_eq_true rfl) rfl rfl rfl ⟨Nat.le_of_ble_eq_true rfl, Nat.le_of_ble_eq_true rfl⟩ (Nat.le_of_ble_eq_true rfl) dX5_advance_197 rfl ?_
                  cases hf
                  exact hret _ _ dX5_advance_200
                · replace hf := if_f c31 hf
                  refine z_iload_n C 2 dX5_advance_191 rfl rfl ?_
                  refine z_goto (tgt := 196) C dX5_advance_192 (by decide) ?_
                  refine z_iconst C (v := 1) dX5_advance_196 rfl ?_
                  obtain ⟨m30, hc29, hf⟩ := zb_el hf
                  refine z_cVv C (c_X5_become _ _ hc29) rfl gX5_advance_X5_become rfl rfl zdX5_become rfl (Nat.le_of_ble_eq_true rfl) rfl rfl rfl ⟨Nat.le_of_ble_eq_true rfl, Nat.le_of_ble_eq_true rfl⟩ (Nat.le_of_ble_eq_true rfl) dX5_advance_197 rfl ?_
                  cases hf
                  exact hret _ _ dX5_advance_200
              · replace hf := if_t c44 hf
                refine z_aload_n C 0 dX5_advance_159 rfl rfl ?_
                refine z_getr C (t := 7) (Nat.le_of_ble_eq_true rfl) rfl rfl 0 (Nat.le_of_ble_eq_true rfl) rfl kiX5_advance_X5 kfX5_advance_7 dX5_advance_160 ?_
                refine z_iload_n C 1 dX5_advance_163 rfl rfl ?_
                refine z_iconst C (v := 2) dX5_advance_164 rfl ?_
                refine z_iadd C dX5_advance_165 ?_
                obtain ⟨r33, hc32, hf⟩ := zb_el hf
                refine z_cVi C (c_X3_byteAt _ _ hc32) rfl gX5_advance_X3_byteAt rfl rfl zdX3_byteAt rfl (Nat.le_of_ble_eq_true rfl) rfl rfl rfl ⟨Nat.le_of_ble_eq_true rfl, Nat.le_of_ble_eq_true rfl⟩ (Nat.le_of_ble_eq_true rfl) dX5_advance_166 rfl ?_
                refine z_bipush C (v := 46) dX5_advance_169 rfl ?_
                refine z_icmp_ne (tgt := 183) C dX5_advance_171 (by decide) (fun c43 => ?_) (fun c43 => ?_)
                · replace hf := if_f c43 hf
                  refine z_aload_n C 0 dX5_advance_183 rfl rfl ?_
                  refine z_iload_n C 2 dX5_advance_184 rfl rfl ?_
                  obtain ⟨r35, hc34, hf⟩ := zb_el hf
                  refine z_cSi C (c_X5_isSign _ _ hc34) rfl gX5_advance_X5_isSign rfl rfl zdX5_isSign.2 rfl ⟨Nat.le_of_ble_eq_true rfl, Nat.le_of_ble_eq_true rfl⟩ (Nat.le_of_ble_eq_true rfl) dX5_advance_185 rfl ?_
                  refine z_if_eq (tgt := 195) C dX5_advance_188 (by decide) (fun c40 => ?_) (fun c40 => ?_)
                  · replace hf := if_t c40 hf
                    refine z_iconst C (v := 1) dX5_advance_195 rfl ?_
                    refine z_iconst C (v := 1) dX5_advance_196 rfl ?_
                    obtain ⟨m37, hc36, hf⟩ := zb_el hf
                    refine z_cVv C (c_X5_become _ _ hc36) rfl gX5_advance_X5_become rfl rfl zdX5_become rfl (Nat.le_of_ble_eq_true rfl) rfl rfl rfl ⟨Nat.le_of_ble_eq_true rfl, Nat.le_of_ble_eq_true rfl⟩ (Nat.le_of_ble_eq_true rfl) dX5_advance_197 rfl ?_
                    cases hf
                    exact hret _ _ dX5_advance_200
                  · replace hf := if_f c40 hf
                    refine z_iload_n C 2 dX5_advance_191 rfl rfl ?_
                    refine z_goto (tgt := 196) C dX5_advance_192 (by decide) ?_
                    refine z_iconst C (v := 1) dX5_advance_196 rfl ?_
                    obtain ⟨m39, hc38, hf⟩ := zb_el hf
                    refine z_cVv C (c_X5_become _ _ hc38) rfl gX5_advance_X5_become rfl rfl zdX5_become rfl (Nat.le_of_ble_eq_true rfl) rfl rfl rfl ⟨Nat.le_of_ble_eq_true rfl, Nat.le_of_ble_eq_true rfl⟩ (Nat.le_of_ble_eq_true rfl) dX5_advance_197 rfl ?_
                    cases hf
                    exact hret _ _ dX5_advance_200
                · replace hf := if_t c43 hf
                  refine z_aload_n C 0 dX5_advance_174 rfl rfl ?_
                  refine z_iconst C (v := 5) dX5_advance_175 rfl ?_
                  refine z_iconst C (v := 3) dX5_advance_176 rfl ?_
                  obtain ⟨m42, hc41, hf⟩ := zb_el hf
                  refine z_cVv C (c_X5_become _ _ hc41) rfl gX5_advance_X5_become rfl rfl zdX5_become rfl (Nat.le_of_ble_eq_true rfl) rfl rfl rfl ⟨Nat.le_of_ble_eq_true rfl, Nat.le_of_ble_eq_true rfl⟩ (Nat.le_of_ble_eq_true rfl) dX5_advance_177 rfl ?_
                  refine z_goto (tgt := 200) C dX5_advance_180 (by decide) ?_
                  cases hf
                  exact hret _ _ dX5_advance_200
          · replace hf := if_t c57 hf
            refine z_aload_n C 0 dX5_advance_114 rfl rfl ?_
            refine z_aload_n C 0 dX5_advance_115 rfl rfl ?_
            obtain ⟨r47, hc46, hf⟩ := zb_el hf
            refine z_cVi C (c_X5_isClosedText _ _ hc46) rfl gX5_advance_X5_isClosedText rfl rfl zdX5_isClosedText rfl (Nat.le_of_ble_eq_true rfl) rfl rfl rfl ⟨Nat.le_of_ble_eq_true rfl, Nat.le_of_ble_eq_true rfl⟩ (Nat.le_of_ble_eq_true rfl) dX5_advance_116 rfl ?_
            refine z_if_eq (tgt := 126) C dX5_advance_119 (by decide) (fun c56 => ?_) (fun c56 => ?_)
            · replace hf := if_t c56 hf
              refine z_iconst C (v := 1) dX5_advance_126 rfl ?_
              refine z_ldcs C rfl dX5_advance_127 ?_
              obtain ⟨r49, hc48, hf⟩ := zb_el hf
              refine z_cVs C (c_J0_length_8abf5 _ _ hc48) rfl gX5_advance_J0_length_8abf5 rfl rfl zdJ0_length_8abf5 rfl rfl ⟨Nat.le_of_ble_eq_true rfl, Nat.le_of_ble_eq_true rfl⟩ (Nat.le_of_ble_eq_true rfl) dX5_advance_129 rfl ?_
              obtain ⟨m51, hc50, hf⟩ := zb_el hf
              refine z_cVv C (c_X5_become _ _ hc50) rfl gX5_advance_X5_become rfl rfl zdX5_become rfl (Nat.le_of_ble_eq_true rfl) rfl rfl rfl ⟨Nat.le_of_ble_eq_true rfl, Nat.le_of_ble_eq_true rfl⟩ (Nat.le_of_ble_eq_true rfl) dX5_advance_132 rfl ?_
              refine z_goto (tgt := 200) C dX5_advance_135 (by decide) ?_
              cases hf
              exact hret _ _ dX5_advance_200
            · replace hf := if_f c56 hf
              refine z_iconst C (v := 4) dX5_advance_122 rfl ?_
              refine z_goto (tgt := 127) C dX5_advance_123 (by decide) ?_
              refine z_ldcs C rfl dX5_advance_127 ?_
              obtain ⟨r53, hc52, hf⟩ := zb_el hf
              refine z_cVs C (c_J0_length_8abf5 _ _ hc52) rfl gX5_advance_J0_length_8abf5 rfl rfl zdJ0_length_8abf5 rfl rfl ⟨Nat.le_of_ble_eq_true rfl, Nat.le_of_ble_eq_true rfl⟩ (Nat.le_of_ble_eq_true rfl) dX5_advance_129 rfl ?_
              obtain ⟨m55, hc54, hf⟩ := zb_el hf
              refine z_cVv C (c_X5_become _ _ hc54) rfl gX5_advance_X5_become rfl rfl zdX5_become rfl (Nat.le_of_ble_eq_true rfl) rfl rfl rfl ⟨Nat.le_of_ble_eq_true rfl, Nat.le_of_ble_eq_true rfl⟩ (Nat.le_of_ble_eq_true rfl) dX5_advance_132 rfl ?_
              refine z_goto (tgt := 200) C dX5_advance_135 (by decide) ?_
              cases hf
              exact hret _ _ dX5_advance_200
        · replace hf := if_f c60 hf
          refine z_aload_n C 0 dX5_advance_101 rfl rfl ?_
          obtain ⟨m59, hc58, hf⟩ := zb_el hf
          refine z_cVv C (c_X5_readNumber _ _ hc58) rfl gX5_advance_X5_readNumber rfl rfl zdX5_readNumber rfl (Nat.le_of_ble_eq_true rfl) rfl rfl rfl ⟨Nat.le_of_ble_eq_true rfl, Nat.le_of_ble_eq_true rfl⟩ (Nat.le_of_ble_eq_true rfl) dX5_advance_102 rfl ?_
          refine z_goto (tgt := 200) C dX5_advance_105 (by decide) ?_
          cases hf
          exact hret _ _ dX5_advance_200
    · replace hf := if_f c116 hf
      refine z_iload_n C 2 dX5_advance_68 rfl rfl ?_
      refine z_bipush C (v := 90) dX5_advance_69 rfl ?_
      refine z_icmp_gt (tgt := 88) C dX5_advance_71 (by decide) (fun c115 => ?_) (fun c115 => ?_)
      · replace hf := if_t c115 hf
        refine z_iload_n C 2 dX5_advance_88 rfl rfl ?_
        refine z_bipush C (v := 45) dX5_advance_89 rfl ?_
        refine z_icmp_eq (tgt := 101) C dX5_advance_91 (by decide) (fun c111 => ?_) (fun c111 => ?_)
        · replace hf := if_t c111 hf
          refine z_aload_n C 0 dX5_advance_101 rfl rfl ?_
          obtain ⟨m63, hc62, hf⟩ := zb_el hf
          refine z_cVv C (c_X5_readNumber _ _ hc62) rfl gX5_advance_X5_readNumber rfl rfl zdX5_readNumber rfl (Nat.le_of_ble_eq_true rfl) rfl rfl rfl ⟨Nat.le_of_ble_eq_true rfl, Nat.le_of_ble_eq_true rfl⟩ (Nat.le_of_ble_eq_true rfl) dX5_advance_102 rfl ?_
          refine z_goto (tgt := 200) C dX5_advance_105 (by decide) ?_
          cases hf
          exact hret _ _ dX5_advance_200
        · replace hf := if_f c111 hf
          refine z_iload_n C 2 dX5_advance_94 rfl rfl ?_
          obtain ⟨r65, hc64, hf⟩ := zb_el hf
          refine z_cSi C (c_X5_isFigure _ _ hc64) rfl gX5_advance_X5_isFigure rfl rfl zdX5_isFigure.2 rfl ⟨Nat.le_of_ble_eq_true rfl, Nat.le_of_ble_eq_true rfl⟩ (Nat.le_of_ble_eq_true rfl) dX5_advance_95 rfl ?_
          refine z_if_eq (tgt := 108) C dX5_advance_98 (by decide) (fun c110 => ?_) (fun c110 => ?_)
          · replace hf := if_t c110 hf
            refine z_iload_n C 2 dX5_advance_108 rfl rfl ?_
            refine z_bipush C (v := 99) dX5_advance_109 rfl ?_
            refine z_icmp_ne (tgt := 138) C dX5_advance_111 (by decide) (fun c107 => ?_) (fun c107 => ?_)
            · replace hf := if_f c107 hf
              refine z_iload_n C 2 dX5_advance_138 rfl rfl ?_
              refine z_bipush C (v := 46) dX5_advance_139 rfl ?_
              refine z_icmp_ne (tgt := 183) C dX5_advance_141 (by decide) (fun c95 => ?_) (fun c95 => ?_)
              · replace hf := if_f c95 hf
                refine z_aload_n C 0 dX5_advance_183 rfl rfl ?_
                refine z_iload_n C 2 dX5_advance_184 rfl rfl ?_
                obtain ⟨r67, hc66, hf⟩ := zb_el hf
                refine z_cSi C (c_X5_isSign _ _ hc66) rfl gX5_advance_X5_isSign rfl rfl zdX5_isSign.2 rfl ⟨Nat.le_of_ble_eq_true rfl, Nat.le_of_ble_eq_true rfl⟩ (Nat.le_of_ble_eq_true rfl) dX5_advance_185 rfl ?_
                refine z_if_eq (tgt := 195) C dX5_advance_188 (by decide) (fun c72 => ?_) (fun c72 => ?_)
                · replace hf := if_t c72 hf
                  refine z_iconst C (v := 1) dX5_advance_195 rfl ?_
                  refine z_iconst C (v := 1) dX5_advance_196 rfl ?_
                  obtain ⟨m69, hc68, hf⟩ := zb_el hf
                  refine z_cVv C (c_X5_become _ _ hc68) rfl gX5_advance_X5_become rfl rfl zdX5_become rfl (Nat.le_of_ble_eq_true rfl) rfl rfl rfl ⟨Nat.le_of_ble_eq_true rfl, Nat.le_of_ble_eq_true rfl⟩ (Nat.le_of_ble_eq_true rfl) dX5_advance_197 rfl ?_
                  cases hf
                  exact hret _ _ dX5_advance_200
                · replace hf := if_f c72 hf
                  refine z_iload_n C 2 dX5_advance_191 rfl rfl ?_
                  refine z_goto (tgt := 196) C dX5_advance_192 (by decide) ?_
                  refine z_iconst C (v := 1) dX5_advance_196 rfl ?_
                  obtain ⟨m71, hc70, hf⟩ := zb_el hf
                  refine z_cVv C (c_X5_become _ _ hc70) rfl gX5_advance_X5_become rfl rfl zdX5_become rfl (Nat.le_of_ble_eq_true rfl) rfl rfl rfl ⟨Nat.le_of_ble_eq_true rfl, Nat.le_of_ble_eq_true rfl⟩ (Nat.le_of_ble_eq_true rfl) dX5_advance_197 rfl ?_
                  cases hf
                  exact hret _ _ dX5_advance_200
              · replace hf := if_t c95 hf
                refine z_aload_n C 0 dX5_advance_144 rfl rfl ?_
                refine z_getr C (t := 7) (Nat.le_of_ble_eq_true rfl) rfl rfl 0 (Nat.le_of_ble_eq_true rfl) rfl kiX5_advance_X5 kfX5_advance_7 dX5_advance_145 ?_
                refine z_iload_n C 1 dX5_advance_148 rfl rfl ?_
                refine z_iconst C (v := 1) dX5_advance_149 rfl ?_
                refine z_iadd C dX5_advance_150 ?_
                obtain ⟨r74, hc73, hf⟩ := zb_el hf
                refine z_cVi C (c_X3_byteAt _ _ hc73) rfl gX5_advance_X3_byteAt rfl rfl zdX3_byteAt rfl (Nat.le_of_ble_eq_true rfl) rfl rfl rfl ⟨Nat.le_of_ble_eq_true rfl, Nat.le_of_ble_eq_true rfl⟩ (Nat.le_of_ble_eq_true rfl) dX5_advance_151 rfl ?_
                refine z_bipush C (v := 46) dX5_advance_154 rfl ?_
                refine z_icmp_ne (tgt := 183) C dX5_advance_156 (by decide) (fun c94 => ?_) (fun c94 => ?_)
                · replace hf := if_f c94 hf
                  refine z_aload_n C 0 dX5_advance_183 rfl rfl ?_
                  refine z_iload_n C 2 dX5_advance_184 rfl rfl ?_
                  obtain ⟨r76, hc75, hf⟩ := zb_el hf
                  refine z_cSi C (c_X5_isSign _ _ hc75) rfl gX5_advance_X5_isSign rfl rfl zdX5_isSign.2 rfl ⟨Nat.le_of_ble_eq_true rfl, Nat.le_of_ble_eq_true rfl⟩ (Nat.le_of_ble_eq_true rfl) dX5_advance_185 rfl ?_
                  refine z_if_eq (tgt := 195) C dX5_advance_188 (by decide) (fun c81 => ?_) (fun c81 => ?_)
                  · replace hf := if_t c81 hf
                    refine z_iconst C (v := 1) dX5_advance_195 rfl ?_
                    refine z_iconst C (v := 1) dX5_advance_196 rfl ?_
                    obtain ⟨m78, hc77, hf⟩ := zb_el hf
                    refine z_cVv C (c_X5_become _ _ hc77) rfl gX5_advance_X5_become rfl rfl zdX5_become rfl (Nat.le_of_ble_eq_true rfl) rfl rfl rfl ⟨Nat.le_of_ble_eq_true rfl, Nat.le_of_ble_eq_true rfl⟩ (Nat.le_of_ble_eq_true rfl) dX5_advance_197 rfl ?_
                    cases hf
                    exact hret _ _ dX5_advance_200
                  · replace hf := if_f c81 hf
                    refine z_iload_n C 2 dX5_advance_191 rfl rfl ?_
                    refine z_goto (tgt := 196) C dX5_advance_192 (by decide) ?_
                    refine z_iconst C (v := 1) dX5_advance_196 rfl ?_
                    obtain ⟨m80, hc79, hf⟩ := zb_el hf
                    refine z_cVv C (c_X5_become _ _ hc79) rfl gX5_advance_X5_become rfl rfl zdX5_become rfl (Nat.le_of_ble_eq_true rfl) rfl rfl rfl ⟨Nat.le_of_ble_eq_true rfl, Nat.le_of_ble_eq_true rfl⟩ (Nat.le_of_ble_eq_true rfl) dX5_advance_197 rfl ?_
                    cases hf
                    exact hret _ _ dX5_advance_200
                · replace hf := if_t c94 hf
                  refine z_aload_n C 0 dX5_advance_159 rfl rfl ?_
                  refine z_getr C (t := 7) (Nat.le_of_ble_eq_true rfl) rfl rfl 0 (Nat.le_of_ble_eq_true rfl) rfl kiX5_advance_X5 kfX5_advance_7 dX5_advance_160 ?_
                  refine z_iload_n C 1 dX5_advance_163 rfl rfl ?_
                  refine z_iconst C (v := 2) dX5_advance_164 rfl ?_
                  refine z_iadd C dX5_advance_165 ?_
                  obtain ⟨r83, hc82, hf⟩ := zb_el hf
                  refine z_cVi C (c_X3_byteAt _ _ hc82) rfl gX5_advance_X3_byteAt rfl rfl zdX3_byteAt rfl (Nat.le_of_ble_eq_true rfl) rfl rfl rfl ⟨Nat.le_of_ble_eq_true rfl, Nat.le_of_ble_eq_true rfl⟩ (Nat.le_of_ble_eq_true rfl) dX5_advance_166 rfl ?_
                  refine z_bipush C (v := 46) dX5_advance_169 rfl ?_
                  refine z_icmp_ne (tgt := 183) C dX5_advance_171 (by decide) (fun c93 => ?_) (fun c93 => ?_)
                  · replace hf := if_f c93 hf
                    refine z_aload_n C 0 dX5_advance_183 rfl rfl ?_
                    refine z_iload_n C 2 dX5_advance_184 rfl rfl ?_
                    obtain ⟨r85, hc84, hf⟩ := zb_el hf
                    refine z_cSi C (c_X5_isSign _ _ hc84) rfl gX5_advance_X5_isSign rfl rfl zdX5_isSign.2 rfl ⟨Nat.le_of_ble_eq_true rfl, Nat.le_of_ble_eq_true rfl⟩ (Nat.le_of_ble_eq_true rfl) dX5_advance_185 rfl ?_
                    refine z_if_eq (tgt := 195) C dX5_advance_188 (by decide) (fun c90 => ?_) (fun c90 => ?_)
                    · replace hf := if_t c90 hf
                      refine z_iconst C (v := 1) dX5_advance_195 rfl ?_
                      refine z_iconst C (v := 1) dX5_advance_196 rfl ?_
                      obtain ⟨m87, hc86, hf⟩ := zb_el hf
                      refine z_cVv C (c_X5_become _ _ hc86) rfl gX5_advance_X5_become rfl rfl zdX5_become rfl (Nat.le_of_ble_eq_true rfl) rfl rfl rfl ⟨Nat.le_of_ble_eq_true rfl, Nat.le_of_ble_eq_true rfl⟩ (Nat.le_of_ble_eq_true rfl) dX5_advance_197 rfl ?_
                      cases hf
                      exact hret _ _ dX5_advance_200
                    · replace hf := if_f c90 hf
                      refine z_iload_n C 2 dX5_advance_191 rfl rfl ?_
                      refine z_goto (tgt := 196) C dX5_advance_192 (by decide) ?_
                      refine z_iconst C (v := 1) dX5_advance_196 rfl ?_
                      obtain ⟨m89, hc88, hf⟩ := zb_el hf
                      refine z_cVv C (c_X5_become _ _ hc88) rfl gX5_advance_X5_become rfl rfl zdX5_become rfl (Nat.le_of_ble_eq_true rfl) rfl rfl rfl ⟨Nat.le_of_ble_eq_true rfl, Nat.le_of_ble_eq_true rfl⟩ (Nat.le_of_ble_eq_true rfl) dX5_advance_197 rfl ?_
                      cases hf
                      exact hret _ _ dX5_advance_200
                  · replace hf := if_t c93 hf
                    refine z_aload_n C 0 dX5_advance_174 rfl rfl ?_
                    refine z_iconst C (v := 5) dX5_advance_175 rfl ?_
                    refine z_iconst C (v := 3) dX5_advance_176 rfl ?_
                    obtain ⟨m92, hc91, hf⟩ := zb_el hf
                    refine z_cVv C (c_X5_become _ _ hc91) rfl gX5_advance_X5_become rfl rfl zdX5_become rfl (Nat.le_of_ble_eq_true rfl) rfl rfl rfl ⟨Nat.le_of_ble_eq_true rfl, Nat.le_of_ble_eq_true rfl⟩ (Nat.le_of_ble_eq_true rfl) dX5_advance_177 rfl ?_
                    refine z_goto (tgt := 200) C dX5_advance_180 (by decide) ?_
                    cases hf
                    exact hret _ _ dX5_advance_200
            · replace hf := if_t c107 hf
              refine z_aload_n C 0 dX5_advance_114 rfl rfl ?_
              refine z_aload_n C 0 dX5_advance_115 rfl rfl ?_
              obtain ⟨r97, hc96, hf⟩ := zb_el hf
              refine z_cVi C (c_X5_isClosedText _ _ hc96) rfl gX5_advance_X5_isClosedText rfl rfl zdX5_isClosedText rfl (Nat.le_of_ble_eq_true rfl) rfl rfl rfl ⟨Nat.le_of_ble_eq_true rfl, Nat.le_of_ble_eq_true rfl⟩ (Nat.le_of_ble_eq_true rfl) dX5_advance_116 rfl ?_
              refine z_if_eq (tgt := 126) C dX5_advance_119 (by decide) (fun c106 => ?_) (fun c106 => ?_)
              · replace hf := if_t c106 hf
                refine z_iconst C (v := 1) dX5_advance_126 rfl ?_
                refine z_ldcs C rfl dX5_advance_127 ?_
                obtain ⟨r99, hc98, hf⟩ := zb_el hf
                refine z_cVs C (c_J0_length_8abf5 _ _ hc98) rfl gX5_advance_J0_length_8abf5 rfl rfl zdJ0_length_8abf5 rfl rfl ⟨Nat.le_of_ble_eq_true rfl, Nat.le_of_ble_eq_true rfl⟩ (Nat.le_of_ble_eq_true rfl) dX5_advance_129 rfl ?_
                obtain ⟨m101, hc100, hf⟩ := zb_el hf
                refine z_cVv C (c_X5_become _ _ hc100) rfl gX5_advance_X5_become rfl rfl zdX5_become rfl (Nat.le_of_ble_eq_true rfl) rfl rfl rfl ⟨Nat.le_of_ble_eq_true rfl, Nat.le_of_ble_eq_true rfl⟩ (Nat.le_of_ble_eq_true rfl) dX5_advance_132 rfl ?_
                refine z_goto (tgt := 200) C dX5_advance_135 (by decide) ?_
                cases hf
                exact hret _ _ dX5_advance_200
              · replace hf := if_f c106 hf
                refine z_iconst C (v := 4) dX5_advance_122 rfl ?_
                refine z_goto (tgt := 127) C dX5_advance_123 (by decide) ?_
                refine z_ldcs C rfl dX5_advance_127 ?_
                obtain ⟨r103, hc102, hf⟩ := zb_el hf
                refine z_cVs C (c_J0_length_8abf5 _ _ hc102) rfl gX5_advance_J0_length_8abf5 rfl rfl zdJ0_length_8abf5 rfl rfl ⟨Nat.le_of_ble_eq_true rfl, Nat.le_of_ble_eq_true rfl⟩ (Nat.le_of_ble_eq_true rfl) dX5_advance_129 rfl ?_
                obtain ⟨m105, hc104, hf⟩ := zb_el hf
                refine z_cVv C (c_X5_become _ _ hc104) rfl gX5_advance_X5_become rfl rfl zdX5_become rfl (Nat.le_of_ble_eq_true rfl) rfl rfl rfl ⟨Nat.le_of_ble_eq_true rfl, Nat.le_of_ble_eq_true rfl⟩ (Nat.le_of_ble_eq_true rfl) dX5_advance_132 rfl ?_
                refine z_goto (tgt := 200) C dX5_advance_135 (by decide) ?_
                cases hf
                exact hret _ _ dX5_advance_200
          · replace hf := if_f c110 hf
            refine z_aload_n C 0 dX5_advance_101 rfl rfl ?_
            obtain ⟨m109, hc108, hf⟩ := zb_el hf
            refine z_cVv C (c_X5_readNumber _ _ hc108) rfl gX5_advance_X5_readNumber rfl rfl zdX5_readNumber rfl (Nat.le_of_ble_eq_true rfl) rfl rfl rfl ⟨Nat.le_of_ble_eq_true rfl, Nat.le_of_ble_eq_true rfl⟩ (Nat.le_of_ble_eq_true rfl) dX5_advance_102 rfl ?_
            refine z_goto (tgt := 200) C dX5_advance_105 (by decide) ?_
            cases hf
            exact hret _ _ dX5_advance_200
      · replace hf := if_f c115 hf
        refine z_aload_n C 0 dX5_advance_74 rfl rfl ?_
        refine z_iload_n C 2 dX5_advance_75 rfl rfl ?_
        refine z_puti C (Nat.le_of_ble_eq_true rfl) rfl rfl 4 (Nat.le_of_ble_eq_true rfl) rfl kiX5_advance_X5 kfX5_advance_33 tyX5 tyX5_ok nmX5 rfl rfl dX5_advance_76 ?_
        refine z_nm (fun m112 e_m112 => ?_)
        replace hf := bn_to e_m112 hf
        refine z_aload_n C 0 dX5_advance_79 rfl rfl ?_
        refine z_iconst C (v := 2) dX5_advance_80 rfl ?_
        refine z_iconst C (v := 1) dX5_advance_81 rfl ?_
        obtain ⟨m114, hc113, hf⟩ := zb_el hf
        refine z_cVv C (c_X5_become _ _ hc113) rfl gX5_advance_X5_become rfl rfl zdX5_become rfl (Nat.le_of_ble_eq_true rfl) rfl rfl rfl ⟨Nat.le_of_ble_eq_true rfl, Nat.le_of_ble_eq_true rfl⟩ (Nat.le_of_ble_eq_true rfl) dX5_advance_82 rfl ?_
        refine z_goto (tgt := 200) C dX5_advance_85 (by decide) ?_
        cases hf
        exact hret _ _ dX5_advance_200
  · replace hf := if_f c119 hf
    refine z_aload_n C 0 dX5_advance_53 rfl rfl ?_
    refine z_iconst C (v := 0) dX5_advance_54 rfl ?_
    refine z_iconst C (v := 0) dX5_advance_55 rfl ?_
    obtain ⟨m118, hc117, hf⟩ := zb_el hf
    refine z_cVv C (c_X5_become _ _ hc117) rfl gX5_advance_X5_become rfl rfl zdX5_become rfl (Nat.le_of_ble_eq_true rfl) rfl rfl rfl ⟨Nat.le_of_ble_eq_true rfl, Nat.le_of_ble_eq_true rfl⟩ (Nat.le_of_ble_eq_true rfl) dX5_advance_56 rfl ?_
    refine z_goto (tgt := 200) C dX5_advance_59 (by decide) ?_
    cases hf
    exact hret _ _ dX5_advance_200
