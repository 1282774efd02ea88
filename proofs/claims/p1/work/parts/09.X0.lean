def rmX0_hasShape : Room := { frames := 0, cells := 0, slots := 0, locals := 0 }
theorem zdX0_hasShape : yX0_hasShape.cls = RX0 ∧ yX0_hasShape.cls ≠ "java/lang/invoke/MethodHandle" ∧ yX0_hasShape.cls ≠ "java/lang/invoke/VarHandle" ∧ (parseMethodDescriptor yX0_hasShape.desc).map (fun d => d.parameters.length) = some 1 := by decide +kernel
theorem kiX0_hasShape_X0 : ∀ w ∈ wsX00, w ∈ wsX0_hasShape := by decide +kernel
theorem kfX0_hasShape_52 : Cond.fieldLink RX0 52 "ShapeJudge$Book" "shapeCount" "I" ∈ wsX0_hasShape := by decide +kernel
def s_X0_hasShape (m : Mem) (b : Nat) (a1 : Int32) : Option (Int32) :=
  (if a1 < 0 then (some 0) else ((if (m b 0) ≤ a1 then (some 0) else ((if 6 ≤ a1 then (some 0) else (some 1))))))
set_option maxRecDepth 100000 in
set_option maxHeartbeats 4000000 in
theorem c_X0_hasShape (l : Launch) (w : ZW) {m : Mem} {b : Nat} {a1 : Int32} {r9 : Int32} (hb : isb b) (hf : s_X0_hasShape m b a1 = some r9) : zCi MX l w yX0_hasShape wsX0_hasShape rmX0_hasShape [.ref (w.2.1 b), .int a1] m m r9 := by
  refine z_met_z MX_ok (own := RX0) (by decide +kernel) rfl rfl (Nat.le_of_ble_eq_true rfl) ?_
  intro K C hKw hKl hret
  subst hKw
  subst hKl
  unfold s_X0_hasShape at hf
  show zGo MX K m [(0, .ref ((zw K).2.1 b)), (1, .int a1)] 0 []
  refine z_iload_n C 1 dX0_hasShape_0 rfl rfl ?_
  refine z_if_lt (tgt := 22) C dX0_hasShape_1 (by decide) (fun c3 => ?_) (fun c3 => ?_)
  · replace hf := if_t c3 hf
    refine z_iconst C (v := 0) dX0_hasShape_22 rfl ?_
    cases hf
    exact hret _ _ dX0_hasShape_23 (Or.inl rfl)
  · replace hf := if_f c3 hf
    refine z_iload_n C 1 dX0_hasShape_4 rfl rfl ?_
    refine z_aload_n C 0 dX0_hasShape_5 rfl rfl ?_
    refine z_geti C (isb_k0 hb) (isb_L0 hb) rfl 0 (Nat.le_of_ble_eq_true rfl) rfl kiX0_hasShape_X0 kfX0_hasShape_52 dX0_hasShape_6 ?_
    refine z_icmp_ge (tgt := 22) C dX0_hasShape_9 (by decide) (fun c2 => ?_) (fun c2 => ?_)
    · replace hf := if_t c2 hf
      refine z_iconst C (v := 0) dX0_hasShape_22 rfl ?_
      cases hf
      exact hret _ _ dX0_hasShape_23 (Or.inl rfl)
    · replace hf := if_f c2 hf
      refine z_iload_n C 1 dX0_hasShape_12 rfl rfl ?_
      refine z_bipush C (v := 6) dX0_hasShape_13 rfl ?_
      refine z_icmp_ge (tgt := 22) C dX0_hasShape_15 (by decide) (fun c1 => ?_) (fun c1 => ?_)
      · replace hf := if_t c1 hf
        refine z_iconst C (v := 0) dX0_hasShape_22 rfl ?_
        cases hf
        exact hret _ _ dX0_hasShape_23 (Or.inl rfl)
      · replace hf := if_f c1 hf
        refine z_iconst C (v := 1) dX0_hasShape_18 rfl ?_
        refine z_goto (tgt := 23) C dX0_hasShape_19 (by decide) ?_
        cases hf
        exact hret _ _ dX0_hasShape_23 (Or.inr rfl)
def rmX0_hasRoomForPart : Room := { frames := 1, cells := 0, slots := 0, locals := 21 }
theorem zdX0_hasRoomForPart : yX0_hasRoomForPart.cls = RX0 ∧ yX0_hasRoomForPart.cls ≠ "java/lang/invoke/MethodHandle" ∧ yX0_hasRoomForPart.cls ≠ "java/lang/invoke/VarHandle" ∧ (parseMethodDescriptor yX0_hasRoomForPart.desc).map (fun d => d.parameters.length) = some 0 := by decide +kernel
theorem kiX0_hasRoomForPart_X0 : ∀ w ∈ wsX00, w ∈ wsX0_hasRoomForPart := by decide +kernel
theorem kfX0_hasRoomForPart_52 : Cond.fieldLink RX0 52 "ShapeJudge$Book" "shapeCount" "I" ∈ wsX0_hasRoomForPart := by decide +kernel
theorem kfX0_hasRoomForPart_15 : Cond.fieldLink RX0 15 "ShapeJudge$Book" "partCount" "[I" ∈ wsX0_hasRoomForPart := by decide +kernel
def s_X0_hasRoomForPart (m : Mem) (b : Nat) : Option (Int32) :=
  (s_X0_hasShape m b ((m b 0) - 1)).bind fun r2 => (if r2 = 0 then (some 0) else (ck (zin ((m b 0) - 1) 6 = true) ((if 6 ≤ (m (b + 2) (Int32.toNatClampNeg ((m b 0) - 1))) then (some 0) else (some 1)))))
set_option maxRecDepth 100000 in
set_option maxHeartbeats 4000000 in
theorem c_X0_hasRoomForPart (l : Launch) (w : ZW) {m : Mem} {b : Nat} {r9 : Int32} (hb : isb b) (hf : s_X0_hasRoomForPart m b = some r9) : zCi MX l w yX0_hasRoomForPart wsX0_hasRoomForPart rmX0_hasRoomForPart [.ref (w.2.1 b)] m m r9 := by
  refine z_met_z MX_ok (own := RX0) (by decide +kernel) rfl rfl (Nat.le_of_ble_eq_true rfl) ?_
  intro K C hKw hKl hret
  subst hKw
  subst hKl
  unfold s_X0_hasRoomForPart at hf
  show zGo MX K m [(0, .ref ((zw K).2.1 b))] 0 []
  refine z_aload_n C 0 dX0_hasRoomForPart_0 rfl rfl ?_
  refine z_aload_n C 0 dX0_hasRoomForPart_1 rfl rfl ?_
  refine z_geti C (isb_k0 hb) (isb_L0 hb) rfl 0 (Nat.le_of_ble_eq_true rfl) rfl kiX0_hasRoomForPart_X0 kfX0_hasRoomForPart_52 dX0_hasRoomForPart_2 ?_
  refine z_iconst C (v := 1) dX0_hasRoomForPart_5 rfl ?_
  refine z_isub C dX0_hasRoomForPart_6 ?_
  obtain ⟨r2, hc1, hf⟩ := zb_el hf
  refine z_cVi C (c_X0_hasShape _ _ hb hc1) rfl gX0_hasRoomForPart_X0_hasShape rfl rfl zdX0_hasShape rfl (isb_k0 hb) (isb_L0 hb) rfl rfl ⟨Nat.le_of_ble_eq_true rfl, Nat.le_of_ble_eq_true rfl⟩ (Nat.le_of_ble_eq_true rfl) dX0_hasRoomForPart_7 rfl ?_
  refine z_if_eq (tgt := 33) C dX0_hasRoomForPart_10 (by decide) (fun c5 => ?_) (fun c5 => ?_)
  · replace hf := if_t c5 hf
    refine z_iconst C (v := 0) dX0_hasRoomForPart_33 rfl ?_
    cases hf
    exact hret _ _ dX0_hasRoomForPart_34 (Or.inl rfl)
  · replace hf := if_f c5 hf
    refine z_aload_n C 0 dX0_hasRoomForPart_13 rfl rfl ?_
    refine z_getr C (t := b + 2) (isb_k0 hb) (isb_L0 hb) rfl 4 (Nat.le_of_ble_eq_true rfl) rfl kiX0_hasRoomForPart_X0 kfX0_hasRoomForPart_15 dX0_hasRoomForPart_14 ?_
    refine z_aload_n C 0 dX0_hasRoomForPart_17 rfl rfl ?_
    refine z_geti C (isb_k0 hb) (isb_L0 hb) rfl 0 (Nat.le_of_ble_eq_true rfl) rfl kiX0_hasRoomForPart_X0 kfX0_hasRoomForPart_52 dX0_hasRoomForPart_18 ?_
    refine z_iconst C (v := 1) dX0_hasRoomForPart_21 rfl ?_
    refine z_isub C dX0_hasRoomForPart_22 ?_
    obtain ⟨hi3, hf⟩ := ck_el hf
    refine z_iald C (k := (b + 2)) (isb_k2 hb) (isb_L2 hb) hi3 dX0_hasRoomForPart_23 ?_
    refine z_bipush C (v := 6) dX0_hasRoomForPart_24 rfl ?_
    refine z_icmp_ge (tgt := 33) C dX0_hasRoomForPart_26 (by decide) (fun c4 => ?_) (fun c4 => ?_)
    · replace hf := if_t c4 hf
      refine z_iconst C (v := 0) dX0_hasRoomForPart_33 rfl ?_
      cases hf
      exact hret _ _ dX0_hasRoomForPart_34 (Or.inl rfl)
    · replace hf := if_f c4 hf
      refine z_iconst C (v := 1) dX0_hasRoomForPart_29 rfl ?_
      refine z_goto (tgt := 34) C dX0_hasRoomForPart_30 (by decide) ?_
      cases hf
      exact hret _ _ dX0_hasRoomForPart_34 (Or.inr rfl)
def rmX0_addStep : Room := { frames := 1, cells := 0, slots := 0, locals := 21 }
theorem zdX0_addStep : yX0_addStep.cls = RX0 ∧ yX0_addStep.cls ≠ "java/lang/invoke/MethodHandle" ∧ yX0_addStep.cls ≠ "java/lang/invoke/VarHandle" ∧ (parseMethodDescriptor yX0_addStep.desc).map (fun d => d.parameters.length) = some 2 := by decide +kernel
theorem kiX0_addStep_X0 : ∀ w ∈ wsX00, w ∈ wsX0_addStep := by decide +kernel
theorem kfX0_addStep_60 : Cond.fieldLink RX0 60 "ShapeJudge$Book" "stepCount" "I" ∈ wsX0_addStep := by decide +kernel
theorem kfX0_addStep_34 : Cond.fieldLink RX0 34 "ShapeJudge$Book" "steps" "[I" ∈ wsX0_addStep := by decide +kernel
theorem kfX0_addStep_52 : Cond.fieldLink RX0 52 "ShapeJudge$Book" "shapeCount" "I" ∈ wsX0_addStep := by decide +kernel
theorem kfX0_addStep_31 : Cond.fieldLink RX0 31 "ShapeJudge$Book" "firstStep" "[I" ∈ wsX0_addStep := by decide +kernel
def s_X0_addStep (m : Mem) (b : Nat) (a1 : Int32) (a2 : Int32) : Option (Mem) :=
  (if 146 ≤ (m b 1) then (some m) else ((s_X0_hasShape m b ((m b 0) - 1)).bind fun r2 => (if r2 = 0 then (some m) else (ck (zin (m b 1) 146 = true) (bn (sto m (b + 8) (Int32.toNatClampNeg (m b 1)) ((a1 * 64) + a2)) fun m4 => bn (sto m4 b 1 ((m4 b 1) + 1)) fun m5 => ck (zin (m5 b 0) 7 = true) (bn (sto m5 (b + 7) (Int32.toNatClampNeg (m5 b 0)) (m5 b 1)) fun m7 => some m7))))))
set_option maxRecDepth 100000 in
set_option maxHeartbeats 4000000 in
theorem c_X0_addStep (l : Launch) (w : ZW) {m : Mem} {b : Nat} {a1 : Int32} {a2 : Int32} {m9 : Mem} (hb : isb b) (hf : s_X0_addStep m b a1 a2 = some m9) : zCv MX l w yX0_addStep wsX0_addStep rmX0_addStep [.ref (w.2.1 b), .int a1, .int a2] m m9 := by
  refine z_met_v MX_ok (own := RX0) (by decide +kernel) rfl rfl (Nat.le_of_ble_eq_true rfl) ?_
  intro K C hKw hKl hret
  subst hKw
  subst hKl
  unfold s_X0_addStep at hf
  show zGo MX K m [(0, .ref ((zw K).2.1 b)), (1, .int a1), (2, .int a2)] 0 []
  refine z_aload_n C 0 dX0_addStep_0 rfl rfl ?_
  refine z_geti C (isb_k0 hb) (isb_L0 hb) rfl 1 (Nat.le_of_ble_eq_true rfl) rfl kiX0_addStep_X0 kfX0_addStep_60 dX0_addStep_1 ?_
  refine z_aload_n C 0 dX0_addStep_4 rfl rfl ?_
  refine z_getr C (t := b + 8) (isb_k0 hb) (isb_L0 hb) rfl 10 (Nat.le_of_ble_eq_true rfl) rfl kiX0_addStep_X0 kfX0_addStep_34 dX0_addStep_5 ?_
  refine z_alen C (k := (b + 8)) (v := 146) (isb_k8 hb) (isb_L8 hb) (fun _ => rfl) rfl dX0_addStep_8 ?_
  refine z_icmp_ge (tgt := 63) C dX0_addStep_9 (by decide) (fun c9 => ?_) (fun c9 => ?_)
  · replace hf := if_t c9 hf
    cases hf
    exact hret _ _ dX0_addStep_63
  · replace hf := if_f c9 hf
    refine z_aload_n C 0 dX0_addStep_12 rfl rfl ?_
    refine z_aload_n C 0 dX0_addStep_13 rfl rfl ?_
    refine z_geti C (isb_k0 hb) (isb_L0 hb) rfl 0 (Nat.le_of_ble_eq_true rfl) rfl kiX0_addStep_X0 kfX0_addStep_52 dX0_addStep_14 ?_
    refine z_iconst C (v := 1) dX0_addStep_17 rfl ?_
    refine z_isub C dX0_addStep_18 ?_
    obtain ⟨r2, hc1, hf⟩ := zb_el hf
    refine z_cVi C (c_X0_hasShape _ _ hb hc1) rfl gX0_addStep_X0_hasShape rfl rfl zdX0_hasShape rfl (isb_k0 hb) (isb_L0 hb) rfl rfl ⟨Nat.le_of_ble_eq_true rfl, Nat.le_of_ble_eq_true rfl⟩ (Nat.le_of_ble_eq_true rfl) dX0_addStep_19 rfl ?_
    refine z_if_eq (tgt := 63) C dX0_addStep_22 (by decide) (fun c8 => ?_) (fun c8 => ?_)
    · replace hf := if_t c8 hf
      cases hf
      exact hret _ _ dX0_addStep_63
    · replace hf := if_f c8 hf
      refine z_aload_n C 0 dX0_addStep_25 rfl rfl ?_
      refine z_getr C (t := b + 8) (isb_k0 hb) (isb_L0 hb) rfl 10 (Nat.le_of_ble_eq_true rfl) rfl kiX0_addStep_X0 kfX0_addStep_34 dX0_addStep_26 ?_
      refine z_aload_n C 0 dX0_addStep_29 rfl rfl ?_
      refine z_geti C (isb_k0 hb) (isb_L0 hb) rfl 1 (Nat.le_of_ble_eq_true rfl) rfl kiX0_addStep_X0 kfX0_addStep_60 dX0_addStep_30 ?_
      refine z_iload_n C 1 dX0_addStep_33 rfl rfl ?_
      refine z_bipush C (v := 64) dX0_addStep_34 rfl ?_
      refine z_imul C dX0_addStep_36 ?_
      refine z_iload_n C 2 dX0_addStep_37 rfl rfl ?_
      refine z_iadd C dX0_addStep_38 ?_
      obtain ⟨hi3, hf⟩ := ck_el hf
      refine z_iast C (k := (b + 8)) (isb_k8 hb) (isb_L8 hb) hi3 dX0_addStep_39 ?_
      refine z_nm (fun m4 e_m4 => ?_)
      replace hf := bn_to e_m4 hf
      refine z_aload_n C 0 dX0_addStep_40 rfl rfl ?_
      refine z_dup_a C dX0_addStep_41 ?_
      refine z_geti C (isb_k0 hb) (isb_L0 hb) rfl 1 (Nat.le_of_ble_eq_true rfl) rfl kiX0_addStep_X0 kfX0_addStep_60 dX0_addStep_42 ?_
      refine z_iconst C (v := 1) dX0_addStep_45 rfl ?_
      refine z_iadd C dX0_addStep_46 ?_
      refine z_puti C (isb_k0 hb) (isb_L0 hb) rfl 1 (Nat.le_of_ble_eq_true rfl) rfl kiX0_addStep_X0 kfX0_addStep_60 tyX0 tyX0_ok nmX0 rfl rfl dX0_addStep_47 ?_
      refine z_nm (fun m5 e_m5 => ?_)
      replace hf := bn_to e_m5 hf
      refine z_aload_n C 0 dX0_addStep_50 rfl rfl ?_
      refine z_getr C (t := b + 7) (isb_k0 hb) (isb_L0 hb) rfl 9 (Nat.le_of_ble_eq_true rfl) rfl kiX0_addStep_X0 kfX0_addStep_31 dX0_addStep_51 ?_
      refine z_aload_n C 0 dX0_addStep_54 rfl rfl ?_
      refine z_geti C (isb_k0 hb) (isb_L0 hb) rfl 0 (Nat.le_of_ble_eq_true rfl) rfl kiX0_addStep_X0 kfX0_addStep_52 dX0_addStep_55 ?_
      refine z_aload_n C 0 dX0_addStep_58 rfl rfl ?_
      refine z_geti C (isb_k0 hb) (isb_L0 hb) rfl 1 (Nat.le_of_ble_eq_true rfl) rfl kiX0_addStep_X0 kfX0_addStep_60 dX0_addStep_59 ?_
      obtain ⟨hi6, hf⟩ := ck_el hf
      refine z_iast C (k := (b + 7)) (isb_k7 hb) (isb_L7 hb) hi6 dX0_addStep_62 ?_
      refine z_nm (fun m7 e_m7 => ?_)
      replace hf := bn_to e_m7 hf
      cases hf
      exact hret _ _ dX0_addStep_63
def rmX0_addPart : Room := { frames := 2, cells := 0, slots := 0, locals := 43 }
theorem zdX0_addPart : yX0_addPart.cls = RX0 ∧ yX0_addPart.cls ≠ "java/lang/invoke/MethodHandle" ∧ yX0_addPart.cls ≠ "java/lang/invoke/VarHandle" ∧ (parseMethodDescriptor yX0_addPart.desc).map (fun d => d.parameters.length) = some 1 := by decide +kernel
theorem kiX0_addPart_X0 : ∀ w ∈ wsX00, w ∈ wsX0_addPart := by decide +kernel
theorem kfX0_addPart_52 : Cond.fieldLink RX0 52 "ShapeJudge$Book" "shapeCount" "I" ∈ wsX0_addPart := by decide +kernel
theorem kfX0_addPart_15 : Cond.fieldLink RX0 15 "ShapeJudge$Book" "partCount" "[I" ∈ wsX0_addPart := by decide +kernel
theorem kfX0_addPart_63 : Cond.fieldLink RX0 63 "ShapeJudge$Book" "lastSlot" "I" ∈ wsX0_addPart := by decide +kernel
theorem kfX0_addPart_37 : Cond.fieldLink RX0 37 "ShapeJudge$Book" "partName" "[I" ∈ wsX0_addPart := by decide +kernel
theorem kfX0_addPart_22 : Cond.fieldLink RX0 22 "ShapeJudge$Book" "names" "[I" ∈ wsX0_addPart := by decide +kernel
def s_X0_addPart (m : Mem) (b : Nat) (a1 : Int32) : Option (Mem) :=
  (s_X0_hasRoomForPart m b).bind fun r2 => (if r2 = 0 then (some m) else (bn ((m b 0) - 1) fun x3 => ck (zin x3 6 = true) (bn (m (b + 2) (Int32.toNatClampNeg x3)) fun x5 => ck (zin x3 6 = true) (ck (zin x3 6 = true) (bn (sto m (b + 2) (Int32.toNatClampNeg x3) ((m (b + 2) (Int32.toNatClampNeg x3)) + 1)) fun m8 => bn (sto m8 b 2 ((x3 * 6) + x5)) fun m9 => ck (zin (m9 b 2) 36 = true) (bn (sto m9 (b + 9) (Int32.toNatClampNeg (m9 b 2)) a1) fun m11 => ck (zin x3 6 = true) (ck (zin x3 6 = true) (bn (sto m11 (b + 4) (Int32.toNatClampNeg x3) ((m11 (b + 4) (Int32.toNatClampNeg x3)) ||| ((1 : Int32) <<< (a1 &&& 31)))) fun m14 => (s_X0_addStep m14 b 0 x5).bind fun m16 => some m16))))))))
set_option maxRecDepth 100000 in
set_option maxHeartbeats 4000000 in
theorem c_X0_addPart (l : Launch) (w : ZW) {m : Mem} {b : Nat} {a1 : Int32} {m9 : Mem} (hb : isb b) (hf : s_X0_addPart m b a1 = some m9) : zCv MX l w yX0_addPart wsX0_addPart rmX0_addPart [.ref (w.2.1 b), .int a1] m m9 := by
  refine z_met_v MX_ok (own := RX0) (by decide +kernel) rfl rfl (Nat.le_of_ble_eq_true rfl) ?_
  intro K C hKw hKl hret
  subst hKw
  subst hKl
  unfold s_X0_addPart at hf
  show zGo MX K m [(0, .ref ((zw K).2.1 b)), (1, .int a1)] 0 []
  refine z_aload_n C 0 dX0_addPart_0 rfl rfl ?_
  obtain ⟨r2, hc1, hf⟩ := zb_el hf
  refine z_cVi C (c_X0_hasRoomForPart _ _ hb hc1) rfl gX0_addPart_X0_hasRoomForPart rfl rfl zdX0_hasRoomForPart rfl (isb_k0 hb) (isb_L0 hb) rfl rfl ⟨Nat.le_of_ble_eq_true rfl, Nat.le_of_ble_eq_true rfl⟩ (Nat.le_of_ble_eq_true rfl) dX0_addPart_1 rfl ?_
  refine z_if_ne (tgt := 8) C dX0_addPart_4 (by decide) (fun c17 => ?_) (fun c17 => ?_)
  · replace hf := if_f c17 hf
    refine z_aload_n C 0 dX0_addPart_8 rfl rfl ?_
    refine z_geti C (isb_k0 hb) (isb_L0 hb) rfl 0 (Nat.le_of_ble_eq_true rfl) rfl kiX0_addPart_X0 kfX0_addPart_52 dX0_addPart_9 ?_
    refine z_iconst C (v := 1) dX0_addPart_12 rfl ?_
    refine z_isub C dX0_addPart_13 ?_
    refine z_topi (fun x3 e_x3 => ?_)
    replace hf := bn_to e_x3 hf
    refine z_istore_n C (lv2 := [(0, .ref ((zw K).2.1 b)), (1, .int a1), (2, .int x3)]) [1, 2, 0] dX0_addPart_14 rfl (Nat.le_of_ble_eq_true rfl) rfl ?_
    refine z_aload_n C 0 dX0_addPart_15 rfl rfl ?_
    refine z_getr C (t := b + 2) (isb_k0 hb) (isb_L0 hb) rfl 4 (Nat.le_of_ble_eq_true rfl) rfl kiX0_addPart_X0 kfX0_addPart_15 dX0_addPart_16 ?_
    refine z_iload_n C 2 dX0_addPart_19 rfl rfl ?_
    obtain ⟨hi4, hf⟩ := ck_el hf
    refine z_iald C (k := (b + 2)) (isb_k2 hb) (isb_L2 hb) hi4 dX0_addPart_20 ?_
    refine z_topi (fun x5 e_x5 => ?_)
    replace hf := bn_to e_x5 hf
    refine z_istore_n C (lv2 := [(0, .ref ((zw K).2.1 b)), (1, .int a1), (2, .int x3), (3, .int x5)]) [1, 2, 3, 0] dX0_addPart_21 rfl (Nat.le_of_ble_eq_true rfl) rfl ?_
    refine z_aload_n C 0 dX0_addPart_22 rfl rfl ?_
    refine z_getr C (t := b + 2) (isb_k0 hb) (isb_L0 hb) rfl 4 (Nat.le_of_ble_eq_true rfl) rfl kiX0_addPart_X0 kfX0_addPart_15 dX0_addPart_23 ?_
    refine z_iload_n C 2 dX0_addPart_26 rfl rfl ?_
    refine z_dup2 C dX0_addPart_27 ?_
    obtain ⟨hi6, hf⟩ := ck_el hf
    refine z_iald C (k := (b + 2)) (isb_k2 hb) (isb_L2 hb) hi6 dX0_addPart_28 ?_
    refine z_iconst C (v := 1) dX0_addPart_29 rfl ?_
    refine z_iadd C dX0_addPart_30 ?_
    obtain ⟨hi7, hf⟩ := ck_el hf
    refine z_iast C (k := (b + 2)) (isb_k2 hb) (isb_L2 hb) hi7 dX0_addPart_31 ?_
    refine z_nm (fun m8 e_m8 => ?_)
    replace hf := bn_to e_m8 hf
    refine z_aload_n C 0 dX0_addPart_32 rfl rfl ?_
    refine z_iload_n C 2 dX0_addPart_33 rfl rfl ?_
    refine z_bipush C (v := 6) dX0_addPart_34 rfl ?_
    refine z_imul C dX0_addPart_36 ?_
    refine z_iload_n C 3 dX0_addPart_37 rfl rfl ?_
    refine z_iadd C dX0_addPart_38 ?_
    refine z_puti C (isb_k0 hb) (isb_L0 hb) rfl 2 (Nat.le_of_ble_eq_true rfl) rfl kiX0_addPart_X0 kfX0_addPart_63 tyX0 tyX0_ok nmX0 rfl rfl dX0_addPart_39 ?_
    refine z_nm (fun m9 e_m9 => ?_)
    replace hf := bn_to e_m9 hf
    refine z_aload_n C 0 dX0_addPart_42 rfl rfl ?_
    refine z_getr C (t := b + 9) (isb_k0 hb) (isb_L0 hb) rfl 11 (Nat.le_of_ble_eq_true rfl) rfl kiX0_addPart_X0 kfX0_addPart_37 dX0_addPart_43 ?_
    refine z_aload_n C 0 dX0_addPart_46 rfl rfl ?_
    refine z_geti C (isb_k0 hb) (isb_L0 hb) rfl 2 (Nat.le_of_ble_eq_true rfl) rfl kiX0_addPart_X0 kfX0_addPart_63 dX0_addPart_47 ?_
    refine z_iload_n C 1 dX0_addPart_50 rfl rfl ?_
    obtain ⟨hi10, hf⟩ := ck_el hf
    refine z_iast C (k := (b + 9)) (isb_k9 hb) (isb_L9 hb) hi10 dX0_addPart_51 ?_
    refine z_nm (fun m11 e_m11 => ?_)
    replace hf := bn_to e_m11 hf
    refine z_aload_n C 0 dX0_addPart_52 rfl rfl ?_
    refine z_getr C (t := b + 4) (isb_k0 hb) (isb_L0 hb) rfl 6 (Nat.le_of_ble_eq_true rfl) rfl kiX0_addPart_X0 kfX0_addPart_22 dX0_addPart_53 ?_
    refine z_iload_n C 2 dX0_addPart_56 rfl rfl ?_
    refine z_dup2 C dX0_addPart_57 ?_
    obtain ⟨hi12, hf⟩ := ck_el hf
    refine z_iald C (k := (b + 4)) (isb_k4 hb) (isb_L4 hb) hi12 dX0_addPart_58 ?_
    refine z_iconst C (v := 1) dX0_addPart_59 rfl ?_
    refine z_iload_n C 1 dX0_addPart_60 rfl rfl ?_
    refine z_ishl C dX0_addPart_61 ?_
    refine z_ior C dX0_addPart_62 ?_
    obtain ⟨hi13, hf⟩ := ck_el hf
    refine z_iast C (k := (b + 4)) (isb_k4 hb) (isb_L4 hb) hi13 dX0_addPart_63 ?_
    refine z_nm (fun m14 e_m14 => ?_)
    replace hf := bn_to e_m14 hf
    refine z_aload_n C 0 dX0_addPart_64 rfl rfl ?_
    refine z_iconst C (v := 0) dX0_addPart_65 rfl ?_
    refine z_iload_n C 3 dX0_addPart_66 rfl rfl ?_
    obtain ⟨m16, hc15, hf⟩ := zb_el hf
    refine z_cVv C (c_X0_addStep _ _ hb hc15) rfl gX0_addPart_X0_addStep rfl rfl zdX0_addStep rfl (isb_k0 hb) (isb_L0 hb) rfl rfl ⟨Nat.le_of_ble_eq_true rfl, Nat.le_of_ble_eq_true rfl⟩ (Nat.le_of_ble_eq_true rfl) dX0_addPart_67 rfl ?_
    cases hf
    exact hret _ _ dX0_addPart_70
  · replace hf := if_t c17 hf
    cases hf
    exact hret _ _ dX0_addPart_7
def rmX0_clear : Room := { frames := 0, cells := 0, slots := 0, locals := 0 }
theorem zdX0_clear : yX0_clear.cls = RX0 ∧ yX0_clear.cls ≠ "java/lang/invoke/MethodHandle" ∧ yX0_clear.cls ≠ "java/lang/invoke/VarHandle" ∧ (parseMethodDescriptor yX0_clear.desc).map (fun d => d.parameters.length) = some 0 := by decide +kernel
theorem kiX0_clear_X0 : ∀ w ∈ wsX00, w ∈ wsX0_clear := by decide +kernel
theorem kfX0_clear_52 : Cond.fieldLink RX0 52 "ShapeJudge$Book" "shapeCount" "I" ∈ wsX0_clear := by decide +kernel
theorem kfX0_clear_60 : Cond.fieldLink RX0 60 "ShapeJudge$Book" "stepCount" "I" ∈ wsX0_clear := by decide +kernel
theorem kfX0_clear_63 : Cond.fieldLink RX0 63 "ShapeJudge$Book" "lastSlot" "I" ∈ wsX0_clear := by decide +kernel
theorem kfX0_clear_31 : Cond.fieldLink RX0 31 "ShapeJudge$Book" "firstStep" "[I" ∈ wsX0_clear := by decide +kernel
def s_X0_clear (m : Mem) (b : Nat) : Option (Mem) :=
  bn (sto m b 0 0) fun m1 => bn (sto m1 b 1 0) fun m2 => bn (sto m2 b 2 0) fun m3 => ck (zin 0 7 = true) (bn (sto m3 (b + 7) (Int32.toNatClampNeg 0) 0) fun m5 => some m5)
set_option maxRecDepth 100000 in
set_option maxHeartbeats 4000000 in
theorem c_X0_clear (l : Launch) (w : ZW) {m : Mem} {b : Nat} {m9 : Mem} (hb : isb b) (hf : s_X0_clear m b = some m9) : zCv MX l w yX0_clear wsX0_clear rmX0_clear [.ref (w.2.1 b)] m m9 := by
  refine z_met_v MX_ok (own := RX0) (by decide +kernel) rfl rfl (Nat.le_of_ble_eq_true rfl) ?_
  intro K C hKw hKl hret
  subst hKw
  subst hKl
  unfold s_X0_clear at hf
  show zGo MX K m [(0, .ref ((zw K).2.1 b))] 0 []
  refine z_aload_n C 0 dX0_clear_0 rfl rfl ?_
  refine z_iconst C (v := 0) dX0_clear_1 rfl ?_
  refine z_puti C (isb_k0 hb) (isb_L0 hb) rfl 0 (Nat.le_of_ble_eq_true rfl) rfl kiX0_clear_X0 kfX0_clear_52 tyX0 tyX0_ok nmX0 rfl rfl dX0_clear_2 ?_
  refine z_nm (fun m1 e_m1 => ?_)
  replace hf := bn_to e_m1 hf
  refine z_aload_n C 0 dX0_clear_5 rfl rfl ?_
  refine z_iconst C (v := 0) dX0_clear_6 rfl ?_
  refine z_puti C (isb_k0 hb) (isb_L0 hb) rfl 1 (Nat.le_of_ble_eq_true rfl) rfl kiX0_clear_X0 kfX0_clear_60 tyX0 tyX0_ok nmX0 rfl rfl dX0_clear_7 ?_
  refine z_nm (fun m2 e_m2 => ?_)
  replace hf := bn_to e_m2 hf
  refine z_aload_n C 0 dX0_clear_10 rfl rfl ?_
  refine z_iconst C (v := 0) dX0_clear_11 rfl ?_
  refine z_puti C (isb_k0 hb) (isb_L0 hb) rfl 2 (Nat.le_of_ble_eq_true rfl) rfl kiX0_clear_X0 kfX0_clear_63 tyX0 tyX0_ok nmX0 rfl rfl dX0_clear_12 ?_
  refine z_nm (fun m3 e_m3 => ?_)
  replace hf := bn_to e_m3 hf
  refine z_aload_n C 0 dX0_clear_15 rfl rfl ?_
  refine z_getr C (t := b + 7) (isb_k0 hb) (isb_L0 hb) rfl 9 (Nat.le_of_ble_eq_true rfl) rfl kiX0_clear_X0 kfX0_clear_31 dX0_clear_16 ?_
  refine z_iconst C (v := 0) dX0_clear_19 rfl ?_
  refine z_iconst C (v := 0) dX0_clear_20 rfl ?_
  obtain ⟨hi4, hf⟩ := ck_el hf
  refine z_iast C (k := (b + 7)) (isb_k7 hb) (isb_L7 hb) hi4 dX0_clear_21 ?_
  refine z_nm (fun m5 e_m5 => ?_)
  replace hf := bn_to e_m5 hf
  cases hf
  exact hret _ _ dX0_clear_22
def rmX0_closeShape : Room := { frames := 1, cells := 0, slots := 0, locals := 21 }
theorem zdX0_closeShape : yX0_closeShape.cls = RX0 ∧ yX0_closeShape.cls ≠ "java/lang/invoke/MethodHandle" ∧ yX0_closeShape.cls ≠ "java/lang/invoke/VarHandle" ∧ (parseMethodDescriptor yX0_closeShape.desc).map (fun d => d.parameters.length) = some 0 := by decide +kernel
theorem kiX0_closeShape_X0 : ∀ w ∈ wsX00, w ∈ wsX0_closeShape := by decide +kernel
theorem kfX0_closeShape_52 : Cond.fieldLink RX0 52 "ShapeJudge$Book" "shapeCount" "I" ∈ wsX0_closeShape := by decide +kernel
theorem kfX0_closeShape_18 : Cond.fieldLink RX0 18 "ShapeJudge$Book" "closed" "[Z" ∈ wsX0_closeShape := by decide +kernel
def s_X0_closeShape (m : Mem) (b : Nat) : Option (Mem) :=
  (s_X0_hasShape m b ((m b 0) - 1)).bind fun r2 => (if r2 = 0 then (some m) else (ck (zin ((m b 0) - 1) 6 = true) (bn (sto m (b + 3) (Int32.toNatClampNeg ((m b 0) - 1)) (vp_nar .boolean 1)) fun m4 => some m4)))
set_option maxRecDepth 100000 in
set_option maxHeartbeats 4000000 in
theorem c_X0_closeShape (l : Launch) (w : ZW) {m : Mem} {b : Nat} {m9 : Mem} (hb : isb b) (hf : s_X0_closeShape m b = some m9) : zCv MX l w yX0_closeShape wsX0_closeShape rmX0_closeShape [.ref (w.2.1 b)] m m9 := by
  refine z_met_v MX_ok (own := RX0) (by decide +kernel) rfl rfl (Nat.le_of_ble_eq_true rfl) ?_
  intro K C hKw hKl hret
  subst hKw
  subst hKl
  unfold s_X0_closeShape at hf
  show zGo MX K m [(0, .ref ((zw K).2.1 b))] 0 []
  refine z_aload_n C 0 dX0_closeShape_0 rfl rfl ?_
  refine z_aload_n C 0 dX0_closeShape_1 rfl rfl ?_
  refine z_geti C (isb_k0 hb) (isb_L0 hb) rfl 0 (Nat.le_of_ble_eq_true rfl) rfl kiX0_closeShape_X0 kfX0_closeShape_52 dX0_closeShape_2 ?_
  refine z_iconst C (v := 1) dX0_closeShape_5 rfl ?_
  refine z_isub C dX0_closeShape_6 ?_
  obtain ⟨r2, hc1, hf⟩ := zb_el hf
  refine z_cVi C (c_X0_hasShape _ _ hb hc1) rfl gX0_closeShape_X0_hasShape rfl rfl zdX0_hasShape rfl (isb_k0 hb) (isb_L0 hb) rfl rfl ⟨Nat.le_of_ble_eq_true rfl, Nat.le_of_ble_eq_true rfl⟩ (Nat.le_of_ble_eq_true rfl) dX0_closeShape_7 rfl ?_
  refine z_if_eq (tgt := 25) C dX0_closeShape_10 (by decide) (fun c5 => ?_) (fun c5 => ?_)
  · replace hf := if_t c5 hf
    cases hf
    exact hret _ _ dX0_closeShape_25
  · replace hf := if_f c5 hf
    refine z_aload_n C 0 dX0_closeShape_13 rfl rfl ?_
    refine z_getr C (t := b + 3) (isb_k0 hb) (isb_L0 hb) rfl 5 (Nat.le_of_ble_eq_true rfl) rfl kiX0_closeShape_X0 kfX0_closeShape_18 dX0_closeShape_14 ?_
    refine z_aload_n C 0 dX0_closeShape_17 rfl rfl ?_
    refine z_geti C (isb_k0 hb) (isb_L0 hb) rfl 0 (Nat.le_of_ble_eq_true rfl) rfl kiX0_closeShape_X0 kfX0_closeShape_52 dX0_closeShape_18 ?_
    refine z_iconst C (v := 1) dX0_closeShape_21 rfl ?_
    refine z_isub C dX0_closeShape_22 ?_
    refine z_iconst C (v := 1) dX0_closeShape_23 rfl ?_
    obtain ⟨hi3, hf⟩ := ck_el hf
    refine z_zast C (k := (b + 3)) (isb_k3 hb) (isb_L3 hb) hi3 dX0_closeShape_24 ?_
    refine z_nm (fun m4 e_m4 => ?_)
    replace hf := bn_to e_m4 hf
    cases hf
    exact hret _ _ dX0_closeShape_25
def rmX0_dependsOn : Room := { frames := 1, cells := 0, slots := 0, locals := 21 }
theorem zdX0_dependsOn : yX0_dependsOn.cls = RX0 ∧ yX0_dependsOn.cls ≠ "java/lang/invoke/MethodHandle" ∧ yX0_dependsOn.cls ≠ "java/lang/invoke/VarHandle" ∧ (parseMethodDescriptor yX0_dependsOn.desc).map (fun d => d.parameters.length) = some 2 := by decide +kernel
theorem kiX0_dependsOn_X0 : ∀ w ∈ wsX00, w ∈ wsX0_dependsOn := by decide +kernel
theorem kfX0_dependsOn_25 : Cond.fieldLink RX0 25 "ShapeJudge$Book" "reach" "[I" ∈ wsX0_dependsOn := by decide +kernel
def s_X0_dependsOn (m : Mem) (b : Nat) (a1 : Int32) (a2 : Int32) : Option (Int32) :=
  (s_X0_hasShape m b a1).bind fun r2 => (if r2 = 0 then (some 0) else (ck (zin a1 6 = true) ((if (((m (b + 5) (Int32.toNatClampNeg a1)) >>> (a2 &&& 31)) &&& 1) = 0 then (some 0) else (some 1)))))
set_option maxRecDepth 100000 in
set_option maxHeartbeats 4000000 in
theorem c_X0_dependsOn (l : Launch) (w : ZW) {m : Mem} {b : Nat} {a1 : Int32} {a2 : Int32} {r9 : Int32} (hb : isb b) (hf : s_X0_dependsOn m b a1 a2 = some r9) : zCi MX l w yX0_dependsOn wsX0_dependsOn rmX0_dependsOn [.ref (w.2.1 b), .int a1, .int a2] m m r9 := by
  refine z_met_z MX_ok (own := RX0) (by decide +kernel) rfl rfl (Nat.le_of_ble_eq_true rfl) ?_
  intro K C hKw hKl hret
  subst hKw
  subst hKl
  unfold s_X0_dependsOn at hf
  show zGo MX K m [(0, .ref ((zw K).2.1 b)), (1, .int a1), (2, .int a2)] 0 []
  refine z_aload_n C 0 dX0_dependsOn_0 rfl rfl ?_
  refine z_iload_n C 1 dX0_dependsOn_1 rfl rfl ?_
  obtain ⟨r2, hc1, hf⟩ := zb_el hf
  refine z_cVi C (c_X0_hasShape _ _ hb hc1) rfl gX0_dependsOn_X0_hasShape rfl rfl zdX0_hasShape rfl (isb_k0 hb) (isb_L0 hb) rfl rfl ⟨Nat.le_of_ble_eq_true rfl, Nat.le_of_ble_eq_true rfl⟩ (Nat.le_of_ble_eq_true rfl) dX0_dependsOn_2 rfl ?_
  refine z_if_eq (tgt := 25) C dX0_dependsOn_5 (by decide) (fun c5 => ?_) (fun c5 => ?_)
  · replace hf := if_t c5 hf
    refine z_iconst C (v := 0) dX0_dependsOn_25 rfl ?_
    cases hf
    exact hret _ _ dX0_dependsOn_26 (Or.inl rfl)
  · replace hf := if_f c5 hf
    refine z_aload_n C 0 dX0_dependsOn_8 rfl rfl ?_
    refine z_getr C (t := b + 5) (isb_k0 hb) (isb_L0 hb) rfl 7 (Nat.le_of_ble_eq_true rfl) rfl kiX0_dependsOn_X0 kfX0_dependsOn_25 dX0_dependsOn_9 ?_
    refine z_iload_n C 1 dX0_dependsOn_12 rfl rfl ?_
    obtain ⟨hi3, hf⟩ := ck_el hf
    refine z_iald C (k := (b + 5)) (isb_k5 hb) (isb_L5 hb) hi3 dX0_dependsOn_13 ?_
    refine z_iload_n C 2 dX0_dependsOn_14 rfl rfl ?_
    refine z_ishr C dX0_dependsOn_15 ?_
    refine z_iconst C (v := 1) dX0_dependsOn_16 rfl ?_
    refine z_iand C dX0_dependsOn_17 ?_
    refine z_if_eq (tgt := 25) C dX0_dependsOn_18 (by decide) (fun c4 => ?_) (fun c4 => ?_)
    · replace hf := if_t c4 hf
      refine z_iconst C (v := 0) dX0_dependsOn_25 rfl ?_
      cases hf
      exact hret _ _ dX0_dependsOn_26 (Or.inl rfl)
    · replace hf := if_f c4 hf
      refine z_iconst C (v := 1) dX0_dependsOn_21 rfl ?_
      refine z_goto (tgt := 26) C dX0_dependsOn_22 (by decide) ?_
      cases hf
      exact hret _ _ dX0_dependsOn_26 (Or.inr rfl)
def rmX0_refers : Room := { frames := 0, cells := 0, slots := 0, locals := 0 }
theorem zdX0_refers : yX0_refers.cls = RX0 ∧ yX0_refers.cls ≠ "java/lang/invoke/MethodHandle" ∧ yX0_refers.cls ≠ "java/lang/invoke/VarHandle" ∧ (parseMethodDescriptor yX0_refers.desc).map (fun d => d.parameters.length) = some 1 := by decide +kernel
theorem kiX0_refers_X0 : ∀ w ∈ wsX00, w ∈ wsX0_refers := by decide +kernel
theorem kfX0_refers_40 : Cond.fieldLink RX0 40 "ShapeJudge$Book" "partTest" "[I" ∈ wsX0_refers := by decide +kernel
def s_X0_refers (m : Mem) (b : Nat) (a1 : Int32) : Option (Int32) :=
  ck (zin a1 36 = true) ((if (m (b + 10) (Int32.toNatClampNeg a1)) = 1 then (some 1) else (ck (zin a1 36 = true) ((if (m (b + 10) (Int32.toNatClampNeg a1)) = 2 then (some 1) else (some 0))))))
set_option maxRecDepth 100000 in
set_option maxHeartbeats 4000000 in
theorem c_X0_refers (l : Launch) (w : ZW) {m : Mem} {b : Nat} {a1 : Int32} {r9 : Int32} (hb : isb b) (hf : s_X0_refers m b a1 = some r9) : zCi MX l w yX0_refers wsX0_refers rmX0_refers [.ref (w.2.1 b), .int a1] m m r9 := by
  refine z_met_z MX_ok (own := RX0) (by decide +kernel) rfl rfl (Nat.le_of_ble_eq_true rfl) ?_
  intro K C hKw hKl hret
  subst hKw
  subst hKl
  unfold s_X0_refers at hf
  show zGo MX K m [(0, .ref ((zw K).2.1 b)), (1, .int a1)] 0 []
  refine z_aload_n C 0 dX0_refers_0 rfl rfl ?_
  refine z_getr C (t := b + 10) (isb_k0 hb) (isb_L0 hb) rfl 12 (Nat.le_of_ble_eq_true rfl) rfl kiX0_refers_X0 kfX0_refers_40 dX0_refers_1 ?_
  refine z_iload_n C 1 dX0_refers_4 rfl rfl ?_
  obtain ⟨hi1, hf⟩ := ck_el hf
  refine z_iald C (k := (b + 10)) (isb_k10 hb) (isb_L10 hb) hi1 dX0_refers_5 ?_
  refine z_iconst C (v := 1) dX0_refers_6 rfl ?_
  refine z_icmp_eq (tgt := 20) C dX0_refers_7 (by decide) (fun c4 => ?_) (fun c4 => ?_)
  · replace hf := if_t c4 hf
    refine z_iconst C (v := 1) dX0_refers_20 rfl ?_
    refine z_goto (tgt := 25) C dX0_refers_21 (by decide) ?_
    cases hf
    exact hret _ _ dX0_refers_25 (Or.inr rfl)
  · replace hf := if_f c4 hf
    refine z_aload_n C 0 dX0_refers_10 rfl rfl ?_
    refine z_getr C (t := b + 10) (isb_k0 hb) (isb_L0 hb) rfl 12 (Nat.le_of_ble_eq_true rfl) rfl kiX0_refers_X0 kfX0_refers_40 dX0_refers_11 ?_
    refine z_iload_n C 1 dX0_refers_14 rfl rfl ?_
    obtain ⟨hi2, hf⟩ := ck_el hf
    refine z_iald C (k := (b + 10)) (isb_k10 hb) (isb_L10 hb) hi2 dX0_refers_15 ?_
    refine z_iconst C (v := 2) dX0_refers_16 rfl ?_
    refine z_icmp_ne (tgt := 24) C dX0_refers_17 (by decide) (fun c3 => ?_) (fun c3 => ?_)
    · replace hf := if_f c3 hf
      refine z_iconst C (v := 0) dX0_refers_24 rfl ?_
      cases hf
      exact hret _ _ dX0_refers_25 (Or.inl rfl)
    · replace hf := if_t c3 hf
      refine z_iconst C (v := 1) dX0_refers_20 rfl ?_
      refine z_goto (tgt := 25) C dX0_refers_21 (by decide) ?_
      cases hf
      exact hret _ _ dX0_refers_25 (Or.inr rfl)
def rmX0_raiseLevel : Room := { frames := 1, cells := 0, slots := 0, locals := 21 }
theorem zdX0_raiseLevel : yX0_raiseLevel.cls = RX0 ∧ yX0_raiseLevel.cls ≠ "java/lang/invoke/MethodHandle" ∧ yX0_raiseLevel.cls ≠ "java/lang/invoke/VarHandle" ∧ (parseMethodDescriptor yX0_raiseLevel.desc).map (fun d => d.parameters.length) = some 1 := by decide +kernel
theorem kiX0_raiseLevel_X0 : ∀ w ∈ wsX00, w ∈ wsX0_raiseLevel := by decide +kernel
theorem kfX0_raiseLevel_15 : Cond.fieldLink RX0 15 "ShapeJudge$Book" "partCount" "[I" ∈ wsX0_raiseLevel := by decide +kernel
theorem kfX0_raiseLevel_43 : Cond.fieldLink RX0 43 "ShapeJudge$Book" "partFirst" "[I" ∈ wsX0_raiseLevel := by decide +kernel
theorem kfX0_raiseLevel_28 : Cond.fieldLink RX0 28 "ShapeJudge$Book" "level" "[I" ∈ wsX0_raiseLevel := by decide +kernel
theorem kfX0_raiseLevel_40 : Cond.fieldLink RX0 40 "ShapeJudge$Book" "partTest" "[I" ∈ wsX0_raiseLevel := by decide +kernel
theorem km1X0_raiseLevel : Cond.methodLink RX0 89 Lib.Math.max.name ∈ wsX0_raiseLevel := by decide +kernel
theorem km2X0_raiseLevel : Cond.static Lib.Math.max.name ∈ wsX0_raiseLevel := by decide +kernel
theorem km3X0_raiseLevel : Cond.initialized "java/lang/Math" ∈ wsX0_raiseLevel := by decide +kernel
theorem km4X0_raiseLevel : Cond.code Lib.Math.max.name Lib.Math.max.code 2 (some .int) ∈ wsX0_raiseLevel := by decide +kernel
def t_X0_raiseLevel_2 (b : Nat) (a1 : Int32) (i1 : Int32) (m2 : Mem) : Option ((Int32 × Mem) ⊕ (Mem)) :=
  ck (zin a1 6 = true) ((if (m2 (b + 2) (Int32.toNatClampNeg a1)) ≤ i1 then (some (.inr m2)) else (bn ((a1 * 6) + i1) fun x4 => (s_X0_refers m2 b x4).bind fun r6 => (if r6 = 0 then (bn (i1 + 1) fun x7 => some (.inl (x7, m2))) else (ck (zin x4 36 = true) ((s_X0_hasShape m2 b (m2 (b + 11) (Int32.toNatClampNeg x4))).bind fun r10 => (if r10 = 0 then (bn (i1 + 1) fun x11 => some (.inl (x11, m2))) else (ck (zin x4 36 = true) (ck (zin (m2 (b + 11) (Int32.toNatClampNeg x4)) 6 = true) (bn (m2 (b + 6) (Int32.toNatClampNeg (m2 (b + 11) (Int32.toNatClampNeg x4)))) fun x14 => ck (zin a1 6 = true) (ck (zin x4 36 = true) ((if (m2 (b + 10) (Int32.toNatClampNeg x4)) = 2 then (ck (zin a1 6 = true) (bn (sto m2 (b + 6) (Int32.toNatClampNeg a1) (if (m2 (b + 6) (Int32.toNatClampNeg a1)) < (x14 + 1) then (x14 + 1) else (m2 (b + 6) (Int32.toNatClampNeg a1)))) fun m21 => bn (i1 + 1) fun x22 => some (.inl (x22, m21)))) else (ck (zin a1 6 = true) (bn (sto m2 (b + 6) (Int32.toNatClampNeg a1) (if (m2 (b + 6) (Int32.toNatClampNeg a1)) < x14 then x14 else (m2 (b + 6) (Int32.toNatClampNeg a1)))) fun m18 => bn (i1 + 1) fun x19 => some (.inl (x19, m18)))))))))))))))))
def l_X0_raiseLevel_2 (b : Nat) (a1 : Int32) (n : Nat) (i1 : Int32) (m2 : Mem) : Option (Mem) := zlp n (fun a => t_X0_raiseLevel_2 b a1 a.1 a.2) (i1, m2)
def s_X0_raiseLevel (m : Mem) (b : Nat) (a1 : Int32) : Option (Mem) :=
  ((l_X0_raiseLevel_2 b a1 FU 0 m).bind fun m27 => some m27)
set_option maxRecDepth 100000 in
set_option maxHeartbeats 4000000 in
theorem w_X0_raiseLevel_2 {K : ZK} (C : zOK MX K cX0_raiseLevel 5 none RX0 wsX0_raiseLevel rmX0_raiseLevel) {b : Nat} {a1 : Int32} (hb : isb b) {o0 : Mem} (hk : zGo MX K o0 [] 93 []) : ∀ (n : Nat) (i1 : Int32) (m2 : Mem), l_X0_raiseLevel_2 b a1 n i1 m2 = some o0 → zGo MX K m2 [(0, .ref ((zw K).2.1 b)), (1, .int a1), (2, .int i1)] 2 [] := by
  intro n
  induction n with
  | zero =>
    intro i1 m2 hf
    cases hf
  | succ n ih =>
    intro i1 m2 hf
    obtain ⟨z, hf, hz⟩ := zlp_el hf
    replace hf : t_X0_raiseLevel_2 b a1 i1 m2 = some z := hf
    unfold t_X0_raiseLevel_2 at hf
    refine z_iload_n C 2 dX0_raiseLevel_2 rfl rfl ?_
    refine z_aload_n C 0 dX0_raiseLevel_3 rfl rfl ?_
    refine z_getr C (t := b + 2) (isb_k0 hb) (isb_L0 hb) rfl 4 (Nat.le_of_ble_eq_true rfl) rfl kiX0_raiseLevel_X0 kfX0_raiseLevel_15 dX0_raiseLevel_4 ?_
    refine z_iload_n C 1 dX0_raiseLevel_7 rfl rfl ?_
    obtain ⟨hi3, hf⟩ := ck_el hf
    refine z_iald C (k := (b + 2)) (isb_k2 hb) (isb_L2 hb) hi3 dX0_raiseLevel_8 ?_
    refine z_icmp_ge (tgt := 93) C dX0_raiseLevel_9 (by decide) (fun c26 => ?_) (fun c26 => ?_)
    · replace hf := if_t c26 hf
      cases hf
      replace hz := zlz_r hz
      cases hz
      exact z_sub [] rfl hk
    · replace hf := if_f c26 hf
      refine z_iload_n C 1 dX0_raiseLevel_12 rfl rfl ?_
      refine z_bipush C (v := 6) dX0_raiseLevel_13 rfl ?_
      refine z_imul C dX0_raiseLevel_15 ?_
      refine z_iload_n C 2 dX0_raiseLevel_16 rfl rfl ?_
      refine z_iadd C dX0_raiseLevel_17 ?_
      refine z_topi (fun x4 e_x4 => ?_)
      replace hf := bn_to e_x4 hf
      refine z_istore_n C (lv2 := [(0, .ref ((zw K).2.1 b)), (1, .int a1), (2, .int i1), (3, .int x4)]) [1, 2, 3, 0] dX0_raiseLevel_18 rfl (Nat.le_of_ble_eq_true rfl) rfl ?_
      refine z_aload_n C 0 dX0_raiseLevel_19 rfl rfl ?_
      refine z_iload_n C 3 dX0_raiseLevel_20 rfl rfl ?_
      obtain ⟨r6, hc5, hf⟩ := zb_el hf
      refine z_cVi C (c_X0_refers _ _ hb hc5) rfl gX0_raiseLevel_X0_refers rfl rfl zdX0_refers rfl (isb_k0 hb) (isb_L0 hb) rfl rfl ⟨Nat.le_of_ble_eq_true rfl, Nat.le_of_ble_eq_true rfl⟩ (Nat.le_of_ble_eq_true rfl) dX0_raiseLevel_21 rfl ?_
      refine z_if_eq (tgt := 87) C dX0_raiseLevel_24 (by decide) (fun c25 => ?_) (fun c25 => ?_)
      · replace hf := if_t c25 hf
        obtain ⟨x7, e_x7⟩ : ∃ y : Int32, y = i1 + 1 := ⟨_, rfl⟩
        replace hf := bn_to e_x7 hf
        refine z_iinc C (lv2 := [(0, .ref ((zw K).2.1 b)), (1, .int a1), (2, .int x7), (3, .int x4)]) 2 [1, 2, 0, 3] dX0_raiseLevel_87 rfl rfl (Nat.le_of_ble_eq_true rfl) e_x7 rfl ?_
        refine z_goto (tgt := 2) C dX0_raiseLevel_90 (by decide) ?_
        cases hf
        exact z_sub [0, 1, 2] rfl (ih x7 m2 hz)
      · replace hf := if_f c25 hf
        refine z_aload_n C 0 dX0_raiseLevel_27 rfl rfl ?_
        refine z_aload_n C 0 dX0_raiseLevel_28 rfl rfl ?_
        refine z_getr C (t := b + 11) (isb_k0 hb) (isb_L0 hb) rfl 13 (Nat.le_of_ble_eq_true rfl) rfl kiX0_raiseLevel_X0 kfX0_raiseLevel_43 dX0_raiseLevel_29 ?_
        refine z_iload_n C 3 dX0_raiseLevel_32 rfl rfl ?_
        obtain ⟨hi8, hf⟩ := ck_el hf
        refine z_iald C (k := (b + 11)) (isb_k11 hb) (isb_L11 hb) hi8 dX0_raiseLevel_33 ?_
        obtain ⟨r10, hc9, hf⟩ := zb_el hf
        refine z_cVi C (c_X0_hasShape _ _ hb hc9) rfl gX0_raiseLevel_X0_hasShape rfl rfl zdX0_hasShape rfl (isb_k0 hb) (isb_L0 hb) rfl rfl ⟨Nat.le_of_ble_eq_true rfl, Nat.le_of_ble_eq_true rfl⟩ (Nat.le_of_ble_eq_true rfl) dX0_raiseLevel_34 rfl ?_
        refine z_if_eq (tgt := 87) C dX0_raiseLevel_37 (by decide) (fun c24 => ?_) (fun c24 => ?_)
        · replace hf := if_t c24 hf
          obtain ⟨x11, e_x11⟩ : ∃ y : Int32, y = i1 + 1 := ⟨_, rfl⟩
          replace hf := bn_to e_x11 hf
          refine z_iinc C (lv2 := [(0, .ref ((zw K).2.1 b)), (1, .int a1), (2, .int x11), (3, .int x4)]) 2 [1, 2, 0, 3] dX0_raiseLevel_87 rfl rfl (Nat.le_of_ble_eq_true rfl) e_x11 rfl ?_
          refine z_goto (tgt := 2) C dX0_raiseLevel_90 (by decide) ?_
          cases hf
          exact z_sub [0, 1, 2] rfl (ih x11 m2 hz)
        · replace hf := if_f c24 hf
          refine z_aload_n C 0 dX0_raiseLevel_40 rfl rfl ?_
          refine z_getr C (t := b + 6) (isb_k0 hb) (isb_L0 hb) rfl 8 (Nat.le_of_ble_eq_true rfl) rfl kiX0_raiseLevel_X0 kfX0_raiseLevel_28 dX0_raiseLevel_41 ?_
          refine z_aload_n C 0 dX0_raiseLevel_44 rfl rfl ?_
          refine z_getr C (t := b + 11) (isb_k0 hb) (isb_L0 hb) rfl 13 (Nat.le_of_ble_eq_true rfl) rfl kiX0_raiseLevel_X0 kfX0_raiseLevel_43 dX0_raiseLevel_45 ?_
          refine z_iload_n C 3 dX0_raiseLevel_48 rfl rfl ?_
          obtain ⟨hi12, hf⟩ := ck_el hf
          refine z_iald C (k := (b + 11)) (isb_k11 hb) (isb_L11 hb) hi12 dX0_raiseLevel_49 ?_
          obtain ⟨hi13, hf⟩ := ck_el hf
          refine z_iald C (k := (b + 6)) (isb_k6 hb) (isb_L6 hb) hi13 dX0_raiseLevel_50 ?_
          refine z_topi (fun x14 e_x14 => ?_)
          replace hf := bn_to e_x14 hf
          refine z_istore C (lv2 := [(0, .ref ((zw K).2.1 b)), (1, .int a1), (2, .int i1), (3, .int x4), (4, .int x14)]) [1, 2, 3, 4, 0] dX0_raiseLevel_51 (Nat.le_of_ble_eq_true rfl) rfl ?_
          refine z_aload_n C 0 dX0_raiseLevel_53 rfl rfl ?_
          refine z_getr C (t := b + 6) (isb_k0 hb) (isb_L0 hb) rfl 8 (Nat.le_of_ble_eq_true rfl) rfl kiX0_raiseLevel_X0 kfX0_raiseLevel_28 dX0_raiseLevel_54 ?_
          refine z_iload_n C 1 dX0_raiseLevel_57 rfl rfl ?_
          refine z_aload_n C 0 dX0_raiseLevel_58 rfl rfl ?_
          refine z_getr C (t := b + 6) (isb_k0 hb) (isb_L0 hb) rfl 8 (Nat.le_of_ble_eq_true rfl) rfl kiX0_raiseLevel_X0 kfX0_raiseLevel_28 dX0_raiseLevel_59 ?_
          refine z_iload_n C 1 dX0_raiseLevel_62 rfl rfl ?_
          obtain ⟨hi15, hf⟩ := ck_el hf
          refine z_iald C (k := (b + 6)) (isb_k6 hb) (isb_L6 hb) hi15 dX0_raiseLevel_63 ?_
          refine z_aload_n C 0 dX0_raiseLevel_64 rfl rfl ?_
          refine z_getr C (t := b + 10) (isb_k0 hb) (isb_L0 hb) rfl 12 (Nat.le_of_ble_eq_true rfl) rfl kiX0_raiseLevel_X0 kfX0_raiseLevel_40 dX0_raiseLevel_65 ?_
          refine z_iload_n C 3 dX0_raiseLevel_68 rfl rfl ?_
          obtain ⟨hi16, hf⟩ := ck_el hf
          refine z_iald C (k := (b + 10)) (isb_k10 hb) (isb_L10 hb) hi16 dX0_raiseLevel_69 ?_
          refine z_iconst C (v := 2) dX0_raiseLevel_70 rfl ?_
          refine z_icmp_ne (tgt := 81) C dX0_raiseLevel_71 (by decide) (fun c23 => ?_) (fun c23 => ?_)
          · replace hf := if_f c23 hf
            refine z_iload C 4 dX0_raiseLevel_81 rfl ?_
            refine z_max C km1X0_raiseLevel km2X0_raiseLevel km3X0_raiseLevel km4X0_raiseLevel (Nat.le_of_ble_eq_true rfl) (Nat.le_of_ble_eq_true rfl) dX0_raiseLevel_83 ?_
            obtain ⟨hi17, hf⟩ := ck_el hf
            refine z_iast C (k := (b + 6)) (isb_k6 hb) (isb_L6 hb) hi17 dX0_raiseLevel_86 ?_
            refine z_nm (fun m18 e_m18 => ?_)
            replace hf := bn_to e_m18 hf
            obtain ⟨x19, e_x19⟩ : ∃ y : Int32, y = i1 + 1 := ⟨_, rfl⟩
            replace hf := bn_to e_x19 hf
            refine z_iinc C (lv2 := [(0, .ref ((zw K).2.1 b)), (1, .int a1), (2, .int x19), (3, .int x4), (4, .int x14)]) 2 [1, 2, 0, 3, 4] dX0_raiseLevel_87 rfl rfl (Nat.le_of_ble_eq_true rfl) e_x19 rfl ?_
            refine z_goto (tgt := 2) C dX0_raiseLevel_90 (by decide) ?_
            cases hf
            exact z_sub [0, 1, 2] rfl (ih x19 m18 hz)
          · replace hf := if_t c23 hf
            refine z_iload C 4 dX0_raiseLevel_74 rfl ?_
            refine z_iconst C (v := 1) dX0_raiseLevel_76 rfl ?_
            refine z_iadd C dX0_raiseLevel_77 ?_
            refine z_goto (tgt := 83) C dX0_raiseLevel_78 (by decide) ?_
            refine z_max C km1X0_raiseLevel km2X0_raiseLevel km3X0_raiseLevel km4X0_raiseLevel (Nat.le_of_ble_eq_true rfl) (Nat.le_of_ble_eq_true rfl) dX0_raiseLevel_83 ?_
            obtain ⟨hi20, hf⟩ := ck_el hf
            refine z_iast C (k := (b + 6)) (isb_k6 hb) (isb_L6 hb) hi20 dX0_raiseLevel_86 ?_
            refine z_nm (fun m21 e_m21 => ?_)
            replace hf := bn_to e_m21 hf
            obtain ⟨x22, e_x22⟩ : ∃ y : Int32, y = i1 + 1 := ⟨_, rfl⟩
            replace hf := bn_to e_x22 hf
            refine z_iinc C (lv2 := [(0, .ref ((zw K).2.1 b)), (1, .int a1), (2, .int x22), (3, .int x4), (4, .int x14)]) 2 [1, 2, 0, 3, 4] dX0_raiseLevel_87 rfl rfl (Nat.le_of_ble_eq_true rfl) e_x22 rfl ?_
            refine z_goto (tgt := 2) C dX0_raiseLevel_90 (by decide) ?_
            cases hf
            exact z_sub [0, 1, 2] rfl (ih x22 m21 hz)
set_option maxRecDepth 100000 in
set_option maxHeartbeats 4000000 in
theorem c_X0_raiseLevel (l : Launch) (w : ZW) {m : Mem} {b : Nat} {a1 : Int32} {m9 : Mem} (hb : isb b) (hf : s_X0_raiseLevel m b a1 = some m9) : zCv MX l w yX0_raiseLevel wsX0_raiseLevel rmX0_raiseLevel [.ref (w.2.1 b), .int a1] m m9 := by
  refine z_met_v MX_ok (own := RX0) (by decide +kernel) rfl rfl (Nat.le_of_ble_eq_true rfl) ?_
  intro K C hKw hKl hret
  subst hKw
  subst hKl
  unfold s_X0_raiseLevel at hf
  show zGo MX K m [(0, .ref ((zw K).2.1 b)), (1, .int a1)] 0 []
  refine z_iconst C (v := 0) dX0_raiseLevel_0 rfl ?_
  refine z_istore_n C (lv2 := [(0, .ref ((zw K).2.1 b)), (1, .int a1), (2, .int 0)]) [1, 2, 0] dX0_raiseLevel_1 rfl (Nat.le_of_ble_eq_true rfl) rfl ?_
  obtain ⟨m27, hg, hf⟩ := zb_el hf
  refine z_sub [0, 1, 2] rfl (w_X0_raiseLevel_2 C hb ?_ _ _ _ hg)
  clear hg
  cases hf
  exact hret _ _ dX0_raiseLevel_93
def rmX0_findLevels : Room := { frames := 2, cells := 0, slots := 0, locals := 45 }
theorem zdX0_findLevels : yX0_findLevels.cls = RX0 ∧ yX0_findLevels.cls ≠ "java/lang/invoke/MethodHandle" ∧ yX0_findLevels.cls ≠ "java/lang/invoke/VarHandle" ∧ (parseMethodDescriptor yX0_findLevels.desc).map (fun d => d.parameters.length) = some 0 := by decide +kernel
theorem kiX0_findLevels_X0 : ∀ w ∈ wsX00, w ∈ wsX0_findLevels := by decide +kernel
theorem kfX0_findLevels_52 : Cond.fieldLink RX0 52 "ShapeJudge$Book" "shapeCount" "I" ∈ wsX0_findLevels := by decide +kernel
def t_X0_findLevels_10 (b : Nat) (i3 : Int32) (m4 : Mem) : Option ((Int32 × Mem) ⊕ (Mem)) :=
  (if (m4 b 0) ≤ i3 then (some (.inr m4)) else ((s_X0_raiseLevel m4 b i3).bind fun m6 => bn (i3 + 1) fun x7 => some (.inl (x7, m6))))
def l_X0_findLevels_10 (b : Nat) (n : Nat) (i3 : Int32) (m4 : Mem) : Option (Mem) := zlp n (fun a => t_X0_findLevels_10 b a.1 a.2) (i3, m4)
def t_X0_findLevels_2 (b : Nat) (i1 : Int32) (m2 : Mem) : Option ((Int32 × Mem) ⊕ (Mem)) :=
  (if 6 ≤ i1 then (some (.inr m2)) else (((l_X0_findLevels_10 b FU 0 m2).bind fun m9 => bn (i1 + 1) fun x10 => some (.inl (x10, m9)))))
def l_X0_findLevels_2 (b : Nat) (n : Nat) (i1 : Int32) (m2 : Mem) : Option (Mem) := zlp n (fun a => t_X0_findLevels_2 b a.1 a.2) (i1, m2)
def s_X0_findLevels (m : Mem) (b : Nat) : Option (Mem) :=
  ((l_X0_findLevels_2 b FU 0 m).bind fun m12 => some m12)
set_option maxRecDepth 100000 in
set_option maxHeartbeats 4000000 in
theorem w_X0_findLevels_10 {K : ZK} (C : zOK MX K cX0_findLevels 3 none RX0 wsX0_findLevels rmX0_findLevels) {b : Nat} {i1 : Int32} (hb : isb b) {o0 : Mem} (hk : zGo MX K o0 [(0, .ref ((zw K).2.1 b)), (1, .int i1)] 29 []) : ∀ (n : Nat) (i3 : Int32) (m4 : Mem), l_X0_findLevels_10 b n i3 m4 = some o0 → zGo MX K m4 [(0, .ref ((zw K).2.1 b)), (1, .int i1), (2, .int i3)] 10 [] := by
  intro n
  induction n with
  | zero =>
    intro i3 m4 hf
    cases hf
  | succ n ih =>
    intro i3 m4 hf
    obtain ⟨z, hf, hz⟩ := zlp_el hf
    replace hf : t_X0_findLevels_10 b i3 m4 = some z := hf
    unfold t_X0_findLevels_10 at hf
    refine z_iload_n C 2 dX0_findLevels_10 rfl rfl ?_
    refine z_aload_n C 0 dX0_findLevels_11 rfl rfl ?_
    refine z_geti C (isb_k0 hb) (isb_L0 hb) rfl 0 (Nat.le_of_ble_eq_true rfl) rfl kiX0_findLevels_X0 kfX0_findLevels_52 dX0_findLevels_12 ?_
    refine z_icmp_ge (tgt := 29) C dX0_findLevels_15 (by decide) (fun c8 => ?_) (fun c8 => ?_)
    · replace hf := if_t c8 hf
      cases hf
      replace hz := zlz_r hz
      cases hz
      exact z_sub [0, 1] rfl hk
    · replace hf := if_f c8 hf
      refine z_aload_n C 0 dX0_findLevels_18 rfl rfl ?_
      refine z_iload_n C 2 dX0_findLevels_19 rfl rfl ?_
      obtain ⟨m6, hc5, hf⟩ := zb_el hf
      refine z_cVv C (c_X0_raiseLevel _ _ hb hc5) rfl gX0_findLevels_X0_raiseLevel rfl rfl zdX0_raiseLevel rfl (isb_k0 hb) (isb_L0 hb) rfl rfl ⟨Nat.le_of_ble_eq_true rfl, Nat.le_of_ble_eq_true rfl⟩ (Nat.le_of_ble_eq_true rfl) dX0_findLevels_20 rfl ?_
      obtain ⟨x7, e_x7⟩ : ∃ y : Int32, y = i3 + 1 := ⟨_, rfl⟩
      replace hf := bn_to e_x7 hf
      refine z_iinc C (lv2 := [(0, .ref ((zw K).2.1 b)), (1, .int i1), (2, .int x7)]) 2 [1, 2, 0] dX0_findLevels_23 rfl rfl (Nat.le_of_ble_eq_true rfl) e_x7 rfl ?_
      refine z_goto (tgt := 10) C dX0_findLevels_26 (by decide) ?_
      cases hf
      exact z_sub [0, 1, 2] rfl (ih x7 m6 hz)
set_option maxRecDepth 100000 in
set_option maxHeartbeats 4000000 in
theorem w_X0_findLevels_2 {K : ZK} (C : zOK MX K cX0_findLevels 3 none RX0 wsX0_findLevels rmX0_findLevels) {b : Nat} (hb : isb b) {o0 : Mem} (hk : zGo MX K o0 [] 35 []) : ∀ (n : Nat) (i1 : Int32) (m2 : Mem), l_X0_findLevels_2 b n i1 m2 = some o0 → zGo MX K m2 [(0, .ref ((zw K).2.1 b)), (1, .int i1)] 2 [] := by
  intro n
  induction n with
  | zero =>
    intro i1 m2 hf
    cases hf
  | succ n ih =>
    intro i1 m2 hf
    obtain ⟨z, hf, hz⟩ := zlp_el hf
    replace hf : t_X0_findLevels_2 b i1 m2 = some z := hf
    unfold t_X0_findLevels_2 at hf
    refine z_iload_n C 1 dX0_findLevels_2 rfl rfl ?_
    refine z_bipush C (v := 6) dX0_findLevels_3 rfl ?_
    refine z_icmp_ge (tgt := 35) C dX0_findLevels_5 (by decide) (fun c11 => ?_) (fun c11 => ?_)
    · replace hf := if_t c11 hf
      cases hf
      replace hz := zlz_r hz
      cases hz
      exact z_sub [] rfl hk
    · replace hf := if_f c11 hf
      refine z_iconst C (v := 0) dX0_findLevels_8 rfl ?_
      refine z_istore_n C (lv2 := [(0, .ref ((zw K).2.1 b)), (1, .int i1), (2, .int 0)]) [1, 2, 0] dX0_findLevels_9 rfl (Nat.le_of_ble_eq_true rfl) rfl ?_
      obtain ⟨m9, hg, hf⟩ := zb_el hf
      refine z_sub [0, 1, 2] rfl (w_X0_findLevels_10 C hb ?_ _ _ _ hg)
      clear hg
      obtain ⟨x10, e_x10⟩ : ∃ y : Int32, y = i1 + 1 := ⟨_, rfl⟩
      replace hf := bn_to e_x10 hf
      refine z_iinc C (lv2 := [(0, .ref ((zw K).2.1 b)), (1, .int x10)]) 1 [1, 0] dX0_findLevels_29 rfl rfl (Nat.le_of_ble_eq_true rfl) e_x10 rfl ?_
      refine z_goto (tgt := 2) C dX0_findLevels_32 (by decide) ?_
      cases hf
      exact z_sub [0, 1] rfl (ih x10 m9 hz)
set_option maxRecDepth 100000 in
set_option maxHeartbeats 4000000 in
theorem c_X0_findLevels (l : Launch) (w : ZW) {m : Mem} {b : Nat} {m9 : Mem} (hb : isb b) (hf : s_X0_findLevels m b = some m9) : zCv MX l w yX0_findLevels wsX0_findLevels rmX0_findLevels [.ref (w.2.1 b)] m m9 := by
  refine z_met_v MX_ok (own := RX0) (by decide +kernel) rfl rfl (Nat.le_of_ble_eq_true rfl) ?_
  intro K C hKw hKl hret
  subst hKw
  subst hKl
  unfold s_X0_findLevels at hf
  show zGo MX K m [(0, .ref ((zw K).2.1 b))] 0 []
  refine z_iconst C (v := 0) dX0_findLevels_0 rfl ?_
  refine z_istore_n C (lv2 := [(0, .ref ((zw K).2.1 b)), (1, .int 0)]) [1, 0] dX0_findLevels_1 rfl (Nat.le_of_ble_eq_true rfl) rfl ?_
  obtain ⟨m12, hg, hf⟩ := zb_el hf
  refine z_sub [0, 1] rfl (w_X0_findLevels_2 C hb ?_ _ _ _ hg)
  clear hg
  cases hf
  exact hret _ _ dX0_findLevels_35
def rmX0_findReach : Room := { frames := 0, cells := 0, slots := 0, locals := 0 }
theorem zdX0_findReach : yX0_findReach.cls = RX0 ∧ yX0_findReach.cls ≠ "java/lang/invoke/MethodHandle" ∧ yX0_findReach.cls ≠ "java/lang/invoke/VarHandle" ∧ (parseMethodDescriptor yX0_findReach.desc).map (fun d => d.parameters.length) = some 0 := by decide +kernel
theorem kiX0_findReach_X0 : ∀ w ∈ wsX00, w ∈ wsX0_findReach := by decide +kernel
theorem kfX0_findReach_52 : Cond.fieldLink RX0 52 "ShapeJudge$Book" "shapeCount" "I" ∈ wsX0_findReach := by decide +kernel
theorem kfX0_findReach_25 : Cond.fieldLink RX0 25 "ShapeJudge$Book" "reach" "[I" ∈ wsX0_findReach := by decide +kernel
def t_X0_findReach_12 (b : Nat) (i1 : Int32) (i3 : Int32) (m4 : Mem) : Option ((Int32 × Mem) ⊕ (Mem)) :=
  (if (m4 b 0) ≤ i3 then (some (.inr m4)) else (ck (zin i3 6 = true) ((if (((m4 (b + 5) (Int32.toNatClampNeg i3)) >>> (i1 &&& 31)) &&& 1) = 0 then (bn (i3 + 1) fun x6 => some (.inl (x6, m4))) else (ck (zin i3 6 = true) (ck (zin i1 6 = true) (ck (zin i3 6 = true) (bn (sto m4 (b + 5) (Int32.toNatClampNeg i3) ((m4 (b + 5) (Int32.toNatClampNeg i3)) ||| (m4 (b + 5) (Int32.toNatClampNeg i1)))) fun m10 => bn (i3 + 1) fun x11 => some (.inl (x11, m10))))))))))
def l_X0_findReach_12 (b : Nat) (i1 : Int32) (n : Nat) (i3 : Int32) (m4 : Mem) : Option (Mem) := zlp n (fun a => t_X0_findReach_12 b i1 a.1 a.2) (i3, m4)
def t_X0_findReach_2 (b : Nat) (i1 : Int32) (m2 : Mem) : Option ((Int32 × Mem) ⊕ (Mem)) :=
  (if (m2 b 0) ≤ i1 then (some (.inr m2)) else (((l_X0_findReach_12 b i1 FU 0 m2).bind fun m14 => bn (i1 + 1) fun x15 => some (.inl (x15, m14)))))
def l_X0_findReach_2 (b : Nat) (n : Nat) (i1 : Int32) (m2 : Mem) : Option (Mem) := zlp n (fun a => t_X0_findReach_2 b a.1 a.2) (i1, m2)
def s_X0_findReach (m : Mem) (b : Nat) : Option (Mem) :=
  ((l_X0_findReach_2 b FU 0 m).bind fun m17 => some m17)
set_option maxRecDepth 100000 in
set_option maxHeartbeats 4000000 in
theorem w_X0_findReach_12 {K : ZK} (C : zOK MX K cX0_findReach 3 none RX0 wsX0_findReach rmX0_findReach) {b : Nat} {i1 : Int32} (hb : isb b) {o0 : Mem} (hk : zGo MX K o0 [(0, .ref ((zw K).2.1 b)), (1, .int i1)] 54 []) : ∀ (n : Nat) (i3 : Int32) (m4 : Mem), l_X0_findReach_12 b i1 n i3 m4 = some o0 → zGo MX K m4 [(0, .ref ((zw K).2.1 b)), (1, .int i1), (2, .int i3)] 12 [] := by
  intro n
  induction n with
  | zero =>
    intro i3 m4 hf
    cases hf
  | succ n ih =>
    intro i3 m4 hf
    obtain ⟨z, hf, hz⟩ := zlp_el hf
    replace hf : t_X0_findReach_12 b i1 i3 m4 = some z := hf
    unfold t_X0_findReach_12 at hf
    refine z_iload_n C 2 dX0_findReach_12 rfl rfl ?_
    refine z_aload_n C 0 dX0_findReach_13 rfl rfl ?_
    refine z_geti C (isb_k0 hb) (isb_L0 hb) rfl 0 (Nat.le_of_ble_eq_true rfl) rfl kiX0_findReach_X0 kfX0_findReach_52 dX0_findReach_14 ?_
    refine z_icmp_ge (tgt := 54) C dX0_findReach_17 (by decide) (fun c13 => ?_) (fun c13 => ?_)
    · replace hf := if_t c13 hf
      cases hf
      replace hz := zlz_r hz
      cases hz
      exact z_sub [0, 1] rfl hk
    · replace hf := if_f c13 hf
      refine z_aload_n C 0 dX0_findReach_20 rfl rfl ?_
      refine z_getr C (t := b + 5) (isb_k0 hb) (isb_L0 hb) rfl 7 (Nat.le_of_ble_eq_true rfl) rfl kiX0_findReach_X0 kfX0_findReach_25 dX0_findReach_21 ?_
      refine z_iload_n C 2 dX0_findReach_24 rfl rfl ?_
      obtain ⟨hi5, hf⟩ := ck_el hf
      refine z_iald C (k := (b + 5)) (isb_k5 hb) (isb_L5 hb) hi5 dX0_findReach_25 ?_
      refine z_iload_n C 1 dX0_findReach_26 rfl rfl ?_
      refine z_ishr C dX0_findReach_27 ?_
      refine z_iconst C (v := 1) dX0_findReach_28 rfl ?_
      refine z_iand C dX0_findReach_29 ?_
      refine z_if_eq (tgt := 48) C dX0_findReach_30 (by decide) (fun c12 => ?_) (fun c12 => ?_)
      · replace hf := if_t c12 hf
        obtain ⟨x6, e_x6⟩ : ∃ y : Int32, y = i3 + 1 := ⟨_, rfl⟩
        replace hf := bn_to e_x6 hf
        refine z_iinc C (lv2 := [(0, .ref ((zw K).2.1 b)), (1, .int i1), (2, .int x6)]) 2 [1, 2, 0] dX0_findReach_48 rfl rfl (Nat.le_of_ble_eq_true rfl) e_x6 rfl ?_
        refine z_goto (tgt := 12) C dX0_findReach_51 (by decide) ?_
        cases hf
        exact z_sub [0, 1, 2] rfl (ih x6 m4 hz)
      · replace hf := if_f c12 hf
        refine z_aload_n C 0 dX0_findReach_33 rfl rfl ?_
        refine z_getr C (t := b + 5) (isb_k0 hb) (isb_L0 hb) rfl 7 (Nat.le_of_ble_eq_true rfl) rfl kiX0_findReach_X0 kfX0_findReach_25 dX0_findReach_34 ?_
        refine z_iload_n C 2 dX0_findReach_37 rfl rfl ?_
        refine z_dup2 C dX0_findReach_38 ?_
        obtain ⟨hi7, hf⟩ := ck_el hf
        refine z_iald C (k := (b + 5)) (isb_k5 hb) (isb_L5 hb) hi7 dX0_findReach_39 ?_
        refine z_aload_n C 0 dX0_findReach_40 rfl rfl ?_
        refine z_getr C (t := b + 5) (isb_k0 hb) (isb_L0 hb) rfl 7 (Nat.le_of_ble_eq_true rfl) rfl kiX0_findReach_X0 kfX0_findReach_25 dX0_findReach_41 ?_
        refine z_iload_n C 1 dX0_findReach_44 rfl rfl ?_
        obtain ⟨hi8, hf⟩ := ck_el hf
        refine z_iald C (k := (b + 5)) (isb_k5 hb) (isb_L5 hb) hi8 dX0_findReach_45 ?_
        refine z_ior C dX0_findReach_46 ?_
        obtain ⟨hi9, hf⟩ := ck_el hf
        refine z_iast C (k := (b + 5)) (isb_k5 hb) (isb_L5 hb) hi9 dX0_findReach_47 ?_
        refine z_nm (fun m10 e_m10 => ?_)
        replace hf := bn_to e_m10 hf
        obtain ⟨x11, e_x11⟩ : ∃ y : Int32, y = i3 + 1 := ⟨_, rfl⟩
        replace hf := bn_to e_x11 hf
        refine z_iinc C (lv2 := [(0, .ref ((zw K).2.1 b)), (1, .int i1), (2, .int x11)]) 2 [1, 2, 0] dX0_findReach_48 rfl rfl (Nat.le_of_ble_eq_true rfl) e_x11 rfl ?_
        refine z_goto (tgt := 12) C dX0_findReach_51 (by decide) ?_
        cases hf
        exact z_sub [0, 1, 2] rfl (ih x11 m10 hz)
set_option maxRecDepth 100000 in
set_option maxHeartbeats 4000000 in
theorem w_X0_findReach_2 {K : ZK} (C : zOK MX K cX0_findReach 3 none RX0 wsX0_findReach rmX0_findReach) {b : Nat} (hb : isb b) {o0 : Mem} (hk : zGo MX K o0 [] 60 []) : ∀ (n : Nat) (i1 : Int32) (m2 : Mem), l_X0_findReach_2 b n i1 m2 = some o0 → zGo MX K m2 [(0, .ref ((zw K).2.1 b)), (1, .int i1)] 2 [] := by
  intro n
  induction n with
  | zero =>
    intro i1 m2 hf
    cases hf
  | succ n ih =>
    intro i1 m2 hf
    obtain ⟨z, hf, hz⟩ := zlp_el hf
    replace hf : t_X0_findReach_2 b i1 m2 = some z := hf
    unfold t_X0_findReach_2 at hf
    refine z_iload_n C 1 dX0_findReach_2 rfl rfl ?_
    refine z_aload_n C 0 dX0_findReach_3 rfl rfl ?_
    refine z_geti C (isb_k0 hb) (isb_L0 hb) rfl 0 (Nat.le_of_ble_eq_true rfl) rfl kiX0_findReach_X0 kfX0_findReach_52 dX0_findReach_4 ?_
    refine z_icmp_ge (tgt := 60) C dX0_findReach_7 (by decide) (fun c16 => ?_) (fun c16 => ?_)
    · replace hf := if_t c16 hf
      cases hf
      replace hz := zlz_r hz
      cases hz
      exact z_sub [] rfl hk
    · replace hf := if_f c16 hf
      refine z_iconst C (v := 0) dX0_findReach_10 rfl ?_
      refine z_istore_n C (lv2 := [(0, .ref ((zw K).2.1 b)), (1, .int i1), (2, .int 0)]) [1, 2, 0] dX0_findReach_11 rfl (Nat.le_of_ble_eq_true rfl) rfl ?_
      obtain ⟨m14, hg, hf⟩ := zb_el hf
      refine z_sub [0, 1, 2] rfl (w_X0_findReach_12 C hb ?_ _ _ _ hg)
      clear hg
      obtain ⟨x15, e_x15⟩ : ∃ y : Int32, y = i1 + 1 := ⟨_, rfl⟩
      replace hf := bn_to e_x15 hf
      refine z_iinc C (lv2 := [(0, .ref ((zw K).2.1 b)), (1, .int x15)]) 1 [1, 0] dX0_findReach_54 rfl rfl (Nat.le_of_ble_eq_true rfl) e_x15 rfl ?_
      refine z_goto (tgt := 2) C dX0_findReach_57 (by decide) ?_
      cases hf
      exact z_sub [0, 1] rfl (ih x15 m14 hz)
set_option maxRecDepth 100000 in
set_option maxHeartbeats 4000000 in
theorem c_X0_findReach (l : Launch) (w : ZW) {m : Mem} {b : Nat} {m9 : Mem} (hb : isb b) (hf : s_X0_findReach m b = some m9) : zCv MX l w yX0_findReach wsX0_findReach rmX0_findReach [.ref (w.2.1 b)] m m9 := by
  refine z_met_v MX_ok (own := RX0) (by decide +kernel) rfl rfl (Nat.le_of_ble_eq_true rfl) ?_
  intro K C hKw hKl hret
  subst hKw
  subst hKl
  unfold s_X0_findReach at hf
  show zGo MX K m [(0, .ref ((zw K).2.1 b))] 0 []
  refine z_iconst C (v := 0) dX0_findReach_0 rfl ?_
  refine z_istore_n C (lv2 := [(0, .ref ((zw K).2.1 b)), (1, .int 0)]) [1, 0] dX0_findReach_1 rfl (Nat.le_of_ble_eq_true rfl) rfl ?_
  obtain ⟨m17, hg, hf⟩ := zb_el hf
  refine z_sub [0, 1] rfl (w_X0_findReach_2 C hb ?_ _ _ _ hg)
  clear hg
  cases hf
  exact hret _ _ dX0_findReach_60
def rmX0_hasPart : Room := { frames := 1, cells := 0, slots := 0, locals := 21 }
theorem zdX0_hasPart : yX0_hasPart.cls = RX0 ∧ yX0_hasPart.cls ≠ "java/lang/invoke/MethodHandle" ∧ yX0_hasPart.cls ≠ "java/lang/invoke/VarHandle" ∧ (parseMethodDescriptor yX0_hasPart.desc).map (fun d => d.parameters.length) = some 2 := by decide +kernel
theorem kiX0_hasPart_X0 : ∀ w ∈ wsX00, w ∈ wsX0_hasPart := by decide +kernel
theorem kfX0_hasPart_15 : Cond.fieldLink RX0 15 "ShapeJudge$Book" "partCount" "[I" ∈ wsX0_hasPart := by decide +kernel
def s_X0_hasPart (m : Mem) (b : Nat) (a1 : Int32) (a2 : Int32) : Option (Int32) :=
  (s_X0_hasShape m b a1).bind fun r2 => (if r2 = 0 then (some 0) else ((if a2 < 0 then (some 0) else (ck (zin a1 6 = true) ((if (m (b + 2) (Int32.toNatClampNeg a1)) ≤ a2 then (some 0) else ((if 6 ≤ a2 then (some 0) else (some 1)))))))))
set_option maxRecDepth 100000 in
set_option maxHeartbeats 4000000 in
theorem c_X0_hasPart (l : Launch) (w : ZW) {m : Mem} {b : Nat} {a1 : Int32} {a2 : Int32} {r9 : Int32} (hb : isb b) (hf : s_X0_hasPart m b a1 a2 = some r9) : zCi MX l w yX0_hasPart wsX0_hasPart rmX0_hasPart [.ref (w.2.1 b), .int a1, .int a2] m m r9 := by
  refine z_met_z MX_ok (own := RX0) (by decide +kernel) rfl rfl (Nat.le_of_ble_eq_true rfl) ?_
  intro K C hKw hKl hret
  subst hKw
  subst hKl
  unfold s_X0_hasPart at hf
  show zGo MX K m [(0, .ref ((zw K).2.1 b)), (1, .int a1), (2, .int a2)] 0 []
  refine z_aload_n C 0 dX0_hasPart_0 rfl rfl ?_
  refine z_iload_n C 1 dX0_hasPart_1 rfl rfl ?_
  obtain ⟨r2, hc1, hf⟩ := zb_el hf
  refine z_cVi C (c_X0_hasShape _ _ hb hc1) rfl gX0_hasPart_X0_hasShape rfl rfl zdX0_hasShape rfl (isb_k0 hb) (isb_L0 hb) rfl rfl ⟨Nat.le_of_ble_eq_true rfl, Nat.le_of_ble_eq_true rfl⟩ (Nat.le_of_ble_eq_true rfl) dX0_hasPart_2 rfl ?_
  refine z_if_eq (tgt := 32) C dX0_hasPart_5 (by decide) (fun c7 => ?_) (fun c7 => ?_)
  · replace hf := if_t c7 hf
    refine z_iconst C (v := 0) dX0_hasPart_32 rfl ?_
    cases hf
    exact hret _ _ dX0_hasPart_33 (Or.inl rfl)
  · replace hf := if_f c7 hf
    refine z_iload_n C 2 dX0_hasPart_8 rfl rfl ?_
    refine z_if_lt (tgt := 32) C dX0_hasPart_9 (by decide) (fun c6 => ?_) (fun c6 => ?_)
    · replace hf := if_t c6 hf
      refine z_iconst C (v := 0) dX0_hasPart_32 rfl ?_
      cases hf
      exact hret _ _ dX0_hasPart_33 (Or.inl rfl)
    · replace hf := if_f c6 hf
      refine z_iload_n C 2 dX0_hasPart_12 rfl rfl ?_
      refine z_aload_n C 0 dX0_hasPart_13 rfl rfl ?_
      refine z_getr C (t := b + 2) (isb_k0 hb) (isb_L0 hb) rfl 4 (Nat.le_of_ble_eq_true rfl) rfl kiX0_hasPart_X0 kfX0_hasPart_15 dX0_hasPart_14 ?_
      refine z_iload_n C 1 dX0_hasPart_17 rfl rfl ?_
      obtain ⟨hi3, hf⟩ := ck_el hf
      refine z_iald C (k := (b + 2)) (isb_k2 hb) (isb_L2 hb) hi3 dX0_hasPart_18 ?_
      refine z_icmp_ge (tgt := 32) C dX0_hasPart_19 (by decide) (fun c5 => ?_) (fun c5 => ?_)
      · replace hf := if_t c5 hf
        refine z_iconst C (v := 0) dX0_hasPart_32 rfl ?_
        cases hf
        exact hret _ _ dX0_hasPart_33 (Or.inl rfl)
      · replace hf := if_f c5 hf
        refine z_iload_n C 2 dX0_hasPart_22 rfl rfl ?_
        refine z_bipush C (v := 6) dX0_hasPart_23 rfl ?_
        refine z_icmp_ge (tgt := 32) C dX0_hasPart_25 (by decide) (fun c4 => ?_) (fun c4 => ?_)
        · replace hf := if_t c4 hf
          refine z_iconst C (v := 0) dX0_hasPart_32 rfl ?_
          cases hf
          exact hret _ _ dX0_hasPart_33 (Or.inl rfl)
        · replace hf := if_f c4 hf
          refine z_iconst C (v := 1) dX0_hasPart_28 rfl ?_
          refine z_goto (tgt := 33) C dX0_hasPart_29 (by decide) ?_
          cases hf
          exact hret _ _ dX0_hasPart_33 (Or.inr rfl)
def rmX0_shapeOf : Room := { frames := 0, cells := 0, slots := 0, locals := 0 }
theorem zdX0_shapeOf : yX0_shapeOf.cls = RX0 ∧ yX0_shapeOf.cls ≠ "java/lang/invoke/MethodHandle" ∧ yX0_shapeOf.cls ≠ "java/lang/invoke/VarHandle" ∧ (parseMethodDescriptor yX0_shapeOf.desc).map (fun d => d.parameters.length) = some 1 := by decide +kernel
theorem kiX0_shapeOf_X0 : ∀ w ∈ wsX00, w ∈ wsX0_shapeOf := by decide +kernel
theorem kfX0_shapeOf_52 : Cond.fieldLink RX0 52 "ShapeJudge$Book" "shapeCount" "I" ∈ wsX0_shapeOf := by decide +kernel
theorem kfX0_shapeOf_9 : Cond.fieldLink RX0 9 "ShapeJudge$Book" "word" "[I" ∈ wsX0_shapeOf := by decide +kernel
def t_X0_shapeOf_2 (m : Mem) (b : Nat) (a1 : Int32) (i1 : Int32) : Option ((Int32) ⊕ (Int32)) :=
  (if (m b 0) ≤ i1 then (some (.inr (-1))) else (ck (zin i1 6 = true) ((if (m (b + 1) (Int32.toNatClampNeg i1)) = a1 then (some (.inr i1)) else (bn (i1 + 1) fun x3 => some (.inl x3))))))
def l_X0_shapeOf_2 (m : Mem) (b : Nat) (a1 : Int32) (n : Nat) (i1 : Int32) : Option (Int32) := zlp n (fun a => t_X0_shapeOf_2 m b a1 a) i1
def s_X0_shapeOf (m : Mem) (b : Nat) (a1 : Int32) : Option (Int32) :=
  l_X0_shapeOf_2 m b a1 FU 0
set_option maxRecDepth 100000 in
set_option maxHeartbeats 4000000 in
theorem w_X0_shapeOf_2 {K : ZK} (C : zOK MX K cX0_shapeOf 3 (some .int) RX0 wsX0_shapeOf rmX0_shapeOf) {m : Mem} {b : Nat} {a1 : Int32} (hb : isb b) {r9 : Int32} (hret : zRi MX K cX0_shapeOf m r9) : ∀ (n : Nat) (i1 : Int32), l_X0_shapeOf_2 m b a1 n i1 = some r9 → zGo MX K m [(0, .ref ((zw K).2.1 b)), (1, .int a1), (2, .int i1)] 2 [] := by
  intro n
  induction n with
  | zero =>
    intro i1 hf
    cases hf
  | succ n ih =>
    intro i1 hf
    obtain ⟨z, hf, hz⟩ := zlp_el hf
    replace hf : t_X0_shapeOf_2 m b a1 i1 = some z := hf
    unfold t_X0_shapeOf_2 at hf
    refine z_iload_n C 2 dX0_shapeOf_2 rfl rfl ?_
    refine z_aload_n C 0 dX0_shapeOf_3 rfl rfl ?_
    refine z_geti C (isb_k0 hb) (isb_L0 hb) rfl 0 (Nat.le_of_ble_eq_true rfl) rfl kiX0_shapeOf_X0 kfX0_shapeOf_52 dX0_shapeOf_4 ?_
    refine z_icmp_ge (tgt := 28) C dX0_shapeOf_7 (by decide) (fun c5 => ?_) (fun c5 => ?_)
    · replace hf := if_t c5 hf
      refine z_iconst C (v := (-1)) dX0_shapeOf_28 (by decide) ?_
      cases hf
      replace hz := zlz_r hz
      cases hz
      exact hret _ _ dX0_shapeOf_29
    · replace hf := if_f c5 hf
      refine z_aload_n C 0 dX0_shapeOf_10 rfl rfl ?_
      refine z_getr C (t := b + 1) (isb_k0 hb) (isb_L0 hb) rfl 3 (Nat.le_of_ble_eq_true rfl) rfl kiX0_shapeOf_X0 kfX0_shapeOf_9 dX0_shapeOf_11 ?_
      refine z_iload_n C 2 dX0_shapeOf_14 rfl rfl ?_
      obtain ⟨hi2, hf⟩ := ck_el hf
      refine z_iald C (k := (b + 1)) (isb_k1 hb) (isb_L1 hb) hi2 dX0_shapeOf_15 ?_
      refine z_iload_n C 1 dX0_shapeOf_16 rfl rfl ?_
      refine z_icmp_ne (tgt := 22) C dX0_shapeOf_17 (by decide) (fun c4 => ?_) (fun c4 => ?_)
      · replace hf := if_f c4 hf
        obtain ⟨x3, e_x3⟩ : ∃ y : Int32, y = i1 + 1 := ⟨_, rfl⟩
        replace hf := bn_to e_x3 hf
        refine z_iinc C (lv2 := [(0, .ref ((zw K).2.1 b)), (1, .int a1), (2, .int x3)]) 2 [1, 2, 0] dX0_shapeOf_22 rfl rfl (Nat.le_of_ble_eq_true rfl) e_x3 rfl ?_
        refine z_goto (tgt := 2) C dX0_shapeOf_25 (by decide) ?_
        cases hf
        exact z_sub [0, 1, 2] rfl (ih x3 hz)
      · replace hf := if_t c4 hf
        refine z_iload_n C 2 dX0_shapeOf_20 rfl rfl ?_
        cases hf
        replace hz := zlz_r hz
        cases hz
        exact hret _ _ dX0_shapeOf_21
set_option maxRecDepth 100000 in
set_option maxHeartbeats 4000000 in
theorem c_X0_shapeOf (l : Launch) (w : ZW) {m : Mem} {b : Nat} {a1 : Int32} {r9 : Int32} (hb : isb b) (hf : s_X0_shapeOf m b a1 = some r9) : zCi MX l w yX0_shapeOf wsX0_shapeOf rmX0_shapeOf [.ref (w.2.1 b), .int a1] m m r9 := by
  refine z_met_i MX_ok (own := RX0) (by decide +kernel) rfl rfl (Nat.le_of_ble_eq_true rfl) ?_
  intro K C hKw hKl hret
  subst hKw
  subst hKl
  unfold s_X0_shapeOf at hf
  show zGo MX K m [(0, .ref ((zw K).2.1 b)), (1, .int a1)] 0 []
  refine z_iconst C (v := 0) dX0_shapeOf_0 rfl ?_
  refine z_istore_n C (lv2 := [(0, .ref ((zw K).2.1 b)), (1, .int a1), (2, .int 0)]) [1, 2, 0] dX0_shapeOf_1 rfl (Nat.le_of_ble_eq_true rfl) rfl ?_
  exact z_sub [0, 1, 2] rfl (w_X0_shapeOf_2 C hb hret _ _ hf)
def rmX0_linkReferences : Room := { frames := 1, cells := 0, slots := 0, locals := 22 }
theorem zdX0_linkReferences : yX0_linkReferences.cls = RX0 ∧ yX0_linkReferences.cls ≠ "java/lang/invoke/MethodHandle" ∧ yX0_linkReferences.cls ≠ "java/lang/invoke/VarHandle" ∧ (parseMethodDescriptor yX0_linkReferences.desc).map (fun d => d.parameters.length) = some 0 := by decide +kernel
theorem kiX0_linkReferences_X0 : ∀ w ∈ wsX00, w ∈ wsX0_linkReferences := by decide +kernel
theorem kfX0_linkReferences_52 : Cond.fieldLink RX0 52 "ShapeJudge$Book" "shapeCount" "I" ∈ wsX0_linkReferences := by decide +kernel
theorem kfX0_linkReferences_15 : Cond.fieldLink RX0 15 "ShapeJudge$Book" "partCount" "[I" ∈ wsX0_linkReferences := by decide +kernel
theorem kfX0_linkReferences_43 : Cond.fieldLink RX0 43 "ShapeJudge$Book" "partFirst" "[I" ∈ wsX0_linkReferences := by decide +kernel
theorem kfX0_linkReferences_25 : Cond.fieldLink RX0 25 "ShapeJudge$Book" "reach" "[I" ∈ wsX0_linkReferences := by decide +kernel
theorem kfX0_linkReferences_49 : Cond.fieldLink RX0 49 "ShapeJudge$Book" "partPlace" "[I" ∈ wsX0_linkReferences := by decide +kernel
def t_X0_linkReferences_12 (b : Nat) (i1 : Int32) (i3 : Int32) (m4 : Mem) : Option ((Int32 × Mem) ⊕ ((Int32 × Mem) ⊕ (Mem))) :=
  ck (zin i1 6 = true) ((if (m4 (b + 2) (Int32.toNatClampNeg i1)) ≤ i3 then (some (.inr (.inr m4))) else (bn ((i1 * 6) + i3) fun x6 => (s_X0_refers m4 b x6).bind fun r8 => (if r8 = 0 then (bn (i3 + 1) fun x9 => some (.inl (x9, m4))) else (ck (zin x6 36 = true) ((s_X0_shapeOf m4 b (m4 (b + 11) (Int32.toNatClampNeg x6))).bind fun r12 => (if 0 ≤ r12 then (ck (zin x6 36 = true) (bn (sto m4 (b + 11) (Int32.toNatClampNeg x6) r12) fun m14 => ck (zin i1 6 = true) (ck (zin i1 6 = true) (bn (sto m14 (b + 5) (Int32.toNatClampNeg i1) ((m14 (b + 5) (Int32.toNatClampNeg i1)) ||| ((1 : Int32) <<< (r12 &&& 31)))) fun m17 => bn (i3 + 1) fun x18 => some (.inl (x18, m17)))))) else (ck (zin x6 36 = true) (some (.inr (.inl ((m4 (b + 13) (Int32.toNatClampNeg x6)), m4))))))))))))
def l_X0_linkReferences_12 (b : Nat) (i1 : Int32) (n : Nat) (i3 : Int32) (m4 : Mem) : Option ((Int32 × Mem) ⊕ (Mem)) := zlp n (fun a => t_X0_linkReferences_12 b i1 a.1 a.2) (i3, m4)
def t_X0_linkReferences_2 (b : Nat) (i1 : Int32) (m2 : Mem) : Option ((Int32 × Mem) ⊕ (Int32 × Mem)) :=
  (if (m2 b 0) ≤ i1 then (some (.inr ((-1), m2))) else ((zbS (l_X0_linkReferences_12 b i1 FU 0 m2) (fun r => some (.inr r)) (fun m23 => bn (i1 + 1) fun x24 => some (.inl (x24, m23))))))
def l_X0_linkReferences_2 (b : Nat) (n : Nat) (i1 : Int32) (m2 : Mem) : Option (Int32 × Mem) := zlp n (fun a => t_X0_linkReferences_2 b a.1 a.2) (i1, m2)
def s_X0_linkReferences (m : Mem) (b : Nat) : Option (Int32 × Mem) :=
  l_X0_linkReferences_2 b FU 0 m
set_option maxRecDepth 100000 in
set_option maxHeartbeats 4000000 in
theorem w_X0_linkReferences_12 {K : ZK} (C : zOK MX K cX0_linkReferences 5 (some .int) RX0 wsX0_linkReferences rmX0_linkReferences) {b : Nat} {i1 : Int32} (hb : isb b) {o : (Int32 × Mem) ⊕ (Mem)} (hret : ∀ r, o = .inl r → zRi MX K cX0_linkReferences r.2 r.1) (hk : ∀ q0, o = .inr q0 → zGo MX K q0 [(0, .ref ((zw K).2.1 b)), (1, .int i1)] 88 []) : ∀ (n : Nat) (i3 : Int32) (m4 : Mem), l_X0_linkReferences_12 b i1 n i3 m4 = some o → zGo MX K m4 [(0, .ref ((zw K).2.1 b)), (1, .int i1), (2, .int i3)] 12 [] := by
  intro n
  induction n with
  | zero =>
    intro i3 m4 hf
    cases hf
  | succ n ih =>
    intro i3 m4 hf
    obtain ⟨z, hf, hz⟩ := zlp_el hf
    replace hf : t_X0_linkReferences_12 b i1 i3 m4 = some z := hf
    unfold t_X0_linkReferences_12 at hf
    refine z_iload_n C 2 dX0_linkReferences_12 rfl rfl ?_
    refine z_aload_n C 0 dX0_linkReferences_13 rfl rfl ?_
    refine z_getr C (t := b + 2) (isb_k0 hb) (isb_L0 hb) rfl 4 (Nat.le_of_ble_eq_true rfl) rfl kiX0_linkReferences_X0 kfX0_linkReferences_15 dX0_linkReferences_14 ?_
    refine z_iload_n C 1 dX0_linkReferences_17 rfl rfl ?_
    obtain ⟨hi5, hf⟩ := ck_el hf
    refine z_iald C (k := (b + 2)) (isb_k2 hb) (isb_L2 hb) hi5 dX0_linkReferences_18 ?_
    refine z_icmp_ge (tgt := 88) C dX0_linkReferences_19 (by decide) (fun c22 => ?_) (fun c22 => ?_)
    · replace hf := if_t c22 hf
      cases hf
      replace hz := zlz_r hz
      cases hz
      exact z_sub [0, 1] rfl (hk _ rfl)
    · replace hf := if_f c22 hf
      refine z_iload_n C 1 dX0_linkReferences_22 rfl rfl ?_
      refine z_bipush C (v := 6) dX0_linkReferences_23 rfl ?_
      refine z_imul C dX0_linkReferences_25 ?_
      refine z_iload_n C 2 dX0_linkReferences_26 rfl rfl ?_
      refine z_iadd C dX0_linkReferences_27 ?_
      refine z_topi (fun x6 e_x6 => ?_)
      replace hf := bn_to e_x6 hf
      refine z_istore_n C (lv2 := [(0, .ref ((zw K).2.1 b)), (1, .int i1), (2, .int i3), (3, .int x6)]) [1, 2, 3, 0] dX0_linkReferences_28 rfl (Nat.le_of_ble_eq_true rfl) rfl ?_
      refine z_aload_n C 0 dX0_linkReferences_29 rfl rfl ?_
      refine z_iload_n C 3 dX0_linkReferences_30 rfl rfl ?_
      obtain ⟨r8, hc7, hf⟩ := zb_el hf
      refine z_cVi C (c_X0_refers _ _ hb hc7) rfl gX0_linkReferences_X0_refers rfl rfl zdX0_refers rfl (isb_k0 hb) (isb_L0 hb) rfl rfl ⟨Nat.le_of_ble_eq_true rfl, Nat.le_of_ble_eq_true rfl⟩ (Nat.le_of_ble_eq_true rfl) dX0_linkReferences_31 rfl ?_
      refine z_if_eq (tgt := 82) C dX0_linkReferences_34 (by decide) (fun c21 => ?_) (fun c21 => ?_)
      · replace hf := if_t c21 hf
        obtain ⟨x9, e_x9⟩ : ∃ y : Int32, y = i3 + 1 := ⟨_, rfl⟩
        replace hf := bn_to e_x9 hf
        refine z_iinc C (lv2 := [(0, .ref ((zw K).2.1 b)), (1, .int i1), (2, .int x9), (3, .int x6)]) 2 [1, 2, 0, 3] dX0_linkReferences_82 rfl rfl (Nat.le_of_ble_eq_true rfl) e_x9 rfl ?_
        refine z_goto (tgt := 12) C dX0_linkReferences_85 (by decide) ?_
        cases hf
        exact z_sub [0, 1, 2] rfl (ih x9 m4 hz)
      · replace hf := if_f c21 hf
        refine z_aload_n C 0 dX0_linkReferences_37 rfl rfl ?_
        refine z_aload_n C 0 dX0_linkReferences_38 rfl rfl ?_
        refine z_getr C (t := b + 11) (isb_k0 hb) (isb_L0 hb) rfl 13 (Nat.le_of_ble_eq_true rfl) rfl kiX0_linkReferences_X0 kfX0_linkReferences_43 dX0_linkReferences_39 ?_
        refine z_iload_n C 3 dX0_linkReferences_42 rfl rfl ?_
        obtain ⟨hi10, hf⟩ := ck_el hf
        refine z_iald C (k := (b + 11)) (isb_k11 hb) (isb_L11 hb) hi10 dX0_linkReferences_43 ?_
        obtain ⟨r12, hc11, hf⟩ := zb_el hf
        refine z_cVi C (c_X0_shapeOf _ _ hb hc11) rfl gX0_linkReferences_X0_shapeOf rfl rfl zdX0_shapeOf rfl (isb_k0 hb) (isb_L0 hb) rfl rfl ⟨Nat.le_of_ble_eq_true rfl, Nat.le_of_ble_eq_true rfl⟩ (Nat.le_of_ble_eq_true rfl) dX0_linkReferences_44 rfl ?_
        refine z_istore C (lv2 := [(0, .ref ((zw K).2.1 b)), (1, .int i1), (2, .int i3), (3, .int x6), (4, .int r12)]) [1, 2, 3, 4, 0] dX0_linkReferences_47 (Nat.le_of_ble_eq_true rfl) rfl ?_
        refine z_iload C 4 dX0_linkReferences_49 rfl ?_
        refine z_if_ge (tgt := 61) C dX0_linkReferences_51 (by decide) (fun c20 => ?_) (fun c20 => ?_)
        · replace hf := if_t c20 hf
          refine z_aload_n C 0 dX0_linkReferences_61 rfl rfl ?_
          refine z_getr C (t := b + 11) (isb_k0 hb) (isb_L0 hb) rfl 13 (Nat.le_of_ble_eq_true rfl) rfl kiX0_linkReferences_X0 kfX0_linkReferences_43 dX0_linkReferences_62 ?_
          refine z_iload_n C 3 dX0_linkReferences_65 rfl rfl ?_
          refine z_iload C 4 dX0_linkReferences_66 rfl ?_
          obtain ⟨hi13, hf⟩ := ck_el hf
          refine z_iast C (k := (b + 11)) (isb_k11 hb) (isb_L11 hb) hi13 dX0_linkReferences_68 ?_
          refine z_nm (fun m14 e_m14 => ?_)
          replace hf := bn_to e_m14 hf
          refine z_aload_n C 0 dX0_linkReferences_69 rfl rfl ?_
          refine z_getr C (t := b + 5) (isb_k0 hb) (isb_L0 hb) rfl 7 (Nat.le_of_ble_eq_true rfl) rfl kiX0_linkReferences_X0 kfX0_linkReferences_25 dX0_linkReferences_70 ?_
          refine z_iload_n C 1 dX0_linkReferences_73 rfl rfl ?_
          refine z_dup2 C dX0_linkReferences_74 ?_
          obtain ⟨hi15, hf⟩ := ck_el hf
          refine z_iald C (k := (b + 5)) (isb_k5 hb) (isb_L5 hb) hi15 dX0_linkReferences_75 ?_
          refine z_iconst C (v := 1) dX0_linkReferences_76 rfl ?_
          refine z_iload C 4 dX0_linkReferences_77 rfl ?_
          refine z_ishl C dX0_linkReferences_79 ?_
          refine z_ior C dX0_linkReferences_80 ?_
          obtain ⟨hi16, hf⟩ := ck_el hf
          refine z_iast C (k := (b + 5)) (isb_k5 hb) (isb_L5 hb) hi16 dX0_linkReferences_81 ?_
          refine z_nm (fun m17 e_m17 => ?_)
          replace hf := bn_to e_m17 hf
          obtain ⟨x18, e_x18⟩ : ∃ y : Int32, y = i3 + 1 := ⟨_, rfl⟩
          replace hf := bn_to e_x18 hf
          refine z_iinc C (lv2 := [(0, .ref ((zw K).2.1 b)), (1, .int i1), (2, .int x18), (3, .int x6), (4, .int r12)]) 2 [1, 2, 0, 3, 4] dX0_linkReferences_82 rfl rfl (Nat.le_of_ble_eq_true rfl) e_x18 rfl ?_
          refine z_goto (tgt := 12) C dX0_linkReferences_85 (by decide) ?_
          cases hf
          exact z_sub [0, 1, 2] rfl (ih x18 m17 hz)
        · replace hf := if_f c20 hf
          refine z_aload_n C 0 dX0_linkReferences_54 rfl rfl ?_
          refine z_getr C (t := b + 13) (isb_k0 hb) (isb_L0 hb) rfl 15 (Nat.le_of_ble_eq_true rfl) rfl kiX0_linkReferences_X0 kfX0_linkReferences_49 dX0_linkReferences_55 ?_
          refine z_iload_n C 3 dX0_linkReferences_58 rfl rfl ?_
          obtain ⟨hi19, hf⟩ := ck_el hf
          refine z_iald C (k := (b + 13)) (isb_k13 hb) (isb_L13 hb) hi19 dX0_linkReferences_59 ?_
          cases hf
          replace hz := zlz_r hz
          cases hz
          exact hret _ rfl _ _ dX0_linkReferences_60
set_option maxRecDepth 100000 in
set_option maxHeartbeats 4000000 in
theorem w_X0_linkReferences_2 {K : ZK} (C : zOK MX K cX0_linkReferences 5 (some .int) RX0 wsX0_linkReferences rmX0_linkReferences) {b : Nat} (hb : isb b) {r9 : Int32} {m9 : Mem} (hret : zRi MX K cX0_linkReferences m9 r9) : ∀ (n : Nat) (i1 : Int32) (m2 : Mem), l_X0_linkReferences_2 b n i1 m2 = some (r9, m9) → zGo MX K m2 [(0, .ref ((zw K).2.1 b)), (1, .int i1)] 2 [] := by
  intro n
  induction n with
  | zero =>
    intro i1 m2 hf
    cases hf
  | succ n ih =>
    intro i1 m2 hf
    obtain ⟨z, hf, hz⟩ := zlp_el hf
    replace hf : t_X0_linkReferences_2 b i1 m2 = some z := hf
    unfold t_X0_linkReferences_2 at hf
    refine z_iload_n C 1 dX0_linkReferences_2 rfl rfl ?_
    refine z_aload_n C 0 dX0_linkReferences_3 rfl rfl ?_
    refine z_geti C (isb_k0 hb) (isb_L0 hb) rfl 0 (Nat.le_of_ble_eq_true rfl) rfl kiX0_linkReferences_X0 kfX0_linkReferences_52 dX0_linkReferences_4 ?_
    refine z_icmp_ge (tgt := 94) C dX0_linkReferences_7 (by decide) (fun c25 => ?_) (fun c25 => ?_)
    · replace hf := if_t c25 hf
      refine z_iconst C (v := (-1)) dX0_linkReferences_94 (by decide) ?_
      cases hf
      replace hz := zlz_r hz
      cases hz
      exact hret _ _ dX0_linkReferences_95
    · replace hf := if_f c25 hf
      refine z_iconst C (v := 0) dX0_linkReferences_10 rfl ?_
      refine z_istore_n C (lv2 := [(0, .ref ((zw K).2.1 b)), (1, .int i1), (2, .int 0)]) [1, 2, 0] dX0_linkReferences_11 rfl (Nat.le_of_ble_eq_true rfl) rfl ?_
      obtain ⟨r, hg, hf⟩ | ⟨m23, hg, hf⟩ := zbS_el hf
      · cases hf
        replace hz := zlz_r hz
        cases hz
        refine z_sub [0, 1, 2] rfl (w_X0_linkReferences_12 C hb ?_ ?_ _ _ _ hg)
        · intro r2 e2
          cases e2
          exact hret
        · intro _ e2
          cases e2
      · refine z_sub [0, 1, 2] rfl (w_X0_linkReferences_12 C hb ?_ ?_ _ _ _ hg)
        · intro r2 e2
          cases e2
        · intro m232 e2
          cases e2
          clear hg
          obtain ⟨x24, e_x24⟩ : ∃ y : Int32, y = i1 + 1 := ⟨_, rfl⟩
          replace hf := bn_to e_x24 hf
          refine z_iinc C (lv2 := [(0, .ref ((zw K).2.1 b)), (1, .int x24)]) 1 [1, 0] dX0_linkReferences_88 rfl rfl (Nat.le_of_ble_eq_true rfl) e_x24 rfl ?_
          refine z_goto (tgt := 2) C dX0_linkReferences_91 (by decide) ?_
          cases hf
          exact z_sub [0, 1] rfl (ih x24 m23 hz)
set_option maxRecDepth 100000 in
set_option maxHeartbeats 4000000 in
theorem c_X0_linkReferences (l : Launch) (w : ZW) {m : Mem} {b : Nat} {r9 : Int32} {m9 : Mem} (hb : isb b) (hf : s_X0_linkReferences m b = some (r9, m9)) : zCi MX l w yX0_linkReferences wsX0_linkReferences rmX0_linkReferences [.ref (w.2.1 b)] m m9 r9 := by
  refine z_met_i MX_ok (own := RX0) (by decide +kernel) rfl rfl (Nat.le_of_ble_eq_true rfl) ?_
  intro K C hKw hKl hret
  subst hKw
  subst hKl
  unfold s_X0_linkReferences at hf
  show zGo MX K m [(0, .ref ((zw K).2.1 b))] 0 []
  refine z_iconst C (v := 0) dX0_linkReferences_0 rfl ?_
  refine z_istore_n C (lv2 := [(0, .ref ((zw K).2.1 b)), (1, .int 0)]) [1, 0] dX0_linkReferences_1 rfl (Nat.le_of_ble_eq_true rfl) rfl ?_
  exact z_sub [0, 1] rfl (w_X0_linkReferences_2 C hb hret _ _ _ hf)
def rmX0_openShape : Room := { frames := 0, cells := 0, slots := 0, locals := 0 }
theorem zdX0_openShape : yX0_openShape.cls = RX0 ∧ yX0_openShape.cls ≠ "java/lang/invoke/MethodHandle" ∧ yX0_openShape.cls ≠ "java/lang/invoke/VarHandle" ∧ (parseMethodDescriptor yX0_openShape.desc).map (fun d => d.parameters.length) = some 1 := by decide +kernel
theorem kiX0_openShape_X0 : ∀ w ∈ wsX00, w ∈ wsX0_openShape := by decide +kernel
theorem kfX0_openShape_52 : Cond.fieldLink RX0 52 "ShapeJudge$Book" "shapeCount" "I" ∈ wsX0_openShape := by decide +kernel
theorem kfX0_openShape_9 : Cond.fieldLink RX0 9 "ShapeJudge$Book" "word" "[I" ∈ wsX0_openShape := by decide +kernel
theorem kfX0_openShape_15 : Cond.fieldLink RX0 15 "ShapeJudge$Book" "partCount" "[I" ∈ wsX0_openShape := by decide +kernel
theorem kfX0_openShape_18 : Cond.fieldLink RX0 18 "ShapeJudge$Book" "closed" "[Z" ∈ wsX0_openShape := by decide +kernel
theorem kfX0_openShape_22 : Cond.fieldLink RX0 22 "ShapeJudge$Book" "names" "[I" ∈ wsX0_openShape := by decide +kernel
theorem kfX0_openShape_25 : Cond.fieldLink RX0 25 "ShapeJudge$Book" "reach" "[I" ∈ wsX0_openShape := by decide +kernel
theorem kfX0_openShape_28 : Cond.fieldLink RX0 28 "ShapeJudge$Book" "level" "[I" ∈ wsX0_openShape := by decide +kernel
theorem kfX0_openShape_31 : Cond.fieldLink RX0 31 "ShapeJudge$Book" "firstStep" "[I" ∈ wsX0_openShape := by decide +kernel
theorem kfX0_openShape_60 : Cond.fieldLink RX0 60 "ShapeJudge$Book" "stepCount" "I" ∈ wsX0_openShape := by decide +kernel
def s_X0_openShape (m : Mem) (b : Nat) (a1 : Int32) : Option (Mem) :=
  (if (m b 0) < 6 then (bn (m b 0) fun x1 => bn (sto m b 0 ((m b 0) + 1)) fun m2 => ck (zin x1 6 = true) (bn (sto m2 (b + 1) (Int32.toNatClampNeg x1) a1) fun m4 => ck (zin x1 6 = true) (bn (sto m4 (b + 2) (Int32.toNatClampNeg x1) 0) fun m6 => ck (zin x1 6 = true) (bn (sto m6 (b + 3) (Int32.toNatClampNeg x1) (vp_nar .boolean 0)) fun m8 => ck (zin x1 6 = true) (bn (sto m8 (b + 4) (Int32.toNatClampNeg x1) 0) fun m10 => ck (zin x1 6 = true) (bn (sto m10 (b + 5) (Int32.toNatClampNeg x1) 0) fun m12 => ck (zin x1 6 = true) (bn (sto m12 (b + 6) (Int32.toNatClampNeg x1) 0) fun m14 => ck (zin (x1 + 1) 7 = true) (bn (sto m14 (b + 7) (Int32.toNatClampNeg (x1 + 1)) (m14 b 1)) fun m16 => some m16)))))))) else (some m))
set_option maxRecDepth 100000 in
set_option maxHeartbeats 4000000 in
theorem c_X0_openShape (l : Launch) (w : ZW) {m : Mem} {b : Nat} {a1 : Int32} {m9 : Mem} (hb : isb b) (hf : s_X0_openShape m b a1 = some m9) : zCv MX l w yX0_openShape wsX0_openShape rmX0_openShape [.ref (w.2.1 b), .int a1] m m9 := by
  refine z_met_v MX_ok (own := RX0) (by decide +kernel) rfl rfl (Nat.le_of_ble_eq_true rfl) ?_
  intro K C hKw hKl hret
  subst hKw
  subst hKl
  unfold s_X0_openShape at hf
  show zGo MX K m [(0, .ref ((zw K).2.1 b)), (1, .int a1)] 0 []
  refine z_aload_n C 0 dX0_openShape_0 rfl rfl ?_
  refine z_geti C (isb_k0 hb) (isb_L0 hb) rfl 0 (Nat.le_of_ble_eq_true rfl) rfl kiX0_openShape_X0 kfX0_openShape_52 dX0_openShape_1 ?_
  refine z_bipush C (v := 6) dX0_openShape_4 rfl ?_
  refine z_icmp_lt (tgt := 10) C dX0_openShape_6 (by decide) (fun c17 => ?_) (fun c17 => ?_)
  · replace hf := if_t c17 hf
    refine z_aload_n C 0 dX0_openShape_10 rfl rfl ?_
    refine z_geti C (isb_k0 hb) (isb_L0 hb) rfl 0 (Nat.le_of_ble_eq_true rfl) rfl kiX0_openShape_X0 kfX0_openShape_52 dX0_openShape_11 ?_
    refine z_topi (fun x1 e_x1 => ?_)
    replace hf := bn_to e_x1 hf
    refine z_istore_n C (lv2 := [(0, .ref ((zw K).2.1 b)), (1, .int a1), (2, .int x1)]) [1, 2, 0] dX0_openShape_14 rfl (Nat.le_of_ble_eq_true rfl) rfl ?_
    refine z_aload_n C 0 dX0_openShape_15 rfl rfl ?_
    refine z_dup_a C dX0_openShape_16 ?_
    refine z_geti C (isb_k0 hb) (isb_L0 hb) rfl 0 (Nat.le_of_ble_eq_true rfl) rfl kiX0_openShape_X0 kfX0_openShape_52 dX0_openShape_17 ?_
    refine z_iconst C (v := 1) dX0_openShape_20 rfl ?_
    refine z_iadd C dX0_openShape_21 ?_
    refine z_puti C (isb_k0 hb) (isb_L0 hb) rfl 0 (Nat.le_of_ble_eq_true rfl) rfl kiX0_openShape_X0 kfX0_openShape_52 tyX0 tyX0_ok nmX0 rfl rfl dX0_openShape_22 ?_
    refine z_nm (fun m2 e_m2 => ?_)
    replace hf := bn_to e_m2 hf
    refine z_aload_n C 0 dX0_openShape_25 rfl rfl ?_
    refine z_getr C (t := b + 1) (isb_k0 hb) (isb_L0 hb) rfl 3 (Nat.le_of_ble_eq_true rfl) rfl kiX0_openShape_X0 kfX0_openShape_9 dX0_openShape_26 ?_
    refine z_iload_n C 2 dX0_openShape_29 rfl rfl ?_
    refine z_iload_n C 1 dX0_openShape_30 rfl rfl ?_
    obtain ⟨hi3, hf⟩ := ck_el hf
    refine z_iast C (k := (b + 1)) (isb_k1 hb) (isb_L1 hb) hi3 dX0_openShape_31 ?_
    refine z_nm (fun m4 e_m4 => ?_)
    replace hf := bn_to e_m4 hf
    refine z_aload_n C 0 dX0_openShape_32 rfl rfl ?_
    refine z_getr C (t := b + 2) (isb_k0 hb) (isb_L0 hb) rfl 4 (Nat.le_of_ble_eq_true rfl) rfl kiX0_openShape_X0 kfX0_openShape_15 dX0_openShape_33 ?_
    refine z_iload_n C 2 dX0_openShape_36 rfl rfl ?_
    refine z_iconst C (v := 0) dX0_openShape_37 rfl ?_
    obtain ⟨hi5, hf⟩ := ck_el hf
    refine z_iast C (k := (b + 2)) (isb_k2 hb) (isb_L2 hb) hi5 dX0_openShape_38 ?_
    refine z_nm (fun m6 e_m6 => ?_)
    replace hf := bn_to e_m6 hf
    refine z_aload_n C 0 dX0_openShape_39 rfl rfl ?_
    refine z_getr C (t := b + 3) (isb_k0 hb) (isb_L0 hb) rfl 5 (Nat.le_of_ble_eq_true rfl) rfl kiX0_openShape_X0 kfX0_openShape_18 dX0_openShape_40 ?_
    refine z_iload_n C 2 dX0_openShape_43 rfl rfl ?_
    refine z_iconst C (v := 0) dX0_openShape_44 rfl ?_
    obtain ⟨hi7, hf⟩ := ck_el hf
    refine z_zast C (k := (b + 3)) (isb_k3 hb) (isb_L3 hb) hi7 dX0_openShape_45 ?_
    refine z_nm (fun m8 e_m8 => ?_)
    replace hf := bn_to e_m8 hf
    refine z_aload_n C 0 dX0_openShape_46 rfl rfl ?_
    refine z_getr C (t := b + 4) (isb_k0 hb) (isb_L0 hb) rfl 6 (Nat.le_of_ble_eq_true rfl) rfl kiX0_openShape_X0 kfX0_openShape_22 dX0_openShape_47 ?_
    refine z_iload_n C 2 dX0_openShape_50 rfl rfl ?_
    refine z_iconst C (v := 0) dX0_openShape_51 rfl ?_
    obtain ⟨hi9, hf⟩ := ck_el hf
    refine z_iast C (k := (b + 4)) (isb_k4 hb) (isb_L4 hb) hi9 dX0_openShape_52 ?_
    refine z_nm (fun m10 e_m10 => ?_)
    replace hf := bn_to e_m10 hf
    refine z_aload_n C 0 dX0_openShape_53 rfl rfl ?_
    refine z_getr C (t := b + 5) (isb_k0 hb) (isb_L0 hb) rfl 7 (Nat.le_of_ble_eq_true rfl) rfl kiX0_openShape_X0 kfX0_openShape_25 dX0_openShape_54 ?_
    refine z_iload_n C 2 dX0_openShape_57 rfl rfl ?_
    refine z_iconst C (v := 0) dX0_openShape_58 rfl ?_
    obtain ⟨hi11, hf⟩ := ck_el hf
    refine z_iast C (k := (b + 5)) (isb_k5 hb) (isb_L5 hb) hi11 dX0_openShape_59 ?_
    refine z_nm (fun m12 e_m12 => ?_)
    replace hf := bn_to e_m12 hf
    refine z_aload_n C 0 dX0_openShape_60 rfl rfl ?_
    refine z_getr C (t := b + 6) (isb_k0 hb) (isb_L0 hb) rfl 8 (Nat.le_of_ble_eq_true rfl) rfl kiX0_openShape_X0 kfX0_openShape_28 dX0_openShape_61 ?_
    refine z_iload_n C 2 dX0_openShape_64 rfl rfl ?_
    refine z_iconst C (v := 0) dX0_openShape_65 rfl ?_
    obtain ⟨hi13, hf⟩ := ck_el hf
    refine z_iast C (k := (b + 6)) (isb_k6 hb) (isb_L6 hb) hi13 dX0_openShape_66 ?_
    refine z_nm (fun m14 e_m14 => ?_)
    replace hf := bn_to e_m14 hf
    refine z_aload_n C 0 dX0_openShape_67 rfl rfl ?_
    refine z_getr C (t := b + 7) (isb_k0 hb) (isb_L0 hb) rfl 9 (Nat.le_of_ble_eq_true rfl) rfl kiX0_openShape_X0 kfX0_openShape_31 dX0_openShape_68 ?_
    refine z_iload_n C 2 dX0_openShape_71 rfl rfl ?_
    refine z_iconst C (v := 1) dX0_openShape_72 rfl ?_
    refine z_iadd C dX0_openShape_73 ?_
    refine z_aload_n C 0 dX0_openShape_74 rfl rfl ?_
    refine z_geti C (isb_k0 hb) (isb_L0 hb) rfl 1 (Nat.le_of_ble_eq_true rfl) rfl kiX0_openShape_X0 kfX0_openShape_60 dX0_openShape_75 ?_
    obtain ⟨hi15, hf⟩ := ck_el hf
    refine z_iast C (k := (b + 7)) (isb_k7 hb) (isb_L7 hb) hi15 dX0_openShape_78 ?_
    refine z_nm (fun m16 e_m16 => ?_)
    replace hf := bn_to e_m16 hf
    cases hf
    exact hret _ _ dX0_openShape_79
  · replace hf := if_f c17 hf
    cases hf
    exact hret _ _ dX0_openShape_9
def rmX0_placeOfCircle : Room := { frames := 2, cells := 0, slots := 0, locals := 43 }
theorem zdX0_placeOfCircle : yX0_placeOfCircle.cls = RX0 ∧ yX0_placeOfCircle.cls ≠ "java/lang/invoke/MethodHandle" ∧ yX0_placeOfCircle.cls ≠ "java/lang/invoke/VarHandle" ∧ (parseMethodDescriptor yX0_placeOfCircle.desc).map (fun d => d.parameters.length) = some 0 := by decide +kernel
theorem kiX0_placeOfCircle_X0 : ∀ w ∈ wsX00, w ∈ wsX0_placeOfCircle := by decide +kernel
theorem kfX0_placeOfCircle_52 : Cond.fieldLink RX0 52 "ShapeJudge$Book" "shapeCount" "I" ∈ wsX0_placeOfCircle := by decide +kernel
theorem kfX0_placeOfCircle_15 : Cond.fieldLink RX0 15 "ShapeJudge$Book" "partCount" "[I" ∈ wsX0_placeOfCircle := by decide +kernel
theorem kfX0_placeOfCircle_40 : Cond.fieldLink RX0 40 "ShapeJudge$Book" "partTest" "[I" ∈ wsX0_placeOfCircle := by decide +kernel
theorem kfX0_placeOfCircle_43 : Cond.fieldLink RX0 43 "ShapeJudge$Book" "partFirst" "[I" ∈ wsX0_placeOfCircle := by decide +kernel
theorem kfX0_placeOfCircle_49 : Cond.fieldLink RX0 49 "ShapeJudge$Book" "partPlace" "[I" ∈ wsX0_placeOfCircle := by decide +kernel
def t_X0_placeOfCircle_12 (m : Mem) (b : Nat) (i1 : Int32) (i2 : Int32) : Option ((Int32) ⊕ ((Int32) ⊕ (Unit))) :=
  ck (zin i1 6 = true) ((if (m (b + 2) (Int32.toNatClampNeg i1)) ≤ i2 then (some (.inr (.inr ()))) else (bn ((i1 * 6) + i2) fun x4 => ck (zin x4 36 = true) ((if (m (b + 10) (Int32.toNatClampNeg x4)) = 2 then (ck (zin x4 36 = true) ((s_X0_dependsOn m b (m (b + 11) (Int32.toNatClampNeg x4)) i1).bind fun r9 => (if r9 = 0 then (bn (i2 + 1) fun x10 => some (.inl x10)) else (ck (zin x4 36 = true) (some (.inr (.inl (m (b + 13) (Int32.toNatClampNeg x4))))))))) else (bn (i2 + 1) fun x6 => some (.inl x6)))))))
def l_X0_placeOfCircle_12 (m : Mem) (b : Nat) (i1 : Int32) (n : Nat) (i2 : Int32) : Option ((Int32) ⊕ (Unit)) := zlp n (fun a => t_X0_placeOfCircle_12 m b i1 a) i2
def t_X0_placeOfCircle_2 (m : Mem) (b : Nat) (i1 : Int32) : Option ((Int32) ⊕ (Int32)) :=
  (if (m b 0) ≤ i1 then (some (.inr (-1))) else ((zbS (l_X0_placeOfCircle_12 m b i1 FU 0) (fun r => some (.inr r)) (fun _ => bn (i1 + 1) fun x15 => some (.inl x15)))))
def l_X0_placeOfCircle_2 (m : Mem) (b : Nat) (n : Nat) (i1 : Int32) : Option (Int32) := zlp n (fun a => t_X0_placeOfCircle_2 m b a) i1
def s_X0_placeOfCircle (m : Mem) (b : Nat) : Option (Int32) :=
  l_X0_placeOfCircle_2 m b FU 0
set_option maxRecDepth 100000 in
set_option maxHeartbeats 4000000 in
theorem w_X0_placeOfCircle_12 {K : ZK} (C : zOK MX K cX0_placeOfCircle 4 (some .int) RX0 wsX0_placeOfCircle rmX0_placeOfCircle) {m : Mem} {b : Nat} {i1 : Int32} (hb : isb b) {o : (Int32) ⊕ (Unit)} (hret : ∀ r, o = .inl r → zRi MX K cX0_placeOfCircle m r) (hk : ∀ u, o = .inr u → zGo MX K m [(0, .ref ((zw K).2.1 b)), (1, .int i1)] 66 []) : ∀ (n : Nat) (i2 : Int32), l_X0_placeOfCircle_12 m b i1 n i2 = some o → zGo MX K m [(0, .ref ((zw K).2.1 b)), (1, .int i1), (2, .int i2)] 12 [] := by
  intro n
  induction n with
  | zero =>
    intro i2 hf
    cases hf
  | succ n ih =>
    intro i2 hf
    obtain ⟨z, hf, hz⟩ := zlp_el hf
    replace hf : t_X0_placeOfCircle_12 m b i1 i2 = some z := hf
    unfold t_X0_placeOfCircle_12 at hf
    refine z_iload_n C 2 dX0_placeOfCircle_12 rfl rfl ?_
    refine z_aload_n C 0 dX0_placeOfCircle_13 rfl rfl ?_
    refine z_getr C (t := b + 2) (isb_k0 hb) (isb_L0 hb) rfl 4 (Nat.le_of_ble_eq_true rfl) rfl kiX0_placeOfCircle_X0 kfX0_placeOfCircle_15 dX0_placeOfCircle_14 ?_
    refine z_iload_n C 1 dX0_placeOfCircle_17 rfl rfl ?_
    obtain ⟨hi3, hf⟩ := ck_el hf
    refine z_iald C (k := (b + 2)) (isb_k2 hb) (isb_L2 hb) hi3 dX0_placeOfCircle_18 ?_
    refine z_icmp_ge (tgt := 66) C dX0_placeOfCircle_19 (by decide) (fun c14 => ?_) (fun c14 => ?_)
    · replace hf := if_t c14 hf
      cases hf
      replace hz := zlz_r hz
      cases hz
      exact z_sub [0, 1] rfl (hk _ rfl)
    · replace hf := if_f c14 hf
      refine z_iload_n C 1 dX0_placeOfCircle_22 rfl rfl ?_
      refine z_bipush C (v := 6) dX0_placeOfCircle_23 rfl ?_
      refine z_imul C dX0_placeOfCircle_25 ?_
      refine z_iload_n C 2 dX0_placeOfCircle_26 rfl rfl ?_
      refine z_iadd C dX0_placeOfCircle_27 ?_
      refine z_topi (fun x4 e_x4 => ?_)
      replace hf := bn_to e_x4 hf
      refine z_istore_n C (lv2 := [(0, .ref ((zw K).2.1 b)), (1, .int i1), (2, .int i2), (3, .int x4)]) [1, 2, 3, 0] dX0_placeOfCircle_28 rfl (Nat.le_of_ble_eq_true rfl) rfl ?_
      refine z_aload_n C 0 dX0_placeOfCircle_29 rfl rfl ?_
      refine z_getr C (t := b + 10) (isb_k0 hb) (isb_L0 hb) rfl 12 (Nat.le_of_ble_eq_true rfl) rfl kiX0_placeOfCircle_X0 kfX0_placeOfCircle_40 dX0_placeOfCircle_30 ?_
      refine z_iload_n C 3 dX0_placeOfCircle_33 rfl rfl ?_
      obtain ⟨hi5, hf⟩ := ck_el hf
      refine z_iald C (k := (b + 10)) (isb_k10 hb) (isb_L10 hb) hi5 dX0_placeOfCircle_34 ?_
      refine z_iconst C (v := 2) dX0_placeOfCircle_35 rfl ?_
      refine z_icmp_ne (tgt := 60) C dX0_placeOfCircle_36 (by decide) (fun c13 => ?_) (fun c13 => ?_)
      · replace hf := if_f c13 hf
        obtain ⟨x6, e_x6⟩ : ∃ y : Int32, y = i2 + 1 := ⟨_, rfl⟩
        replace hf := bn_to e_x6 hf
        refine z_iinc C (lv2 := [(0, .ref ((zw K).2.1 b)), (1, .int i1), (2, .int x6), (3, .int x4)]) 2 [1, 2, 0, 3] dX0_placeOfCircle_60 rfl rfl (Nat.le_of_ble_eq_true rfl) e_x6 rfl ?_
        refine z_goto (tgt := 12) C dX0_placeOfCircle_63 (by decide) ?_
        cases hf
        exact z_sub [0, 1, 2] rfl (ih x6 hz)
      · replace hf := if_t c13 hf
        refine z_aload_n C 0 dX0_placeOfCircle_39 rfl rfl ?_
        refine z_aload_n C 0 dX0_placeOfCircle_40 rfl rfl ?_
        refine z_getr C (t := b + 11) (isb_k0 hb) (isb_L0 hb) rfl 13 (Nat.le_of_ble_eq_true rfl) rfl kiX0_placeOfCircle_X0 kfX0_placeOfCircle_43 dX0_placeOfCircle_41 ?_
        refine z_iload_n C 3 dX0_placeOfCircle_44 rfl rfl ?_
        obtain ⟨hi7, hf⟩ := ck_el hf
        refine z_iald C (k := (b + 11)) (isb_k11 hb) (isb_L11 hb) hi7 dX0_placeOfCircle_45 ?_
        refine z_iload_n C 1 dX0_placeOfCircle_46 rfl rfl ?_
        obtain ⟨r9, hc8, hf⟩ := zb_el hf
        refine z_cVi C (c_X0_dependsOn _ _ hb hc8) rfl gX0_placeOfCircle_X0_dependsOn rfl rfl zdX0_dependsOn rfl (isb_k0 hb) (isb_L0 hb) rfl rfl ⟨Nat.le_of_ble_eq_true rfl, Nat.le_of_ble_eq_true rfl⟩ (Nat.le_of_ble_eq_true rfl) dX0_placeOfCircle_47 rfl ?_
        refine z_if_eq (tgt := 60) C dX0_placeOfCircle_50 (by decide) (fun c12 => ?_) (fun c12 => ?_)
        · replace hf := if_t c12 hf
          obtain ⟨x10, e_x10⟩ : ∃ y : Int32, y = i2 + 1 := ⟨_, rfl⟩
          replace hf := bn_to e_x10 hf
          refine z_iinc C (lv2 := [(0, .ref ((zw K).2.1 b)), (1, .int i1), (2, .int x10), (3, .int x4)]) 2 [1, 2, 0, 3] dX0_placeOfCircle_60 rfl rfl (Nat.le_of_ble_eq_true rfl) e_x10 rfl ?_
          refine z_goto (tgt := 12) C dX0_placeOfCircle_63 (by decide) ?_
          cases hf
          exact z_sub [0, 1, 2] rfl (ih x10 hz)
        · replace hf := if_f c12 hf
          refine z_aload_n C 0 dX0_placeOfCircle_53 rfl rfl ?_
          refine z_getr C (t := b + 13) (isb_k0 hb) (isb_L0 hb) rfl 15 (Nat.le_of_ble_eq_true rfl) rfl kiX0_placeOfCircle_X0 kfX0_placeOfCircle_49 dX0_placeOfCircle_54 ?_
          refine z_iload_n C 3 dX0_placeOfCircle_57 rfl rfl ?_
          obtain ⟨hi11, hf⟩ := ck_el hf
          refine z_iald C (k := (b + 13)) (isb_k13 hb) (isb_L13 hb) hi11 dX0_placeOfCircle_58 ?_
          cases hf
          replace hz := zlz_r hz
          cases hz
          exact hret _ rfl _ _ dX0_placeOfCircle_59
set_option maxRecDepth 100000 in
set_option maxHeartbeats 4000000 in
theorem w_X0_placeOfCircle_2 {K : ZK} (C : zOK MX K cX0_placeOfCircle 4 (some .int) RX0 wsX0_placeOfCircle rmX0_placeOfCircle) {m : Mem} {b : Nat} (hb : isb b) {r9 : Int32} (hret : zRi MX K cX0_placeOfCircle m r9) : ∀ (n : Nat) (i1 : Int32), l_X0_placeOfCircle_2 m b n i1 = some r9 → zGo MX K m [(0, .ref ((zw K).2.1 b)), (1, .int i1)] 2 [] := by
  intro n
  induction n with
  | zero =>
    intro i1 hf
    cases hf
  | succ n ih =>
    intro i1 hf
    obtain ⟨z, hf, hz⟩ := zlp_el hf
    replace hf : t_X0_placeOfCircle_2 m b i1 = some z := hf
    unfold t_X0_placeOfCircle_2 at hf
    refine z_iload_n C 1 dX0_placeOfCircle_2 rfl rfl ?_
    refine z_aload_n C 0 dX0_placeOfCircle_3 rfl rfl ?_
    refine z_geti C (isb_k0 hb) (isb_L0 hb) rfl 0 (Nat.le_of_ble_eq_true rfl) rfl kiX0_placeOfCircle_X0 kfX0_placeOfCircle_52 dX0_placeOfCircle_4 ?_
    refine z_icmp_ge (tgt := 72) C dX0_placeOfCircle_7 (by decide) (fun c16 => ?_) (fun c16 => ?_)
    · replace hf := if_t c16 hf
      refine z_iconst C (v := (-1)) dX0_placeOfCircle_72 (by decide) ?_
      cases hf
      replace hz := zlz_r hz
      cases hz
      exact hret _ _ dX0_placeOfCircle_73
    · replace hf := if_f c16 hf
      refine z_iconst C (v := 0) dX0_placeOfCircle_10 rfl ?_
      refine z_istore_n C (lv2 := [(0, .ref ((zw K).2.1 b)), (1, .int i1), (2, .int 0)]) [1, 2, 0] dX0_placeOfCircle_11 rfl (Nat.le_of_ble_eq_true rfl) rfl ?_
      obtain ⟨r, hg, hf⟩ | ⟨u, hg, hf⟩ := zbS_el hf
      · cases hf
        replace hz := zlz_r hz
        cases hz
        refine z_sub [0, 1, 2] rfl (w_X0_placeOfCircle_12 C hb ?_ ?_ _ _ hg)
        · intro r2 e2
          cases e2
          exact hret
        · intro _ e2
          cases e2
      · refine z_sub [0, 1, 2] rfl (w_X0_placeOfCircle_12 C hb ?_ ?_ _ _ hg)
        · intro r2 e2
          cases e2
        · intro u2 e2
          cases e2
          clear hg
          obtain ⟨x15, e_x15⟩ : ∃ y : Int32, y = i1 + 1 := ⟨_, rfl⟩
          replace hf := bn_to e_x15 hf
          refine z_iinc C (lv2 := [(0, .ref ((zw K).2.1 b)), (1, .int x15)]) 1 [1, 0] dX0_placeOfCircle_66 rfl rfl (Nat.le_of_ble_eq_true rfl) e_x15 rfl ?_
          refine z_goto (tgt := 2) C dX0_placeOfCircle_69 (by decide) ?_
          cases hf
          exact z_sub [0, 1] rfl (ih x15 hz)
set_option maxRecDepth 100000 in
set_option maxHeartbeats 4000000 in
theorem c_X0_placeOfCircle (l : Launch) (w : ZW) {m : Mem} {b : Nat} {r9 : Int32} (hb : isb b) (hf : s_X0_placeOfCircle m b = some r9) : zCi MX l w yX0_placeOfCircle wsX0_placeOfCircle rmX0_placeOfCircle [.ref (w.2.1 b)] m m r9 := by
  refine z_met_i MX_ok (own := RX0) (by decide +kernel) rfl rfl (Nat.le_of_ble_eq_true rfl) ?_
  intro K C hKw hKl hret
  subst hKw
  subst hKl
  unfold s_X0_placeOfCircle at hf
  show zGo MX K m [(0, .ref ((zw K).2.1 b))] 0 []
  refine z_iconst C (v := 0) dX0_placeOfCircle_0 rfl ?_
  refine z_istore_n C (lv2 := [(0, .ref ((zw K).2.1 b)), (1, .int 0)]) [1, 0] dX0_placeOfCircle_1 rfl (Nat.le_of_ble_eq_true rfl) rfl ?_
  exact z_sub [0, 1] rfl (w_X0_placeOfCircle_2 C hb hret _ _ hf)
def rmX0_tellPart : Room := { frames := 0, cells := 0, slots := 0, locals := 0 }
theorem zdX0_tellPart : yX0_tellPart.cls = RX0 ∧ yX0_tellPart.cls ≠ "java/lang/invoke/MethodHandle" ∧ yX0_tellPart.cls ≠ "java/lang/invoke/VarHandle" ∧ (parseMethodDescriptor yX0_tellPart.desc).map (fun d => d.parameters.length) = some 4 := by decide +kernel
theorem kiX0_tellPart_X0 : ∀ w ∈ wsX00, w ∈ wsX0_tellPart := by decide +kernel
theorem kfX0_tellPart_40 : Cond.fieldLink RX0 40 "ShapeJudge$Book" "partTest" "[I" ∈ wsX0_tellPart := by decide +kernel
theorem kfX0_tellPart_63 : Cond.fieldLink RX0 63 "ShapeJudge$Book" "lastSlot" "I" ∈ wsX0_tellPart := by decide +kernel
theorem kfX0_tellPart_43 : Cond.fieldLink RX0 43 "ShapeJudge$Book" "partFirst" "[I" ∈ wsX0_tellPart := by decide +kernel
theorem kfX0_tellPart_46 : Cond.fieldLink RX0 46 "ShapeJudge$Book" "partSecond" "[I" ∈ wsX0_tellPart := by decide +kernel
theorem kfX0_tellPart_49 : Cond.fieldLink RX0 49 "ShapeJudge$Book" "partPlace" "[I" ∈ wsX0_tellPart := by decide +kernel
def s_X0_tellPart (m : Mem) (b : Nat) (a1 : Int32) (a2 : Int32) (a3 : Int32) (a4 : Int32) : Option (Mem) :=
  ck (zin (m b 2) 36 = true) (bn (sto m (b + 10) (Int32.toNatClampNeg (m b 2)) a1) fun m2 => ck (zin (m2 b 2) 36 = true) (bn (sto m2 (b + 11) (Int32.toNatClampNeg (m2 b 2)) a2) fun m4 => ck (zin (m4 b 2) 36 = true) (bn (sto m4 (b + 12) (Int32.toNatClampNeg (m4 b 2)) a3) fun m6 => ck (zin (m6 b 2) 36 = true) (bn (sto m6 (b + 13) (Int32.toNatClampNeg (m6 b 2)) a4) fun m8 => some m8))))
set_option maxRecDepth 100000 in
set_option maxHeartbeats 4000000 in
theorem c_X0_tellPart (l : Launch) (w : ZW) {m : Mem} {b : Nat} {a1 : Int32} {a2 : Int32} {a3 : Int32} {a4 : Int32} {m9 : Mem} (hb : isb b) (hf : s_X0_tellPart m b a1 a2 a3 a4 = some m9) : zCv MX l w yX0_tellPart wsX0_tellPart rmX0_tellPart [.ref (w.2.1 b), .int a1, .int a2, .int a3, .int a4] m m9 := by
  refine z_met_v MX_ok (own := RX0) (by decide +kernel) rfl rfl (Nat.le_of_ble_eq_true rfl) ?_
  intro K C hKw hKl hret
  subst hKw
  subst hKl
  unfold s_X0_tellPart at hf
  show zGo MX K m [(0, .ref ((zw K).2.1 b)), (1, .int a1), (2, .int a2), (3, .int a3), (4, .int a4)] 0 []
  refine z_aload_n C 0 dX0_tellPart_0 rfl rfl ?_
  refine z_getr C (t := b + 10) (isb_k0 hb) (isb_L0 hb) rfl 12 (Nat.le_of_ble_eq_true rfl) rfl kiX0_tellPart_X0 kfX0_tellPart_40 dX0_tellPart_1 ?_
  refine z_aload_n C 0 dX0_tellPart_4 rfl rfl ?_
  refine z_geti C (isb_k0 hb) (isb_L0 hb) rfl 2 (Nat.le_of_ble_eq_true rfl) rfl kiX0_tellPart_X0 kfX0_tellPart_63 dX0_tellPart_5 ?_
  refine z_iload_n C 1 dX0_tellPart_8 rfl rfl ?_
  obtain ⟨hi1, hf⟩ := ck_el hf
  refine z_iast C (k := (b + 10)) (isb_k10 hb) (isb_L10 hb) hi1 dX0_tellPart_9 ?_
  refine z_nm (fun m2 e_m2 => ?_)
  replace hf := bn_to e_m2 hf
  refine z_aload_n C 0 dX0_tellPart_10 rfl rfl ?_
  refine z_getr C (t := b + 11) (isb_k0 hb) (isb_L0 hb) rfl 13 (Nat.le_of_ble_eq_true rfl) rfl kiX0_tellPart_X0 kfX0_tellPart_43 dX0_tellPart_11 ?_
  refine z_aload_n C 0 dX0_tellPart_14 rfl rfl ?_
  refine z_geti C (isb_k0 hb) (isb_L0 hb) rfl 2 (Nat.le_of_ble_eq_true rfl) rfl kiX0_tellPart_X0 kfX0_tellPart_63 dX0_tellPart_15 ?_
  refine z_iload_n C 2 dX0_tellPart_18 rfl rfl ?_
  obtain ⟨hi3, hf⟩ := ck_el hf
  refine z_iast C (k := (b + 11)) (isb_k11 hb) (isb_L11 hb) hi3 dX0_tellPart_19 ?_
  refine z_nm (fun m4 e_m4 => ?_)
  replace hf := bn_to e_m4 hf
  refine z_aload_n C 0 dX0_tellPart_20 rfl rfl ?_
  refine z_getr C (t := b + 12) (isb_k0 hb) (isb_L0 hb) rfl 14 (Nat.le_of_ble_eq_true rfl) rfl kiX0_tellPart_X0 kfX0_tellPart_46 dX0_tellPart_21 ?_
  refine z_aload_n C 0 dX0_tellPart_24 rfl rfl ?_
  refine z_geti C (isb_k0 hb) (isb_L0 hb) rfl 2 (Nat.le_of_ble_eq_true rfl) rfl kiX0_tellPart_X0 kfX0_tellPart_63 dX0_tellPart_25 ?_
  refine z_iload_n C 3 dX0_tellPart_28 rfl rfl ?_
  obtain ⟨hi5, hf⟩ := ck_el hf
  refine z_iast C (k := (b + 12)) (isb_k12 hb) (isb_L12 hb) hi5 dX0_tellPart_29 ?_
  refine z_nm (fun m6 e_m6 => ?_)
  replace hf := bn_to e_m6 hf
  refine z_aload_n C 0 dX0_tellPart_30 rfl rfl ?_
  refine z_getr C (t := b + 13) (isb_k0 hb) (isb_L0 hb) rfl 15 (Nat.le_of_ble_eq_true rfl) rfl kiX0_tellPart_X0 kfX0_tellPart_49 dX0_tellPart_31 ?_
  refine z_aload_n C 0 dX0_tellPart_34 rfl rfl ?_
  refine z_geti C (isb_k0 hb) (isb_L0 hb) rfl 2 (Nat.le_of_ble_eq_true rfl) rfl kiX0_tellPart_X0 kfX0_tellPart_63 dX0_tellPart_35 ?_
  refine z_iload C 4 dX0_tellPart_38 rfl ?_
  obtain ⟨hi7, hf⟩ := ck_el hf
  refine z_iast C (k := (b + 13)) (isb_k13 hb) (isb_L13 hb) hi7 dX0_tellPart_40 ?_
  refine z_nm (fun m8 e_m8 => ?_)
  replace hf := bn_to e_m8 hf
  cases hf
  exact hret _ _ dX0_tellPart_41
