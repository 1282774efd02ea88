def rmX4_fail : Room := { frames := 0, cells := 0, slots := 0, locals := 0 }
theorem zdX4_fail : yX4_fail.cls = RX4 ∧ yX4_fail.cls ≠ "java/lang/invoke/MethodHandle" ∧ yX4_fail.cls ≠ "java/lang/invoke/VarHandle" ∧ (parseMethodDescriptor yX4_fail.desc).map (fun d => d.parameters.length) = some 1 := by decide +kernel
theorem kiX4_fail_X4 : ∀ w ∈ wsX40, w ∈ wsX4_fail := by decide +kernel
theorem kfX4_fail_45 : Cond.fieldLink RX4 45 "ShapeJudge$TextReader" "faultKind" "I" ∈ wsX4_fail := by decide +kernel
theorem kfX4_fail_14 : Cond.fieldLink RX4 14 "ShapeJudge$TextReader" "tokens" "LShapeJudge$Tokens;" ∈ wsX4_fail := by decide +kernel
theorem kiX4_fail_X5 : ∀ w ∈ wsX50, w ∈ wsX4_fail := by decide +kernel
theorem kfX4_fail_67 : Cond.fieldLink RX4 67 "ShapeJudge$Tokens" "place" "I" ∈ wsX4_fail := by decide +kernel
theorem kfX4_fail_48 : Cond.fieldLink RX4 48 "ShapeJudge$TextReader" "faultPlace" "I" ∈ wsX4_fail := by decide +kernel
def s_X4_fail (m : Mem) (a1 : Int32) : Option (Mem) :=
  bn (sto m 9 8 a1) fun m1 => bn (sto m1 9 9 (m1 10 3)) fun m2 => some m2
set_option maxRecDepth 100000 in
set_option maxHeartbeats 4000000 in
theorem c_X4_fail (l : Launch) (w : ZW) {m : Mem} {a1 : Int32} {m9 : Mem}  (hf : s_X4_fail m a1 = some m9) : zCv MX l w yX4_fail wsX4_fail rmX4_fail [.ref (w.2.1 9), .int a1] m m9 := by
  refine z_met_v MX_ok (own := RX4) (by decide +kernel) rfl rfl (Nat.le_of_ble_eq_true rfl) ?_
  intro K C hKw hKl hret
  subst hKw
  subst hKl
  unfold s_X4_fail at hf
  show zGo MX K m [(0, .ref ((zw K).2.1 9)), (1, .int a1)] 0 []
  refine z_aload_n C 0 dX4_fail_0 rfl rfl ?_
  refine z_iload_n C 1 dX4_fail_1 rfl rfl ?_
  refine z_puti C (Nat.le_of_ble_eq_true rfl) rfl rfl 8 (Nat.le_of_ble_eq_true rfl) rfl kiX4_fail_X4 kfX4_fail_45 tyX4 tyX4_ok nmX4 rfl rfl dX4_fail_2 ?_
  refine z_nm (fun m1 e_m1 => ?_)
  replace hf := bn_to e_m1 hf
  refine z_aload_n C 0 dX4_fail_5 rfl rfl ?_
  refine z_aload_n C 0 dX4_fail_6 rfl rfl ?_
  refine z_getr C (t := 10) (Nat.le_of_ble_eq_true rfl) rfl rfl 0 (Nat.le_of_ble_eq_true rfl) rfl kiX4_fail_X4 kfX4_fail_14 dX4_fail_7 ?_
  refine z_geti C (Nat.le_of_ble_eq_true rfl) rfl rfl 3 (Nat.le_of_ble_eq_true rfl) rfl kiX4_fail_X5 kfX4_fail_67 dX4_fail_10 ?_
  refine z_puti C (Nat.le_of_ble_eq_true rfl) rfl rfl 9 (Nat.le_of_ble_eq_true rfl) rfl kiX4_fail_X4 kfX4_fail_48 tyX4 tyX4_ok nmX4 rfl rfl dX4_fail_13 ?_
  refine z_nm (fun m2 e_m2 => ?_)
  replace hf := bn_to e_m2 hf
  cases hf
  exact hret _ _ dX4_fail_16
def rmX4_isNumberFrom : Room := { frames := 1, cells := 0, slots := 0, locals := 21 }
theorem zdX4_isNumberFrom : yX4_isNumberFrom.cls = RX4 ∧ yX4_isNumberFrom.cls ≠ "java/lang/invoke/MethodHandle" ∧ yX4_isNumberFrom.cls ≠ "java/lang/invoke/VarHandle" ∧ (parseMethodDescriptor yX4_isNumberFrom.desc).map (fun d => d.parameters.length) = some 2 := by decide +kernel
theorem kiX4_isNumberFrom_X4 : ∀ w ∈ wsX40, w ∈ wsX4_isNumberFrom := by decide +kernel
theorem kfX4_isNumberFrom_14 : Cond.fieldLink RX4 14 "ShapeJudge$TextReader" "tokens" "LShapeJudge$Tokens;" ∈ wsX4_isNumberFrom := by decide +kernel
theorem kiX4_isNumberFrom_X5 : ∀ w ∈ wsX50, w ∈ wsX4_isNumberFrom := by decide +kernel
theorem kfX4_isNumberFrom_54 : Cond.fieldLink RX4 54 "ShapeJudge$Tokens" "kind" "I" ∈ wsX4_isNumberFrom := by decide +kernel
theorem kfX4_isNumberFrom_45 : Cond.fieldLink RX4 45 "ShapeJudge$TextReader" "faultKind" "I" ∈ wsX4_isNumberFrom := by decide +kernel
theorem kfX4_isNumberFrom_107 : Cond.fieldLink RX4 107 "ShapeJudge$Tokens" "number" "I" ∈ wsX4_isNumberFrom := by decide +kernel
def s_X4_isNumberFrom (m : Mem) (a1 : Int32) (a2 : Int32) : Option (Int32 × Mem) :=
  (((if (m 10 2) = 3 then ((if (m 10 4) < a1 then ((s_X4_fail m 3).bind fun m4 => some m4) else ((if (m 10 4) ≤ a2 then (some m) else ((s_X4_fail m 3).bind fun m6 => some m6))))) else ((s_X4_fail m 2).bind fun m10 => some m10)) : Option (Mem)).bind fun m1 => (if (m1 9 8) = 0 then (some (1, m1)) else (some (0, m1))))
set_option maxRecDepth 100000 in
set_option maxHeartbeats 4000000 in
theorem c_X4_isNumberFrom (l : Launch) (w : ZW) {m : Mem} {a1 : Int32} {a2 : Int32} {r9 : Int32} {m9 : Mem}  (hf : s_X4_isNumberFrom m a1 a2 = some (r9, m9)) : zCi MX l w yX4_isNumberFrom wsX4_isNumberFrom rmX4_isNumberFrom [.ref (w.2.1 9), .int a1, .int a2] m m9 r9 := by
  refine z_met_z MX_ok (own := RX4) (by decide +kernel) rfl rfl (Nat.le_of_ble_eq_true rfl) ?_
  intro K C hKw hKl hret
  subst hKw
  subst hKl
  unfold s_X4_isNumberFrom at hf
  show zGo MX K m [(0, .ref ((zw K).2.1 9)), (1, .int a1), (2, .int a2)] 0 []
  refine z_aload_n C 0 dX4_isNumberFrom_0 rfl rfl ?_
  refine z_getr C (t := 10) (Nat.le_of_ble_eq_true rfl) rfl rfl 0 (Nat.le_of_ble_eq_true rfl) rfl kiX4_isNumberFrom_X4 kfX4_isNumberFrom_14 dX4_isNumberFrom_1 ?_
  refine z_geti C (Nat.le_of_ble_eq_true rfl) rfl rfl 2 (Nat.le_of_ble_eq_true rfl) rfl kiX4_isNumberFrom_X5 kfX4_isNumberFrom_54 dX4_isNumberFrom_4 ?_
  refine z_iconst C (v := 3) dX4_isNumberFrom_7 rfl ?_
  obtain ⟨m1, hg, hf⟩ := zb_el hf
  have hj : zGo MX K m1 [(0, .ref ((zw K).2.1 9))] 46 [] := by
    refine z_aload_n C 0 dX4_isNumberFrom_46 rfl rfl ?_
    refine z_geti C (Nat.le_of_ble_eq_true rfl) rfl rfl 8 (Nat.le_of_ble_eq_true rfl) rfl kiX4_isNumberFrom_X4 kfX4_isNumberFrom_45 dX4_isNumberFrom_47 ?_
    refine z_if_ne (tgt := 57) C dX4_isNumberFrom_50 (by decide) (fun c2 => ?_) (fun c2 => ?_)
    · replace hf := if_f c2 hf
      refine z_iconst C (v := 0) dX4_isNumberFrom_57 rfl ?_
      cases hf
      exact hret _ _ dX4_isNumberFrom_58 (Or.inl rfl)
    · replace hf := if_t c2 hf
      refine z_iconst C (v := 1) dX4_isNumberFrom_53 rfl ?_
      refine z_goto (tgt := 58) C dX4_isNumberFrom_54 (by decide) ?_
      cases hf
      exact hret _ _ dX4_isNumberFrom_58 (Or.inr rfl)
  replace hf := hg
  clear hg
  refine z_icmp_eq (tgt := 19) C dX4_isNumberFrom_8 (by decide) (fun c11 => ?_) (fun c11 => ?_)
  · replace hf := if_t c11 hf
    refine z_aload_n C 0 dX4_isNumberFrom_19 rfl rfl ?_
    refine z_getr C (t := 10) (Nat.le_of_ble_eq_true rfl) rfl rfl 0 (Nat.le_of_ble_eq_true rfl) rfl kiX4_isNumberFrom_X4 kfX4_isNumberFrom_14 dX4_isNumberFrom_20 ?_
    refine z_geti C (Nat.le_of_ble_eq_true rfl) rfl rfl 4 (Nat.le_of_ble_eq_true rfl) rfl kiX4_isNumberFrom_X5 kfX4_isNumberFrom_107 dX4_isNumberFrom_23 ?_
    refine z_iload_n C 1 dX4_isNumberFrom_26 rfl rfl ?_
    refine z_icmp_lt (tgt := 41) C dX4_isNumberFrom_27 (by decide) (fun c8 => ?_) (fun c8 => ?_)
    · replace hf := if_t c8 hf
      refine z_aload_n C 0 dX4_isNumberFrom_41 rfl rfl ?_
      refine z_iconst C (v := 3) dX4_isNumberFrom_42 rfl ?_
      obtain ⟨m4, hc3, hf⟩ := zb_el hf
      refine z_cVv C (c_X4_fail _ _ hc3) rfl gX4_isNumberFrom_X4_fail rfl rfl zdX4_fail rfl (Nat.le_of_ble_eq_true rfl) rfl rfl rfl ⟨Nat.le_of_ble_eq_true rfl, Nat.le_of_ble_eq_true rfl⟩ (Nat.le_of_ble_eq_true rfl) dX4_isNumberFrom_43 rfl ?_
      cases hf
      exact z_sub [0] rfl hj
    · replace hf := if_f c8 hf
      refine z_aload_n C 0 dX4_isNumberFrom_30 rfl rfl ?_
      refine z_getr C (t := 10) (Nat.le_of_ble_eq_true rfl) rfl rfl 0 (Nat.le_of_ble_eq_true rfl) rfl kiX4_isNumberFrom_X4 kfX4_isNumberFrom_14 dX4_isNumberFrom_31 ?_
      refine z_geti C (Nat.le_of_ble_eq_true rfl) rfl rfl 4 (Nat.le_of_ble_eq_true rfl) rfl kiX4_isNumberFrom_X5 kfX4_isNumberFrom_107 dX4_isNumberFrom_34 ?_
      refine z_iload_n C 2 dX4_isNumberFrom_37 rfl rfl ?_
      refine z_icmp_le (tgt := 46) C dX4_isNumberFrom_38 (by decide) (fun c7 => ?_) (fun c7 => ?_)
      · replace hf := if_t c7 hf
        cases hf
        exact z_sub [0] rfl hj
      · replace hf := if_f c7 hf
        refine z_aload_n C 0 dX4_isNumberFrom_41 rfl rfl ?_
        refine z_iconst C (v := 3) dX4_isNumberFrom_42 rfl ?_
        obtain ⟨m6, hc5, hf⟩ := zb_el hf
        refine z_cVv C (c_X4_fail _ _ hc5) rfl gX4_isNumberFrom_X4_fail rfl rfl zdX4_fail rfl (Nat.le_of_ble_eq_true rfl) rfl rfl rfl ⟨Nat.le_of_ble_eq_true rfl, Nat.le_of_ble_eq_true rfl⟩ (Nat.le_of_ble_eq_true rfl) dX4_isNumberFrom_43 rfl ?_
        cases hf
        exact z_sub [0] rfl hj
  · replace hf := if_f c11 hf
    refine z_aload_n C 0 dX4_isNumberFrom_11 rfl rfl ?_
    refine z_iconst C (v := 2) dX4_isNumberFrom_12 rfl ?_
    obtain ⟨m10, hc9, hf⟩ := zb_el hf
    refine z_cVv C (c_X4_fail _ _ hc9) rfl gX4_isNumberFrom_X4_fail rfl rfl zdX4_fail rfl (Nat.le_of_ble_eq_true rfl) rfl rfl rfl ⟨Nat.le_of_ble_eq_true rfl, Nat.le_of_ble_eq_true rfl⟩ (Nat.le_of_ble_eq_true rfl) dX4_isNumberFrom_13 rfl ?_
    refine z_goto (tgt := 46) C dX4_isNumberFrom_16 (by decide) ?_
    cases hf
    exact z_sub [0] rfl hj
def rmX4_linkShapes : Room := { frames := 3, cells := 0, slots := 0, locals := 67 }
theorem zdX4_linkShapes : yX4_linkShapes.cls = RX4 ∧ yX4_linkShapes.cls ≠ "java/lang/invoke/MethodHandle" ∧ yX4_linkShapes.cls ≠ "java/lang/invoke/VarHandle" ∧ (parseMethodDescriptor yX4_linkShapes.desc).map (fun d => d.parameters.length) = some 0 := by decide +kernel
theorem kiX4_linkShapes_X4 : ∀ w ∈ wsX40, w ∈ wsX4_linkShapes := by decide +kernel
theorem kfX4_linkShapes_20 : Cond.fieldLink RX4 20 "ShapeJudge$TextReader" "book" "LShapeJudge$Book;" ∈ wsX4_linkShapes := by decide +kernel
theorem kfX4_linkShapes_45 : Cond.fieldLink RX4 45 "ShapeJudge$TextReader" "faultKind" "I" ∈ wsX4_linkShapes := by decide +kernel
theorem kfX4_linkShapes_48 : Cond.fieldLink RX4 48 "ShapeJudge$TextReader" "faultPlace" "I" ∈ wsX4_linkShapes := by decide +kernel
def s_X4_linkShapes (m : Mem)  : Option (Mem) :=
  zbk (m 9 1) fun b1 => zb2 (s_X0_linkReferences m b1) fun r3 m4 => (if r3 < 0 then (zbk (m4 9 1) fun b5 => (s_X0_findReach m4 b5).bind fun m7 => zbk (m7 9 1) fun b8 => (s_X0_placeOfCircle m7 b8).bind fun r10 => (if r10 < 0 then (zbk (m7 9 1) fun b11 => (s_X0_findLevels m7 b11).bind fun m13 => some m13) else (bn (sto m7 9 8 7) fun m14 => bn (sto m14 9 9 r10) fun m15 => some m15))) else (bn (sto m4 9 8 6) fun m17 => bn (sto m17 9 9 r3) fun m18 => some m18))
set_option maxRecDepth 100000 in
set_option maxHeartbeats 4000000 in
theorem c_X4_linkShapes (l : Launch) (w : ZW) {m : Mem}  {m9 : Mem}  (hf : s_X4_linkShapes m  = some m9) : zCv MX l w yX4_linkShapes wsX4_linkShapes rmX4_linkShapes [.ref (w.2.1 9)] m m9 := by
  refine z_met_v MX_ok (own := RX4) (by decide +kernel) rfl rfl (Nat.le_of_ble_eq_true rfl) ?_
  intro K C hKw hKl hret
  subst hKw
  subst hKl
  unfold s_X4_linkShapes at hf
  show zGo MX K m [(0, .ref ((zw K).2.1 9))] 0 []
  refine z_aload_n C 0 dX4_linkShapes_0 rfl rfl ?_
  obtain ⟨b1, hb1, e_b1, hf⟩ := zbk_el hf
  refine z_getb C (b := b1) (Nat.le_of_ble_eq_true rfl) rfl rfl 1 (Nat.le_of_ble_eq_true rfl) rfl kiX4_linkShapes_X4 kfX4_linkShapes_20 (isb_lt hb1) e_b1 dX4_linkShapes_1 ?_
  obtain ⟨r3, m4, hc2, hf⟩ := zb2_el hf
  refine z_cVi C (c_X0_linkReferences _ _ hb1 hc2) rfl gX4_linkShapes_X0_linkReferences rfl rfl zdX0_linkReferences rfl (isb_k0 hb1) (isb_L0 hb1) rfl rfl ⟨Nat.le_of_ble_eq_true rfl, Nat.le_of_ble_eq_true rfl⟩ (Nat.le_of_ble_eq_true rfl) dX4_linkShapes_4 rfl ?_
  refine z_istore_n C (lv2 := [(0, .ref ((zw K).2.1 9)), (1, .int r3)]) [1, 0] dX4_linkShapes_7 rfl (Nat.le_of_ble_eq_true rfl) rfl ?_
  refine z_iload_n C 1 dX4_linkShapes_8 rfl rfl ?_
  refine z_if_lt (tgt := 24) C dX4_linkShapes_9 (by decide) (fun c19 => ?_) (fun c19 => ?_)
  · replace hf := if_t c19 hf
    refine z_aload_n C 0 dX4_linkShapes_24 rfl rfl ?_
    obtain ⟨b5, hb5, e_b5, hf⟩ := zbk_el hf
    refine z_getb C (b := b5) (Nat.le_of_ble_eq_true rfl) rfl rfl 1 (Nat.le_of_ble_eq_true rfl) rfl kiX4_linkShapes_X4 kfX4_linkShapes_20 (isb_lt hb5) e_b5 dX4_linkShapes_25 ?_
    obtain ⟨m7, hc6, hf⟩ := zb_el hf
    refine z_cVv C (c_X0_findReach _ _ hb5 hc6) rfl gX4_linkShapes_X0_findReach rfl rfl zdX0_findReach rfl (isb_k0 hb5) (isb_L0 hb5) rfl rfl ⟨Nat.le_of_ble_eq_true rfl, Nat.le_of_ble_eq_true rfl⟩ (Nat.le_of_ble_eq_true rfl) dX4_linkShapes_28 rfl ?_
    refine z_aload_n C 0 dX4_linkShapes_31 rfl rfl ?_
    obtain ⟨b8, hb8, e_b8, hf⟩ := zbk_el hf
    refine z_getb C (b := b8) (Nat.le_of_ble_eq_true rfl) rfl rfl 1 (Nat.le_of_ble_eq_true rfl) rfl kiX4_linkShapes_X4 kfX4_linkShapes_20 (isb_lt hb8) e_b8 dX4_linkShapes_32 ?_
    obtain ⟨r10, hc9, hf⟩ := zb_el hf
    refine z_cVi C (c_X0_placeOfCircle _ _ hb8 hc9) rfl gX4_linkShapes_X0_placeOfCircle rfl rfl zdX0_placeOfCircle rfl (isb_k0 hb8) (isb_L0 hb8) rfl rfl ⟨Nat.le_of_ble_eq_true rfl, Nat.le_of_ble_eq_true rfl⟩ (Nat.le_of_ble_eq_true rfl) dX4_linkShapes_35 rfl ?_
    refine z_istore_n C (lv2 := [(0, .ref ((zw K).2.1 9)), (1, .int r3), (2, .int r10)]) [1, 2, 0] dX4_linkShapes_38 rfl (Nat.le_of_ble_eq_true rfl) rfl ?_
    refine z_iload_n C 2 dX4_linkShapes_39 rfl rfl ?_
    refine z_if_lt (tgt := 55) C dX4_linkShapes_40 (by decide) (fun c16 => ?_) (fun c16 => ?_)
    · replace hf := if_t c16 hf
      refine z_aload_n C 0 dX4_linkShapes_55 rfl rfl ?_
      obtain ⟨b11, hb11, e_b11, hf⟩ := zbk_el hf
      refine z_getb C (b := b11) (Nat.le_of_ble_eq_true rfl) rfl rfl 1 (Nat.le_of_ble_eq_true rfl) rfl kiX4_linkShapes_X4 kfX4_linkShapes_20 (isb_lt hb11) e_b11 dX4_linkShapes_56 ?_
      obtain ⟨m13, hc12, hf⟩ := zb_el hf
      refine z_cVv C (c_X0_findLevels _ _ hb11 hc12) rfl gX4_linkShapes_X0_findLevels rfl rfl zdX0_findLevels rfl (isb_k0 hb11) (isb_L0 hb11) rfl rfl ⟨Nat.le_of_ble_eq_true rfl, Nat.le_of_ble_eq_true rfl⟩ (Nat.le_of_ble_eq_true rfl) dX4_linkShapes_59 rfl ?_
      cases hf
      exact hret _ _ dX4_linkShapes_62
    · replace hf := if_f c16 hf
      refine z_aload_n C 0 dX4_linkShapes_43 rfl rfl ?_
      refine z_bipush C (v := 7) dX4_linkShapes_44 rfl ?_
      refine z_puti C (Nat.le_of_ble_eq_true rfl) rfl rfl 8 (Nat.le_of_ble_eq_true rfl) rfl kiX4_linkShapes_X4 kfX4_linkShapes_45 tyX4 tyX4_ok nmX4 rfl rfl dX4_linkShapes_46 ?_
      refine z_nm (fun m14 e_m14 => ?_)
      replace hf := bn_to e_m14 hf
      refine z_aload_n C 0 dX4_linkShapes_49 rfl rfl ?_
      refine z_iload_n C 2 dX4_linkShapes_50 rfl rfl ?_
      refine z_puti C (Nat.le_of_ble_eq_true rfl) rfl rfl 9 (Nat.le_of_ble_eq_true rfl) rfl kiX4_linkShapes_X4 kfX4_linkShapes_48 tyX4 tyX4_ok nmX4 rfl rfl dX4_linkShapes_51 ?_
      refine z_nm (fun m15 e_m15 => ?_)
      replace hf := bn_to e_m15 hf
      cases hf
      exact hret _ _ dX4_linkShapes_54
  · replace hf := if_f c19 hf
    refine z_aload_n C 0 dX4_linkShapes_12 rfl rfl ?_
    refine z_bipush C (v := 6) dX4_linkShapes_13 rfl ?_
    refine z_puti C (Nat.le_of_ble_eq_true rfl) rfl rfl 8 (Nat.le_of_ble_eq_true rfl) rfl kiX4_linkShapes_X4 kfX4_linkShapes_45 tyX4 tyX4_ok nmX4 rfl rfl dX4_linkShapes_15 ?_
    refine z_nm (fun m17 e_m17 => ?_)
    replace hf := bn_to e_m17 hf
    refine z_aload_n C 0 dX4_linkShapes_18 rfl rfl ?_
    refine z_iload_n C 1 dX4_linkShapes_19 rfl rfl ?_
    refine z_puti C (Nat.le_of_ble_eq_true rfl) rfl rfl 9 (Nat.le_of_ble_eq_true rfl) rfl kiX4_linkShapes_X4 kfX4_linkShapes_48 tyX4 tyX4_ok nmX4 rfl rfl dX4_linkShapes_20 ?_
    refine z_nm (fun m18 e_m18 => ?_)
    replace hf := bn_to e_m18 hf
    cases hf
    exact hret _ _ dX4_linkShapes_23
def rmX4_takeShapeWord : Room := { frames := 1, cells := 0, slots := 0, locals := 22 }
theorem zdX4_takeShapeWord : yX4_takeShapeWord.cls = RX4 ∧ yX4_takeShapeWord.cls ≠ "java/lang/invoke/MethodHandle" ∧ yX4_takeShapeWord.cls ≠ "java/lang/invoke/VarHandle" ∧ (parseMethodDescriptor yX4_takeShapeWord.desc).map (fun d => d.parameters.length) = some 0 := by decide +kernel
theorem kiX4_takeShapeWord_X4 : ∀ w ∈ wsX40, w ∈ wsX4_takeShapeWord := by decide +kernel
theorem kfX4_takeShapeWord_14 : Cond.fieldLink RX4 14 "ShapeJudge$TextReader" "tokens" "LShapeJudge$Tokens;" ∈ wsX4_takeShapeWord := by decide +kernel
theorem kiX4_takeShapeWord_X5 : ∀ w ∈ wsX50, w ∈ wsX4_takeShapeWord := by decide +kernel
theorem kfX4_takeShapeWord_54 : Cond.fieldLink RX4 54 "ShapeJudge$Tokens" "kind" "I" ∈ wsX4_takeShapeWord := by decide +kernel
theorem kfX4_takeShapeWord_20 : Cond.fieldLink RX4 20 "ShapeJudge$TextReader" "book" "LShapeJudge$Book;" ∈ wsX4_takeShapeWord := by decide +kernel
theorem kiX4_takeShapeWord_X0 : ∀ w ∈ wsX00, w ∈ wsX4_takeShapeWord := by decide +kernel
theorem kfX4_takeShapeWord_104 : Cond.fieldLink RX4 104 "ShapeJudge$Book" "shapeCount" "I" ∈ wsX4_takeShapeWord := by decide +kernel
theorem kfX4_takeShapeWord_107 : Cond.fieldLink RX4 107 "ShapeJudge$Tokens" "number" "I" ∈ wsX4_takeShapeWord := by decide +kernel
theorem kfX4_takeShapeWord_32 : Cond.fieldLink RX4 32 "ShapeJudge$TextReader" "state" "I" ∈ wsX4_takeShapeWord := by decide +kernel
def s_X4_takeShapeWord (m : Mem)  : Option (Mem) :=
  (if (m 10 2) = 0 then (zbk (m 9 1) fun b18 => (if (m b18 0) ≤ 0 then ((if (m 10 2) = 2 then (zbk (m 9 1) fun b19 => (if (m b19 0) < 6 then (zbk (m 9 1) fun b20 => (s_X0_shapeOf m b20 (m 10 4)).bind fun r22 => (if r22 < 0 then (zbk (m 9 1) fun b23 => (s_X0_openShape m b23 (m 10 4)).bind fun m25 => bn (sto m25 9 2 1) fun m26 => some m26) else ((s_X4_fail m 5).bind fun m28 => some m28))) else ((s_X4_fail m 4).bind fun m31 => some m31))) else ((s_X4_fail m 2).bind fun m34 => some m34))) else (bn (sto m 9 2 14) fun m36 => some m36))) else ((if (m 10 2) = 2 then (zbk (m 9 1) fun b1 => (if (m b1 0) < 6 then (zbk (m 9 1) fun b2 => (s_X0_shapeOf m b2 (m 10 4)).bind fun r4 => (if r4 < 0 then (zbk (m 9 1) fun b5 => (s_X0_openShape m b5 (m 10 4)).bind fun m7 => bn (sto m7 9 2 1) fun m8 => some m8) else ((s_X4_fail m 5).bind fun m10 => some m10))) else ((s_X4_fail m 4).bind fun m13 => some m13))) else ((s_X4_fail m 2).bind fun m16 => some m16))))
set_option maxRecDepth 100000 in
set_option maxHeartbeats 4000000 in
theorem c_X4_takeShapeWord (l : Launch) (w : ZW) {m : Mem}  {m9 : Mem}  (hf : s_X4_takeShapeWord m  = some m9) : zCv MX l w yX4_takeShapeWord wsX4_takeShapeWord rmX4_takeShapeWord [.ref (w.2.1 9)] m m9 := by
  refine z_met_v MX_ok (own := RX4) (by decide +kernel) rfl rfl (Nat.le_of_ble_eq_true rfl) ?_
  intro K C hKw hKl hret
  subst hKw
  subst hKl
  unfold s_X4_takeShapeWord at hf
  show zGo MX K m [(0, .ref ((zw K).2.1 9))] 0 []
  refine z_aload_n C 0 dX4_takeShapeWord_0 rfl rfl ?_
  refine z_getr C (t := 10) (Nat.le_of_ble_eq_true rfl) rfl rfl 0 (Nat.le_of_ble_eq_true rfl) rfl kiX4_takeShapeWord_X4 kfX4_takeShapeWord_14 dX4_takeShapeWord_1 ?_
  refine z_geti C (Nat.le_of_ble_eq_true rfl) rfl rfl 2 (Nat.le_of_ble_eq_true rfl) rfl kiX4_takeShapeWord_X5 kfX4_takeShapeWord_54 dX4_takeShapeWord_4 ?_
  refine z_if_ne (tgt := 29) C dX4_takeShapeWord_7 (by decide) (fun c38 => ?_) (fun c38 => ?_)
  · replace hf := if_f c38 hf
    refine z_aload_n C 0 dX4_takeShapeWord_29 rfl rfl ?_
    refine z_getr C (t := 10) (Nat.le_of_ble_eq_true rfl) rfl rfl 0 (Nat.le_of_ble_eq_true rfl) rfl kiX4_takeShapeWord_X4 kfX4_takeShapeWord_14 dX4_takeShapeWord_30 ?_
    refine z_geti C (Nat.le_of_ble_eq_true rfl) rfl rfl 2 (Nat.le_of_ble_eq_true rfl) rfl kiX4_takeShapeWord_X5 kfX4_takeShapeWord_54 dX4_takeShapeWord_33 ?_
    refine z_iconst C (v := 2) dX4_takeShapeWord_36 rfl ?_
    refine z_icmp_eq (tgt := 48) C dX4_takeShapeWord_37 (by decide) (fun c17 => ?_) (fun c17 => ?_)
    · replace hf := if_t c17 hf
      refine z_aload_n C 0 dX4_takeShapeWord_48 rfl rfl ?_
      obtain ⟨b1, hb1, e_b1, hf⟩ := zbk_el hf
      refine z_getb C (b := b1) (Nat.le_of_ble_eq_true rfl) rfl rfl 1 (Nat.le_of_ble_eq_true rfl) rfl kiX4_takeShapeWord_X4 kfX4_takeShapeWord_20 (isb_lt hb1) e_b1 dX4_takeShapeWord_49 ?_
      refine z_geti C (isb_k0 hb1) (isb_L0 hb1) rfl 0 (Nat.le_of_ble_eq_true rfl) rfl kiX4_takeShapeWord_X0 kfX4_takeShapeWord_104 dX4_takeShapeWord_52 ?_
      refine z_bipush C (v := 6) dX4_takeShapeWord_55 rfl ?_
      refine z_icmp_lt (tgt := 68) C dX4_takeShapeWord_57 (by decide) (fun c14 => ?_) (fun c14 => ?_)
      · replace hf := if_t c14 hf
        refine z_aload_n C 0 dX4_takeShapeWord_68 rfl rfl ?_
        obtain ⟨b2, hb2, e_b2, hf⟩ := zbk_el hf
        refine z_getb C (b := b2) (Nat.le_of_ble_eq_true rfl) rfl rfl 1 (Nat.le_of_ble_eq_true rfl) rfl kiX4_takeShapeWord_X4 kfX4_takeShapeWord_20 (isb_lt hb2) e_b2 dX4_takeShapeWord_69 ?_
        refine z_aload_n C 0 dX4_takeShapeWord_72 rfl rfl ?_
        refine z_getr C (t := 10) (Nat.le_of_ble_eq_true rfl) rfl rfl 0 (Nat.le_of_ble_eq_true rfl) rfl kiX4_takeShapeWord_X4 kfX4_takeShapeWord_14 dX4_takeShapeWord_73 ?_
        refine z_geti C (Nat.le_of_ble_eq_true rfl) rfl rfl 4 (Nat.le_of_ble_eq_true rfl) rfl kiX4_takeShapeWord_X5 kfX4_takeShapeWord_107 dX4_takeShapeWord_76 ?_
        obtain ⟨r4, hc3, hf⟩ := zb_el hf
        refine z_cVi C (c_X0_shapeOf _ _ hb2 hc3) rfl gX4_takeShapeWord_X0_shapeOf rfl rfl zdX0_shapeOf rfl (isb_k0 hb2) (isb_L0 hb2) rfl rfl ⟨Nat.le_of_ble_eq_true rfl, Nat.le_of_ble_eq_true rfl⟩ (Nat.le_of_ble_eq_true rfl) dX4_takeShapeWord_79 rfl ?_
        refine z_if_lt (tgt := 93) C dX4_takeShapeWord_82 (by decide) (fun c11 => ?_) (fun c11 => ?_)
        · replace hf := if_t c11 hf
          refine z_aload_n C 0 dX4_takeShapeWord_93 rfl rfl ?_
          obtain ⟨b5, hb5, e_b5, hf⟩ := zbk_el hf
          refine z_getb C (b := b5) (Nat.le_of_ble_eq_true rfl) rfl rfl 1 (Nat.le_of_ble_eq_true rfl) rfl kiX4_takeShapeWord_X4 kfX4_takeShapeWord_20 (isb_lt hb5) e_b5 dX4_takeShapeWord_94 ?_
          refine z_aload_n C 0 dX4_takeShapeWord_97 rfl rfl ?_
          refine z_getr C (t := 10) (Nat.le_of_ble_eq_true rfl) rfl rfl 0 (Nat.le_of_ble_eq_true rfl) rfl kiX4_takeShapeWord_X4 kfX4_takeShapeWord_14 dX4_takeShapeWord_98 ?_
          refine z_geti C (Nat.le_of_ble_eq_true rfl) rfl rfl 4 (Nat.le_of_ble_eq_true rfl) rfl kiX4_takeShapeWord_X5 kfX4_takeShapeWord_107 dX4_takeShapeWord_101 ?_
          obtain ⟨m7, hc6, hf⟩ := zb_el hf
          refine z_cVv C (c_X0_openShape _ _ hb5 hc6) rfl gX4_takeShapeWord_X0_openShape rfl rfl zdX0_openShape rfl (isb_k0 hb5) (isb_L0 hb5) rfl rfl ⟨Nat.le_of_ble_eq_true rfl, Nat.le_of_ble_eq_true rfl⟩ (Nat.le_of_ble_eq_true rfl) dX4_takeShapeWord_104 rfl ?_
          refine z_aload_n C 0 dX4_takeShapeWord_107 rfl rfl ?_
          refine z_iconst C (v := 1) dX4_takeShapeWord_108 rfl ?_
          refine z_puti C (Nat.le_of_ble_eq_true rfl) rfl rfl 2 (Nat.le_of_ble_eq_true rfl) rfl kiX4_takeShapeWord_X4 kfX4_takeShapeWord_32 tyX4 tyX4_ok nmX4 rfl rfl dX4_takeShapeWord_109 ?_
          refine z_nm (fun m8 e_m8 => ?_)
          replace hf := bn_to e_m8 hf
          cases hf
          exact hret _ _ dX4_takeShapeWord_112
        · replace hf := if_f c11 hf
          refine z_aload_n C 0 dX4_takeShapeWord_85 rfl rfl ?_
          refine z_iconst C (v := 5) dX4_takeShapeWord_86 rfl ?_
          obtain ⟨m10, hc9, hf⟩ := zb_el hf
          refine z_cVv C (c_X4_fail _ _ hc9) rfl gX4_takeShapeWord_X4_fail rfl rfl zdX4_fail rfl (Nat.le_of_ble_eq_true rfl) rfl rfl rfl ⟨Nat.le_of_ble_eq_true rfl, Nat.le_of_ble_eq_true rfl⟩ (Nat.le_of_ble_eq_true rfl) dX4_takeShapeWord_87 rfl ?_
          refine z_goto (tgt := 112) C dX4_takeShapeWord_90 (by decide) ?_
          cases hf
          exact hret _ _ dX4_takeShapeWord_112
      · replace hf := if_f c14 hf
        refine z_aload_n C 0 dX4_takeShapeWord_60 rfl rfl ?_
        refine z_iconst C (v := 4) dX4_takeShapeWord_61 rfl ?_
        obtain ⟨m13, hc12, hf⟩ := zb_el hf
        refine z_cVv C (c_X4_fail _ _ hc12) rfl gX4_takeShapeWord_X4_fail rfl rfl zdX4_fail rfl (Nat.le_of_ble_eq_true rfl) rfl rfl rfl ⟨Nat.le_of_ble_eq_true rfl, Nat.le_of_ble_eq_true rfl⟩ (Nat.le_of_ble_eq_true rfl) dX4_takeShapeWord_62 rfl ?_
        refine z_goto (tgt := 112) C dX4_takeShapeWord_65 (by decide) ?_
        cases hf
        exact hret _ _ dX4_takeShapeWord_112
    · replace hf := if_f c17 hf
      refine z_aload_n C 0 dX4_takeShapeWord_40 rfl rfl ?_
      refine z_iconst C (v := 2) dX4_takeShapeWord_41 rfl ?_
      obtain ⟨m16, hc15, hf⟩ := zb_el hf
      refine z_cVv C (c_X4_fail _ _ hc15) rfl gX4_takeShapeWord_X4_fail rfl rfl zdX4_fail rfl (Nat.le_of_ble_eq_true rfl) rfl rfl rfl ⟨Nat.le_of_ble_eq_true rfl, Nat.le_of_ble_eq_true rfl⟩ (Nat.le_of_ble_eq_true rfl) dX4_takeShapeWord_42 rfl ?_
      refine z_goto (tgt := 112) C dX4_takeShapeWord_45 (by decide) ?_
      cases hf
      exact hret _ _ dX4_takeShapeWord_112
  · replace hf := if_t c38 hf
    refine z_aload_n C 0 dX4_takeShapeWord_10 rfl rfl ?_
    obtain ⟨b18, hb18, e_b18, hf⟩ := zbk_el hf
    refine z_getb C (b := b18) (Nat.le_of_ble_eq_true rfl) rfl rfl 1 (Nat.le_of_ble_eq_true rfl) rfl kiX4_takeShapeWord_X4 kfX4_takeShapeWord_20 (isb_lt hb18) e_b18 dX4_takeShapeWord_11 ?_
    refine z_geti C (isb_k0 hb18) (isb_L0 hb18) rfl 0 (Nat.le_of_ble_eq_true rfl) rfl kiX4_takeShapeWord_X0 kfX4_takeShapeWord_104 dX4_takeShapeWord_14 ?_
    refine z_if_le (tgt := 29) C dX4_takeShapeWord_17 (by decide) (fun c37 => ?_) (fun c37 => ?_)
    · replace hf := if_t c37 hf
      refine z_aload_n C 0 dX4_takeShapeWord_29 rfl rfl ?_
      refine z_getr C (t := 10) (Nat.le_of_ble_eq_true rfl) rfl rfl 0 (Nat.le_of_ble_eq_true rfl) rfl kiX4_takeShapeWord_X4 kfX4_takeShapeWord_14 dX4_takeShapeWord_30 ?_
      refine z_geti C (Nat.le_of_ble_eq_true rfl) rfl rfl 2 (Nat.le_of_ble_eq_true rfl) rfl kiX4_takeShapeWord_X5 kfX4_takeShapeWord_54 dX4_takeShapeWord_33 ?_
      refine z_iconst C (v := 2) dX4_takeShapeWord_36 rfl ?_
      refine z_icmp_eq (tgt := 48) C dX4_takeShapeWord_37 (by decide) (fun c35 => ?_) (fun c35 => ?_)
      · replace hf := if_t c35 hf
        refine z_aload_n C 0 dX4_takeShapeWord_48 rfl rfl ?_
        obtain ⟨b19, hb19, e_b19, hf⟩ := zbk_el hf
        refine z_getb C (b := b19) (Nat.le_of_ble_eq_true rfl) rfl rfl 1 (Nat.le_of_ble_eq_true rfl) rfl kiX4_takeShapeWord_X4 kfX4_takeShapeWord_20 (isb_lt hb19) e_b19 dX4_takeShapeWord_49 ?_
        refine z_geti C (isb_k0 hb19) (isb_L0 hb19) rfl 0 (Nat.le_of_ble_eq_true rfl) rfl kiX4_takeShapeWord_X0 kfX4_takeShapeWord_104 dX4_takeShapeWord_52 ?_
        refine z_bipush C (v := 6) dX4_takeShapeWord_55 rfl ?_
        refine z_icmp_lt (tgt := 68) C dX4_takeShapeWord_57 (by decide) (fun c32 => ?_) (fun c32 => ?_)
        · replace hf := if_t c32 hf
          refine z_aload_n C 0 dX4_takeShapeWord_68 rfl rfl ?_
          obtain ⟨b20, hb20, e_b20, hf⟩ := zbk_el hf
          refine z_getb C (b := b20) (Nat.le_of_ble_eq_true rfl) rfl rfl 1 (Nat.le_of_ble_eq_true rfl) rfl kiX4_takeShapeWord_X4 kfX4_takeShapeWord_20 (isb_lt hb20) e_b20 dX4_takeShapeWord_69 ?_
          refine z_aload_n C 0 dX4_takeShapeWord_72 rfl rfl ?_
          refine z_getr C (t := 10) (Nat.le_of_ble_eq_true rfl) rfl rfl 0 (Nat.le_of_ble_eq_true rfl) rfl kiX4_takeShapeWord_X4 kfX4_takeShapeWord_14 dX4_takeShapeWord_73 ?_
          refine z_geti C (Nat.le_of_ble_eq_true rfl) rfl rfl 4 (Nat.le_of_ble_eq_true rfl) rfl kiX4_takeShapeWord_X5 kfX4_takeShapeWord_107 dX4_takeShapeWord_76 ?_
          obtain ⟨r22, hc21, hf⟩ := zb_el hf
          refine z_cVi C (c_X0_shapeOf _ _ hb20 hc21) rfl gX4_takeShapeWord_X0_shapeOf rfl rfl zdX0_shapeOf rfl (isb_k0 hb20) (isb_L0 hb20) rfl rfl ⟨Nat.le_of_ble_eq_true rfl, Nat.le_of_ble_eq_true rfl⟩ (Nat.le_of_ble_eq_true rfl) dX4_takeShapeWord_79 rfl ?_
          refine z_if_lt (tgt := 93) C dX4_takeShapeWord_82 (by decide) (fun c29 => ?_) (fun c29 => ?_)
          · replace hf := if_t c29 hf
            refine z_aload_n C 0 dX4_takeShapeWord_93 rfl rfl ?_
            obtain ⟨b23, hb23, e_b23, hf⟩ := zbk_el hf
            refine z_getb C (b := b23) (Nat.le_of_ble_eq_true rfl) rfl rfl 1 (Nat.le_of_ble_eq_true rfl) rfl kiX4_takeShapeWord_X4 kfX4_takeShapeWord_20 (isb_lt hb23) e_b23 dX4_takeShapeWord_94 ?_
            refine z_aload_n C 0 dX4_takeShapeWord_97 rfl rfl ?_
            refine z_getr C (t := 10) (Nat.le_of_ble_eq_true rfl) rfl rfl 0 (Nat.le_of_ble_eq_true rfl) rfl kiX4_takeShapeWord_X4 kfX4_takeShapeWord_14 dX4_takeShapeWord_98 ?_
            refine z_geti C (Nat.le_of_ble_eq_true rfl) rfl rfl 4 (Nat.le_of_ble_eq_true rfl) rfl kiX4_takeShapeWord_X5 kfX4_takeShapeWord_107 dX4_takeShapeWord_101 ?_
            obtain ⟨m25, hc24, hf⟩ := zb_el hf
            refine z_cVv C (c_X0_openShape _ _ hb23 hc24) rfl gX4_takeShapeWord_X0_openShape rfl rfl zdX0_openShape rfl (isb_k0 hb23) (isb_L0 hb23) rfl rfl ⟨Nat.le_of_ble_eq_true rfl, Nat.le_of_ble_eq_true rfl⟩ (Nat.le_of_ble_eq_true rfl) dX4_takeShapeWord_104 rfl ?_
            refine z_aload_n C 0 dX4_takeShapeWord_107 rfl rfl ?_
            refine z_iconst C (v := 1) dX4_takeShapeWord_108 rfl ?_
            refine z_puti C (Nat.le_of_ble_eq_true rfl) rfl rfl 2 (Nat.le_of_ble_eq_true rfl) rfl kiX4_takeShapeWord_X4 kfX4_takeShapeWord_32 tyX4 tyX4_ok nmX4 rfl rfl dX4_takeShapeWord_109 ?_
            refine z_nm (fun m26 e_m26 => ?_)
            replace hf := bn_to e_m26 hf
            cases hf
            exact hret _ _ dX4_takeShapeWord_112
          · replace hf := if_f c29 hf
            refine z_aload_n C 0 dX4_takeShapeWord_85 rfl rfl ?_
            refine z_iconst C (v := 5) dX4_takeShapeWord_86 rfl ?_
            obtain ⟨m28, hc27, hf⟩ := zb_el hf
            refine z_cVv C (c_X4_fail _ _ hc27) rfl gX4_takeShapeWord_X4_fail rfl rfl zdX4_fail rfl (Nat.le_of_ble_eq_true rfl) rfl rfl rfl ⟨Nat.le_of_ble_eq_true rfl, Nat.le_of_ble_eq_true rfl⟩ (Nat.le_of_ble_eq_true rfl) dX4_takeShapeWord_87 rfl ?_
            refine z_goto (tgt := 112) C dX4_takeShapeWord_90 (by decide) ?_
            cases hf
            exact hret _ _ dX4_takeShapeWord_112
        · replace hf := if_f c32 hf
          refine z_aload_n C 0 dX4_takeShapeWord_60 rfl rfl ?_
          refine z_iconst C (v := 4) dX4_takeShapeWord_61 rfl ?_
          obtain ⟨m31, hc30, hf⟩ := zb_el hf
          refine z_cVv C (c_X4_fail _ _ hc30) rfl gX4_takeShapeWord_X4_fail rfl rfl zdX4_fail rfl (Nat.le_of_ble_eq_true rfl) rfl rfl rfl ⟨Nat.le_of_ble_eq_true rfl, Nat.le_of_ble_eq_true rfl⟩ (Nat.le_of_ble_eq_true rfl) dX4_takeShapeWord_62 rfl ?_
          refine z_goto (tgt := 112) C dX4_takeShapeWord_65 (by decide) ?_
          cases hf
          exact hret _ _ dX4_takeShapeWord_112
      · replace hf := if_f c35 hf
        refine z_aload_n C 0 dX4_takeShapeWord_40 rfl rfl ?_
        refine z_iconst C (v := 2) dX4_takeShapeWord_41 rfl ?_
        obtain ⟨m34, hc33, hf⟩ := zb_el hf
        refine z_cVv C (c_X4_fail _ _ hc33) rfl gX4_takeShapeWord_X4_fail rfl rfl zdX4_fail rfl (Nat.le_of_ble_eq_true rfl) rfl rfl rfl ⟨Nat.le_of_ble_eq_true rfl, Nat.le_of_ble_eq_true rfl⟩ (Nat.le_of_ble_eq_true rfl) dX4_takeShapeWord_42 rfl ?_
        refine z_goto (tgt := 112) C dX4_takeShapeWord_45 (by decide) ?_
        cases hf
        exact hret _ _ dX4_takeShapeWord_112
    · replace hf := if_f c37 hf
      refine z_aload_n C 0 dX4_takeShapeWord_20 rfl rfl ?_
      refine z_bipush C (v := 14) dX4_takeShapeWord_21 rfl ?_
      refine z_puti C (Nat.le_of_ble_eq_true rfl) rfl rfl 2 (Nat.le_of_ble_eq_true rfl) rfl kiX4_takeShapeWord_X4 kfX4_takeShapeWord_32 tyX4 tyX4_ok nmX4 rfl rfl dX4_takeShapeWord_23 ?_
      refine z_nm (fun m36 e_m36 => ?_)
      replace hf := bn_to e_m36 hf
      refine z_goto (tgt := 112) C dX4_takeShapeWord_26 (by decide) ?_
      cases hf
      exact hret _ _ dX4_takeShapeWord_112
def rmX4_takeSign : Room := { frames := 1, cells := 0, slots := 0, locals := 21 }
theorem zdX4_takeSign : yX4_takeSign.cls = RX4 ∧ yX4_takeSign.cls ≠ "java/lang/invoke/MethodHandle" ∧ yX4_takeSign.cls ≠ "java/lang/invoke/VarHandle" ∧ (parseMethodDescriptor yX4_takeSign.desc).map (fun d => d.parameters.length) = some 2 := by decide +kernel
theorem kiX4_takeSign_X4 : ∀ w ∈ wsX40, w ∈ wsX4_takeSign := by decide +kernel
theorem kfX4_takeSign_14 : Cond.fieldLink RX4 14 "ShapeJudge$TextReader" "tokens" "LShapeJudge$Tokens;" ∈ wsX4_takeSign := by decide +kernel
theorem kiX4_takeSign_X5 : ∀ w ∈ wsX50, w ∈ wsX4_takeSign := by decide +kernel
theorem kfX4_takeSign_54 : Cond.fieldLink RX4 54 "ShapeJudge$Tokens" "kind" "I" ∈ wsX4_takeSign := by decide +kernel
theorem kfX4_takeSign_32 : Cond.fieldLink RX4 32 "ShapeJudge$TextReader" "state" "I" ∈ wsX4_takeSign := by decide +kernel
def s_X4_takeSign (m : Mem) (a1 : Int32) (a2 : Int32) : Option (Mem) :=
  (if (m 10 2) = a1 then (bn (sto m 9 2 a2) fun m3 => some m3) else ((s_X4_fail m 2).bind fun m2 => some m2))
set_option maxRecDepth 100000 in
set_option maxHeartbeats 4000000 in
theorem c_X4_takeSign (l : Launch) (w : ZW) {m : Mem} {a1 : Int32} {a2 : Int32} {m9 : Mem}  (hf : s_X4_takeSign m a1 a2 = some m9) : zCv MX l w yX4_takeSign wsX4_takeSign rmX4_takeSign [.ref (w.2.1 9), .int a1, .int a2] m m9 := by
  refine z_met_v MX_ok (own := RX4) (by decide +kernel) rfl rfl (Nat.le_of_ble_eq_true rfl) ?_
  intro K C hKw hKl hret
  subst hKw
  subst hKl
  unfold s_X4_takeSign at hf
  show zGo MX K m [(0, .ref ((zw K).2.1 9)), (1, .int a1), (2, .int a2)] 0 []
  refine z_aload_n C 0 dX4_takeSign_0 rfl rfl ?_
  refine z_getr C (t := 10) (Nat.le_of_ble_eq_true rfl) rfl rfl 0 (Nat.le_of_ble_eq_true rfl) rfl kiX4_takeSign_X4 kfX4_takeSign_14 dX4_takeSign_1 ?_
  refine z_geti C (Nat.le_of_ble_eq_true rfl) rfl rfl 2 (Nat.le_of_ble_eq_true rfl) rfl kiX4_takeSign_X5 kfX4_takeSign_54 dX4_takeSign_4 ?_
  refine z_iload_n C 1 dX4_takeSign_7 rfl rfl ?_
  refine z_icmp_ne (tgt := 19) C dX4_takeSign_8 (by decide) (fun c4 => ?_) (fun c4 => ?_)
  · replace hf := if_f c4 hf
    refine z_aload_n C 0 dX4_takeSign_19 rfl rfl ?_
    refine z_iconst C (v := 2) dX4_takeSign_20 rfl ?_
    obtain ⟨m2, hc1, hf⟩ := zb_el hf
    refine z_cVv C (c_X4_fail _ _ hc1) rfl gX4_takeSign_X4_fail rfl rfl zdX4_fail rfl (Nat.le_of_ble_eq_true rfl) rfl rfl rfl ⟨Nat.le_of_ble_eq_true rfl, Nat.le_of_ble_eq_true rfl⟩ (Nat.le_of_ble_eq_true rfl) dX4_takeSign_21 rfl ?_
    cases hf
    exact hret _ _ dX4_takeSign_24
  · replace hf := if_t c4 hf
    refine z_aload_n C 0 dX4_takeSign_11 rfl rfl ?_
    refine z_iload_n C 2 dX4_takeSign_12 rfl rfl ?_
    refine z_puti C (Nat.le_of_ble_eq_true rfl) rfl rfl 2 (Nat.le_of_ble_eq_true rfl) rfl kiX4_takeSign_X4 kfX4_takeSign_32 tyX4 tyX4_ok nmX4 rfl rfl dX4_takeSign_13 ?_
    refine z_nm (fun m3 e_m3 => ?_)
    replace hf := bn_to e_m3 hf
    refine z_goto (tgt := 24) C dX4_takeSign_16 (by decide) ?_
    cases hf
    exact hret _ _ dX4_takeSign_24
def rmX4_takeOpening : Room := { frames := 1, cells := 0, slots := 0, locals := 21 }
theorem zdX4_takeOpening : yX4_takeOpening.cls = RX4 ∧ yX4_takeOpening.cls ≠ "java/lang/invoke/MethodHandle" ∧ yX4_takeOpening.cls ≠ "java/lang/invoke/VarHandle" ∧ (parseMethodDescriptor yX4_takeOpening.desc).map (fun d => d.parameters.length) = some 0 := by decide +kernel
theorem kiX4_takeOpening_X4 : ∀ w ∈ wsX40, w ∈ wsX4_takeOpening := by decide +kernel
theorem kfX4_takeOpening_36 : Cond.fieldLink RX4 36 "ShapeJudge$TextReader" "depth" "I" ∈ wsX4_takeOpening := by decide +kernel
theorem kfX4_takeOpening_32 : Cond.fieldLink RX4 32 "ShapeJudge$TextReader" "state" "I" ∈ wsX4_takeOpening := by decide +kernel
def s_X4_takeOpening (m : Mem)  : Option (Mem) :=
  (if (m 9 3) < 6 then (bn (sto m 9 3 ((m 9 3) + 1)) fun m1 => bn (sto m1 9 2 3) fun m2 => some m2) else ((s_X4_fail m 4).bind fun m4 => some m4))
set_option maxRecDepth 100000 in
set_option maxHeartbeats 4000000 in
theorem c_X4_takeOpening (l : Launch) (w : ZW) {m : Mem}  {m9 : Mem}  (hf : s_X4_takeOpening m  = some m9) : zCv MX l w yX4_takeOpening wsX4_takeOpening rmX4_takeOpening [.ref (w.2.1 9)] m m9 := by
  refine z_met_v MX_ok (own := RX4) (by decide +kernel) rfl rfl (Nat.le_of_ble_eq_true rfl) ?_
  intro K C hKw hKl hret
  subst hKw
  subst hKl
  unfold s_X4_takeOpening at hf
  show zGo MX K m [(0, .ref ((zw K).2.1 9))] 0 []
  refine z_aload_n C 0 dX4_takeOpening_0 rfl rfl ?_
  refine z_geti C (Nat.le_of_ble_eq_true rfl) rfl rfl 3 (Nat.le_of_ble_eq_true rfl) rfl kiX4_takeOpening_X4 kfX4_takeOpening_36 dX4_takeOpening_1 ?_
  refine z_bipush C (v := 6) dX4_takeOpening_4 rfl ?_
  refine z_icmp_lt (tgt := 17) C dX4_takeOpening_6 (by decide) (fun c5 => ?_) (fun c5 => ?_)
  · replace hf := if_t c5 hf
    refine z_aload_n C 0 dX4_takeOpening_17 rfl rfl ?_
    refine z_dup_a C dX4_takeOpening_18 ?_
    refine z_geti C (Nat.le_of_ble_eq_true rfl) rfl rfl 3 (Nat.le_of_ble_eq_true rfl) rfl kiX4_takeOpening_X4 kfX4_takeOpening_36 dX4_takeOpening_19 ?_
    refine z_iconst C (v := 1) dX4_takeOpening_22 rfl ?_
    refine z_iadd C dX4_takeOpening_23 ?_
    refine z_puti C (Nat.le_of_ble_eq_true rfl) rfl rfl 3 (Nat.le_of_ble_eq_true rfl) rfl kiX4_takeOpening_X4 kfX4_takeOpening_36 tyX4 tyX4_ok nmX4 rfl rfl dX4_takeOpening_24 ?_
    refine z_nm (fun m1 e_m1 => ?_)
    replace hf := bn_to e_m1 hf
    refine z_aload_n C 0 dX4_takeOpening_27 rfl rfl ?_
    refine z_iconst C (v := 3) dX4_takeOpening_28 rfl ?_
    refine z_puti C (Nat.le_of_ble_eq_true rfl) rfl rfl 2 (Nat.le_of_ble_eq_true rfl) rfl kiX4_takeOpening_X4 kfX4_takeOpening_32 tyX4 tyX4_ok nmX4 rfl rfl dX4_takeOpening_29 ?_
    refine z_nm (fun m2 e_m2 => ?_)
    replace hf := bn_to e_m2 hf
    cases hf
    exact hret _ _ dX4_takeOpening_32
  · replace hf := if_f c5 hf
    refine z_aload_n C 0 dX4_takeOpening_9 rfl rfl ?_
    refine z_iconst C (v := 4) dX4_takeOpening_10 rfl ?_
    obtain ⟨m4, hc3, hf⟩ := zb_el hf
    refine z_cVv C (c_X4_fail _ _ hc3) rfl gX4_takeOpening_X4_fail rfl rfl zdX4_fail rfl (Nat.le_of_ble_eq_true rfl) rfl rfl rfl ⟨Nat.le_of_ble_eq_true rfl, Nat.le_of_ble_eq_true rfl⟩ (Nat.le_of_ble_eq_true rfl) dX4_takeOpening_11 rfl ?_
    refine z_goto (tgt := 32) C dX4_takeOpening_14 (by decide) ?_
    cases hf
    exact hret _ _ dX4_takeOpening_32
def rmX4_takeOne : Room := { frames := 3, cells := 0, slots := 0, locals := 66 }
theorem zdX4_takeOne : yX4_takeOne.cls = RX4 ∧ yX4_takeOne.cls ≠ "java/lang/invoke/MethodHandle" ∧ yX4_takeOne.cls ≠ "java/lang/invoke/VarHandle" ∧ (parseMethodDescriptor yX4_takeOne.desc).map (fun d => d.parameters.length) = some 0 := by decide +kernel
theorem kiX4_takeOne_X4 : ∀ w ∈ wsX40, w ∈ wsX4_takeOne := by decide +kernel
theorem kfX4_takeOne_14 : Cond.fieldLink RX4 14 "ShapeJudge$TextReader" "tokens" "LShapeJudge$Tokens;" ∈ wsX4_takeOne := by decide +kernel
theorem kiX4_takeOne_X5 : ∀ w ∈ wsX50, w ∈ wsX4_takeOne := by decide +kernel
theorem kfX4_takeOne_54 : Cond.fieldLink RX4 54 "ShapeJudge$Tokens" "kind" "I" ∈ wsX4_takeOne := by decide +kernel
theorem kfX4_takeOne_107 : Cond.fieldLink RX4 107 "ShapeJudge$Tokens" "number" "I" ∈ wsX4_takeOne := by decide +kernel
theorem kfX4_takeOne_20 : Cond.fieldLink RX4 20 "ShapeJudge$TextReader" "book" "LShapeJudge$Book;" ∈ wsX4_takeOne := by decide +kernel
theorem kfX4_takeOne_32 : Cond.fieldLink RX4 32 "ShapeJudge$TextReader" "state" "I" ∈ wsX4_takeOne := by decide +kernel
def s_X4_takeOne (m : Mem)  : Option (Mem) :=
  (if (m 10 2) = 40 then ((s_X4_takeOpening m).bind fun m21 => some m21) else ((if (m 10 2) = 3 then ((if (m 10 4) < 0 then ((s_X4_fail m 3).bind fun m2 => some m2) else ((if (m 10 4) < 10 then (zbk (m 9 1) fun b3 => (s_X0_hasRoomForPart m b3).bind fun r5 => (if r5 = 0 then ((s_X4_fail m 4).bind fun m11 => some m11) else (zbk (m 9 1) fun b6 => (s_X0_addPart m b6 (m 10 4)).bind fun m8 => bn (sto m8 9 2 4) fun m9 => some m9))) else ((s_X4_fail m 3).bind fun m14 => some m14))))) else ((s_X4_fail m 2).bind fun m18 => some m18))))
set_option maxRecDepth 100000 in
set_option maxHeartbeats 4000000 in
theorem c_X4_takeOne (l : Launch) (w : ZW) {m : Mem}  {m9 : Mem}  (hf : s_X4_takeOne m  = some m9) : zCv MX l w yX4_takeOne wsX4_takeOne rmX4_takeOne [.ref (w.2.1 9)] m m9 := by
  refine z_met_v MX_ok (own := RX4) (by decide +kernel) rfl rfl (Nat.le_of_ble_eq_true rfl) ?_
  intro K C hKw hKl hret
  subst hKw
  subst hKl
  unfold s_X4_takeOne at hf
  show zGo MX K m [(0, .ref ((zw K).2.1 9))] 0 []
  refine z_aload_n C 0 dX4_takeOne_0 rfl rfl ?_
  refine z_getr C (t := 10) (Nat.le_of_ble_eq_true rfl) rfl rfl 0 (Nat.le_of_ble_eq_true rfl) rfl kiX4_takeOne_X4 kfX4_takeOne_14 dX4_takeOne_1 ?_
  refine z_geti C (Nat.le_of_ble_eq_true rfl) rfl rfl 2 (Nat.le_of_ble_eq_true rfl) rfl kiX4_takeOne_X5 kfX4_takeOne_54 dX4_takeOne_4 ?_
  refine z_bipush C (v := 40) dX4_takeOne_7 rfl ?_
  refine z_icmp_ne (tgt := 19) C dX4_takeOne_9 (by decide) (fun c22 => ?_) (fun c22 => ?_)
  · replace hf := if_f c22 hf
    refine z_aload_n C 0 dX4_takeOne_19 rfl rfl ?_
    refine z_getr C (t := 10) (Nat.le_of_ble_eq_true rfl) rfl rfl 0 (Nat.le_of_ble_eq_true rfl) rfl kiX4_takeOne_X4 kfX4_takeOne_14 dX4_takeOne_20 ?_
    refine z_geti C (Nat.le_of_ble_eq_true rfl) rfl rfl 2 (Nat.le_of_ble_eq_true rfl) rfl kiX4_takeOne_X5 kfX4_takeOne_54 dX4_takeOne_23 ?_
    refine z_iconst C (v := 3) dX4_takeOne_26 rfl ?_
    refine z_icmp_eq (tgt := 38) C dX4_takeOne_27 (by decide) (fun c19 => ?_) (fun c19 => ?_)
    · replace hf := if_t c19 hf
      refine z_aload_n C 0 dX4_takeOne_38 rfl rfl ?_
      refine z_getr C (t := 10) (Nat.le_of_ble_eq_true rfl) rfl rfl 0 (Nat.le_of_ble_eq_true rfl) rfl kiX4_takeOne_X4 kfX4_takeOne_14 dX4_takeOne_39 ?_
      refine z_geti C (Nat.le_of_ble_eq_true rfl) rfl rfl 4 (Nat.le_of_ble_eq_true rfl) rfl kiX4_takeOne_X5 kfX4_takeOne_107 dX4_takeOne_42 ?_
      refine z_if_lt (tgt := 60) C dX4_takeOne_45 (by decide) (fun c16 => ?_) (fun c16 => ?_)
      · replace hf := if_t c16 hf
        refine z_aload_n C 0 dX4_takeOne_60 rfl rfl ?_
        refine z_iconst C (v := 3) dX4_takeOne_61 rfl ?_
        obtain ⟨m2, hc1, hf⟩ := zb_el hf
        refine z_cVv C (c_X4_fail _ _ hc1) rfl gX4_takeOne_X4_fail rfl rfl zdX4_fail rfl (Nat.le_of_ble_eq_true rfl) rfl rfl rfl ⟨Nat.le_of_ble_eq_true rfl, Nat.le_of_ble_eq_true rfl⟩ (Nat.le_of_ble_eq_true rfl) dX4_takeOne_62 rfl ?_
        refine z_goto (tgt := 105) C dX4_takeOne_65 (by decide) ?_
        cases hf
        exact hret _ _ dX4_takeOne_105
      · replace hf := if_f c16 hf
        refine z_aload_n C 0 dX4_takeOne_48 rfl rfl ?_
        refine z_getr C (t := 10) (Nat.le_of_ble_eq_true rfl) rfl rfl 0 (Nat.le_of_ble_eq_true rfl) rfl kiX4_takeOne_X4 kfX4_takeOne_14 dX4_takeOne_49 ?_
        refine z_geti C (Nat.le_of_ble_eq_true rfl) rfl rfl 4 (Nat.le_of_ble_eq_true rfl) rfl kiX4_takeOne_X5 kfX4_takeOne_107 dX4_takeOne_52 ?_
        refine z_bipush C (v := 10) dX4_takeOne_55 rfl ?_
        refine z_icmp_lt (tgt := 68) C dX4_takeOne_57 (by decide) (fun c15 => ?_) (fun c15 => ?_)
        · replace hf := if_t c15 hf
          refine z_aload_n C 0 dX4_takeOne_68 rfl rfl ?_
          obtain ⟨b3, hb3, e_b3, hf⟩ := zbk_el hf
          refine z_getb C (b := b3) (Nat.le_of_ble_eq_true rfl) rfl rfl 1 (Nat.le_of_ble_eq_true rfl) rfl kiX4_takeOne_X4 kfX4_takeOne_20 (isb_lt hb3) e_b3 dX4_takeOne_69 ?_
          obtain ⟨r5, hc4, hf⟩ := zb_el hf
          refine z_cVi C (c_X0_hasRoomForPart _ _ hb3 hc4) rfl gX4_takeOne_X0_hasRoomForPart rfl rfl zdX0_hasRoomForPart rfl (isb_k0 hb3) (isb_L0 hb3) rfl rfl ⟨Nat.le_of_ble_eq_true rfl, Nat.le_of_ble_eq_true rfl⟩ (Nat.le_of_ble_eq_true rfl) dX4_takeOne_72 rfl ?_
          refine z_if_ne (tgt := 86) C dX4_takeOne_75 (by decide) (fun c12 => ?_) (fun c12 => ?_)
          · replace hf := if_f c12 hf
            refine z_aload_n C 0 dX4_takeOne_86 rfl rfl ?_
            obtain ⟨b6, hb6, e_b6, hf⟩ := zbk_el hf
            refine z_getb C (b := b6) (Nat.le_of_ble_eq_true rfl) rfl rfl 1 (Nat.le_of_ble_eq_true rfl) rfl kiX4_takeOne_X4 kfX4_takeOne_20 (isb_lt hb6) e_b6 dX4_takeOne_87 ?_
            refine z_aload_n C 0 dX4_takeOne_90 rfl rfl ?_
            refine z_getr C (t := 10) (Nat.le_of_ble_eq_true rfl) rfl rfl 0 (Nat.le_of_ble_eq_true rfl) rfl kiX4_takeOne_X4 kfX4_takeOne_14 dX4_takeOne_91 ?_
            refine z_geti C (Nat.le_of_ble_eq_true rfl) rfl rfl 4 (Nat.le_of_ble_eq_true rfl) rfl kiX4_takeOne_X5 kfX4_takeOne_107 dX4_takeOne_94 ?_
            obtain ⟨m8, hc7, hf⟩ := zb_el hf
            refine z_cVv C (c_X0_addPart _ _ hb6 hc7) rfl gX4_takeOne_X0_addPart rfl rfl zdX0_addPart rfl (isb_k0 hb6) (isb_L0 hb6) rfl rfl ⟨Nat.le_of_ble_eq_true rfl, Nat.le_of_ble_eq_true rfl⟩ (Nat.le_of_ble_eq_true rfl) dX4_takeOne_97 rfl ?_
            refine z_aload_n C 0 dX4_takeOne_100 rfl rfl ?_
            refine z_iconst C (v := 4) dX4_takeOne_101 rfl ?_
            refine z_puti C (Nat.le_of_ble_eq_true rfl) rfl rfl 2 (Nat.le_of_ble_eq_true rfl) rfl kiX4_takeOne_X4 kfX4_takeOne_32 tyX4 tyX4_ok nmX4 rfl rfl dX4_takeOne_102 ?_
            refine z_nm (fun m9 e_m9 => ?_)
            replace hf := bn_to e_m9 hf
            cases hf
            exact hret _ _ dX4_takeOne_105
          · replace hf := if_t c12 hf
            refine z_aload_n C 0 dX4_takeOne_78 rfl rfl ?_
            refine z_iconst C (v := 4) dX4_takeOne_79 rfl ?_
            obtain ⟨m11, hc10, hf⟩ := zb_el hf
            refine z_cVv C (c_X4_fail _ _ hc10) rfl gX4_takeOne_X4_fail rfl rfl zdX4_fail rfl (Nat.le_of_ble_eq_true rfl) rfl rfl rfl ⟨Nat.le_of_ble_eq_true rfl, Nat.le_of_ble_eq_true rfl⟩ (Nat.le_of_ble_eq_true rfl) dX4_takeOne_80 rfl ?_
            refine z_goto (tgt := 105) C dX4_takeOne_83 (by decide) ?_
            cases hf
            exact hret _ _ dX4_takeOne_105
        · replace hf := if_f c15 hf
          refine z_aload_n C 0 dX4_takeOne_60 rfl rfl ?_
          refine z_iconst C (v := 3) dX4_takeOne_61 rfl ?_
          obtain ⟨m14, hc13, hf⟩ := zb_el hf
          refine z_cVv C (c_X4_fail _ _ hc13) rfl gX4_takeOne_X4_fail rfl rfl zdX4_fail rfl (Nat.le_of_ble_eq_true rfl) rfl rfl rfl ⟨Nat.le_of_ble_eq_true rfl, Nat.le_of_ble_eq_true rfl⟩ (Nat.le_of_ble_eq_true rfl) dX4_takeOne_62 rfl ?_
          refine z_goto (tgt := 105) C dX4_takeOne_65 (by decide) ?_
          cases hf
          exact hret _ _ dX4_takeOne_105
    · replace hf := if_f c19 hf
      refine z_aload_n C 0 dX4_takeOne_30 rfl rfl ?_
      refine z_iconst C (v := 2) dX4_takeOne_31 rfl ?_
      obtain ⟨m18, hc17, hf⟩ := zb_el hf
      refine z_cVv C (c_X4_fail _ _ hc17) rfl gX4_takeOne_X4_fail rfl rfl zdX4_fail rfl (Nat.le_of_ble_eq_true rfl) rfl rfl rfl ⟨Nat.le_of_ble_eq_true rfl, Nat.le_of_ble_eq_true rfl⟩ (Nat.le_of_ble_eq_true rfl) dX4_takeOne_32 rfl ?_
      refine z_goto (tgt := 105) C dX4_takeOne_35 (by decide) ?_
      cases hf
      exact hret _ _ dX4_takeOne_105
  · replace hf := if_t c22 hf
    refine z_aload_n C 0 dX4_takeOne_12 rfl rfl ?_
    obtain ⟨m21, hc20, hf⟩ := zb_el hf
    refine z_cVv C (c_X4_takeOpening _ _ hc20) rfl gX4_takeOne_X4_takeOpening rfl rfl zdX4_takeOpening rfl (Nat.le_of_ble_eq_true rfl) rfl rfl rfl ⟨Nat.le_of_ble_eq_true rfl, Nat.le_of_ble_eq_true rfl⟩ (Nat.le_of_ble_eq_true rfl) dX4_takeOne_13 rfl ?_
    refine z_goto (tgt := 105) C dX4_takeOne_16 (by decide) ?_
    cases hf
    exact hret _ _ dX4_takeOne_105
def rmX4_takeShapeEnd : Room := { frames := 2, cells := 0, slots := 0, locals := 43 }
theorem zdX4_takeShapeEnd : yX4_takeShapeEnd.cls = RX4 ∧ yX4_takeShapeEnd.cls ≠ "java/lang/invoke/MethodHandle" ∧ yX4_takeShapeEnd.cls ≠ "java/lang/invoke/VarHandle" ∧ (parseMethodDescriptor yX4_takeShapeEnd.desc).map (fun d => d.parameters.length) = some 0 := by decide +kernel
theorem kiX4_takeShapeEnd_X4 : ∀ w ∈ wsX40, w ∈ wsX4_takeShapeEnd := by decide +kernel
theorem kfX4_takeShapeEnd_14 : Cond.fieldLink RX4 14 "ShapeJudge$TextReader" "tokens" "LShapeJudge$Tokens;" ∈ wsX4_takeShapeEnd := by decide +kernel
theorem kiX4_takeShapeEnd_X5 : ∀ w ∈ wsX50, w ∈ wsX4_takeShapeEnd := by decide +kernel
theorem kfX4_takeShapeEnd_54 : Cond.fieldLink RX4 54 "ShapeJudge$Tokens" "kind" "I" ∈ wsX4_takeShapeEnd := by decide +kernel
theorem kfX4_takeShapeEnd_20 : Cond.fieldLink RX4 20 "ShapeJudge$TextReader" "book" "LShapeJudge$Book;" ∈ wsX4_takeShapeEnd := by decide +kernel
theorem kfX4_takeShapeEnd_32 : Cond.fieldLink RX4 32 "ShapeJudge$TextReader" "state" "I" ∈ wsX4_takeShapeEnd := by decide +kernel
def s_X4_takeShapeEnd (m : Mem)  : Option (Mem) :=
  (if (m 10 2) = 4 then (zbk (m 9 1) fun b3 => (s_X0_closeShape m b3).bind fun m5 => bn (sto m5 9 2 13) fun m6 => some m6) else ((s_X4_takeSign m 59 0).bind fun m2 => some m2))
set_option maxRecDepth 100000 in
set_option maxHeartbeats 4000000 in
theorem c_X4_takeShapeEnd (l : Launch) (w : ZW) {m : Mem}  {m9 : Mem}  (hf : s_X4_takeShapeEnd m  = some m9) : zCv MX l w yX4_takeShapeEnd wsX4_takeShapeEnd rmX4_takeShapeEnd [.ref (w.2.1 9)] m m9 := by
  refine z_met_v MX_ok (own := RX4) (by decide +kernel) rfl rfl (Nat.le_of_ble_eq_true rfl) ?_
  intro K C hKw hKl hret
  subst hKw
  subst hKl
  unfold s_X4_takeShapeEnd at hf
  show zGo MX K m [(0, .ref ((zw K).2.1 9))] 0 []
  refine z_aload_n C 0 dX4_takeShapeEnd_0 rfl rfl ?_
  refine z_getr C (t := 10) (Nat.le_of_ble_eq_true rfl) rfl rfl 0 (Nat.le_of_ble_eq_true rfl) rfl kiX4_takeShapeEnd_X4 kfX4_takeShapeEnd_14 dX4_takeShapeEnd_1 ?_
  refine z_geti C (Nat.le_of_ble_eq_true rfl) rfl rfl 2 (Nat.le_of_ble_eq_true rfl) rfl kiX4_takeShapeEnd_X5 kfX4_takeShapeEnd_54 dX4_takeShapeEnd_4 ?_
  refine z_iconst C (v := 4) dX4_takeShapeEnd_7 rfl ?_
  refine z_icmp_ne (tgt := 27) C dX4_takeShapeEnd_8 (by decide) (fun c7 => ?_) (fun c7 => ?_)
  · replace hf := if_f c7 hf
    refine z_aload_n C 0 dX4_takeShapeEnd_27 rfl rfl ?_
    refine z_bipush C (v := 59) dX4_takeShapeEnd_28 rfl ?_
    refine z_iconst C (v := 0) dX4_takeShapeEnd_30 rfl ?_
    obtain ⟨m2, hc1, hf⟩ := zb_el hf
    refine z_cVv C (c_X4_takeSign _ _ hc1) rfl gX4_takeShapeEnd_X4_takeSign rfl rfl zdX4_takeSign rfl (Nat.le_of_ble_eq_true rfl) rfl rfl rfl ⟨Nat.le_of_ble_eq_true rfl, Nat.le_of_ble_eq_true rfl⟩ (Nat.le_of_ble_eq_true rfl) dX4_takeShapeEnd_31 rfl ?_
    cases hf
    exact hret _ _ dX4_takeShapeEnd_34
  · replace hf := if_t c7 hf
    refine z_aload_n C 0 dX4_takeShapeEnd_11 rfl rfl ?_
    obtain ⟨b3, hb3, e_b3, hf⟩ := zbk_el hf
    refine z_getb C (b := b3) (Nat.le_of_ble_eq_true rfl) rfl rfl 1 (Nat.le_of_ble_eq_true rfl) rfl kiX4_takeShapeEnd_X4 kfX4_takeShapeEnd_20 (isb_lt hb3) e_b3 dX4_takeShapeEnd_12 ?_
    obtain ⟨m5, hc4, hf⟩ := zb_el hf
    refine z_cVv C (c_X0_closeShape _ _ hb3 hc4) rfl gX4_takeShapeEnd_X0_closeShape rfl rfl zdX0_closeShape rfl (isb_k0 hb3) (isb_L0 hb3) rfl rfl ⟨Nat.le_of_ble_eq_true rfl, Nat.le_of_ble_eq_true rfl⟩ (Nat.le_of_ble_eq_true rfl) dX4_takeShapeEnd_15 rfl ?_
    refine z_aload_n C 0 dX4_takeShapeEnd_18 rfl rfl ?_
    refine z_bipush C (v := 13) dX4_takeShapeEnd_19 rfl ?_
    refine z_puti C (Nat.le_of_ble_eq_true rfl) rfl rfl 2 (Nat.le_of_ble_eq_true rfl) rfl kiX4_takeShapeEnd_X4 kfX4_takeShapeEnd_32 tyX4 tyX4_ok nmX4 rfl rfl dX4_takeShapeEnd_21 ?_
    refine z_nm (fun m6 e_m6 => ?_)
    replace hf := bn_to e_m6 hf
    refine z_goto (tgt := 34) C dX4_takeShapeEnd_24 (by decide) ?_
    cases hf
    exact hret _ _ dX4_takeShapeEnd_34
def rmX4_takeBody : Room := { frames := 4, cells := 0, slots := 0, locals := 86 }
theorem zdX4_takeBody : yX4_takeBody.cls = RX4 ∧ yX4_takeBody.cls ≠ "java/lang/invoke/MethodHandle" ∧ yX4_takeBody.cls ≠ "java/lang/invoke/VarHandle" ∧ (parseMethodDescriptor yX4_takeBody.desc).map (fun d => d.parameters.length) = some 0 := by decide +kernel
theorem kiX4_takeBody_X4 : ∀ w ∈ wsX40, w ∈ wsX4_takeBody := by decide +kernel
theorem kfX4_takeBody_14 : Cond.fieldLink RX4 14 "ShapeJudge$TextReader" "tokens" "LShapeJudge$Tokens;" ∈ wsX4_takeBody := by decide +kernel
theorem kiX4_takeBody_X5 : ∀ w ∈ wsX50, w ∈ wsX4_takeBody := by decide +kernel
theorem kfX4_takeBody_54 : Cond.fieldLink RX4 54 "ShapeJudge$Tokens" "kind" "I" ∈ wsX4_takeBody := by decide +kernel
def s_X4_takeBody (m : Mem)  : Option (Mem) :=
  (if (m 10 2) = 40 then ((s_X4_takeOne m).bind fun m2 => some m2) else ((if (m 10 2) = 3 then ((s_X4_takeOne m).bind fun m6 => some m6) else ((s_X4_takeShapeEnd m).bind fun m4 => some m4))))
set_option maxRecDepth 100000 in
set_option maxHeartbeats 4000000 in
theorem c_X4_takeBody (l : Launch) (w : ZW) {m : Mem}  {m9 : Mem}  (hf : s_X4_takeBody m  = some m9) : zCv MX l w yX4_takeBody wsX4_takeBody rmX4_takeBody [.ref (w.2.1 9)] m m9 := by
  refine z_met_v MX_ok (own := RX4) (by decide +kernel) rfl rfl (Nat.le_of_ble_eq_true rfl) ?_
  intro K C hKw hKl hret
  subst hKw
  subst hKl
  unfold s_X4_takeBody at hf
  show zGo MX K m [(0, .ref ((zw K).2.1 9))] 0 []
  refine z_aload_n C 0 dX4_takeBody_0 rfl rfl ?_
  refine z_getr C (t := 10) (Nat.le_of_ble_eq_true rfl) rfl rfl 0 (Nat.le_of_ble_eq_true rfl) rfl kiX4_takeBody_X4 kfX4_takeBody_14 dX4_takeBody_1 ?_
  refine z_geti C (Nat.le_of_ble_eq_true rfl) rfl rfl 2 (Nat.le_of_ble_eq_true rfl) rfl kiX4_takeBody_X5 kfX4_takeBody_54 dX4_takeBody_4 ?_
  refine z_bipush C (v := 40) dX4_takeBody_7 rfl ?_
  refine z_icmp_eq (tgt := 23) C dX4_takeBody_9 (by decide) (fun c8 => ?_) (fun c8 => ?_)
  · replace hf := if_t c8 hf
    refine z_aload_n C 0 dX4_takeBody_23 rfl rfl ?_
    obtain ⟨m2, hc1, hf⟩ := zb_el hf
    refine z_cVv C (c_X4_takeOne _ _ hc1) rfl gX4_takeBody_X4_takeOne rfl rfl zdX4_takeOne rfl (Nat.le_of_ble_eq_true rfl) rfl rfl rfl ⟨Nat.le_of_ble_eq_true rfl, Nat.le_of_ble_eq_true rfl⟩ (Nat.le_of_ble_eq_true rfl) dX4_takeBody_24 rfl ?_
    refine z_goto (tgt := 34) C dX4_takeBody_27 (by decide) ?_
    cases hf
    exact hret _ _ dX4_takeBody_34
  · replace hf := if_f c8 hf
    refine z_aload_n C 0 dX4_takeBody_12 rfl rfl ?_
    refine z_getr C (t := 10) (Nat.le_of_ble_eq_true rfl) rfl rfl 0 (Nat.le_of_ble_eq_true rfl) rfl kiX4_takeBody_X4 kfX4_takeBody_14 dX4_takeBody_13 ?_
    refine z_geti C (Nat.le_of_ble_eq_true rfl) rfl rfl 2 (Nat.le_of_ble_eq_true rfl) rfl kiX4_takeBody_X5 kfX4_takeBody_54 dX4_takeBody_16 ?_
    refine z_iconst C (v := 3) dX4_takeBody_19 rfl ?_
    refine z_icmp_ne (tgt := 30) C dX4_takeBody_20 (by decide) (fun c7 => ?_) (fun c7 => ?_)
    · replace hf := if_f c7 hf
      refine z_aload_n C 0 dX4_takeBody_30 rfl rfl ?_
      obtain ⟨m4, hc3, hf⟩ := zb_el hf
      refine z_cVv C (c_X4_takeShapeEnd _ _ hc3) rfl gX4_takeBody_X4_takeShapeEnd rfl rfl zdX4_takeShapeEnd rfl (Nat.le_of_ble_eq_true rfl) rfl rfl rfl ⟨Nat.le_of_ble_eq_true rfl, Nat.le_of_ble_eq_true rfl⟩ (Nat.le_of_ble_eq_true rfl) dX4_takeBody_31 rfl ?_
      cases hf
      exact hret _ _ dX4_takeBody_34
    · replace hf := if_t c7 hf
      refine z_aload_n C 0 dX4_takeBody_23 rfl rfl ?_
      obtain ⟨m6, hc5, hf⟩ := zb_el hf
      refine z_cVv C (c_X4_takeOne _ _ hc5) rfl gX4_takeBody_X4_takeOne rfl rfl zdX4_takeOne rfl (Nat.le_of_ble_eq_true rfl) rfl rfl rfl ⟨Nat.le_of_ble_eq_true rfl, Nat.le_of_ble_eq_true rfl⟩ (Nat.le_of_ble_eq_true rfl) dX4_takeBody_24 rfl ?_
      refine z_goto (tgt := 34) C dX4_takeBody_27 (by decide) ?_
      cases hf
      exact hret _ _ dX4_takeBody_34
def rmX4_takeTest : Room := { frames := 1, cells := 0, slots := 0, locals := 24 }
theorem zdX4_takeTest : yX4_takeTest.cls = RX4 ∧ yX4_takeTest.cls ≠ "java/lang/invoke/MethodHandle" ∧ yX4_takeTest.cls ≠ "java/lang/invoke/VarHandle" ∧ (parseMethodDescriptor yX4_takeTest.desc).map (fun d => d.parameters.length) = some 0 := by decide +kernel
theorem kiX4_takeTest_X4 : ∀ w ∈ wsX40, w ∈ wsX4_takeTest := by decide +kernel
theorem kfX4_takeTest_14 : Cond.fieldLink RX4 14 "ShapeJudge$TextReader" "tokens" "LShapeJudge$Tokens;" ∈ wsX4_takeTest := by decide +kernel
theorem kiX4_takeTest_X5 : ∀ w ∈ wsX50, w ∈ wsX4_takeTest := by decide +kernel
theorem kfX4_takeTest_54 : Cond.fieldLink RX4 54 "ShapeJudge$Tokens" "kind" "I" ∈ wsX4_takeTest := by decide +kernel
theorem kfX4_takeTest_137 : Cond.fieldLink RX4 137 "ShapeJudge$TextReader" "test" "I" ∈ wsX4_takeTest := by decide +kernel
theorem kfX4_takeTest_32 : Cond.fieldLink RX4 32 "ShapeJudge$TextReader" "state" "I" ∈ wsX4_takeTest := by decide +kernel
theorem kfX4_takeTest_107 : Cond.fieldLink RX4 107 "ShapeJudge$Tokens" "number" "I" ∈ wsX4_takeTest := by decide +kernel
theorem kfX4_takeTest_140 : Cond.fieldLink RX4 140 "ShapeJudge$TextReader" "firstNumber" "I" ∈ wsX4_takeTest := by decide +kernel
theorem kfX4_takeTest_20 : Cond.fieldLink RX4 20 "ShapeJudge$TextReader" "book" "LShapeJudge$Book;" ∈ wsX4_takeTest := by decide +kernel
def s_X4_takeTest (m : Mem)  : Option (Mem) :=
  (if (m 10 2) = 46 then (zbk (m 9 1) fun b18 => (s_X0_tellPart m b18 0 0 0 0).bind fun m20 => bn (sto m20 9 2 8) fun m21 => some m21) else ((if (m 10 2) = 64 then ((if (m 10 2) = 64 then (bn (sto m 9 6 1) fun m3 => bn (sto m3 9 2 5) fun m4 => some m4) else (bn (sto m 9 6 2) fun m1 => bn (sto m1 9 2 5) fun m2 => some m2))) else ((if (m 10 2) = 33 then ((if (m 10 2) = 64 then (bn (sto m 9 6 1) fun m13 => bn (sto m13 9 2 5) fun m14 => some m14) else (bn (sto m 9 6 2) fun m11 => bn (sto m11 9 2 5) fun m12 => some m12))) else ((if (m 10 2) = 3 then (bn (sto m 9 7 (m 10 4)) fun m8 => bn (sto m8 9 2 6) fun m9 => some m9) else ((s_X4_fail m 2).bind fun m7 => some m7))))))))
set_option maxRecDepth 100000 in
set_option maxHeartbeats 4000000 in
theorem c_X4_takeTest (l : Launch) (w : ZW) {m : Mem}  {m9 : Mem}  (hf : s_X4_takeTest m  = some m9) : zCv MX l w yX4_takeTest wsX4_takeTest rmX4_takeTest [.ref (w.2.1 9)] m m9 := by
  refine z_met_v MX_ok (own := RX4) (by decide +kernel) rfl rfl (Nat.le_of_ble_eq_true rfl) ?_
  intro K C hKw hKl hret
  subst hKw
  subst hKl
  unfold s_X4_takeTest at hf
  show zGo MX K m [(0, .ref ((zw K).2.1 9))] 0 []
  refine z_aload_n C 0 dX4_takeTest_0 rfl rfl ?_
  refine z_getr C (t := 10) (Nat.le_of_ble_eq_true rfl) rfl rfl 0 (Nat.le_of_ble_eq_true rfl) rfl kiX4_takeTest_X4 kfX4_takeTest_14 dX4_takeTest_1 ?_
  refine z_geti C (Nat.le_of_ble_eq_true rfl) rfl rfl 2 (Nat.le_of_ble_eq_true rfl) rfl kiX4_takeTest_X5 kfX4_takeTest_54 dX4_takeTest_4 ?_
  refine z_bipush C (v := 46) dX4_takeTest_7 rfl ?_
  refine z_icmp_ne (tgt := 32) C dX4_takeTest_9 (by decide) (fun c22 => ?_) (fun c22 => ?_)
  · replace hf := if_f c22 hf
    refine z_aload_n C 0 dX4_takeTest_32 rfl rfl ?_
    refine z_getr C (t := 10) (Nat.le_of_ble_eq_true rfl) rfl rfl 0 (Nat.le_of_ble_eq_true rfl) rfl kiX4_takeTest_X4 kfX4_takeTest_14 dX4_takeTest_33 ?_
    refine z_geti C (Nat.le_of_ble_eq_true rfl) rfl rfl 2 (Nat.le_of_ble_eq_true rfl) rfl kiX4_takeTest_X5 kfX4_takeTest_54 dX4_takeTest_36 ?_
    refine z_bipush C (v := 64) dX4_takeTest_39 rfl ?_
    refine z_icmp_eq (tgt := 56) C dX4_takeTest_41 (by decide) (fun c17 => ?_) (fun c17 => ?_)
    · replace hf := if_t c17 hf
      refine z_aload_n C 0 dX4_takeTest_56 rfl rfl ?_
      refine z_aload_n C 0 dX4_takeTest_57 rfl rfl ?_
      refine z_getr C (t := 10) (Nat.le_of_ble_eq_true rfl) rfl rfl 0 (Nat.le_of_ble_eq_true rfl) rfl kiX4_takeTest_X4 kfX4_takeTest_14 dX4_takeTest_58 ?_
      refine z_geti C (Nat.le_of_ble_eq_true rfl) rfl rfl 2 (Nat.le_of_ble_eq_true rfl) rfl kiX4_takeTest_X5 kfX4_takeTest_54 dX4_takeTest_61 ?_
      refine z_bipush C (v := 64) dX4_takeTest_64 rfl ?_
      refine z_icmp_ne (tgt := 73) C dX4_takeTest_66 (by decide) (fun c5 => ?_) (fun c5 => ?_)
      · replace hf := if_f c5 hf
        refine z_iconst C (v := 2) dX4_takeTest_73 rfl ?_
        refine z_puti C (Nat.le_of_ble_eq_true rfl) rfl rfl 6 (Nat.le_of_ble_eq_true rfl) rfl kiX4_takeTest_X4 kfX4_takeTest_137 tyX4 tyX4_ok nmX4 rfl rfl dX4_takeTest_74 ?_
        refine z_nm (fun m1 e_m1 => ?_)
        replace hf := bn_to e_m1 hf
        refine z_aload_n C 0 dX4_takeTest_77 rfl rfl ?_
        refine z_iconst C (v := 5) dX4_takeTest_78 rfl ?_
        refine z_puti C (Nat.le_of_ble_eq_true rfl) rfl rfl 2 (Nat.le_of_ble_eq_true rfl) rfl kiX4_takeTest_X4 kfX4_takeTest_32 tyX4 tyX4_ok nmX4 rfl rfl dX4_takeTest_79 ?_
        refine z_nm (fun m2 e_m2 => ?_)
        replace hf := bn_to e_m2 hf
        refine z_goto (tgt := 121) C dX4_takeTest_82 (by decide) ?_
        cases hf
        exact hret _ _ dX4_takeTest_121
      · replace hf := if_t c5 hf
        refine z_iconst C (v := 1) dX4_takeTest_69 rfl ?_
        refine z_goto (tgt := 74) C dX4_takeTest_70 (by decide) ?_
        refine z_puti C (Nat.le_of_ble_eq_true rfl) rfl rfl 6 (Nat.le_of_ble_eq_true rfl) rfl kiX4_takeTest_X4 kfX4_takeTest_137 tyX4 tyX4_ok nmX4 rfl rfl dX4_takeTest_74 ?_
        refine z_nm (fun m3 e_m3 => ?_)
        replace hf := bn_to e_m3 hf
        refine z_aload_n C 0 dX4_takeTest_77 rfl rfl ?_
        refine z_iconst C (v := 5) dX4_takeTest_78 rfl ?_
        refine z_puti C (Nat.le_of_ble_eq_true rfl) rfl rfl 2 (Nat.le_of_ble_eq_true rfl) rfl kiX4_takeTest_X4 kfX4_takeTest_32 tyX4 tyX4_ok nmX4 rfl rfl dX4_takeTest_79 ?_
        refine z_nm (fun m4 e_m4 => ?_)
        replace hf := bn_to e_m4 hf
        refine z_goto (tgt := 121) C dX4_takeTest_82 (by decide) ?_
        cases hf
        exact hret _ _ dX4_takeTest_121
    · replace hf := if_f c17 hf
      refine z_aload_n C 0 dX4_takeTest_44 rfl rfl ?_
      refine z_getr C (t := 10) (Nat.le_of_ble_eq_true rfl) rfl rfl 0 (Nat.le_of_ble_eq_true rfl) rfl kiX4_takeTest_X4 kfX4_takeTest_14 dX4_takeTest_45 ?_
      refine z_geti C (Nat.le_of_ble_eq_true rfl) rfl rfl 2 (Nat.le_of_ble_eq_true rfl) rfl kiX4_takeTest_X5 kfX4_takeTest_54 dX4_takeTest_48 ?_
      refine z_bipush C (v := 33) dX4_takeTest_51 rfl ?_
      refine z_icmp_ne (tgt := 85) C dX4_takeTest_53 (by decide) (fun c16 => ?_) (fun c16 => ?_)
      · replace hf := if_f c16 hf
        refine z_aload_n C 0 dX4_takeTest_85 rfl rfl ?_
        refine z_getr C (t := 10) (Nat.le_of_ble_eq_true rfl) rfl rfl 0 (Nat.le_of_ble_eq_true rfl) rfl kiX4_takeTest_X4 kfX4_takeTest_14 dX4_takeTest_86 ?_
        refine z_geti C (Nat.le_of_ble_eq_true rfl) rfl rfl 2 (Nat.le_of_ble_eq_true rfl) rfl kiX4_takeTest_X5 kfX4_takeTest_54 dX4_takeTest_89 ?_
        refine z_iconst C (v := 3) dX4_takeTest_92 rfl ?_
        refine z_icmp_ne (tgt := 116) C dX4_takeTest_93 (by decide) (fun c10 => ?_) (fun c10 => ?_)
        · replace hf := if_f c10 hf
          refine z_aload_n C 0 dX4_takeTest_116 rfl rfl ?_
          refine z_iconst C (v := 2) dX4_takeTest_117 rfl ?_
          obtain ⟨m7, hc6, hf⟩ := zb_el hf
          refine z_cVv C (c_X4_fail _ _ hc6) rfl gX4_takeTest_X4_fail rfl rfl zdX4_fail rfl (Nat.le_of_ble_eq_true rfl) rfl rfl rfl ⟨Nat.le_of_ble_eq_true rfl, Nat.le_of_ble_eq_true rfl⟩ (Nat.le_of_ble_eq_true rfl) dX4_takeTest_118 rfl ?_
          cases hf
          exact hret _ _ dX4_takeTest_121
        · replace hf := if_t c10 hf
          refine z_aload_n C 0 dX4_takeTest_96 rfl rfl ?_
          refine z_aload_n C 0 dX4_takeTest_97 rfl rfl ?_
          refine z_getr C (t := 10) (Nat.le_of_ble_eq_true rfl) rfl rfl 0 (Nat.le_of_ble_eq_true rfl) rfl kiX4_takeTest_X4 kfX4_takeTest_14 dX4_takeTest_98 ?_
          refine z_geti C (Nat.le_of_ble_eq_true rfl) rfl rfl 4 (Nat.le_of_ble_eq_true rfl) rfl kiX4_takeTest_X5 kfX4_takeTest_107 dX4_takeTest_101 ?_
          refine z_puti C (Nat.le_of_ble_eq_true rfl) rfl rfl 7 (Nat.le_of_ble_eq_true rfl) rfl kiX4_takeTest_X4 kfX4_takeTest_140 tyX4 tyX4_ok nmX4 rfl rfl dX4_takeTest_104 ?_
          refine z_nm (fun m8 e_m8 => ?_)
          replace hf := bn_to e_m8 hf
          refine z_aload_n C 0 dX4_takeTest_107 rfl rfl ?_
          refine z_bipush C (v := 6) dX4_takeTest_108 rfl ?_
          refine z_puti C (Nat.le_of_ble_eq_true rfl) rfl rfl 2 (Nat.le_of_ble_eq_true rfl) rfl kiX4_takeTest_X4 kfX4_takeTest_32 tyX4 tyX4_ok nmX4 rfl rfl dX4_takeTest_110 ?_
          refine z_nm (fun m9 e_m9 => ?_)
          replace hf := bn_to e_m9 hf
          refine z_goto (tgt := 121) C dX4_takeTest_113 (by decide) ?_
          cases hf
          exact hret _ _ dX4_takeTest_121
      · replace hf := if_t c16 hf
        refine z_aload_n C 0 dX4_takeTest_56 rfl rfl ?_
        refine z_aload_n C 0 dX4_takeTest_57 rfl rfl ?_
        refine z_getr C (t := 10) (Nat.le_of_ble_eq_true rfl) rfl rfl 0 (Nat.le_of_ble_eq_true rfl) rfl kiX4_takeTest_X4 kfX4_takeTest_14 dX4_takeTest_58 ?_
        refine z_geti C (Nat.le_of_ble_eq_true rfl) rfl rfl 2 (Nat.le_of_ble_eq_true rfl) rfl kiX4_takeTest_X5 kfX4_takeTest_54 dX4_takeTest_61 ?_
        refine z_bipush C (v := 64) dX4_takeTest_64 rfl ?_
        refine z_icmp_ne (tgt := 73) C dX4_takeTest_66 (by decide) (fun c15 => ?_) (fun c15 => ?_)
        · replace hf := if_f c15 hf
          refine z_iconst C (v := 2) dX4_takeTest_73 rfl ?_
          refine z_puti C (Nat.le_of_ble_eq_true rfl) rfl rfl 6 (Nat.le_of_ble_eq_true rfl) rfl kiX4_takeTest_X4 kfX4_takeTest_137 tyX4 tyX4_ok nmX4 rfl rfl dX4_takeTest_74 ?_
          refine z_nm (fun m11 e_m11 => ?_)
          replace hf := bn_to e_m11 hf
          refine z_aload_n C 0 dX4_takeTest_77 rfl rfl ?_
          refine z_iconst C (v := 5) dX4_takeTest_78 rfl ?_
          refine z_puti C (Nat.le_of_ble_eq_true rfl) rfl rfl 2 (Nat.le_of_ble_eq_true rfl) rfl kiX4_takeTest_X4 kfX4_takeTest_32 tyX4 tyX4_ok nmX4 rfl rfl dX4_takeTest_79 ?_
          refine z_nm (fun m12 e_m12 => ?_)
          replace hf := bn_to e_m12 hf
          refine z_goto (tgt := 121) C dX4_takeTest_82 (by decide) ?_
          cases hf
          exact hret _ _ dX4_takeTest_121
        · replace hf := if_t c15 hf
          refine z_iconst C (v := 1) dX4_takeTest_69 rfl ?_
          refine z_goto (tgt := 74) C dX4_takeTest_70 (by decide) ?_
          refine z_puti C (Nat.le_of_ble_eq_true rfl) rfl rfl 6 (Nat.le_of_ble_eq_true rfl) rfl kiX4_takeTest_X4 kfX4_takeTest_137 tyX4 tyX4_ok nmX4 rfl rfl dX4_takeTest_74 ?_
          refine z_nm (fun m13 e_m13 => ?_)
          replace hf := bn_to e_m13 hf
          refine z_aload_n C 0 dX4_takeTest_77 rfl rfl ?_
          refine z_iconst C (v := 5) dX4_takeTest_78 rfl ?_
          refine z_puti C (Nat.le_of_ble_eq_true rfl) rfl rfl 2 (Nat.le_of_ble_eq_true rfl) rfl kiX4_takeTest_X4 kfX4_takeTest_32 tyX4 tyX4_ok nmX4 rfl rfl dX4_takeTest_79 ?_
          refine z_nm (fun m14 e_m14 => ?_)
          replace hf := bn_to e_m14 hf
          refine z_goto (tgt := 121) C dX4_takeTest_82 (by decide) ?_
          cases hf
          exact hret _ _ dX4_takeTest_121
  · replace hf := if_t c22 hf
    refine z_aload_n C 0 dX4_takeTest_12 rfl rfl ?_
    obtain ⟨b18, hb18, e_b18, hf⟩ := zbk_el hf
    refine z_getb C (b := b18) (Nat.le_of_ble_eq_true rfl) rfl rfl 1 (Nat.le_of_ble_eq_true rfl) rfl kiX4_takeTest_X4 kfX4_takeTest_20 (isb_lt hb18) e_b18 dX4_takeTest_13 ?_
    refine z_iconst C (v := 0) dX4_takeTest_16 rfl ?_
    refine z_iconst C (v := 0) dX4_takeTest_17 rfl ?_
    refine z_iconst C (v := 0) dX4_takeTest_18 rfl ?_
    refine z_iconst C (v := 0) dX4_takeTest_19 rfl ?_
    obtain ⟨m20, hc19, hf⟩ := zb_el hf
    refine z_cVv C (c_X0_tellPart _ _ hb18 hc19) rfl gX4_takeTest_X0_tellPart rfl rfl zdX0_tellPart rfl (isb_k0 hb18) (isb_L0 hb18) rfl rfl ⟨Nat.le_of_ble_eq_true rfl, Nat.le_of_ble_eq_true rfl⟩ (Nat.le_of_ble_eq_true rfl) dX4_takeTest_20 rfl ?_
    refine z_aload_n C 0 dX4_takeTest_23 rfl rfl ?_
    refine z_bipush C (v := 8) dX4_takeTest_24 rfl ?_
    refine z_puti C (Nat.le_of_ble_eq_true rfl) rfl rfl 2 (Nat.le_of_ble_eq_true rfl) rfl kiX4_takeTest_X4 kfX4_takeTest_32 tyX4 tyX4_ok nmX4 rfl rfl dX4_takeTest_26 ?_
    refine z_nm (fun m21 e_m21 => ?_)
    replace hf := bn_to e_m21 hf
    refine z_goto (tgt := 121) C dX4_takeTest_29 (by decide) ?_
    cases hf
    exact hret _ _ dX4_takeTest_121
def rmX4_takeReference : Room := { frames := 1, cells := 0, slots := 0, locals := 24 }
theorem zdX4_takeReference : yX4_takeReference.cls = RX4 ∧ yX4_takeReference.cls ≠ "java/lang/invoke/MethodHandle" ∧ yX4_takeReference.cls ≠ "java/lang/invoke/VarHandle" ∧ (parseMethodDescriptor yX4_takeReference.desc).map (fun d => d.parameters.length) = some 0 := by decide +kernel
theorem kiX4_takeReference_X4 : ∀ w ∈ wsX40, w ∈ wsX4_takeReference := by decide +kernel
theorem kfX4_takeReference_14 : Cond.fieldLink RX4 14 "ShapeJudge$TextReader" "tokens" "LShapeJudge$Tokens;" ∈ wsX4_takeReference := by decide +kernel
theorem kiX4_takeReference_X5 : ∀ w ∈ wsX50, w ∈ wsX4_takeReference := by decide +kernel
theorem kfX4_takeReference_54 : Cond.fieldLink RX4 54 "ShapeJudge$Tokens" "kind" "I" ∈ wsX4_takeReference := by decide +kernel
theorem kfX4_takeReference_20 : Cond.fieldLink RX4 20 "ShapeJudge$TextReader" "book" "LShapeJudge$Book;" ∈ wsX4_takeReference := by decide +kernel
theorem kfX4_takeReference_137 : Cond.fieldLink RX4 137 "ShapeJudge$TextReader" "test" "I" ∈ wsX4_takeReference := by decide +kernel
theorem kfX4_takeReference_107 : Cond.fieldLink RX4 107 "ShapeJudge$Tokens" "number" "I" ∈ wsX4_takeReference := by decide +kernel
theorem kfX4_takeReference_67 : Cond.fieldLink RX4 67 "ShapeJudge$Tokens" "place" "I" ∈ wsX4_takeReference := by decide +kernel
theorem kfX4_takeReference_32 : Cond.fieldLink RX4 32 "ShapeJudge$TextReader" "state" "I" ∈ wsX4_takeReference := by decide +kernel
def s_X4_takeReference (m : Mem)  : Option (Mem) :=
  (if (m 10 2) = 2 then (zbk (m 9 1) fun b3 => (s_X0_tellPart m b3 (m 9 6) (m 10 4) 0 (m 10 3)).bind fun m5 => bn (sto m5 9 2 8) fun m6 => some m6) else ((s_X4_fail m 2).bind fun m2 => some m2))
set_option maxRecDepth 100000 in
set_option maxHeartbeats 4000000 in
theorem c_X4_takeReference (l : Launch) (w : ZW) {m : Mem}  {m9 : Mem}  (hf : s_X4_takeReference m  = some m9) : zCv MX l w yX4_takeReference wsX4_takeReference rmX4_takeReference [.ref (w.2.1 9)] m m9 := by
  refine z_met_v MX_ok (own := RX4) (by decide +kernel) rfl rfl (Nat.le_of_ble_eq_true rfl) ?_
  intro K C hKw hKl hret
  subst hKw
  subst hKl
  unfold s_X4_takeReference at hf
  show zGo MX K m [(0, .ref ((zw K).2.1 9))] 0 []
  refine z_aload_n C 0 dX4_takeReference_0 rfl rfl ?_
  refine z_getr C (t := 10) (Nat.le_of_ble_eq_true rfl) rfl rfl 0 (Nat.le_of_ble_eq_true rfl) rfl kiX4_takeReference_X4 kfX4_takeReference_14 dX4_takeReference_1 ?_
  refine z_geti C (Nat.le_of_ble_eq_true rfl) rfl rfl 2 (Nat.le_of_ble_eq_true rfl) rfl kiX4_takeReference_X5 kfX4_takeReference_54 dX4_takeReference_4 ?_
  refine z_iconst C (v := 2) dX4_takeReference_7 rfl ?_
  refine z_icmp_ne (tgt := 46) C dX4_takeReference_8 (by decide) (fun c7 => ?_) (fun c7 => ?_)
  · replace hf := if_f c7 hf
    refine z_aload_n C 0 dX4_takeReference_46 rfl rfl ?_
    refine z_iconst C (v := 2) dX4_takeReference_47 rfl ?_
    obtain ⟨m2, hc1, hf⟩ := zb_el hf
    refine z_cVv C (c_X4_fail _ _ hc1) rfl gX4_takeReference_X4_fail rfl rfl zdX4_fail rfl (Nat.le_of_ble_eq_true rfl) rfl rfl rfl ⟨Nat.le_of_ble_eq_true rfl, Nat.le_of_ble_eq_true rfl⟩ (Nat.le_of_ble_eq_true rfl) dX4_takeReference_48 rfl ?_
    cases hf
    exact hret _ _ dX4_takeReference_51
  · replace hf := if_t c7 hf
    refine z_aload_n C 0 dX4_takeReference_11 rfl rfl ?_
    obtain ⟨b3, hb3, e_b3, hf⟩ := zbk_el hf
    refine z_getb C (b := b3) (Nat.le_of_ble_eq_true rfl) rfl rfl 1 (Nat.le_of_ble_eq_true rfl) rfl kiX4_takeReference_X4 kfX4_takeReference_20 (isb_lt hb3) e_b3 dX4_takeReference_12 ?_
    refine z_aload_n C 0 dX4_takeReference_15 rfl rfl ?_
    refine z_geti C (Nat.le_of_ble_eq_true rfl) rfl rfl 6 (Nat.le_of_ble_eq_true rfl) rfl kiX4_takeReference_X4 kfX4_takeReference_137 dX4_takeReference_16 ?_
    refine z_aload_n C 0 dX4_takeReference_19 rfl rfl ?_
    refine z_getr C (t := 10) (Nat.le_of_ble_eq_true rfl) rfl rfl 0 (Nat.le_of_ble_eq_true rfl) rfl kiX4_takeReference_X4 kfX4_takeReference_14 dX4_takeReference_20 ?_
    refine z_geti C (Nat.le_of_ble_eq_true rfl) rfl rfl 4 (Nat.le_of_ble_eq_true rfl) rfl kiX4_takeReference_X5 kfX4_takeReference_107 dX4_takeReference_23 ?_
    refine z_iconst C (v := 0) dX4_takeReference_26 rfl ?_
    refine z_aload_n C 0 dX4_takeReference_27 rfl rfl ?_
    refine z_getr C (t := 10) (Nat.le_of_ble_eq_true rfl) rfl rfl 0 (Nat.le_of_ble_eq_true rfl) rfl kiX4_takeReference_X4 kfX4_takeReference_14 dX4_takeReference_28 ?_
    refine z_geti C (Nat.le_of_ble_eq_true rfl) rfl rfl 3 (Nat.le_of_ble_eq_true rfl) rfl kiX4_takeReference_X5 kfX4_takeReference_67 dX4_takeReference_31 ?_
    obtain ⟨m5, hc4, hf⟩ := zb_el hf
    refine z_cVv C (c_X0_tellPart _ _ hb3 hc4) rfl gX4_takeReference_X0_tellPart rfl rfl zdX0_tellPart rfl (isb_k0 hb3) (isb_L0 hb3) rfl rfl ⟨Nat.le_of_ble_eq_true rfl, Nat.le_of_ble_eq_true rfl⟩ (Nat.le_of_ble_eq_true rfl) dX4_takeReference_34 rfl ?_
    refine z_aload_n C 0 dX4_takeReference_37 rfl rfl ?_
    refine z_bipush C (v := 8) dX4_takeReference_38 rfl ?_
    refine z_puti C (Nat.le_of_ble_eq_true rfl) rfl rfl 2 (Nat.le_of_ble_eq_true rfl) rfl kiX4_takeReference_X4 kfX4_takeReference_32 tyX4 tyX4_ok nmX4 rfl rfl dX4_takeReference_40 ?_
    refine z_nm (fun m6 e_m6 => ?_)
    replace hf := bn_to e_m6 hf
    refine z_goto (tgt := 51) C dX4_takeReference_43 (by decide) ?_
    cases hf
    exact hret _ _ dX4_takeReference_51
def rmX4_takeLastNumber : Room := { frames := 2, cells := 0, slots := 0, locals := 43 }
theorem zdX4_takeLastNumber : yX4_takeLastNumber.cls = RX4 ∧ yX4_takeLastNumber.cls ≠ "java/lang/invoke/MethodHandle" ∧ yX4_takeLastNumber.cls ≠ "java/lang/invoke/VarHandle" ∧ (parseMethodDescriptor yX4_takeLastNumber.desc).map (fun d => d.parameters.length) = some 0 := by decide +kernel
theorem kiX4_takeLastNumber_X4 : ∀ w ∈ wsX40, w ∈ wsX4_takeLastNumber := by decide +kernel
theorem kfX4_takeLastNumber_140 : Cond.fieldLink RX4 140 "ShapeJudge$TextReader" "firstNumber" "I" ∈ wsX4_takeLastNumber := by decide +kernel
theorem kcX4_takeLastNumber_145 : Cond.constant RX4 145 (2147483647) ∈ wsX4_takeLastNumber := by decide +kernel
theorem kfX4_takeLastNumber_20 : Cond.fieldLink RX4 20 "ShapeJudge$TextReader" "book" "LShapeJudge$Book;" ∈ wsX4_takeLastNumber := by decide +kernel
theorem kfX4_takeLastNumber_14 : Cond.fieldLink RX4 14 "ShapeJudge$TextReader" "tokens" "LShapeJudge$Tokens;" ∈ wsX4_takeLastNumber := by decide +kernel
theorem kiX4_takeLastNumber_X5 : ∀ w ∈ wsX50, w ∈ wsX4_takeLastNumber := by decide +kernel
theorem kfX4_takeLastNumber_107 : Cond.fieldLink RX4 107 "ShapeJudge$Tokens" "number" "I" ∈ wsX4_takeLastNumber := by decide +kernel
theorem kfX4_takeLastNumber_32 : Cond.fieldLink RX4 32 "ShapeJudge$TextReader" "state" "I" ∈ wsX4_takeLastNumber := by decide +kernel
def s_X4_takeLastNumber (m : Mem)  : Option (Mem) :=
  zb2 (s_X4_isNumberFrom m (m 9 7) 2147483647) fun r2 m3 => (if r2 = 0 then (some m3) else (zbk (m3 9 1) fun b4 => (s_X0_tellPart m3 b4 3 (m3 9 7) (m3 10 4) 0).bind fun m6 => bn (sto m6 9 2 8) fun m7 => some m7))
set_option maxRecDepth 100000 in
set_option maxHeartbeats 4000000 in
theorem c_X4_takeLastNumber (l : Launch) (w : ZW) {m : Mem}  {m9 : Mem}  (hf : s_X4_takeLastNumber m  = some m9) : zCv MX l w yX4_takeLastNumber wsX4_takeLastNumber rmX4_takeLastNumber [.ref (w.2.1 9)] m m9 := by
  refine z_met_v MX_ok (own := RX4) (by decide +kernel) rfl rfl (Nat.le_of_ble_eq_true rfl) ?_
  intro K C hKw hKl hret
  subst hKw
  subst hKl
  unfold s_X4_takeLastNumber at hf
  show zGo MX K m [(0, .ref ((zw K).2.1 9))] 0 []
  refine z_aload_n C 0 dX4_takeLastNumber_0 rfl rfl ?_
  refine z_aload_n C 0 dX4_takeLastNumber_1 rfl rfl ?_
  refine z_geti C (Nat.le_of_ble_eq_true rfl) rfl rfl 7 (Nat.le_of_ble_eq_true rfl) rfl kiX4_takeLastNumber_X4 kfX4_takeLastNumber_140 dX4_takeLastNumber_2 ?_
  refine z_ldc C (v := 2147483647) dX4_takeLastNumber_5 kcX4_takeLastNumber_145 ?_
  obtain ⟨r2, m3, hc1, hf⟩ := zb2_el hf
  refine z_cVi C (c_X4_isNumberFrom _ _ hc1) rfl gX4_takeLastNumber_X4_isNumberFrom rfl rfl zdX4_isNumberFrom rfl (Nat.le_of_ble_eq_true rfl) rfl rfl rfl ⟨Nat.le_of_ble_eq_true rfl, Nat.le_of_ble_eq_true rfl⟩ (Nat.le_of_ble_eq_true rfl) dX4_takeLastNumber_7 rfl ?_
  refine z_if_eq (tgt := 39) C dX4_takeLastNumber_10 (by decide) (fun c8 => ?_) (fun c8 => ?_)
  · replace hf := if_t c8 hf
    cases hf
    exact hret _ _ dX4_takeLastNumber_39
  · replace hf := if_f c8 hf
    refine z_aload_n C 0 dX4_takeLastNumber_13 rfl rfl ?_
    obtain ⟨b4, hb4, e_b4, hf⟩ := zbk_el hf
    refine z_getb C (b := b4) (Nat.le_of_ble_eq_true rfl) rfl rfl 1 (Nat.le_of_ble_eq_true rfl) rfl kiX4_takeLastNumber_X4 kfX4_takeLastNumber_20 (isb_lt hb4) e_b4 dX4_takeLastNumber_14 ?_
    refine z_iconst C (v := 3) dX4_takeLastNumber_17 rfl ?_
    refine z_aload_n C 0 dX4_takeLastNumber_18 rfl rfl ?_
    refine z_geti C (Nat.le_of_ble_eq_true rfl) rfl rfl 7 (Nat.le_of_ble_eq_true rfl) rfl kiX4_takeLastNumber_X4 kfX4_takeLastNumber_140 dX4_takeLastNumber_19 ?_
    refine z_aload_n C 0 dX4_takeLastNumber_22 rfl rfl ?_
    refine z_getr C (t := 10) (Nat.le_of_ble_eq_true rfl) rfl rfl 0 (Nat.le_of_ble_eq_true rfl) rfl kiX4_takeLastNumber_X4 kfX4_takeLastNumber_14 dX4_takeLastNumber_23 ?_
    refine z_geti C (Nat.le_of_ble_eq_true rfl) rfl rfl 4 (Nat.le_of_ble_eq_true rfl) rfl kiX4_takeLastNumber_X5 kfX4_takeLastNumber_107 dX4_takeLastNumber_26 ?_
    refine z_iconst C (v := 0) dX4_takeLastNumber_29 rfl ?_
    obtain ⟨m6, hc5, hf⟩ := zb_el hf
    refine z_cVv C (c_X0_tellPart _ _ hb4 hc5) rfl gX4_takeLastNumber_X0_tellPart rfl rfl zdX0_tellPart rfl (isb_k0 hb4) (isb_L0 hb4) rfl rfl ⟨Nat.le_of_ble_eq_true rfl, Nat.le_of_ble_eq_true rfl⟩ (Nat.le_of_ble_eq_true rfl) dX4_takeLastNumber_30 rfl ?_
    refine z_aload_n C 0 dX4_takeLastNumber_33 rfl rfl ?_
    refine z_bipush C (v := 8) dX4_takeLastNumber_34 rfl ?_
    refine z_puti C (Nat.le_of_ble_eq_true rfl) rfl rfl 2 (Nat.le_of_ble_eq_true rfl) rfl kiX4_takeLastNumber_X4 kfX4_takeLastNumber_32 tyX4 tyX4_ok nmX4 rfl rfl dX4_takeLastNumber_36 ?_
    refine z_nm (fun m7 e_m7 => ?_)
    replace hf := bn_to e_m7 hf
    cases hf
    exact hret _ _ dX4_takeLastNumber_39
def rmX4_settleComma : Room := { frames := 2, cells := 0, slots := 0, locals := 43 }
theorem zdX4_settleComma : yX4_settleComma.cls = RX4 ∧ yX4_settleComma.cls ≠ "java/lang/invoke/MethodHandle" ∧ yX4_settleComma.cls ≠ "java/lang/invoke/VarHandle" ∧ (parseMethodDescriptor yX4_settleComma.desc).map (fun d => d.parameters.length) = some 0 := by decide +kernel
theorem kiX4_settleComma_X4 : ∀ w ∈ wsX40, w ∈ wsX4_settleComma := by decide +kernel
theorem kfX4_settleComma_39 : Cond.fieldLink RX4 39 "ShapeJudge$TextReader" "commas" "I" ∈ wsX4_settleComma := by decide +kernel
theorem kfX4_settleComma_36 : Cond.fieldLink RX4 36 "ShapeJudge$TextReader" "depth" "I" ∈ wsX4_settleComma := by decide +kernel
theorem kfX4_settleComma_20 : Cond.fieldLink RX4 20 "ShapeJudge$TextReader" "book" "LShapeJudge$Book;" ∈ wsX4_settleComma := by decide +kernel
def s_X4_settleComma (m : Mem)  : Option (Mem) :=
  (if (((m 9 4) >>> ((m 9 3) &&& 31)) &&& 1) = 0 then (some m) else (zbk (m 9 1) fun b1 => (s_X0_addStep m b1 2 0).bind fun m3 => bn (sto m3 9 4 ((m3 9 4) &&& (((1 : Int32) <<< ((m3 9 3) &&& 31)) ^^^ (-1)))) fun m4 => some m4))
set_option maxRecDepth 100000 in
set_option maxHeartbeats 4000000 in
theorem c_X4_settleComma (l : Launch) (w : ZW) {m : Mem}  {m9 : Mem}  (hf : s_X4_settleComma m  = some m9) : zCv MX l w yX4_settleComma wsX4_settleComma rmX4_settleComma [.ref (w.2.1 9)] m m9 := by
  refine z_met_v MX_ok (own := RX4) (by decide +kernel) rfl rfl (Nat.le_of_ble_eq_true rfl) ?_
  intro K C hKw hKl hret
  subst hKw
  subst hKl
  unfold s_X4_settleComma at hf
  show zGo MX K m [(0, .ref ((zw K).2.1 9))] 0 []
  refine z_aload_n C 0 dX4_settleComma_0 rfl rfl ?_
  refine z_geti C (Nat.le_of_ble_eq_true rfl) rfl rfl 4 (Nat.le_of_ble_eq_true rfl) rfl kiX4_settleComma_X4 kfX4_settleComma_39 dX4_settleComma_1 ?_
  refine z_aload_n C 0 dX4_settleComma_4 rfl rfl ?_
  refine z_geti C (Nat.le_of_ble_eq_true rfl) rfl rfl 3 (Nat.le_of_ble_eq_true rfl) rfl kiX4_settleComma_X4 kfX4_settleComma_36 dX4_settleComma_5 ?_
  refine z_ishr C dX4_settleComma_8 ?_
  refine z_iconst C (v := 1) dX4_settleComma_9 rfl ?_
  refine z_iand C dX4_settleComma_10 ?_
  refine z_if_eq (tgt := 40) C dX4_settleComma_11 (by decide) (fun c5 => ?_) (fun c5 => ?_)
  · replace hf := if_t c5 hf
    cases hf
    exact hret _ _ dX4_settleComma_40
  · replace hf := if_f c5 hf
    refine z_aload_n C 0 dX4_settleComma_14 rfl rfl ?_
    obtain ⟨b1, hb1, e_b1, hf⟩ := zbk_el hf
    refine z_getb C (b := b1) (Nat.le_of_ble_eq_true rfl) rfl rfl 1 (Nat.le_of_ble_eq_true rfl) rfl kiX4_settleComma_X4 kfX4_settleComma_20 (isb_lt hb1) e_b1 dX4_settleComma_15 ?_
    refine z_iconst C (v := 2) dX4_settleComma_18 rfl ?_
    refine z_iconst C (v := 0) dX4_settleComma_19 rfl ?_
    obtain ⟨m3, hc2, hf⟩ := zb_el hf
    refine z_cVv C (c_X0_addStep _ _ hb1 hc2) rfl gX4_settleComma_X0_addStep rfl rfl zdX0_addStep rfl (isb_k0 hb1) (isb_L0 hb1) rfl rfl ⟨Nat.le_of_ble_eq_true rfl, Nat.le_of_ble_eq_true rfl⟩ (Nat.le_of_ble_eq_true rfl) dX4_settleComma_20 rfl ?_
    refine z_aload_n C 0 dX4_settleComma_23 rfl rfl ?_
    refine z_dup_a C dX4_settleComma_24 ?_
    refine z_geti C (Nat.le_of_ble_eq_true rfl) rfl rfl 4 (Nat.le_of_ble_eq_true rfl) rfl kiX4_settleComma_X4 kfX4_settleComma_39 dX4_settleComma_25 ?_
    refine z_iconst C (v := 1) dX4_settleComma_28 rfl ?_
    refine z_aload_n C 0 dX4_settleComma_29 rfl rfl ?_
    refine z_geti C (Nat.le_of_ble_eq_true rfl) rfl rfl 3 (Nat.le_of_ble_eq_true rfl) rfl kiX4_settleComma_X4 kfX4_settleComma_36 dX4_settleComma_30 ?_
    refine z_ishl C dX4_settleComma_33 ?_
    refine z_iconst C (v := (-1)) dX4_settleComma_34 (by decide) ?_
    refine z_ixor C dX4_settleComma_35 ?_
    refine z_iand C dX4_settleComma_36 ?_
    refine z_puti C (Nat.le_of_ble_eq_true rfl) rfl rfl 4 (Nat.le_of_ble_eq_true rfl) rfl kiX4_settleComma_X4 kfX4_settleComma_39 tyX4 tyX4_ok nmX4 rfl rfl dX4_settleComma_37 ?_
    refine z_nm (fun m4 e_m4 => ?_)
    replace hf := bn_to e_m4 hf
    cases hf
    exact hret _ _ dX4_settleComma_40
def rmX4_settleBar : Room := { frames := 2, cells := 0, slots := 0, locals := 43 }
theorem zdX4_settleBar : yX4_settleBar.cls = RX4 ∧ yX4_settleBar.cls ≠ "java/lang/invoke/MethodHandle" ∧ yX4_settleBar.cls ≠ "java/lang/invoke/VarHandle" ∧ (parseMethodDescriptor yX4_settleBar.desc).map (fun d => d.parameters.length) = some 0 := by decide +kernel
theorem kiX4_settleBar_X4 : ∀ w ∈ wsX40, w ∈ wsX4_settleBar := by decide +kernel
theorem kfX4_settleBar_42 : Cond.fieldLink RX4 42 "ShapeJudge$TextReader" "bars" "I" ∈ wsX4_settleBar := by decide +kernel
theorem kfX4_settleBar_36 : Cond.fieldLink RX4 36 "ShapeJudge$TextReader" "depth" "I" ∈ wsX4_settleBar := by decide +kernel
theorem kfX4_settleBar_20 : Cond.fieldLink RX4 20 "ShapeJudge$TextReader" "book" "LShapeJudge$Book;" ∈ wsX4_settleBar := by decide +kernel
def s_X4_settleBar (m : Mem)  : Option (Mem) :=
  (if (((m 9 5) >>> ((m 9 3) &&& 31)) &&& 1) = 0 then (some m) else (zbk (m 9 1) fun b1 => (s_X0_addStep m b1 3 0).bind fun m3 => bn (sto m3 9 5 ((m3 9 5) &&& (((1 : Int32) <<< ((m3 9 3) &&& 31)) ^^^ (-1)))) fun m4 => some m4))
set_option maxRecDepth 100000 in
set_option maxHeartbeats 4000000 in
theorem c_X4_settleBar (l : Launch) (w : ZW) {m : Mem}  {m9 : Mem}  (hf : s_X4_settleBar m  = some m9) : zCv MX l w yX4_settleBar wsX4_settleBar rmX4_settleBar [.ref (w.2.1 9)] m m9 := by
  refine z_met_v MX_ok (own := RX4) (by decide +kernel) rfl rfl (Nat.le_of_ble_eq_true rfl) ?_
  intro K C hKw hKl hret
  subst hKw
  subst hKl
  unfold s_X4_settleBar at hf
  show zGo MX K m [(0, .ref ((zw K).2.1 9))] 0 []
  refine z_aload_n C 0 dX4_settleBar_0 rfl rfl ?_
  refine z_geti C (Nat.le_of_ble_eq_true rfl) rfl rfl 5 (Nat.le_of_ble_eq_true rfl) rfl kiX4_settleBar_X4 kfX4_settleBar_42 dX4_settleBar_1 ?_
  refine z_aload_n C 0 dX4_settleBar_4 rfl rfl ?_
  refine z_geti C (Nat.le_of_ble_eq_true rfl) rfl rfl 3 (Nat.le_of_ble_eq_true rfl) rfl kiX4_settleBar_X4 kfX4_settleBar_36 dX4_settleBar_5 ?_
  refine z_ishr C dX4_settleBar_8 ?_
  refine z_iconst C (v := 1) dX4_settleBar_9 rfl ?_
  refine z_iand C dX4_settleBar_10 ?_
  refine z_if_eq (tgt := 40) C dX4_settleBar_11 (by decide) (fun c5 => ?_) (fun c5 => ?_)
  · replace hf := if_t c5 hf
    cases hf
    exact hret _ _ dX4_settleBar_40
  · replace hf := if_f c5 hf
    refine z_aload_n C 0 dX4_settleBar_14 rfl rfl ?_
    obtain ⟨b1, hb1, e_b1, hf⟩ := zbk_el hf
    refine z_getb C (b := b1) (Nat.le_of_ble_eq_true rfl) rfl rfl 1 (Nat.le_of_ble_eq_true rfl) rfl kiX4_settleBar_X4 kfX4_settleBar_20 (isb_lt hb1) e_b1 dX4_settleBar_15 ?_
    refine z_iconst C (v := 3) dX4_settleBar_18 rfl ?_
    refine z_iconst C (v := 0) dX4_settleBar_19 rfl ?_
    obtain ⟨m3, hc2, hf⟩ := zb_el hf
    refine z_cVv C (c_X0_addStep _ _ hb1 hc2) rfl gX4_settleBar_X0_addStep rfl rfl zdX0_addStep rfl (isb_k0 hb1) (isb_L0 hb1) rfl rfl ⟨Nat.le_of_ble_eq_true rfl, Nat.le_of_ble_eq_true rfl⟩ (Nat.le_of_ble_eq_true rfl) dX4_settleBar_20 rfl ?_
    refine z_aload_n C 0 dX4_settleBar_23 rfl rfl ?_
    refine z_dup_a C dX4_settleBar_24 ?_
    refine z_geti C (Nat.le_of_ble_eq_true rfl) rfl rfl 5 (Nat.le_of_ble_eq_true rfl) rfl kiX4_settleBar_X4 kfX4_settleBar_42 dX4_settleBar_25 ?_
    refine z_iconst C (v := 1) dX4_settleBar_28 rfl ?_
    refine z_aload_n C 0 dX4_settleBar_29 rfl rfl ?_
    refine z_geti C (Nat.le_of_ble_eq_true rfl) rfl rfl 3 (Nat.le_of_ble_eq_true rfl) rfl kiX4_settleBar_X4 kfX4_settleBar_36 dX4_settleBar_30 ?_
    refine z_ishl C dX4_settleBar_33 ?_
    refine z_iconst C (v := (-1)) dX4_settleBar_34 (by decide) ?_
    refine z_ixor C dX4_settleBar_35 ?_
    refine z_iand C dX4_settleBar_36 ?_
    refine z_puti C (Nat.le_of_ble_eq_true rfl) rfl rfl 5 (Nat.le_of_ble_eq_true rfl) rfl kiX4_settleBar_X4 kfX4_settleBar_42 tyX4 tyX4_ok nmX4 rfl rfl dX4_settleBar_37 ?_
    refine z_nm (fun m4 e_m4 => ?_)
    replace hf := bn_to e_m4 hf
    cases hf
    exact hret _ _ dX4_settleBar_40
def rmX4_takeBehindItem : Room := { frames := 3, cells := 0, slots := 0, locals := 63 }
theorem zdX4_takeBehindItem : yX4_takeBehindItem.cls = RX4 ∧ yX4_takeBehindItem.cls ≠ "java/lang/invoke/MethodHandle" ∧ yX4_takeBehindItem.cls ≠ "java/lang/invoke/VarHandle" ∧ (parseMethodDescriptor yX4_takeBehindItem.desc).map (fun d => d.parameters.length) = some 0 := by decide +kernel
theorem kiX4_takeBehindItem_X4 : ∀ w ∈ wsX40, w ∈ wsX4_takeBehindItem := by decide +kernel
theorem kfX4_takeBehindItem_14 : Cond.fieldLink RX4 14 "ShapeJudge$TextReader" "tokens" "LShapeJudge$Tokens;" ∈ wsX4_takeBehindItem := by decide +kernel
theorem kiX4_takeBehindItem_X5 : ∀ w ∈ wsX50, w ∈ wsX4_takeBehindItem := by decide +kernel
theorem kfX4_takeBehindItem_54 : Cond.fieldLink RX4 54 "ShapeJudge$Tokens" "kind" "I" ∈ wsX4_takeBehindItem := by decide +kernel
theorem kfX4_takeBehindItem_36 : Cond.fieldLink RX4 36 "ShapeJudge$TextReader" "depth" "I" ∈ wsX4_takeBehindItem := by decide +kernel
theorem kfX4_takeBehindItem_32 : Cond.fieldLink RX4 32 "ShapeJudge$TextReader" "state" "I" ∈ wsX4_takeBehindItem := by decide +kernel
theorem kfX4_takeBehindItem_42 : Cond.fieldLink RX4 42 "ShapeJudge$TextReader" "bars" "I" ∈ wsX4_takeBehindItem := by decide +kernel
theorem kfX4_takeBehindItem_39 : Cond.fieldLink RX4 39 "ShapeJudge$TextReader" "commas" "I" ∈ wsX4_takeBehindItem := by decide +kernel
def s_X4_takeBehindItem (m : Mem)  : Option (Mem) :=
  bn (m 10 2) fun x1 => (((if (m 9 3) ≤ 0 then ((if x1 = 59 then (some 1) else ((if x1 = 4 then (some 1) else (some 0))))) else ((if x1 = 41 then (some 1) else (some 0)))) : Option (Int32)).bind fun y2 => (if x1 = 44 then ((s_X4_settleComma m).bind fun m4 => (if x1 = 44 then (bn (sto m4 9 4 ((m4 9 4) ||| ((1 : Int32) <<< ((m4 9 3) &&& 31)))) fun m15 => bn (sto m15 9 2 3) fun m16 => some m16) else ((s_X4_settleBar m4).bind fun m6 => (if x1 = 124 then (bn (sto m6 9 5 ((m6 9 5) ||| ((1 : Int32) <<< ((m6 9 3) &&& 31)))) fun m12 => bn (sto m12 9 2 3) fun m13 => some m13) else ((if x1 = 41 then (bn (sto m6 9 3 ((m6 9 3) - 1)) fun m9 => bn (sto m9 9 2 8) fun m10 => some m10) else ((s_X4_takeShapeEnd m6).bind fun m8 => some m8))))))) else ((if x1 = 124 then ((s_X4_settleComma m).bind fun m19 => (if x1 = 44 then (bn (sto m19 9 4 ((m19 9 4) ||| ((1 : Int32) <<< ((m19 9 3) &&& 31)))) fun m30 => bn (sto m30 9 2 3) fun m31 => some m31) else ((s_X4_settleBar m19).bind fun m21 => (if x1 = 124 then (bn (sto m21 9 5 ((m21 9 5) ||| ((1 : Int32) <<< ((m21 9 3) &&& 31)))) fun m27 => bn (sto m27 9 2 3) fun m28 => some m28) else ((if x1 = 41 then (bn (sto m21 9 3 ((m21 9 3) - 1)) fun m24 => bn (sto m24 9 2 8) fun m25 => some m25) else ((s_X4_takeShapeEnd m21).bind fun m23 => some m23))))))) else ((if y2 = 0 then ((s_X4_fail m 2).bind fun m49 => some m49) else ((s_X4_settleComma m).bind fun m34 => (if x1 = 44 then (bn (sto m34 9 4 ((m34 9 4) ||| ((1 : Int32) <<< ((m34 9 3) &&& 31)))) fun m45 => bn (sto m45 9 2 3) fun m46 => some m46) else ((s_X4_settleBar m34).bind fun m36 => (if x1 = 124 then (bn (sto m36 9 5 ((m36 9 5) ||| ((1 : Int32) <<< ((m36 9 3) &&& 31)))) fun m42 => bn (sto m42 9 2 3) fun m43 => some m43) else ((if x1 = 41 then (bn (sto m36 9 3 ((m36 9 3) - 1)) fun m39 => bn (sto m39 9 2 8) fun m40 => some m40) else ((s_X4_takeShapeEnd m36).bind fun m38 => some m38)))))))))))))
set_option maxRecDepth 100000 in
set_option maxHeartbeats 4000000 in
theorem c_X4_takeBehindItem (l : Launch) (w : ZW) {m : Mem}  {m9 : Mem}  (hf : s_X4_takeBehindItem m  = some m9) : zCv MX l w yX4_takeBehindItem wsX4_takeBehindItem rmX4_takeBehindItem [.ref (w.2.1 9)] m m9 := by
  refine z_met_v MX_ok (own := RX4) (by decide +kernel) rfl rfl (Nat.le_of_ble_eq_true rfl) ?_
  intro K C hKw hKl hret
  subst hKw
  subst hKl
  unfold s_X4_takeBehindItem at hf
  show zGo MX K m [(0, .ref ((zw K).2.1 9))] 0 []
  refine z_aload_n C 0 dX4_takeBehindItem_0 rfl rfl ?_
  refine z_getr C (t := 10) (Nat.le_of_ble_eq_true rfl) rfl rfl 0 (Nat.le_of_ble_eq_true rfl) rfl kiX4_takeBehindItem_X4 kfX4_takeBehindItem_14 dX4_takeBehindItem_1 ?_
  refine z_geti C (Nat.le_of_ble_eq_true rfl) rfl rfl 2 (Nat.le_of_ble_eq_true rfl) rfl kiX4_takeBehindItem_X5 kfX4_takeBehindItem_54 dX4_takeBehindItem_4 ?_
  refine z_topi (fun x1 e_x1 => ?_)
  replace hf := bn_to e_x1 hf
  refine z_istore_n C (lv2 := [(0, .ref ((zw K).2.1 9)), (1, .int x1)]) [1, 0] dX4_takeBehindItem_7 rfl (Nat.le_of_ble_eq_true rfl) rfl ?_
  refine z_aload_n C 0 dX4_takeBehindItem_8 rfl rfl ?_
  refine z_geti C (Nat.le_of_ble_eq_true rfl) rfl rfl 3 (Nat.le_of_ble_eq_true rfl) rfl kiX4_takeBehindItem_X4 kfX4_takeBehindItem_36 dX4_takeBehindItem_9 ?_
  obtain ⟨y2, hg, hf⟩ := zb_el hf
  have hj : zGo MX K m [(0, .ref ((zw K).2.1 9)), (1, .int x1)] 45 [.int y2] := by
    refine z_istore_n C (lv2 := [(0, .ref ((zw K).2.1 9)), (1, .int x1), (2, .int y2)]) [1, 2, 0] dX4_takeBehindItem_45 rfl (Nat.le_of_ble_eq_true rfl) rfl ?_
    refine z_iload_n C 1 dX4_takeBehindItem_46 rfl rfl ?_
    refine z_bipush C (v := 44) dX4_takeBehindItem_47 rfl ?_
    refine z_icmp_eq (tgt := 68) C dX4_takeBehindItem_49 (by decide) (fun c52 => ?_) (fun c52 => ?_)
    · replace hf := if_t c52 hf
      refine z_aload_n C 0 dX4_takeBehindItem_68 rfl rfl ?_
      obtain ⟨m4, hc3, hf⟩ := zb_el hf
      refine z_cVv C (c_X4_settleComma _ _ hc3) rfl gX4_takeBehindItem_X4_settleComma rfl rfl zdX4_settleComma rfl (Nat.le_of_ble_eq_true rfl) rfl rfl rfl ⟨Nat.le_of_ble_eq_true rfl, Nat.le_of_ble_eq_true rfl⟩ (Nat.le_of_ble_eq_true rfl) dX4_takeBehindItem_69 rfl ?_
      refine z_iload_n C 1 dX4_takeBehindItem_72 rfl rfl ?_
      refine z_bipush C (v := 44) dX4_takeBehindItem_73 rfl ?_
      refine z_icmp_ne (tgt := 99) C dX4_takeBehindItem_75 (by decide) (fun c17 => ?_) (fun c17 => ?_)
      · replace hf := if_f c17 hf
        refine z_aload_n C 0 dX4_takeBehindItem_99 rfl rfl ?_
        obtain ⟨m6, hc5, hf⟩ := zb_el hf
        refine z_cVv C (c_X4_settleBar _ _ hc5) rfl gX4_takeBehindItem_X4_settleBar rfl rfl zdX4_settleBar rfl (Nat.le_of_ble_eq_true rfl) rfl rfl rfl ⟨Nat.le_of_ble_eq_true rfl, Nat.le_of_ble_eq_true rfl⟩ (Nat.le_of_ble_eq_true rfl) dX4_takeBehindItem_100 rfl ?_
        refine z_iload_n C 1 dX4_takeBehindItem_103 rfl rfl ?_
        refine z_bipush C (v := 124) dX4_takeBehindItem_104 rfl ?_
        refine z_icmp_ne (tgt := 132) C dX4_takeBehindItem_106 (by decide) (fun c14 => ?_) (fun c14 => ?_)
        · replace hf := if_f c14 hf
          refine z_iload_n C 1 dX4_takeBehindItem_132 rfl rfl ?_
          refine z_bipush C (v := 41) dX4_takeBehindItem_133 rfl ?_
          refine z_icmp_ne (tgt := 157) C dX4_takeBehindItem_135 (by decide) (fun c11 => ?_) (fun c11 => ?_)
          · replace hf := if_f c11 hf
            refine z_aload_n C 0 dX4_takeBehindItem_157 rfl rfl ?_
            obtain ⟨m8, hc7, hf⟩ := zb_el hf
            refine z_cVv C (c_X4_takeShapeEnd _ _ hc7) rfl gX4_takeBehindItem_X4_takeShapeEnd rfl rfl zdX4_takeShapeEnd rfl (Nat.le_of_ble_eq_true rfl) rfl rfl rfl ⟨Nat.le_of_ble_eq_true rfl, Nat.le_of_ble_eq_true rfl⟩ (Nat.le_of_ble_eq_true rfl) dX4_takeBehindItem_158 rfl ?_
            cases hf
            exact hret _ _ dX4_takeBehindItem_161
          · replace hf := if_t c11 hf
            refine z_aload_n C 0 dX4_takeBehindItem_138 rfl rfl ?_
            refine z_dup_a C dX4_takeBehindItem_139 ?_
            refine z_geti C (Nat.le_of_ble_eq_true rfl) rfl rfl 3 (Nat.le_of_ble_eq_true rfl) rfl kiX4_takeBehindItem_X4 kfX4_takeBehindItem_36 dX4_takeBehindItem_140 ?_
            refine z_iconst C (v := 1) dX4_takeBehindItem_143 rfl ?_
            refine z_isub C dX4_takeBehindItem_144 ?_
            refine z_puti C (Nat.le_of_ble_eq_true rfl) rfl rfl 3 (Nat.le_of_ble_eq_true rfl) rfl kiX4_takeBehindItem_X4 kfX4_takeBehindItem_36 tyX4 tyX4_ok nmX4 rfl rfl dX4_takeBehindItem_145 ?_
            refine z_nm (fun m9 e_m9 => ?_)
            replace hf := bn_to e_m9 hf
            refine z_aload_n C 0 dX4_takeBehindItem_148 rfl rfl ?_
            refine z_bipush C (v := 8) dX4_takeBehindItem_149 rfl ?_
            refine z_puti C (Nat.le_of_ble_eq_true rfl) rfl rfl 2 (Nat.le_of_ble_eq_true rfl) rfl kiX4_takeBehindItem_X4 kfX4_takeBehindItem_32 tyX4 tyX4_ok nmX4 rfl rfl dX4_takeBehindItem_151 ?_
            refine z_nm (fun m10 e_m10 => ?_)
            replace hf := bn_to e_m10 hf
            refine z_goto (tgt := 161) C dX4_takeBehindItem_154 (by decide) ?_
            cases hf
            exact hret _ _ dX4_takeBehindItem_161
        · replace hf := if_t c14 hf
          refine z_aload_n C 0 dX4_takeBehindItem_109 rfl rfl ?_
          refine z_dup_a C dX4_takeBehindItem_110 ?_
          refine z_geti C (Nat.le_of_ble_eq_true rfl) rfl rfl 5 (Nat.le_of_ble_eq_true rfl) rfl kiX4_takeBehindItem_X4 kfX4_takeBehindItem_42 dX4_takeBehindItem_111 ?_
          refine z_iconst C (v := 1) dX4_takeBehindItem_114 rfl ?_
          refine z_aload_n C 0 dX4_takeBehindItem_115 rfl rfl ?_
          refine z_geti C (Nat.le_of_ble_eq_true rfl) rfl rfl 3 (Nat.le_of_ble_eq_true rfl) rfl kiX4_takeBehindItem_X4 kfX4_takeBehindItem_36 dX4_takeBehindItem_116 ?_
          refine z_ishl C dX4_takeBehindItem_119 ?_
          refine z_ior C dX4_takeBehindItem_120 ?_
          refine z_puti C (Nat.le_of_ble_eq_true rfl) rfl rfl 5 (Nat.le_of_ble_eq_true rfl) rfl kiX4_takeBehindItem_X4 kfX4_takeBehindItem_42 tyX4 tyX4_ok nmX4 rfl rfl dX4_takeBehindItem_121 ?_
          refine z_nm (fun m12 e_m12 => ?_)
          replace hf := bn_to e_m12 hf
          refine z_aload_n C 0 dX4_takeBehindItem_124 rfl rfl ?_
          refine z_iconst C (v := 3) dX4_takeBehindItem_125 rfl ?_
          refine z_puti C (Nat.le_of_ble_eq_true rfl) rfl rfl 2 (Nat.le_of_ble_eq_true rfl) rfl kiX4_takeBehindItem_X4 kfX4_takeBehindItem_32 tyX4 tyX4_ok nmX4 rfl rfl dX4_takeBehindItem_126 ?_
          refine z_nm (fun m13 e_m13 => ?_)
          replace hf := bn_to e_m13 hf
          refine z_goto (tgt := 161) C dX4_takeBehindItem_129 (by decide) ?_
          cases hf
          exact hret _ _ dX4_takeBehindItem_161
      · replace hf := if_t c17 hf
        refine z_aload_n C 0 dX4_takeBehindItem_78 rfl rfl ?_
        refine z_dup_a C dX4_takeBehindItem_79 ?_
        refine z_geti C (Nat.le_of_ble_eq_true rfl) rfl rfl 4 (Nat.le_of_ble_eq_true rfl) rfl kiX4_takeBehindItem_X4 kfX4_takeBehindItem_39 dX4_takeBehindItem_80 ?_
        refine z_iconst C (v := 1) dX4_takeBehindItem_83 rfl ?_
        refine z_aload_n C 0 dX4_takeBehindItem_84 rfl rfl ?_
        refine z_geti C (Nat.le_of_ble_eq_true rfl) rfl rfl 3 (Nat.le_of_ble_eq_true rfl) rfl kiX4_takeBehindItem_X4 kfX4_takeBehindItem_36 dX4_takeBehindItem_85 ?_
        refine z_ishl C dX4_takeBehindItem_88 ?_
        refine z_ior C dX4_takeBehindItem_89 ?_
        refine z_puti C (Nat.le_of_ble_eq_true rfl) rfl rfl 4 (Nat.le_of_ble_eq_true rfl) rfl kiX4_takeBehindItem_X4 kfX4_takeBehindItem_39 tyX4 tyX4_ok nmX4 rfl rfl dX4_takeBehindItem_90 ?_
        refine z_nm (fun m15 e_m15 => ?_)
        replace hf := bn_to e_m15 hf
        refine z_aload_n C 0 dX4_takeBehindItem_93 rfl rfl ?_
        refine z_iconst C (v := 3) dX4_takeBehindItem_94 rfl ?_
        refine z_puti C (Nat.le_of_ble_eq_true rfl) rfl rfl 2 (Nat.le_of_ble_eq_true rfl) rfl kiX4_takeBehindItem_X4 kfX4_takeBehindItem_32 tyX4 tyX4_ok nmX4 rfl rfl dX4_takeBehindItem_95 ?_
        refine z_nm (fun m16 e_m16 => ?_)
        replace hf := bn_to e_m16 hf
        cases hf
        exact hret _ _ dX4_takeBehindItem_98
    · replace hf := if_f c52 hf
      refine z_iload_n C 1 dX4_takeBehindItem_52 rfl rfl ?_
      refine z_bipush C (v := 124) dX4_takeBehindItem_53 rfl ?_
      refine z_icmp_eq (tgt := 68) C dX4_takeBehindItem_55 (by decide) (fun c51 => ?_) (fun c51 => ?_)
      · replace hf := if_t c51 hf
        refine z_aload_n C 0 dX4_takeBehindItem_68 rfl rfl ?_
        obtain ⟨m19, hc18, hf⟩ := zb_el hf
        refine z_cVv C (c_X4_settleComma _ _ hc18) rfl gX4_takeBehindItem_X4_settleComma rfl rfl zdX4_settleComma rfl (Nat.le_of_ble_eq_true rfl) rfl rfl rfl ⟨Nat.le_of_ble_eq_true rfl, Nat.le_of_ble_eq_true rfl⟩ (Nat.le_of_ble_eq_true rfl) dX4_takeBehindItem_69 rfl ?_
        refine z_iload_n C 1 dX4_takeBehindItem_72 rfl rfl ?_
        refine z_bipush C (v := 44) dX4_takeBehindItem_73 rfl ?_
        refine z_icmp_ne (tgt := 99) C dX4_takeBehindItem_75 (by decide) (fun c32 => ?_) (fun c32 => ?_)
        · replace hf := if_f c32 hf
          refine z_aload_n C 0 dX4_takeBehindItem_99 rfl rfl ?_
          obtain ⟨m21, hc20, hf⟩ := zb_el hf
          refine z_cVv C (c_X4_settleBar _ _ hc20) rfl gX4_takeBehindItem_X4_settleBar rfl rfl zdX4_settleBar rfl (Nat.le_of_ble_eq_true rfl) rfl rfl rfl ⟨Nat.le_of_ble_eq_true rfl, Nat.le_of_ble_eq_true rfl⟩ (Nat.le_of_ble_eq_true rfl) dX4_takeBehindItem_100 rfl ?_
          refine z_iload_n C 1 dX4_takeBehindItem_103 rfl rfl ?_
          refine z_bipush C (v := 124) dX4_takeBehindItem_104 rfl ?_
          refine z_icmp_ne (tgt := 132) C dX4_takeBehindItem_106 (by decide) (fun c29 => ?_) (fun c29 => ?_)
          · replace hf := if_f c29 hf
            refine z_iload_n C 1 dX4_takeBehindItem_132 rfl rfl ?_
            refine z_bipush C (v := 41) dX4_takeBehindItem_133 rfl ?_
            refine z_icmp_ne (tgt := 157) C dX4_takeBehindItem_135 (by decide) (fun c26 => ?_) (fun c26 => ?_)
            · replace hf := if_f c26 hf
              refine z_aload_n C 0 dX4_takeBehindItem_157 rfl rfl ?_
              obtain ⟨m23, hc22, hf⟩ := zb_el hf
              refine z_cVv C (c_X4_takeShapeEnd _ _ hc22) rfl gX4_takeBehindItem_X4_takeShapeEnd rfl rfl zdX4_takeShapeEnd rfl (Nat.le_of_ble_eq_true rfl) rfl rfl rfl ⟨Nat.le_of_ble_eq_true rfl, Nat.le_of_ble_eq_true rfl⟩ (Nat.le_of_ble_eq_true rfl) dX4_takeBehindItem_158 rfl ?_
              cases hf
              exact hret _ _ dX4_takeBehindItem_161
            · replace hf := if_t c26 hf
              refine z_aload_n C 0 dX4_takeBehindItem_138 rfl rfl ?_
              refine z_dup_a C dX4_takeBehindItem_139 ?_
              refine z_geti C (Nat.le_of_ble_eq_true rfl) rfl rfl 3 (Nat.le_of_ble_eq_true rfl) rfl kiX4_takeBehindItem_X4 kfX4_takeBehindItem_36 dX4_takeBehindItem_140 ?_
              refine z_iconst C (v := 1) dX4_takeBehindItem_143 rfl ?_
              refine z_isub C dX4_takeBehindItem_144 ?_
              refine z_puti C (Nat.le_of_ble_eq_true rfl) rfl rfl 3 (Nat.le_of_ble_eq_true rfl) rfl kiX4_takeBehindItem_X4 kfX4_takeBehindItem_36 tyX4 tyX4_ok nmX4 rfl rfl dX4_takeBehindItem_145 ?_
              refine z_nm (fun m24 e_m24 => ?_)
              replace hf := bn_to e_m24 hf
              refine z_aload_n C 0 dX4_takeBehindItem_148 rfl rfl ?_
              refine z_bipush C (v := 8) dX4_takeBehindItem_149 rfl ?_
              refine z_puti C (Nat.le_of_ble_eq_true rfl) rfl rfl 2 (Nat.le_of_ble_eq_true rfl) rfl kiX4_takeBehindItem_X4 kfX4_takeBehindItem_32 tyX4 tyX4_ok nmX4 rfl rfl dX4_takeBehindItem_151 ?_
              refine z_nm (fun m25 e_m25 => ?_)
              replace hf := bn_to e_m25 hf
              refine z_goto (tgt := 161) C dX4_takeBehindItem_154 (by decide) ?_
              cases hf
              exact hret _ _ dX4_takeBehindItem_161
          · replace hf := if_t c29 hf
            refine z_aload_n C 0 dX4_takeBehindItem_109 rfl rfl ?_
            refine z_dup_a C dX4_takeBehindItem_110 ?_
            refine z_geti C (Nat.le_of_ble_eq_true rfl) rfl rfl 5 (Nat.le_of_ble_eq_true rfl) rfl kiX4_takeBehindItem_X4 kfX4_takeBehindItem_42 dX4_takeBehindItem_111 ?_
            refine z_iconst C (v := 1) dX4_takeBehindItem_114 rfl ?_
            refine z_aload_n C 0 dX4_takeBehindItem_115 rfl rfl ?_
            refine z_geti C (Nat.le_of_ble_eq_true rfl) rfl rfl 3 (Nat.le_of_ble_eq_true rfl) rfl kiX4_takeBehindItem_X4 kfX4_takeBehindItem_36 dX4_takeBehindItem_116 ?_
            refine z_ishl C dX4_takeBehindItem_119 ?_
            refine z_ior C dX4_takeBehindItem_120 ?_
            refine z_puti C (Nat.le_of_ble_eq_true rfl) rfl rfl 5 (Nat.le_of_ble_eq_true rfl) rfl kiX4_takeBehindItem_X4 kfX4_takeBehindItem_42 tyX4 tyX4_ok nmX4 rfl rfl dX4_takeBehindItem_121 ?_
            refine z_nm (fun m27 e_m27 => ?_)
            replace hf := bn_to e_m27 hf
            refine z_aload_n C 0 dX4_takeBehindItem_124 rfl rfl ?_
            refine z_iconst C (v := 3) dX4_takeBehindItem_125 rfl ?_
            refine z_puti C (Nat.le_of_ble_eq_true rfl) rfl rfl 2 (Nat.le_of_ble_eq_true rfl) rfl kiX4_takeBehindItem_X4 kfX4_takeBehindItem_32 tyX4 tyX4_ok nmX4 rfl rfl dX4_takeBehindItem_126 ?_
            refine z_nm (fun m28 e_m28 => ?_)
            replace hf := bn_to e_m28 hf
            refine z_goto (tgt := 161) C dX4_takeBehindItem_129 (by decide) ?_
            cases hf
            exact hret _ _ dX4_takeBehindItem_161
        · replace hf := if_t c32 hf
          refine z_aload_n C 0 dX4_takeBehindItem_78 rfl rfl ?_
          refine z_dup_a C dX4_takeBehindItem_79 ?_
          refine z_geti C (Nat.le_of_ble_eq_true rfl) rfl rfl 4 (Nat.le_of_ble_eq_true rfl) rfl kiX4_takeBehindItem_X4 kfX4_takeBehindItem_39 dX4_takeBehindItem_80 ?_
          refine z_iconst C (v := 1) dX4_takeBehindItem_83 rfl ?_
          refine z_aload_n C 0 dX4_takeBehindItem_84 rfl rfl ?_
          refine z_geti C (Nat.le_of_ble_eq_true rfl) rfl rfl 3 (Nat.le_of_ble_eq_true rfl) rfl kiX4_takeBehindItem_X4 kfX4_takeBehindItem_36 dX4_takeBehindItem_85 ?_
          refine z_ishl C dX4_takeBehindItem_88 ?_
          refine z_ior C dX4_takeBehindItem_89 ?_
          refine z_puti C (Nat.le_of_ble_eq_true rfl) rfl rfl 4 (Nat.le_of_ble_eq_true rfl) rfl kiX4_takeBehindItem_X4 kfX4_takeBehindItem_39 tyX4 tyX4_ok nmX4 rfl rfl dX4_takeBehindItem_90 ?_
          refine z_nm (fun m30 e_m30 => ?_)
          replace hf := bn_to e_m30 hf
          refine z_aload_n C 0 dX4_takeBehindItem_93 rfl rfl ?_
          refine z_iconst C (v := 3) dX4_takeBehindItem_94 rfl ?_
          refine z_puti C (Nat.le_of_ble_eq_true rfl) rfl rfl 2 (Nat.le_of_ble_eq_true rfl) rfl kiX4_takeBehindItem_X4 kfX4_takeBehindItem_32 tyX4 tyX4_ok nmX4 rfl rfl dX4_takeBehindItem_95 ?_
          refine z_nm (fun m31 e_m31 => ?_)
          replace hf := bn_to e_m31 hf
          cases hf
          exact hret _ _ dX4_takeBehindItem_98
      · replace hf := if_f c51 hf
        refine z_iload_n C 2 dX4_takeBehindItem_58 rfl rfl ?_
        refine z_if_ne (tgt := 68) C dX4_takeBehindItem_59 (by decide) (fun c50 => ?_) (fun c50 => ?_)
        · replace hf := if_f c50 hf
          refine z_aload_n C 0 dX4_takeBehindItem_68 rfl rfl ?_
          obtain ⟨m34, hc33, hf⟩ := zb_el hf
          refine z_cVv C (c_X4_settleComma _ _ hc33) rfl gX4_takeBehindItem_X4_settleComma rfl rfl zdX4_settleComma rfl (Nat.le_of_ble_eq_true rfl) rfl rfl rfl ⟨Nat.le_of_ble_eq_true rfl, Nat.le_of_ble_eq_true rfl⟩ (Nat.le_of_ble_eq_true rfl) dX4_takeBehindItem_69 rfl ?_
          refine z_iload_n C 1 dX4_takeBehindItem_72 rfl rfl ?_
          refine z_bipush C (v := 44) dX4_takeBehindItem_73 rfl ?_
          refine z_icmp_ne (tgt := 99) C dX4_takeBehindItem_75 (by decide) (fun c47 => ?_) (fun c47 => ?_)
          · replace hf := if_f c47 hf
            refine z_aload_n C 0 dX4_takeBehindItem_99 rfl rfl ?_
            obtain ⟨m36, hc35, hf⟩ := zb_el hf
            refine z_cVv C (c_X4_settleBar _ _ hc35) rfl gX4_takeBehindItem_X4_settleBar rfl rfl zdX4_settleBar rfl (Nat.le_of_ble_eq_true rfl) rfl rfl rfl ⟨Nat.le_of_ble_eq_true rfl, Nat.le_of_ble_eq_true rfl⟩ (Nat.le_of_ble_eq_true rfl) dX4_takeBehindItem_100 rfl ?_
            refine z_iload_n C 1 dX4_takeBehindItem_103 rfl rfl ?_
            refine z_bipush C (v := 124) dX4_takeBehindItem_104 rfl ?_
            refine z_icmp_ne (tgt := 132) C dX4_takeBehindItem_106 (by decide) (fun c44 => ?_) (fun c44 => ?_)
            · replace hf := if_f c44 hf
              refine z_iload_n C 1 dX4_takeBehindItem_132 rfl rfl ?_
              refine z_bipush C (v := 41) dX4_takeBehindItem_133 rfl ?_
              refine z_icmp_ne (tgt := 157) C dX4_takeBehindItem_135 (by decide) (fun c41 => ?_) (fun c41 => ?_)
              · replace hf := if_f c41 hf
                refine z_aload_n C 0 dX4_takeBehindItem_157 rfl rfl ?_
                obtain ⟨m38, hc37, hf⟩ := zb_el hf
                refine z_cVv C (c_X4_takeShapeEnd _ _ hc37) rfl gX4_takeBehindItem_X4_takeShapeEnd rfl rfl zdX4_takeShapeEnd rfl (Nat.le_of_ble_eq_true rfl) rfl rfl rfl ⟨Nat.le_of_ble_eq_true rfl, Nat.le_of_ble_eq_true rfl⟩ (Nat.le_of_ble_eq_true rfl) dX4_takeBehindItem_158 rfl ?_
                cases hf
                exact hret _ _ dX4_takeBehindItem_161
              · replace hf := if_t c41 hf
                refine z_aload_n C 0 dX4_takeBehindItem_138 rfl rfl ?_
                refine z_dup_a C dX4_takeBehindItem_139 ?_
                refine z_geti C (Nat.le_of_ble_eq_true rfl) rfl rfl 3 (Nat.le_of_ble_eq_true rfl) rfl kiX4_takeBehindItem_X4 kfX4_takeBehindItem_36 dX4_takeBehindItem_140 ?_
                refine z_iconst C (v := 1) dX4_takeBehindItem_143 rfl ?_
                refine z_isub C dX4_takeBehindItem_144 ?_
                refine z_puti C (Nat.le_of_ble_eq_true rfl) rfl rfl 3 (Nat.le_of_ble_eq_true rfl) rfl kiX4_takeBehindItem_X4 kfX4_takeBehindItem_36 tyX4 tyX4_ok nmX4 rfl rfl dX4_takeBehindItem_145 ?_
                refine z_nm (fun m39 e_m39 => ?_)
                replace hf := bn_to e_m39 hf
                refine z_aload_n C 0 dX4_takeBehindItem_148 rfl rfl ?_
                refine z_bipush C (v := 8) dX4_takeBehindItem_149 rfl ?_
                refine z_puti C (Nat.le_of_ble_eq_true rfl) rfl rfl 2 (Nat.le_of_ble_eq_true rfl) rfl kiX4_takeBehindItem_X4 kfX4_takeBehindItem_32 tyX4 tyX4_ok nmX4 rfl rfl dX4_takeBehindItem_151 ?_
                refine z_nm (fun m40 e_m40 => ?_)
                replace hf := bn_to e_m40 hf
                refine z_goto (tgt := 161) C dX4_takeBehindItem_154 (by decide) ?_
                cases hf
                exact hret _ _ dX4_takeBehindItem_161
            · replace hf := if_t c44 hf
              refine z_aload_n C 0 dX4_takeBehindItem_109 rfl rfl ?_
              refine z_dup_a C dX4_takeBehindItem_110 ?_
              refine z_geti C (Nat.le_of_ble_eq_true rfl) rfl rfl 5 (Nat.le_of_ble_eq_true rfl) rfl kiX4_takeBehindItem_X4 kfX4_takeBehindItem_42 dX4_takeBehindItem_111 ?_
              refine z_iconst C (v := 1) dX4_takeBehindItem_114 rfl ?_
              refine z_aload_n C 0 dX4_takeBehindItem_115 rfl rfl ?_
              refine z_geti C (Nat.le_of_ble_eq_true rfl) rfl rfl 3 (Nat.le_of_ble_eq_true rfl) rfl kiX4_takeBehindItem_X4 kfX4_takeBehindItem_36 dX4_takeBehindItem_116 ?_
              refine z_ishl C dX4_takeBehindItem_119 ?_
              refine z_ior C dX4_takeBehindItem_120 ?_
              refine z_puti C (Nat.le_of_ble_eq_true rfl) rfl rfl 5 (Nat.le_of_ble_eq_true rfl) rfl kiX4_takeBehindItem_X4 kfX4_takeBehindItem_42 tyX4 tyX4_ok nmX4 rfl rfl dX4_takeBehindItem_121 ?_
              refine z_nm (fun m42 e_m42 => ?_)
              replace hf := bn_to e_m42 hf
              refine z_aload_n C 0 dX4_takeBehindItem_124 rfl rfl ?_
              refine z_iconst C (v := 3) dX4_takeBehindItem_125 rfl ?_
              refine z_puti C (Nat.le_of_ble_eq_true rfl) rfl rfl 2 (Nat.le_of_ble_eq_true rfl) rfl kiX4_takeBehindItem_X4 kfX4_takeBehindItem_32 tyX4 tyX4_ok nmX4 rfl rfl dX4_takeBehindItem_126 ?_
              refine z_nm (fun m43 e_m43 => ?_)
              replace hf := bn_to e_m43 hf
              refine z_goto (tgt := 161) C dX4_takeBehindItem_129 (by decide) ?_
              cases hf
              exact hret _ _ dX4_takeBehindItem_161
          · replace hf := if_t c47 hf
            refine z_aload_n C 0 dX4_takeBehindItem_78 rfl rfl ?_
            refine z_dup_a C dX4_takeBehindItem_79 ?_
            refine z_geti C (Nat.le_of_ble_eq_true rfl) rfl rfl 4 (Nat.le_of_ble_eq_true rfl) rfl kiX4_takeBehindItem_X4 kfX4_takeBehindItem_39 dX4_takeBehindItem_80 ?_
            refine z_iconst C (v := 1) dX4_takeBehindItem_83 rfl ?_
            refine z_aload_n C 0 dX4_takeBehindItem_84 rfl rfl ?_
            refine z_geti C (Nat.le_of_ble_eq_true rfl) rfl rfl 3 (Nat.le_of_ble_eq_true rfl) rfl kiX4_takeBehindItem_X4 kfX4_takeBehindItem_36 dX4_takeBehindItem_85 ?_
            refine z_ishl C dX4_takeBehindItem_88 ?_
            refine z_ior C dX4_takeBehindItem_89 ?_
            refine z_puti C (Nat.le_of_ble_eq_true rfl) rfl rfl 4 (Nat.le_of_ble_eq_true rfl) rfl kiX4_takeBehindItem_X4 kfX4_takeBehindItem_39 tyX4 tyX4_ok nmX4 rfl rfl dX4_takeBehindItem_90 ?_
            refine z_nm (fun m45 e_m45 => ?_)
            replace hf := bn_to e_m45 hf
            refine z_aload_n C 0 dX4_takeBehindItem_93 rfl rfl ?_
            refine z_iconst C (v := 3) dX4_takeBehindItem_94 rfl ?_
            refine z_puti C (Nat.le_of_ble_eq_true rfl) rfl rfl 2 (Nat.le_of_ble_eq_true rfl) rfl kiX4_takeBehindItem_X4 kfX4_takeBehindItem_32 tyX4 tyX4_ok nmX4 rfl rfl dX4_takeBehindItem_95 ?_
            refine z_nm (fun m46 e_m46 => ?_)
            replace hf := bn_to e_m46 hf
            cases hf
            exact hret _ _ dX4_takeBehindItem_98
        · replace hf := if_t c50 hf
          refine z_aload_n C 0 dX4_takeBehindItem_62 rfl rfl ?_
          refine z_iconst C (v := 2) dX4_takeBehindItem_63 rfl ?_
          obtain ⟨m49, hc48, hf⟩ := zb_el hf
          refine z_cVv C (c_X4_fail _ _ hc48) rfl gX4_takeBehindItem_X4_fail rfl rfl zdX4_fail rfl (Nat.le_of_ble_eq_true rfl) rfl rfl rfl ⟨Nat.le_of_ble_eq_true rfl, Nat.le_of_ble_eq_true rfl⟩ (Nat.le_of_ble_eq_true rfl) dX4_takeBehindItem_64 rfl ?_
          cases hf
          exact hret _ _ dX4_takeBehindItem_67
  replace hf := hg
  clear hg
  refine z_if_le (tgt := 29) C dX4_takeBehindItem_12 (by decide) (fun c56 => ?_) (fun c56 => ?_)
  · replace hf := if_t c56 hf
    refine z_iload_n C 1 dX4_takeBehindItem_29 rfl rfl ?_
    refine z_bipush C (v := 59) dX4_takeBehindItem_30 rfl ?_
    refine z_icmp_eq (tgt := 40) C dX4_takeBehindItem_32 (by decide) (fun c54 => ?_) (fun c54 => ?_)
    · replace hf := if_t c54 hf
      refine z_iconst C (v := 1) dX4_takeBehindItem_40 rfl ?_
      refine z_goto (tgt := 45) C dX4_takeBehindItem_41 (by decide) ?_
      cases hf
      exact z_sub [0, 1] rfl hj
    · replace hf := if_f c54 hf
      refine z_iload_n C 1 dX4_takeBehindItem_35 rfl rfl ?_
      refine z_iconst C (v := 4) dX4_takeBehindItem_36 rfl ?_
      refine z_icmp_ne (tgt := 44) C dX4_takeBehindItem_37 (by decide) (fun c53 => ?_) (fun c53 => ?_)
      · replace hf := if_f c53 hf
        refine z_iconst C (v := 0) dX4_takeBehindItem_44 rfl ?_
        cases hf
        exact z_sub [0, 1] rfl hj
      · replace hf := if_t c53 hf
        refine z_iconst C (v := 1) dX4_takeBehindItem_40 rfl ?_
        refine z_goto (tgt := 45) C dX4_takeBehindItem_41 (by decide) ?_
        cases hf
        exact z_sub [0, 1] rfl hj
  · replace hf := if_f c56 hf
    refine z_iload_n C 1 dX4_takeBehindItem_15 rfl rfl ?_
    refine z_bipush C (v := 41) dX4_takeBehindItem_16 rfl ?_
    refine z_icmp_ne (tgt := 25) C dX4_takeBehindItem_18 (by decide) (fun c55 => ?_) (fun c55 => ?_)
    · replace hf := if_f c55 hf
      refine z_iconst C (v := 0) dX4_takeBehindItem_25 rfl ?_
      refine z_goto (tgt := 45) C dX4_takeBehindItem_26 (by decide) ?_
      cases hf
      exact z_sub [0, 1] rfl hj
    · replace hf := if_t c55 hf
      refine z_iconst C (v := 1) dX4_takeBehindItem_21 rfl ?_
      refine z_goto (tgt := 45) C dX4_takeBehindItem_22 (by decide) ?_
      cases hf
      exact z_sub [0, 1] rfl hj
def rmX4_takeBehindOne : Room := { frames := 4, cells := 0, slots := 0, locals := 85 }
theorem zdX4_takeBehindOne : yX4_takeBehindOne.cls = RX4 ∧ yX4_takeBehindOne.cls ≠ "java/lang/invoke/MethodHandle" ∧ yX4_takeBehindOne.cls ≠ "java/lang/invoke/VarHandle" ∧ (parseMethodDescriptor yX4_takeBehindOne.desc).map (fun d => d.parameters.length) = some 0 := by decide +kernel
theorem kiX4_takeBehindOne_X4 : ∀ w ∈ wsX40, w ∈ wsX4_takeBehindOne := by decide +kernel
theorem kfX4_takeBehindOne_14 : Cond.fieldLink RX4 14 "ShapeJudge$TextReader" "tokens" "LShapeJudge$Tokens;" ∈ wsX4_takeBehindOne := by decide +kernel
theorem kiX4_takeBehindOne_X5 : ∀ w ∈ wsX50, w ∈ wsX4_takeBehindOne := by decide +kernel
theorem kfX4_takeBehindOne_54 : Cond.fieldLink RX4 54 "ShapeJudge$Tokens" "kind" "I" ∈ wsX4_takeBehindOne := by decide +kernel
theorem kfX4_takeBehindOne_32 : Cond.fieldLink RX4 32 "ShapeJudge$TextReader" "state" "I" ∈ wsX4_takeBehindOne := by decide +kernel
def s_X4_takeBehindOne (m : Mem)  : Option (Mem) :=
  (if (m 10 2) = 91 then (bn (sto m 9 2 9) fun m3 => some m3) else ((s_X4_takeBehindItem m).bind fun m2 => some m2))
set_option maxRecDepth 100000 in
set_option maxHeartbeats 4000000 in
theorem c_X4_takeBehindOne (l : Launch) (w : ZW) {m : Mem}  {m9 : Mem}  (hf : s_X4_takeBehindOne m  = some m9) : zCv MX l w yX4_takeBehindOne wsX4_takeBehindOne rmX4_takeBehindOne [.ref (w.2.1 9)] m m9 := by
  refine z_met_v MX_ok (own := RX4) (by decide +kernel) rfl rfl (Nat.le_of_ble_eq_true rfl) ?_
  intro K C hKw hKl hret
  subst hKw
  subst hKl
  unfold s_X4_takeBehindOne at hf
  show zGo MX K m [(0, .ref ((zw K).2.1 9))] 0 []
  refine z_aload_n C 0 dX4_takeBehindOne_0 rfl rfl ?_
  refine z_getr C (t := 10) (Nat.le_of_ble_eq_true rfl) rfl rfl 0 (Nat.le_of_ble_eq_true rfl) rfl kiX4_takeBehindOne_X4 kfX4_takeBehindOne_14 dX4_takeBehindOne_1 ?_
  refine z_geti C (Nat.le_of_ble_eq_true rfl) rfl rfl 2 (Nat.le_of_ble_eq_true rfl) rfl kiX4_takeBehindOne_X5 kfX4_takeBehindOne_54 dX4_takeBehindOne_4 ?_
  refine z_bipush C (v := 91) dX4_takeBehindOne_7 rfl ?_
  refine z_icmp_ne (tgt := 21) C dX4_takeBehindOne_9 (by decide) (fun c4 => ?_) (fun c4 => ?_)
  · replace hf := if_f c4 hf
    refine z_aload_n C 0 dX4_takeBehindOne_21 rfl rfl ?_
    obtain ⟨m2, hc1, hf⟩ := zb_el hf
    refine z_cVv C (c_X4_takeBehindItem _ _ hc1) rfl gX4_takeBehindOne_X4_takeBehindItem rfl rfl zdX4_takeBehindItem rfl (Nat.le_of_ble_eq_true rfl) rfl rfl rfl ⟨Nat.le_of_ble_eq_true rfl, Nat.le_of_ble_eq_true rfl⟩ (Nat.le_of_ble_eq_true rfl) dX4_takeBehindOne_22 rfl ?_
    cases hf
    exact hret _ _ dX4_takeBehindOne_25
  · replace hf := if_t c4 hf
    refine z_aload_n C 0 dX4_takeBehindOne_12 rfl rfl ?_
    refine z_bipush C (v := 9) dX4_takeBehindOne_13 rfl ?_
    refine z_puti C (Nat.le_of_ble_eq_true rfl) rfl rfl 2 (Nat.le_of_ble_eq_true rfl) rfl kiX4_takeBehindOne_X4 kfX4_takeBehindOne_32 tyX4 tyX4_ok nmX4 rfl rfl dX4_takeBehindOne_15 ?_
    refine z_nm (fun m3 e_m3 => ?_)
    replace hf := bn_to e_m3 hf
    refine z_goto (tgt := 25) C dX4_takeBehindOne_18 (by decide) ?_
    cases hf
    exact hret _ _ dX4_takeBehindOne_25
def rmX4_takeLeast : Room := { frames := 2, cells := 0, slots := 0, locals := 43 }
theorem zdX4_takeLeast : yX4_takeLeast.cls = RX4 ∧ yX4_takeLeast.cls ≠ "java/lang/invoke/MethodHandle" ∧ yX4_takeLeast.cls ≠ "java/lang/invoke/VarHandle" ∧ (parseMethodDescriptor yX4_takeLeast.desc).map (fun d => d.parameters.length) = some 0 := by decide +kernel
theorem kiX4_takeLeast_X4 : ∀ w ∈ wsX40, w ∈ wsX4_takeLeast := by decide +kernel
theorem kfX4_takeLeast_14 : Cond.fieldLink RX4 14 "ShapeJudge$TextReader" "tokens" "LShapeJudge$Tokens;" ∈ wsX4_takeLeast := by decide +kernel
theorem kiX4_takeLeast_X5 : ∀ w ∈ wsX50, w ∈ wsX4_takeLeast := by decide +kernel
theorem kfX4_takeLeast_107 : Cond.fieldLink RX4 107 "ShapeJudge$Tokens" "number" "I" ∈ wsX4_takeLeast := by decide +kernel
theorem kfX4_takeLeast_140 : Cond.fieldLink RX4 140 "ShapeJudge$TextReader" "firstNumber" "I" ∈ wsX4_takeLeast := by decide +kernel
theorem kfX4_takeLeast_32 : Cond.fieldLink RX4 32 "ShapeJudge$TextReader" "state" "I" ∈ wsX4_takeLeast := by decide +kernel
def s_X4_takeLeast (m : Mem)  : Option (Mem) :=
  zb2 (s_X4_isNumberFrom m 0 5) fun r2 m3 => (if r2 = 0 then (some m3) else (bn (sto m3 9 7 (m3 10 4)) fun m4 => bn (sto m4 9 2 10) fun m5 => some m5))
set_option maxRecDepth 100000 in
set_option maxHeartbeats 4000000 in
theorem c_X4_takeLeast (l : Launch) (w : ZW) {m : Mem}  {m9 : Mem}  (hf : s_X4_takeLeast m  = some m9) : zCv MX l w yX4_takeLeast wsX4_takeLeast rmX4_takeLeast [.ref (w.2.1 9)] m m9 := by
  refine z_met_v MX_ok (own := RX4) (by decide +kernel) rfl rfl (Nat.le_of_ble_eq_true rfl) ?_
  intro K C hKw hKl hret
  subst hKw
  subst hKl
  unfold s_X4_takeLeast at hf
  show zGo MX K m [(0, .ref ((zw K).2.1 9))] 0 []
  refine z_aload_n C 0 dX4_takeLeast_0 rfl rfl ?_
  refine z_iconst C (v := 0) dX4_takeLeast_1 rfl ?_
  refine z_iconst C (v := 5) dX4_takeLeast_2 rfl ?_
  obtain ⟨r2, m3, hc1, hf⟩ := zb2_el hf
  refine z_cVi C (c_X4_isNumberFrom _ _ hc1) rfl gX4_takeLeast_X4_isNumberFrom rfl rfl zdX4_isNumberFrom rfl (Nat.le_of_ble_eq_true rfl) rfl rfl rfl ⟨Nat.le_of_ble_eq_true rfl, Nat.le_of_ble_eq_true rfl⟩ (Nat.le_of_ble_eq_true rfl) dX4_takeLeast_3 rfl ?_
  refine z_if_eq (tgt := 26) C dX4_takeLeast_6 (by decide) (fun c6 => ?_) (fun c6 => ?_)
  · replace hf := if_t c6 hf
    cases hf
    exact hret _ _ dX4_takeLeast_26
  · replace hf := if_f c6 hf
    refine z_aload_n C 0 dX4_takeLeast_9 rfl rfl ?_
    refine z_aload_n C 0 dX4_takeLeast_10 rfl rfl ?_
    refine z_getr C (t := 10) (Nat.le_of_ble_eq_true rfl) rfl rfl 0 (Nat.le_of_ble_eq_true rfl) rfl kiX4_takeLeast_X4 kfX4_takeLeast_14 dX4_takeLeast_11 ?_
    refine z_geti C (Nat.le_of_ble_eq_true rfl) rfl rfl 4 (Nat.le_of_ble_eq_true rfl) rfl kiX4_takeLeast_X5 kfX4_takeLeast_107 dX4_takeLeast_14 ?_
    refine z_puti C (Nat.le_of_ble_eq_true rfl) rfl rfl 7 (Nat.le_of_ble_eq_true rfl) rfl kiX4_takeLeast_X4 kfX4_takeLeast_140 tyX4 tyX4_ok nmX4 rfl rfl dX4_takeLeast_17 ?_
    refine z_nm (fun m4 e_m4 => ?_)
    replace hf := bn_to e_m4 hf
    refine z_aload_n C 0 dX4_takeLeast_20 rfl rfl ?_
    refine z_bipush C (v := 10) dX4_takeLeast_21 rfl ?_
    refine z_puti C (Nat.le_of_ble_eq_true rfl) rfl rfl 2 (Nat.le_of_ble_eq_true rfl) rfl kiX4_takeLeast_X4 kfX4_takeLeast_32 tyX4 tyX4_ok nmX4 rfl rfl dX4_takeLeast_23 ?_
    refine z_nm (fun m5 e_m5 => ?_)
    replace hf := bn_to e_m5 hf
    cases hf
    exact hret _ _ dX4_takeLeast_26
def rmX4_takeMost : Room := { frames := 2, cells := 0, slots := 0, locals := 43 }
theorem zdX4_takeMost : yX4_takeMost.cls = RX4 ∧ yX4_takeMost.cls ≠ "java/lang/invoke/MethodHandle" ∧ yX4_takeMost.cls ≠ "java/lang/invoke/VarHandle" ∧ (parseMethodDescriptor yX4_takeMost.desc).map (fun d => d.parameters.length) = some 0 := by decide +kernel
theorem kiX4_takeMost_X4 : ∀ w ∈ wsX40, w ∈ wsX4_takeMost := by decide +kernel
theorem kfX4_takeMost_140 : Cond.fieldLink RX4 140 "ShapeJudge$TextReader" "firstNumber" "I" ∈ wsX4_takeMost := by decide +kernel
theorem kfX4_takeMost_20 : Cond.fieldLink RX4 20 "ShapeJudge$TextReader" "book" "LShapeJudge$Book;" ∈ wsX4_takeMost := by decide +kernel
theorem kfX4_takeMost_14 : Cond.fieldLink RX4 14 "ShapeJudge$TextReader" "tokens" "LShapeJudge$Tokens;" ∈ wsX4_takeMost := by decide +kernel
theorem kiX4_takeMost_X5 : ∀ w ∈ wsX50, w ∈ wsX4_takeMost := by decide +kernel
theorem kfX4_takeMost_107 : Cond.fieldLink RX4 107 "ShapeJudge$Tokens" "number" "I" ∈ wsX4_takeMost := by decide +kernel
theorem kfX4_takeMost_32 : Cond.fieldLink RX4 32 "ShapeJudge$TextReader" "state" "I" ∈ wsX4_takeMost := by decide +kernel
def s_X4_takeMost (m : Mem)  : Option (Mem) :=
  zb2 (s_X4_isNumberFrom m (m 9 7) 5) fun r2 m3 => (if r2 = 0 then (some m3) else (zbk (m3 9 1) fun b4 => (s_X0_addStep m3 b4 1 (((m3 9 7) * 8) + (m3 10 4))).bind fun m6 => bn (sto m6 9 2 11) fun m7 => some m7))
set_option maxRecDepth 100000 in
set_option maxHeartbeats 4000000 in
theorem c_X4_takeMost (l : Launch) (w : ZW) {m : Mem}  {m9 : Mem}  (hf : s_X4_takeMost m  = some m9) : zCv MX l w yX4_takeMost wsX4_takeMost rmX4_takeMost [.ref (w.2.1 9)] m m9 := by
  refine z_met_v MX_ok (own := RX4) (by decide +kernel) rfl rfl (Nat.le_of_ble_eq_true rfl) ?_
  intro K C hKw hKl hret
  subst hKw
  subst hKl
  unfold s_X4_takeMost at hf
  show zGo MX K m [(0, .ref ((zw K).2.1 9))] 0 []
  refine z_aload_n C 0 dX4_takeMost_0 rfl rfl ?_
  refine z_aload_n C 0 dX4_takeMost_1 rfl rfl ?_
  refine z_geti C (Nat.le_of_ble_eq_true rfl) rfl rfl 7 (Nat.le_of_ble_eq_true rfl) rfl kiX4_takeMost_X4 kfX4_takeMost_140 dX4_takeMost_2 ?_
  refine z_iconst C (v := 5) dX4_takeMost_5 rfl ?_
  obtain ⟨r2, m3, hc1, hf⟩ := zb2_el hf
  refine z_cVi C (c_X4_isNumberFrom _ _ hc1) rfl gX4_takeMost_X4_isNumberFrom rfl rfl zdX4_isNumberFrom rfl (Nat.le_of_ble_eq_true rfl) rfl rfl rfl ⟨Nat.le_of_ble_eq_true rfl, Nat.le_of_ble_eq_true rfl⟩ (Nat.le_of_ble_eq_true rfl) dX4_takeMost_6 rfl ?_
  refine z_if_eq (tgt := 41) C dX4_takeMost_9 (by decide) (fun c8 => ?_) (fun c8 => ?_)
  · replace hf := if_t c8 hf
    cases hf
    exact hret _ _ dX4_takeMost_41
  · replace hf := if_f c8 hf
    refine z_aload_n C 0 dX4_takeMost_12 rfl rfl ?_
    obtain ⟨b4, hb4, e_b4, hf⟩ := zbk_el hf
    refine z_getb C (b := b4) (Nat.le_of_ble_eq_true rfl) rfl rfl 1 (Nat.le_of_ble_eq_true rfl) rfl kiX4_takeMost_X4 kfX4_takeMost_20 (isb_lt hb4) e_b4 dX4_takeMost_13 ?_
    refine z_iconst C (v := 1) dX4_takeMost_16 rfl ?_
    refine z_aload_n C 0 dX4_takeMost_17 rfl rfl ?_
    refine z_geti C (Nat.le_of_ble_eq_true rfl) rfl rfl 7 (Nat.le_of_ble_eq_true rfl) rfl kiX4_takeMost_X4 kfX4_takeMost_140 dX4_takeMost_18 ?_
    refine z_bipush C (v := 8) dX4_takeMost_21 rfl ?_
    refine z_imul C dX4_takeMost_23 ?_
    refine z_aload_n C 0 dX4_takeMost_24 rfl rfl ?_
    refine z_getr C (t := 10) (Nat.le_of_ble_eq_true rfl) rfl rfl 0 (Nat.le_of_ble_eq_true rfl) rfl kiX4_takeMost_X4 kfX4_takeMost_14 dX4_takeMost_25 ?_
    refine z_geti C (Nat.le_of_ble_eq_true rfl) rfl rfl 4 (Nat.le_of_ble_eq_true rfl) rfl kiX4_takeMost_X5 kfX4_takeMost_107 dX4_takeMost_28 ?_
    refine z_iadd C dX4_takeMost_31 ?_
    obtain ⟨m6, hc5, hf⟩ := zb_el hf
    refine z_cVv C (c_X0_addStep _ _ hb4 hc5) rfl gX4_takeMost_X0_addStep rfl rfl zdX0_addStep rfl (isb_k0 hb4) (isb_L0 hb4) rfl rfl ⟨Nat.le_of_ble_eq_true rfl, Nat.le_of_ble_eq_true rfl⟩ (Nat.le_of_ble_eq_true rfl) dX4_takeMost_32 rfl ?_
    refine z_aload_n C 0 dX4_takeMost_35 rfl rfl ?_
    refine z_bipush C (v := 11) dX4_takeMost_36 rfl ?_
    refine z_puti C (Nat.le_of_ble_eq_true rfl) rfl rfl 2 (Nat.le_of_ble_eq_true rfl) rfl kiX4_takeMost_X4 kfX4_takeMost_32 tyX4 tyX4_ok nmX4 rfl rfl dX4_takeMost_38 ?_
    refine z_nm (fun m7 e_m7 => ?_)
    replace hf := bn_to e_m7 hf
    cases hf
    exact hret _ _ dX4_takeMost_41
def rmX4_takeToken : Room := { frames := 5, cells := 0, slots := 0, locals := 106 }
theorem zdX4_takeToken : yX4_takeToken.cls = RX4 ∧ yX4_takeToken.cls ≠ "java/lang/invoke/MethodHandle" ∧ yX4_takeToken.cls ≠ "java/lang/invoke/VarHandle" ∧ (parseMethodDescriptor yX4_takeToken.desc).map (fun d => d.parameters.length) = some 0 := by decide +kernel
theorem kiX4_takeToken_X4 : ∀ w ∈ wsX40, w ∈ wsX4_takeToken := by decide +kernel
theorem kfX4_takeToken_32 : Cond.fieldLink RX4 32 "ShapeJudge$TextReader" "state" "I" ∈ wsX4_takeToken := by decide +kernel
def s_X4_takeToken (m : Mem)  : Option (Mem) :=
  (if (m 9 2) = 0 then ((s_X4_takeShapeWord m).bind fun m3 => some m3) else ((if (m 9 2) = 1 then ((s_X4_takeSign m 61 2).bind fun m6 => some m6) else ((if (m 9 2) = 2 then ((s_X4_takeBody m).bind fun m9 => some m9) else ((if (m 9 2) = 3 then ((s_X4_takeOne m).bind fun m12 => some m12) else ((if (m 9 2) = 4 then ((s_X4_takeTest m).bind fun m15 => some m15) else ((if (m 9 2) = 5 then ((s_X4_takeReference m).bind fun m18 => some m18) else ((if (m 9 2) = 6 then ((s_X4_takeSign m 5 7).bind fun m21 => some m21) else ((if (m 9 2) = 7 then ((s_X4_takeLastNumber m).bind fun m24 => some m24) else ((if (m 9 2) = 8 then ((s_X4_takeBehindOne m).bind fun m27 => some m27) else ((if (m 9 2) = 9 then ((s_X4_takeLeast m).bind fun m30 => some m30) else ((if (m 9 2) = 10 then ((s_X4_takeMost m).bind fun m33 => some m33) else ((if (m 9 2) = 11 then ((s_X4_takeSign m 93 12).bind fun m36 => some m36) else ((if (m 9 2) = 12 then ((s_X4_takeBehindItem m).bind fun m39 => some m39) else ((s_X4_takeSign m 59 0).bind fun m41 => some m41))))))))))))))))))))))))))
set_option maxRecDepth 100000 in
set_option maxHeartbeats 4000000 in
theorem c_X4_takeToken (l : Launch) (w : ZW) {m : Mem}  {m9 : Mem}  (hf : s_X4_takeToken m  = some m9) : zCv MX l w yX4_takeToken wsX4_takeToken rmX4_takeToken [.ref (w.2.1 9)] m m9 := by
  refine z_met_v MX_ok (own := RX4) (by decide +kernel) rfl rfl (Nat.le_of_ble_eq_true rfl) ?_
  intro K C hKw hKl hret
  subst hKw
  subst hKl
  unfold s_X4_takeToken at hf
  show zGo MX K m [(0, .ref ((zw K).2.1 9))] 0 []
  refine z_aload_n C 0 dX4_takeToken_0 rfl rfl ?_
  refine z_geti C (Nat.le_of_ble_eq_true rfl) rfl rfl 2 (Nat.le_of_ble_eq_true rfl) rfl kiX4_takeToken_X4 kfX4_takeToken_32 dX4_takeToken_1 ?_
  refine zby (c := (m 9 2) = 0) (fun c1 => ?_) (fun c1 => ?_)
  · replace hf := if_t c1 hf
    refine z_tab (v := 0) (tgt := 72) (off := 68) C c1 dX4_takeToken_4 (by decide) (by decide) rfl (by decide) ?_
    refine z_aload_n C 0 dX4_takeToken_72 rfl rfl ?_
    obtain ⟨m3, hc2, hf⟩ := zb_el hf
    refine z_cVv C (c_X4_takeShapeWord _ _ hc2) rfl gX4_takeToken_X4_takeShapeWord rfl rfl zdX4_takeShapeWord rfl (Nat.le_of_ble_eq_true rfl) rfl rfl rfl ⟨Nat.le_of_ble_eq_true rfl, Nat.le_of_ble_eq_true rfl⟩ (Nat.le_of_ble_eq_true rfl) dX4_takeToken_73 rfl ?_
    refine z_goto (tgt := 180) C dX4_takeToken_76 (by decide) ?_
    cases hf
    exact hret _ _ dX4_takeToken_180
  · replace hf := if_f c1 hf
    refine zby (c := (m 9 2) = 1) (fun c4 => ?_) (fun c4 => ?_)
    · replace hf := if_t c4 hf
      refine z_tab (v := 1) (tgt := 79) (off := 75) C c4 dX4_takeToken_4 (by decide) (by decide) rfl (by decide) ?_
      refine z_aload_n C 0 dX4_takeToken_79 rfl rfl ?_
      refine z_bipush C (v := 61) dX4_takeToken_80 rfl ?_
      refine z_iconst C (v := 2) dX4_takeToken_82 rfl ?_
      obtain ⟨m6, hc5, hf⟩ := zb_el hf
      refine z_cVv C (c_X4_takeSign _ _ hc5) rfl gX4_takeToken_X4_takeSign rfl rfl zdX4_takeSign rfl (Nat.le_of_ble_eq_true rfl) rfl rfl rfl ⟨Nat.le_of_ble_eq_true rfl, Nat.le_of_ble_eq_true rfl⟩ (Nat.le_of_ble_eq_true rfl) dX4_takeToken_83 rfl ?_
      refine z_goto (tgt := 180) C dX4_takeToken_86 (by decide) ?_
      cases hf
      exact hret _ _ dX4_takeToken_180
    · replace hf := if_f c4 hf
      refine zby (c := (m 9 2) = 2) (fun c7 => ?_) (fun c7 => ?_)
      · replace hf := if_t c7 hf
        refine z_tab (v := 2) (tgt := 89) (off := 85) C c7 dX4_takeToken_4 (by decide) (by decide) rfl (by decide) ?_
        refine z_aload_n C 0 dX4_takeToken_89 rfl rfl ?_
        obtain ⟨m9, hc8, hf⟩ := zb_el hf
        refine z_cVv C (c_X4_takeBody _ _ hc8) rfl gX4_takeToken_X4_takeBody rfl rfl zdX4_takeBody rfl (Nat.le_of_ble_eq_true rfl) rfl rfl rfl ⟨Nat.le_of_ble_eq_true rfl, Nat.le_of_ble_eq_true rfl⟩ (Nat.le_of_ble_eq_true rfl) dX4_takeToken_90 rfl ?_
        refine z_goto (tgt := 180) C dX4_takeToken_93 (by decide) ?_
        cases hf
        exact hret _ _ dX4_takeToken_180
      · replace hf := if_f c7 hf
        refine zby (c := (m 9 2) = 3) (fun c10 => ?_) (fun c10 => ?_)
        · replace hf := if_t c10 hf
          refine z_tab (v := 3) (tgt := 96) (off := 92) C c10 dX4_takeToken_4 (by decide) (by decide) rfl (by decide) ?_
          refine z_aload_n C 0 dX4_takeToken_96 rfl rfl ?_
          obtain ⟨m12, hc11, hf⟩ := zb_el hf
          refine z_cVv C (c_X4_takeOne _ _ hc11) rfl gX4_takeToken_X4_takeOne rfl rfl zdX4_takeOne rfl (Nat.le_of_ble_eq_true rfl) rfl rfl rfl ⟨Nat.le_of_ble_eq_true rfl, Nat.le_of_ble_eq_true rfl⟩ (Nat.le_of_ble_eq_true rfl) dX4_takeToken_97 rfl ?_
          refine z_goto (tgt := 180) C dX4_takeToken_100 (by decide) ?_
          cases hf
          exact hret _ _ dX4_takeToken_180
        · replace hf := if_f c10 hf
          refine zby (c := (m 9 2) = 4) (fun c13 => ?_) (fun c13 => ?_)
          · replace hf := if_t c13 hf
            refine z_tab (v := 4) (tgt := 103) (off := 99) C c13 dX4_takeToken_4 (by decide) (by decide) rfl (by decide) ?_
            refine z_aload_n C 0 dX4_takeToken_103 rfl rfl ?_
            obtain ⟨m15, hc14, hf⟩ := zb_el hf
            refine z_cVv C (c_X4_takeTest _ _ hc14) rfl gX4_takeToken_X4_takeTest rfl rfl zdX4_takeTest rfl (Nat.le_of_ble_eq_true rfl) rfl rfl rfl ⟨Nat.le_of_ble_eq_true rfl, Nat.le_of_ble_eq_true rfl⟩ (Nat.le_of_ble_eq_true rfl) dX4_takeToken_104 rfl ?_
            refine z_goto (tgt := 180) C dX4_takeToken_107 (by decide) ?_
            cases hf
            exact hret _ _ dX4_takeToken_180
          · replace hf := if_f c13 hf
            refine zby (c := (m 9 2) = 5) (fun c16 => ?_) (fun c16 => ?_)
            · replace hf := if_t c16 hf
              refine z_tab (v := 5) (tgt := 110) (off := 106) C c16 dX4_takeToken_4 (by decide) (by decide) rfl (by decide) ?_
              refine z_aload_n C 0 dX4_takeToken_110 rfl rfl ?_
              obtain ⟨m18, hc17, hf⟩ := zb_el hf
              refine z_cVv C (c_X4_takeReference _ _ hc17) rfl gX4_takeToken_X4_takeReference rfl rfl zdX4_takeReference rfl (Nat.le_of_ble_eq_true rfl) rfl rfl rfl ⟨Nat.le_of_ble_eq_true rfl, Nat.le_of_ble_eq_true rfl⟩ (Nat.le_of_ble_eq_true rfl) dX4_takeToken_111 rfl ?_
              refine z_goto (tgt := 180) C dX4_takeToken_114 (by decide) ?_
              cases hf
              exact hret _ _ dX4_takeToken_180
            · replace hf := if_f c16 hf
              refine zby (c := (m 9 2) = 6) (fun c19 => ?_) (fun c19 => ?_)
              · replace hf := if_t c19 hf
                refine z_tab (v := 6) (tgt := 117) (off := 113) C c19 dX4_takeToken_4 (by decide) (by decide) rfl (by decide) ?_
                refine z_aload_n C 0 dX4_takeToken_117 rfl rfl ?_
                refine z_iconst C (v := 5) dX4_takeToken_118 rfl ?_
                refine z_bipush C (v := 7) dX4_takeToken_119 rfl ?_
                obtain ⟨m21, hc20, hf⟩ := zb_el hf
                refine z_cVv C (c_X4_takeSign _ _ hc20) rfl gX4_takeToken_X4_takeSign rfl rfl zdX4_takeSign rfl (Nat.le_of_ble_eq_true rfl) rfl rfl rfl ⟨Nat.le_of_ble_eq_true rfl, Nat.le_of_ble_eq_true rfl⟩ (Nat.le_of_ble_eq_true rfl) dX4_takeToken_121 rfl ?_
                refine z_goto (tgt := 180) C dX4_takeToken_124 (by decide) ?_
                cases hf
                exact hret _ _ dX4_takeToken_180
              · replace hf := if_f c19 hf
                refine zby (c := (m 9 2) = 7) (fun c22 => ?_) (fun c22 => ?_)
                · replace hf := if_t c22 hf
                  refine z_tab (v := 7) (tgt := 127) (off := 123) C c22 dX4_takeToken_4 (by decide) (by decide) rfl (by decide) ?_
                  refine z_aload_n C 0 dX4_takeToken_127 rfl rfl ?_
                  obtain ⟨m24, hc23, hf⟩ := zb_el hf
                  refine z_cVv C (c_X4_takeLastNumber _ _ hc23) rfl gX4_takeToken_X4_takeLastNumber rfl rfl zdX4_takeLastNumber rfl (Nat.le_of_ble_eq_true rfl) rfl rfl rfl ⟨Nat.le_of_ble_eq_true rfl, Nat.le_of_ble_eq_true rfl⟩ (Nat.le_of_ble_eq_true rfl) dX4_takeToken_128 rfl ?_
                  refine z_goto (tgt := 180) C dX4_takeToken_131 (by decide) ?_
                  cases hf
                  exact hret _ _ dX4_takeToken_180
                · replace hf := if_f c22 hf
                  refine zby (c := (m 9 2) = 8) (fun c25 => ?_) (fun c25 => ?_)
                  · replace hf := if_t c25 hf
                    refine z_tab (v := 8) (tgt := 134) (off := 130) C c25 dX4_takeToken_4 (by decide) (by decide) rfl (by decide) ?_
                    refine z_aload_n C 0 dX4_takeToken_134 rfl rfl ?_
                    obtain ⟨m27, hc26, hf⟩ := zb_el hf
                    refine z_cVv C (c_X4_takeBehindOne _ _ hc26) rfl gX4_takeToken_X4_takeBehindOne rfl rfl zdX4_takeBehindOne rfl (Nat.le_of_ble_eq_true rfl) rfl rfl rfl ⟨Nat.le_of_ble_eq_true rfl, Nat.le_of_ble_eq_true rfl⟩ (Nat.le_of_ble_eq_true rfl) dX4_takeToken_135 rfl ?_
                    refine z_goto (tgt := 180) C dX4_takeToken_138 (by decide) ?_
                    cases hf
                    exact hret _ _ dX4_takeToken_180
                  · replace hf := if_f c25 hf
                    refine zby (c := (m 9 2) = 9) (fun c28 => ?_) (fun c28 => ?_)
                    · replace hf := if_t c28 hf
                      refine z_tab (v := 9) (tgt := 141) (off := 137) C c28 dX4_takeToken_4 (by decide) (by decide) rfl (by decide) ?_
                      refine z_aload_n C 0 dX4_takeToken_141 rfl rfl ?_
                      obtain ⟨m30, hc29, hf⟩ := zb_el hf
                      refine z_cVv C (c_X4_takeLeast _ _ hc29) rfl gX4_takeToken_X4_takeLeast rfl rfl zdX4_takeLeast rfl (Nat.le_of_ble_eq_true rfl) rfl rfl rfl ⟨Nat.le_of_ble_eq_true rfl, Nat.le_of_ble_eq_true rfl⟩ (Nat.le_of_ble_eq_true rfl) dX4_takeToken_142 rfl ?_
                      refine z_goto (tgt := 180) C dX4_takeToken_145 (by decide) ?_
                      cases hf
                      exact hret _ _ dX4_takeToken_180
                    · replace hf := if_f c28 hf
                      refine zby (c := (m 9 2) = 10) (fun c31 => ?_) (fun c31 => ?_)
                      · replace hf := if_t c31 hf
                        refine z_tab (v := 10) (tgt := 148) (off := 144) C c31 dX4_takeToken_4 (by decide) (by decide) rfl (by decide) ?_
                        refine z_aload_n C 0 dX4_takeToken_148 rfl rfl ?_
                        obtain ⟨m33, hc32, hf⟩ := zb_el hf
                        refine z_cVv C (c_X4_takeMost _ _ hc32) rfl gX4_takeToken_X4_takeMost rfl rfl zdX4_takeMost rfl (Nat.le_of_ble_eq_true rfl) rfl rfl rfl ⟨Nat.le_of_ble_eq_true rfl, Nat.le_of_ble_eq_true rfl⟩ (Nat.le_of_ble_eq_true rfl) dX4_takeToken_149 rfl ?_
                        refine z_goto (tgt := 180) C dX4_takeToken_152 (by decide) ?_
                        cases hf
                        exact hret _ _ dX4_takeToken_180
                      · replace hf := if_f c31 hf
                        refine zby (c := (m 9 2) = 11) (fun c34 => ?_) (fun c34 => ?_)
                        · replace hf := if_t c34 hf
                          refine z_tab (v := 11) (tgt := 155) (off := 151) C c34 dX4_takeToken_4 (by decide) (by decide) rfl (by decide) ?_
                          refine z_aload_n C 0 dX4_takeToken_155 rfl rfl ?_
                          refine z_bipush C (v := 93) dX4_takeToken_156 rfl ?_
                          refine z_bipush C (v := 12) dX4_takeToken_158 rfl ?_
                          obtain ⟨m36, hc35, hf⟩ := zb_el hf
                          refine z_cVv C (c_X4_takeSign _ _ hc35) rfl gX4_takeToken_X4_takeSign rfl rfl zdX4_takeSign rfl (Nat.le_of_ble_eq_true rfl) rfl rfl rfl ⟨Nat.le_of_ble_eq_true rfl, Nat.le_of_ble_eq_true rfl⟩ (Nat.le_of_ble_eq_true rfl) dX4_takeToken_160 rfl ?_
                          refine z_goto (tgt := 180) C dX4_takeToken_163 (by decide) ?_
                          cases hf
                          exact hret _ _ dX4_takeToken_180
                        · replace hf := if_f c34 hf
                          refine zby (c := (m 9 2) = 12) (fun c37 => ?_) (fun c37 => ?_)
                          · replace hf := if_t c37 hf
                            refine z_tab (v := 12) (tgt := 166) (off := 162) C c37 dX4_takeToken_4 (by decide) (by decide) rfl (by decide) ?_
                            refine z_aload_n C 0 dX4_takeToken_166 rfl rfl ?_
                            obtain ⟨m39, hc38, hf⟩ := zb_el hf
                            refine z_cVv C (c_X4_takeBehindItem _ _ hc38) rfl gX4_takeToken_X4_takeBehindItem rfl rfl zdX4_takeBehindItem rfl (Nat.le_of_ble_eq_true rfl) rfl rfl rfl ⟨Nat.le_of_ble_eq_true rfl, Nat.le_of_ble_eq_true rfl⟩ (Nat.le_of_ble_eq_true rfl) dX4_takeToken_167 rfl ?_
                            refine z_goto (tgt := 180) C dX4_takeToken_170 (by decide) ?_
                            cases hf
                            exact hret _ _ dX4_takeToken_180
                          · replace hf := if_f c37 hf
                            refine z_tabd (tgt := 173) C dX4_takeToken_4 (ztab_out (n := 13) (Nat.le_of_ble_eq_true rfl) (lt_s (lt_s (lt_s (lt_s (lt_s (lt_s (lt_s (lt_s (lt_s (lt_s (lt_s (lt_s (lt_s lt_0 c1) c4) c7) c10) c13) c16) c19) c22) c25) c28) c31) c34) c37)) (by decide) ?_
                            refine z_aload_n C 0 dX4_takeToken_173 rfl rfl ?_
                            refine z_bipush C (v := 59) dX4_takeToken_174 rfl ?_
                            refine z_iconst C (v := 0) dX4_takeToken_176 rfl ?_
                            obtain ⟨m41, hc40, hf⟩ := zb_el hf
                            refine z_cVv C (c_X4_takeSign _ _ hc40) rfl gX4_takeToken_X4_takeSign rfl rfl zdX4_takeSign rfl (Nat.le_of_ble_eq_true rfl) rfl rfl rfl ⟨Nat.le_of_ble_eq_true rfl, Nat.le_of_ble_eq_true rfl⟩ (Nat.le_of_ble_eq_true rfl) dX4_takeToken_177 rfl ?_
                            cases hf
                            exact hret _ _ dX4_takeToken_180
def rmX4_readText : Room := { frames := 8, cells := 0, slots := 0, locals := 170 }
theorem zdX4_readText : yX4_readText.cls = RX4 ∧ yX4_readText.cls ≠ "java/lang/invoke/MethodHandle" ∧ yX4_readText.cls ≠ "java/lang/invoke/VarHandle" ∧ (parseMethodDescriptor yX4_readText.desc).map (fun d => d.parameters.length) = some 1 := by decide +kernel
theorem kiX4_readText_X4 : ∀ w ∈ wsX40, w ∈ wsX4_readText := by decide +kernel
theorem kfX4_readText_20 : Cond.fieldLink RX4 20 "ShapeJudge$TextReader" "book" "LShapeJudge$Book;" ∈ wsX4_readText := by decide +kernel
theorem kfX4_readText_14 : Cond.fieldLink RX4 14 "ShapeJudge$TextReader" "tokens" "LShapeJudge$Tokens;" ∈ wsX4_readText := by decide +kernel
theorem kfX4_readText_32 : Cond.fieldLink RX4 32 "ShapeJudge$TextReader" "state" "I" ∈ wsX4_readText := by decide +kernel
theorem kfX4_readText_36 : Cond.fieldLink RX4 36 "ShapeJudge$TextReader" "depth" "I" ∈ wsX4_readText := by decide +kernel
theorem kfX4_readText_39 : Cond.fieldLink RX4 39 "ShapeJudge$TextReader" "commas" "I" ∈ wsX4_readText := by decide +kernel
theorem kfX4_readText_42 : Cond.fieldLink RX4 42 "ShapeJudge$TextReader" "bars" "I" ∈ wsX4_readText := by decide +kernel
theorem kfX4_readText_45 : Cond.fieldLink RX4 45 "ShapeJudge$TextReader" "faultKind" "I" ∈ wsX4_readText := by decide +kernel
theorem kfX4_readText_48 : Cond.fieldLink RX4 48 "ShapeJudge$TextReader" "faultPlace" "I" ∈ wsX4_readText := by decide +kernel
theorem kiX4_readText_X5 : ∀ w ∈ wsX50, w ∈ wsX4_readText := by decide +kernel
theorem kfX4_readText_54 : Cond.fieldLink RX4 54 "ShapeJudge$Tokens" "kind" "I" ∈ wsX4_readText := by decide +kernel
def t_X4_readText_51  (i13 : Int32) (m14 : Mem) : Option ((Int32 × Mem) ⊕ (Mem)) :=
  (if 400 < i13 then (some (.inr m14)) else ((if (m14 9 8) = 0 then ((if (m14 9 2) = 14 then (some (.inr m14)) else ((s_X5_advance m14).bind fun m16 => (if (m16 10 2) = 1 then ((s_X4_fail m16 1).bind fun m21 => bn (i13 + 1) fun x22 => some (.inl (x22, m21))) else ((s_X4_takeToken m16).bind fun m18 => bn (i13 + 1) fun x19 => some (.inl (x19, m18))))))) else (some (.inr m14)))))
def l_X4_readText_51  (n : Nat) (i13 : Int32) (m14 : Mem) : Option (Mem) := zlp n (fun a => t_X4_readText_51  a.1 a.2) (i13, m14)
def s_X4_readText (m : Mem) (bb1 : Nat) : Option (Mem) :=
  bn (sto m 9 1 (nI bb1)) fun m1 => zbk (m1 9 1) fun b2 => (s_X0_clear m1 b2).bind fun m4 => (s_X5_rewind m4).bind fun m6 => bn (sto m6 9 2 0) fun m7 => bn (sto m7 9 3 0) fun m8 => bn (sto m8 9 4 0) fun m9 => bn (sto m9 9 5 0) fun m10 => bn (sto m10 9 8 0) fun m11 => bn (sto m11 9 9 0) fun m12 => ((l_X4_readText_51  FU 0 m12).bind fun m27 => (if (m27 9 8) = 0 then ((s_X4_linkShapes m27).bind fun m29 => some m29) else (some m27)))
set_option maxRecDepth 100000 in
set_option maxHeartbeats 4000000 in
theorem w_X4_readText_51 {K : ZK} (C : zOK MX K cX4_readText 3 none RX4 wsX4_readText rmX4_readText)   {o0 : Mem} (hk : zGo MX K o0 [(0, .ref ((zw K).2.1 9))] 110 []) : ∀ (n : Nat) (i13 : Int32) (m14 : Mem), l_X4_readText_51  n i13 m14 = some o0 → zGo MX K m14 [(0, .ref ((zw K).2.1 9)), (2, .int i13)] 51 [] := by
  intro n
  induction n with
  | zero =>
    intro i13 m14 hf
    cases hf
  | succ n ih =>
    intro i13 m14 hf
    obtain ⟨z, hf, hz⟩ := zlp_el hf
    replace hf : t_X4_readText_51  i13 m14 = some z := hf
    unfold t_X4_readText_51 at hf
    refine z_iload_n C 1 dX4_readText_51 rfl rfl ?_
    refine z_sipush C (v := 400) dX4_readText_52 rfl ?_
    refine z_icmp_gt (tgt := 110) C dX4_readText_55 (by decide) (fun c26 => ?_) (fun c26 => ?_)
    · replace hf := if_t c26 hf
      cases hf
      replace hz := zlz_r hz
      cases hz
      exact z_sub [0] rfl hk
    · replace hf := if_f c26 hf
      refine z_aload_n C 0 dX4_readText_58 rfl rfl ?_
      refine z_geti C (Nat.le_of_ble_eq_true rfl) rfl rfl 8 (Nat.le_of_ble_eq_true rfl) rfl kiX4_readText_X4 kfX4_readText_45 dX4_readText_59 ?_
      refine z_if_ne (tgt := 110) C dX4_readText_62 (by decide) (fun c25 => ?_) (fun c25 => ?_)
      · replace hf := if_f c25 hf
        cases hf
        replace hz := zlz_r hz
        cases hz
        exact z_sub [0] rfl hk
      · replace hf := if_t c25 hf
        refine z_aload_n C 0 dX4_readText_65 rfl rfl ?_
        refine z_geti C (Nat.le_of_ble_eq_true rfl) rfl rfl 2 (Nat.le_of_ble_eq_true rfl) rfl kiX4_readText_X4 kfX4_readText_32 dX4_readText_66 ?_
        refine z_bipush C (v := 14) dX4_readText_69 rfl ?_
        refine z_icmp_eq (tgt := 110) C dX4_readText_71 (by decide) (fun c24 => ?_) (fun c24 => ?_)
        · replace hf := if_t c24 hf
          cases hf
          replace hz := zlz_r hz
          cases hz
          exact z_sub [0] rfl hk
        · replace hf := if_f c24 hf
          refine z_aload_n C 0 dX4_readText_74 rfl rfl ?_
          refine z_getr C (t := 10) (Nat.le_of_ble_eq_true rfl) rfl rfl 0 (Nat.le_of_ble_eq_true rfl) rfl kiX4_readText_X4 kfX4_readText_14 dX4_readText_75 ?_
          obtain ⟨m16, hc15, hf⟩ := zb_el hf
          refine z_cVv C (c_X5_advance _ _ hc15) rfl gX4_readText_X5_advance rfl rfl zdX5_advance rfl (Nat.le_of_ble_eq_true rfl) rfl rfl rfl ⟨Nat.le_of_ble_eq_true rfl, Nat.le_of_ble_eq_true rfl⟩ (Nat.le_of_ble_eq_true rfl) dX4_readText_78 rfl ?_
          refine z_aload_n C 0 dX4_readText_81 rfl rfl ?_
          refine z_getr C (t := 10) (Nat.le_of_ble_eq_true rfl) rfl rfl 0 (Nat.le_of_ble_eq_true rfl) rfl kiX4_readText_X4 kfX4_readText_14 dX4_readText_82 ?_
          refine z_geti C (Nat.le_of_ble_eq_true rfl) rfl rfl 2 (Nat.le_of_ble_eq_true rfl) rfl kiX4_readText_X5 kfX4_readText_54 dX4_readText_85 ?_
          refine z_iconst C (v := 1) dX4_readText_88 rfl ?_
          refine z_icmp_ne (tgt := 100) C dX4_readText_89 (by decide) (fun c23 => ?_) (fun c23 => ?_)
          · replace hf := if_f c23 hf
            refine z_aload_n C 0 dX4_readText_100 rfl rfl ?_
            obtain ⟨m18, hc17, hf⟩ := zb_el hf
            refine z_cVv C (c_X4_takeToken _ _ hc17) rfl gX4_readText_X4_takeToken rfl rfl zdX4_takeToken rfl (Nat.le_of_ble_eq_true rfl) rfl rfl rfl ⟨Nat.le_of_ble_eq_true rfl, Nat.le_of_ble_eq_true rfl⟩ (Nat.le_of_ble_eq_true rfl) dX4_readText_101 rfl ?_
            obtain ⟨x19, e_x19⟩ : ∃ y : Int32, y = i13 + 1 := ⟨_, rfl⟩
            replace hf := bn_to e_x19 hf
            refine z_iinc C (lv2 := [(0, .ref ((zw K).2.1 9)), (2, .int x19)]) 1 [1, 0] dX4_readText_104 rfl rfl (Nat.le_of_ble_eq_true rfl) e_x19 rfl ?_
            refine z_goto (tgt := 51) C dX4_readText_107 (by decide) ?_
            cases hf
            exact z_sub [0, 1] rfl (ih x19 m18 hz)
          · replace hf := if_t c23 hf
            refine z_aload_n C 0 dX4_readText_92 rfl rfl ?_
            refine z_iconst C (v := 1) dX4_readText_93 rfl ?_
            obtain ⟨m21, hc20, hf⟩ := zb_el hf
            refine z_cVv C (c_X4_fail _ _ hc20) rfl gX4_readText_X4_fail rfl rfl zdX4_fail rfl (Nat.le_of_ble_eq_true rfl) rfl rfl rfl ⟨Nat.le_of_ble_eq_true rfl, Nat.le_of_ble_eq_true rfl⟩ (Nat.le_of_ble_eq_true rfl) dX4_readText_94 rfl ?_
            refine z_goto (tgt := 104) C dX4_readText_97 (by decide) ?_
            obtain ⟨x22, e_x22⟩ : ∃ y : Int32, y = i13 + 1 := ⟨_, rfl⟩
            replace hf := bn_to e_x22 hf
            refine z_iinc C (lv2 := [(0, .ref ((zw K).2.1 9)), (2, .int x22)]) 1 [1, 0] dX4_readText_104 rfl rfl (Nat.le_of_ble_eq_true rfl) e_x22 rfl ?_
            refine z_goto (tgt := 51) C dX4_readText_107 (by decide) ?_
            cases hf
            exact z_sub [0, 1] rfl (ih x22 m21 hz)
set_option maxRecDepth 100000 in
set_option maxHeartbeats 4000000 in
theorem c_X4_readText (l : Launch) (w : ZW) {m : Mem} {bb1 : Nat} {m9 : Mem} (hbb1 : isb bb1) (hf : s_X4_readText m bb1 = some m9) : zCv MX l w yX4_readText wsX4_readText rmX4_readText [.ref (w.2.1 9), .ref (w.2.1 bb1)] m m9 := by
  refine z_met_v MX_ok (own := RX4) (by decide +kernel) rfl rfl (Nat.le_of_ble_eq_true rfl) ?_
  intro K C hKw hKl hret
  subst hKw
  subst hKl
  unfold s_X4_readText at hf
  show zGo MX K m [(0, .ref ((zw K).2.1 9)), (1, .ref ((zw K).2.1 bb1))] 0 []
  refine z_aload_n C 0 dX4_readText_0 rfl rfl ?_
  refine z_aload_n C 1 dX4_readText_1 rfl rfl ?_
  refine z_putb C (b := bb1) (Nat.le_of_ble_eq_true rfl) rfl rfl 1 (Nat.le_of_ble_eq_true rfl) rfl kiX4_readText_X4 kfX4_readText_20 tyX4 tyX4_ok nmX4 rfl (Cr := "ShapeJudge$Book") rfl (isb_lt hbb1) dX4_readText_2 ?_
  refine z_nm (fun m1 e_m1 => ?_)
  replace hf := bn_to e_m1 hf
  refine z_aload_n C 0 dX4_readText_5 rfl rfl ?_
  obtain ⟨b2, hb2, e_b2, hf⟩ := zbk_el hf
  refine z_getb C (b := b2) (Nat.le_of_ble_eq_true rfl) rfl rfl 1 (Nat.le_of_ble_eq_true rfl) rfl kiX4_readText_X4 kfX4_readText_20 (isb_lt hb2) e_b2 dX4_readText_6 ?_
  obtain ⟨m4, hc3, hf⟩ := zb_el hf
  refine z_cVv C (c_X0_clear _ _ hb2 hc3) rfl gX4_readText_X0_clear rfl rfl zdX0_clear rfl (isb_k0 hb2) (isb_L0 hb2) rfl rfl ⟨Nat.le_of_ble_eq_true rfl, Nat.le_of_ble_eq_true rfl⟩ (Nat.le_of_ble_eq_true rfl) dX4_readText_9 rfl ?_
  refine z_aload_n C 0 dX4_readText_12 rfl rfl ?_
  refine z_getr C (t := 10) (Nat.le_of_ble_eq_true rfl) rfl rfl 0 (Nat.le_of_ble_eq_true rfl) rfl kiX4_readText_X4 kfX4_readText_14 dX4_readText_13 ?_
  obtain ⟨m6, hc5, hf⟩ := zb_el hf
  refine z_cVv C (c_X5_rewind _ _ hc5) rfl gX4_readText_X5_rewind rfl rfl zdX5_rewind rfl (Nat.le_of_ble_eq_true rfl) rfl rfl rfl ⟨Nat.le_of_ble_eq_true rfl, Nat.le_of_ble_eq_true rfl⟩ (Nat.le_of_ble_eq_true rfl) dX4_readText_16 rfl ?_
  refine z_aload_n C 0 dX4_readText_19 rfl rfl ?_
  refine z_iconst C (v := 0) dX4_readText_20 rfl ?_
  refine z_puti C (Nat.le_of_ble_eq_true rfl) rfl rfl 2 (Nat.le_of_ble_eq_true rfl) rfl kiX4_readText_X4 kfX4_readText_32 tyX4 tyX4_ok nmX4 rfl rfl dX4_readText_21 ?_
  refine z_nm (fun m7 e_m7 => ?_)
  replace hf := bn_to e_m7 hf
  refine z_aload_n C 0 dX4_readText_24 rfl rfl ?_
  refine z_iconst C (v := 0) dX4_readText_25 rfl ?_
  refine z_puti C (Nat.le_of_ble_eq_true rfl) rfl rfl 3 (Nat.le_of_ble_eq_true rfl) rfl kiX4_readText_X4 kfX4_readText_36 tyX4 tyX4_ok nmX4 rfl rfl dX4_readText_26 ?_
  refine z_nm (fun m8 e_m8 => ?_)
  replace hf := bn_to e_m8 hf
  refine z_aload_n C 0 dX4_readText_29 rfl rfl ?_
  refine z_iconst C (v := 0) dX4_readText_30 rfl ?_
  refine z_puti C (Nat.le_of_ble_eq_true rfl) rfl rfl 4 (Nat.le_of_ble_eq_true rfl) rfl kiX4_readText_X4 kfX4_readText_39 tyX4 tyX4_ok nmX4 rfl rfl dX4_readText_31 ?_
  refine z_nm (fun m9 e_m9 => ?_)
  replace hf := bn_to e_m9 hf
  refine z_aload_n C 0 dX4_readText_34 rfl rfl ?_
  refine z_iconst C (v := 0) dX4_readText_35 rfl ?_
  refine z_puti C (Nat.le_of_ble_eq_true rfl) rfl rfl 5 (Nat.le_of_ble_eq_true rfl) rfl kiX4_readText_X4 kfX4_readText_42 tyX4 tyX4_ok nmX4 rfl rfl dX4_readText_36 ?_
  refine z_nm (fun m10 e_m10 => ?_)
  replace hf := bn_to e_m10 hf
  refine z_aload_n C 0 dX4_readText_39 rfl rfl ?_
  refine z_iconst C (v := 0) dX4_readText_40 rfl ?_
  refine z_puti C (Nat.le_of_ble_eq_true rfl) rfl rfl 8 (Nat.le_of_ble_eq_true rfl) rfl kiX4_readText_X4 kfX4_readText_45 tyX4 tyX4_ok nmX4 rfl rfl dX4_readText_41 ?_
  refine z_nm (fun m11 e_m11 => ?_)
  replace hf := bn_to e_m11 hf
  refine z_aload_n C 0 dX4_readText_44 rfl rfl ?_
  refine z_iconst C (v := 0) dX4_readText_45 rfl ?_
  refine z_puti C (Nat.le_of_ble_eq_true rfl) rfl rfl 9 (Nat.le_of_ble_eq_true rfl) rfl kiX4_readText_X4 kfX4_readText_48 tyX4 tyX4_ok nmX4 rfl rfl dX4_readText_46 ?_
  refine z_nm (fun m12 e_m12 => ?_)
  replace hf := bn_to e_m12 hf
  refine z_iconst C (v := 0) dX4_readText_49 rfl ?_
  refine z_istore_n C (lv2 := [(0, .ref ((zw K).2.1 9)), (1, .ref ((zw K).2.1 bb1)), (2, .int 0)]) [1, 2, 0] dX4_readText_50 rfl (Nat.le_of_ble_eq_true rfl) rfl ?_
  obtain ⟨m27, hg, hf⟩ := zb_el hf
  refine z_sub [0, 2] rfl (w_X4_readText_51 C  ?_ _ _ _ hg)
  clear hg
  refine z_aload_n C 0 dX4_readText_110 rfl rfl ?_
  refine z_geti C (Nat.le_of_ble_eq_true rfl) rfl rfl 8 (Nat.le_of_ble_eq_true rfl) rfl kiX4_readText_X4 kfX4_readText_45 dX4_readText_111 ?_
  refine z_if_ne (tgt := 121) C dX4_readText_114 (by decide) (fun c30 => ?_) (fun c30 => ?_)
  · replace hf := if_f c30 hf
    cases hf
    exact hret _ _ dX4_readText_121
  · replace hf := if_t c30 hf
    refine z_aload_n C 0 dX4_readText_117 rfl rfl ?_
    obtain ⟨m29, hc28, hf⟩ := zb_el hf
    refine z_cVv C (c_X4_linkShapes _ _ hc28) rfl gX4_readText_X4_linkShapes rfl rfl zdX4_linkShapes rfl (Nat.le_of_ble_eq_true rfl) rfl rfl rfl ⟨Nat.le_of_ble_eq_true rfl, Nat.le_of_ble_eq_true rfl⟩ (Nat.le_of_ble_eq_true rfl) dX4_readText_118 rfl ?_
    cases hf
    exact hret _ _ dX4_readText_121
