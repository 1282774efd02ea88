def LcX : Lay := zLc LaX
def LcM : Lay := zLc LaM
theorem zf0_1 : ∀ (a2 : Nat → Nat) (j : Nat), j < 7 → defaultValue (tyX1 j) = vp_V (zfv a2 (sg0 LcX 1) 0 [0, 0, 1, 1, 1, 1, 1]) j := by
  intro a2 j hj
  rcases (show j = 0 ∨ j = 1 ∨ j = 2 ∨ j = 3 ∨ j = 4 ∨ j = 5 ∨ j = 6 by omega) with rfl | rfl | rfl | rfl | rfl | rfl | rfl <;> rfl
theorem zf0_7 : ∀ (a2 : Nat → Nat) (j : Nat), j < 2 → defaultValue (tyX3 j) = vp_V (zfv a2 (sg0 LcX 7) 0 [1, 0]) j := by
  intro a2 j hj
  rcases (show j = 0 ∨ j = 1 by omega) with rfl | rfl <;> rfl
theorem zf0_9 : ∀ (a2 : Nat → Nat) (j : Nat), j < 10 → defaultValue (tyX4 j) = vp_V (zfv a2 (sg0 LcX 9) 0 [1, 1, 0, 0, 0, 0, 0, 0, 0, 0]) j := by
  intro a2 j hj
  rcases (show j = 0 ∨ j = 1 ∨ j = 2 ∨ j = 3 ∨ j = 4 ∨ j = 5 ∨ j = 6 ∨ j = 7 ∨ j = 8 ∨ j = 9 by omega) with rfl | rfl | rfl | rfl | rfl | rfl | rfl | rfl | rfl | rfl <;> rfl
theorem zf0_10 : ∀ (a2 : Nat → Nat) (j : Nat), j < 5 → defaultValue (tyX5 j) = vp_V (zfv a2 (sg0 LcX 10) 0 [1, 0, 0, 0, 0]) j := by
  intro a2 j hj
  rcases (show j = 0 ∨ j = 1 ∨ j = 2 ∨ j = 3 ∨ j = 4 by omega) with rfl | rfl | rfl | rfl | rfl <;> rfl
theorem zf0_11 : ∀ (a2 : Nat → Nat) (j : Nat), j < 16 → defaultValue (tyX0 j) = vp_V (zfv a2 (sg0 LcX 11) 0 [0, 0, 0, 1, 1, 1, 1, 1, 1, 1, 1, 1, 1, 1, 1, 1]) j := by
  intro a2 j hj
  rcases (show j = 0 ∨ j = 1 ∨ j = 2 ∨ j = 3 ∨ j = 4 ∨ j = 5 ∨ j = 6 ∨ j = 7 ∨ j = 8 ∨ j = 9 ∨ j = 10 ∨ j = 11 ∨ j = 12 ∨ j = 13 ∨ j = 14 ∨ j = 15 by omega) with rfl | rfl | rfl | rfl | rfl | rfl | rfl | rfl | rfl | rfl | rfl | rfl | rfl | rfl | rfl | rfl <;> rfl
theorem zf0_25 : ∀ (a2 : Nat → Nat) (j : Nat), j < 16 → defaultValue (tyX0 j) = vp_V (zfv a2 (sg0 LcX 25) 0 [0, 0, 0, 1, 1, 1, 1, 1, 1, 1, 1, 1, 1, 1, 1, 1]) j := by
  intro a2 j hj
  rcases (show j = 0 ∨ j = 1 ∨ j = 2 ∨ j = 3 ∨ j = 4 ∨ j = 5 ∨ j = 6 ∨ j = 7 ∨ j = 8 ∨ j = 9 ∨ j = 10 ∨ j = 11 ∨ j = 12 ∨ j = 13 ∨ j = 14 ∨ j = 15 by omega) with rfl | rfl | rfl | rfl | rfl | rfl | rfl | rfl | rfl | rfl | rfl | rfl | rfl | rfl | rfl | rfl <;> rfl
theorem zf0_39 : ∀ (a2 : Nat → Nat) (j : Nat), j < 10 → defaultValue (tyX2 j) = vp_V (zfv a2 (sg0 LcX 39) 0 [1, 1, 1, 1, 0, 0, 1, 1, 0, 0]) j := by
  intro a2 j hj
  rcases (show j = 0 ∨ j = 1 ∨ j = 2 ∨ j = 3 ∨ j = 4 ∨ j = 5 ∨ j = 6 ∨ j = 7 ∨ j = 8 ∨ j = 9 by omega) with rfl | rfl | rfl | rfl | rfl | rfl | rfl | rfl | rfl | rfl <;> rfl
theorem dX1_init_0 : decode cX1_init 0 = .ok (.aload_n 0, 1) := by decide +kernel
theorem dX1_init_1 : decode cX1_init 1 = .ok (.invokespecial 3, 3) := by decide +kernel
theorem dX1_init_4 : decode cX1_init 4 = .ok (.aload_n 0, 1) := by decide +kernel
theorem dX1_init_5 : decode cX1_init 5 = .ok (.bipush 10, 2) := by decide +kernel
theorem dX1_init_7 : decode cX1_init 7 = .ok (.newarray .boolean, 2) := by decide +kernel
theorem dX1_init_9 : decode cX1_init 9 = .ok (.putfield 9, 3) := by decide +kernel
theorem dX1_init_12 : decode cX1_init 12 = .ok (.aload_n 0, 1) := by decide +kernel
theorem dX1_init_13 : decode cX1_init 13 = .ok (.bipush 10, 2) := by decide +kernel
theorem dX1_init_15 : decode cX1_init 15 = .ok (.newarray .int, 2) := by decide +kernel
theorem dX1_init_17 : decode cX1_init 17 = .ok (.putfield 15, 3) := by decide +kernel
theorem dX1_init_20 : decode cX1_init 20 = .ok (.aload_n 0, 1) := by decide +kernel
theorem dX1_init_21 : decode cX1_init 21 = .ok (.bipush 10, 2) := by decide +kernel
theorem dX1_init_23 : decode cX1_init 23 = .ok (.newarray .int, 2) := by decide +kernel
theorem dX1_init_25 : decode cX1_init 25 = .ok (.putfield 19, 3) := by decide +kernel
theorem dX1_init_28 : decode cX1_init 28 = .ok (.aload_n 0, 1) := by decide +kernel
theorem dX1_init_29 : decode cX1_init 29 = .ok (.bipush 50, 2) := by decide +kernel
theorem dX1_init_31 : decode cX1_init 31 = .ok (.newarray .int, 2) := by decide +kernel
theorem dX1_init_33 : decode cX1_init 33 = .ok (.putfield 22, 3) := by decide +kernel
theorem dX1_init_36 : decode cX1_init 36 = .ok (.aload_n 0, 1) := by decide +kernel
theorem dX1_init_37 : decode cX1_init 37 = .ok (.bipush 50, 2) := by decide +kernel
theorem dX1_init_39 : decode cX1_init 39 = .ok (.newarray .int, 2) := by decide +kernel
theorem dX1_init_41 : decode cX1_init 41 = .ok (.putfield 25, 3) := by decide +kernel
theorem dX1_init_44 : decode cX1_init 44 = .ok (.return_, 1) := by decide +kernel
def rmX1_init : Room := { frames := 1, cells := 5, slots := 130, locals := 20 }
theorem zdX1_init : yX1_init.cls = RX1 ∧ yX1_init.cls ≠ "java/lang/invoke/MethodHandle" ∧ yX1_init.cls ≠ "java/lang/invoke/VarHandle" ∧ (parseMethodDescriptor yX1_init.desc).map (fun d => d.parameters.length) = some 0 := by decide +kernel
theorem ko1X1_init : Cond.methodLink RX1 3 Lib.objectInit ∈ wsX1_init := by decide +kernel
theorem ko2X1_init : Cond.instanceMethod Lib.objectInit ∈ wsX1_init := by decide +kernel
theorem ko3X1_init : Cond.code Lib.objectInit ⟨#[0xb1]⟩ 1 none ∈ wsX1_init := by decide +kernel
theorem kaX1_init_boolean : Cond.arrayClass .boolean ∈ wsX1_init := by decide +kernel
theorem kiX1_init_X1 : ∀ w ∈ wsX10, w ∈ wsX1_init := by decide +kernel
theorem kfX1_init_9 : Cond.fieldLink RX1 9 "ShapeJudge$Graph" "valued" "[Z" ∈ wsX1_init := by decide +kernel
theorem kaX1_init_int : Cond.arrayClass .int ∈ wsX1_init := by decide +kernel
theorem kfX1_init_15 : Cond.fieldLink RX1 15 "ShapeJudge$Graph" "values" "[I" ∈ wsX1_init := by decide +kernel
theorem kfX1_init_19 : Cond.fieldLink RX1 19 "ShapeJudge$Graph" "degrees" "[I" ∈ wsX1_init := by decide +kernel
theorem kfX1_init_22 : Cond.fieldLink RX1 22 "ShapeJudge$Graph" "edgeName" "[I" ∈ wsX1_init := by decide +kernel
theorem kfX1_init_25 : Cond.fieldLink RX1 25 "ShapeJudge$Graph" "edgeTo" "[I" ∈ wsX1_init := by decide +kernel
def s_X1_init (m : Mem) : Mem := (sto (zal LcX (sto (zal LcX (sto (zal LcX (sto (zal LcX (sto (zal LcX m 2) 1 2 (nI 2)) 3) 1 3 (nI 3)) 4) 1 4 (nI 4)) 5) 1 5 (nI 5)) 6) 1 6 (nI 6))
set_option maxRecDepth 100000 in
set_option maxHeartbeats 4000000 in
theorem c_X1_init (l : Launch) (cA : Nat → ClassId) (D : va_G) {ad : Nat → Nat} {m : Mem} : zCc [] LcX l cA D yX1_init wsX1_init rmX1_init [.ref (ad 1)] 2 ad m 7 (s_X1_init m) 5 130 := by
  refine zc_met (own := RX1) zsm_zLc (by decide +kernel) rfl rfl (Nat.le_of_ble_eq_true rfl) rfl ?_
  intro K C hK1 hK2 hKl hret
  subst hK1
  subst hK2
  subst hKl
  show zGc LcX K 2 0 0 ad m [(0, .ref (ad 1))] 0 []
  refine zc_aload_n C 0 dX1_init_0 rfl rfl ?_
  refine zc_obj C ko1X1_init ko2X1_init ko3X1_init (Nat.le_of_ble_eq_true rfl) (Nat.le_of_ble_eq_true rfl) dX1_init_1 ?_
  refine zc_aload_n C 0 dX1_init_4 rfl rfl ?_
  refine zc_bipush C (v := 10) dX1_init_5 rfl ?_
  refine zc_newa C (t := 1) (n := 10) (ty := .boolean) rfl rfl (fun _ => rfl) (fun _ h => by cases h) (fun _ => rfl) kaX1_init_boolean (by decide) (by decide) (by decide) (Nat.le_of_ble_eq_true rfl) (Nat.le_of_ble_eq_true rfl) (fun a => [(0, .ref (a 1))]) (fun a => [.ref (a 1)]) rfl rfl (fun a2 h => by constructor <;> simp only [h 1 (by decide)]) dX1_init_7 (fun a1 h1 => ?_)
  refine zc_putFa C (b := 2) (k := 1) (Nat.le_of_ble_eq_true rfl) rfl rfl 2 (Nat.le_of_ble_eq_true rfl) rfl kiX1_init_X1 kfX1_init_9 tyX1 tyX1_ok nmX1 rfl rfl rfl (Nat.le_of_ble_eq_true rfl) (Nat.le_of_ble_eq_true rfl) dX1_init_9 ?_
  refine zc_aload_n C 0 dX1_init_12 rfl rfl ?_
  refine zc_bipush C (v := 10) dX1_init_13 rfl ?_
  refine zc_newa C (t := 0) (n := 10) (ty := .int) rfl rfl (fun _ => rfl) (fun _ h => by cases h) (fun _ => rfl) kaX1_init_int (by decide) (by decide) (by decide) (Nat.le_of_ble_eq_true rfl) (Nat.le_of_ble_eq_true rfl) (fun a => [(0, .ref (a 1))]) (fun a => [.ref (a 1)]) rfl rfl (fun a2 h => by constructor <;> simp only [h 1 (by decide)]) dX1_init_15 (fun a2 h2 => ?_)
  refine zc_putFa C (b := 3) (k := 1) (Nat.le_of_ble_eq_true rfl) rfl rfl 3 (Nat.le_of_ble_eq_true rfl) rfl kiX1_init_X1 kfX1_init_15 tyX1 tyX1_ok nmX1 rfl rfl rfl (Nat.le_of_ble_eq_true rfl) (Nat.le_of_ble_eq_true rfl) dX1_init_17 ?_
  refine zc_aload_n C 0 dX1_init_20 rfl rfl ?_
  refine zc_bipush C (v := 10) dX1_init_21 rfl ?_
  refine zc_newa C (t := 0) (n := 10) (ty := .int) rfl rfl (fun _ => rfl) (fun _ h => by cases h) (fun _ => rfl) kaX1_init_int (by decide) (by decide) (by decide) (Nat.le_of_ble_eq_true rfl) (Nat.le_of_ble_eq_true rfl) (fun a => [(0, .ref (a 1))]) (fun a => [.ref (a 1)]) rfl rfl (fun a2 h => by constructor <;> simp only [h 1 (by decide)]) dX1_init_23 (fun a3 h3 => ?_)
  refine zc_putFa C (b := 4) (k := 1) (Nat.le_of_ble_eq_true rfl) rfl rfl 4 (Nat.le_of_ble_eq_true rfl) rfl kiX1_init_X1 kfX1_init_19 tyX1 tyX1_ok nmX1 rfl rfl rfl (Nat.le_of_ble_eq_true rfl) (Nat.le_of_ble_eq_true rfl) dX1_init_25 ?_
  refine zc_aload_n C 0 dX1_init_28 rfl rfl ?_
  refine zc_bipush C (v := 50) dX1_init_29 rfl ?_
  refine zc_newa C (t := 0) (n := 50) (ty := .int) rfl rfl (fun _ => rfl) (fun _ h => by cases h) (fun _ => rfl) kaX1_init_int (by decide) (by decide) (by decide) (Nat.le_of_ble_eq_true rfl) (Nat.le_of_ble_eq_true rfl) (fun a => [(0, .ref (a 1))]) (fun a => [.ref (a 1)]) rfl rfl (fun a2 h => by constructor <;> simp only [h 1 (by decide)]) dX1_init_31 (fun a4 h4 => ?_)
  refine zc_putFa C (b := 5) (k := 1) (Nat.le_of_ble_eq_true rfl) rfl rfl 5 (Nat.le_of_ble_eq_true rfl) rfl kiX1_init_X1 kfX1_init_22 tyX1 tyX1_ok nmX1 rfl rfl rfl (Nat.le_of_ble_eq_true rfl) (Nat.le_of_ble_eq_true rfl) dX1_init_33 ?_
  refine zc_aload_n C 0 dX1_init_36 rfl rfl ?_
  refine zc_bipush C (v := 50) dX1_init_37 rfl ?_
  refine zc_newa C (t := 0) (n := 50) (ty := .int) rfl rfl (fun _ => rfl) (fun _ h => by cases h) (fun _ => rfl) kaX1_init_int (by decide) (by decide) (by decide) (Nat.le_of_ble_eq_true rfl) (Nat.le_of_ble_eq_true rfl) (fun a => [(0, .ref (a 1))]) (fun a => [.ref (a 1)]) rfl rfl (fun a2 h => by constructor <;> simp only [h 1 (by decide)]) dX1_init_39 (fun a5 h5 => ?_)
  refine zc_putFa C (b := 6) (k := 1) (Nat.le_of_ble_eq_true rfl) rfl rfl 6 (Nat.le_of_ble_eq_true rfl) rfl kiX1_init_X1 kfX1_init_25 tyX1 tyX1_ok nmX1 rfl rfl rfl (Nat.le_of_ble_eq_true rfl) (Nat.le_of_ble_eq_true rfl) dX1_init_41 ?_
  refine hret _ _ a5 (fun i hi => ?_) dX1_init_44
  rw [h5 i (by omega), h4 i (by omega), h3 i (by omega), h2 i (by omega), h1 i (by omega)]
theorem dX3_init_0 : decode cX3_init 0 = .ok (.aload_n 0, 1) := by decide +kernel
theorem dX3_init_1 : decode cX3_init 1 = .ok (.invokespecial 3, 3) := by decide +kernel
theorem dX3_init_4 : decode cX3_init 4 = .ok (.aload_n 0, 1) := by decide +kernel
theorem dX3_init_5 : decode cX3_init 5 = .ok (.sipush 400, 3) := by decide +kernel
theorem dX3_init_8 : decode cX3_init 8 = .ok (.newarray .byte, 2) := by decide +kernel
theorem dX3_init_10 : decode cX3_init 10 = .ok (.putfield 9, 3) := by decide +kernel
theorem dX3_init_13 : decode cX3_init 13 = .ok (.return_, 1) := by decide +kernel
def rmX3_init : Room := { frames := 1, cells := 1, slots := 400, locals := 20 }
theorem zdX3_init : yX3_init.cls = RX3 ∧ yX3_init.cls ≠ "java/lang/invoke/MethodHandle" ∧ yX3_init.cls ≠ "java/lang/invoke/VarHandle" ∧ (parseMethodDescriptor yX3_init.desc).map (fun d => d.parameters.length) = some 0 := by decide +kernel
theorem ko1X3_init : Cond.methodLink RX3 3 Lib.objectInit ∈ wsX3_init := by decide +kernel
theorem ko2X3_init : Cond.instanceMethod Lib.objectInit ∈ wsX3_init := by decide +kernel
theorem ko3X3_init : Cond.code Lib.objectInit ⟨#[0xb1]⟩ 1 none ∈ wsX3_init := by decide +kernel
theorem kaX3_init_byte : Cond.arrayClass .byte ∈ wsX3_init := by decide +kernel
theorem kiX3_init_X3 : ∀ w ∈ wsX30, w ∈ wsX3_init := by decide +kernel
theorem kfX3_init_9 : Cond.fieldLink RX3 9 "ShapeJudge$Tape" "bytes" "[B" ∈ wsX3_init := by decide +kernel
def s_X3_init (m : Mem) : Mem := (sto (zal LcX m 8) 7 0 (nI 8))
set_option maxRecDepth 100000 in
set_option maxHeartbeats 4000000 in
theorem c_X3_init (l : Launch) (cA : Nat → ClassId) (D : va_G) {ad : Nat → Nat} {m : Mem} : zCc [] LcX l cA D yX3_init wsX3_init rmX3_init [.ref (ad 7)] 8 ad m 9 (s_X3_init m) 1 400 := by
  refine zc_met (own := RX3) zsm_zLc (by decide +kernel) rfl rfl (Nat.le_of_ble_eq_true rfl) rfl ?_
  intro K C hK1 hK2 hKl hret
  subst hK1
  subst hK2
  subst hKl
  show zGc LcX K 8 0 0 ad m [(0, .ref (ad 7))] 0 []
  refine zc_aload_n C 0 dX3_init_0 rfl rfl ?_
  refine zc_obj C ko1X3_init ko2X3_init ko3X3_init (Nat.le_of_ble_eq_true rfl) (Nat.le_of_ble_eq_true rfl) dX3_init_1 ?_
  refine zc_aload_n C 0 dX3_init_4 rfl rfl ?_
  refine zc_sipush C (v := 400) dX3_init_5 rfl ?_
  refine zc_newa C (t := 2) (n := 400) (ty := .byte) rfl rfl (fun _ => rfl) (fun _ h => by cases h) (fun _ => rfl) kaX3_init_byte (by decide) (by decide) (by decide) (Nat.le_of_ble_eq_true rfl) (Nat.le_of_ble_eq_true rfl) (fun a => [(0, .ref (a 7))]) (fun a => [.ref (a 7)]) rfl rfl (fun a2 h => by constructor <;> simp only [h 7 (by decide)]) dX3_init_8 (fun a1 h1 => ?_)
  refine zc_putFa C (b := 8) (k := 7) (Nat.le_of_ble_eq_true rfl) rfl rfl 0 (Nat.le_of_ble_eq_true rfl) rfl kiX3_init_X3 kfX3_init_9 tyX3 tyX3_ok nmX3 rfl rfl rfl (Nat.le_of_ble_eq_true rfl) (Nat.le_of_ble_eq_true rfl) dX3_init_10 ?_
  refine hret _ _ a1 (fun i hi => ?_) dX3_init_13
  rw [h1 i (by omega)]
theorem dX5_init_0 : decode cX5_init 0 = .ok (.aload_n 0, 1) := by decide +kernel
theorem dX5_init_1 : decode cX5_init 1 = .ok (.invokespecial 1, 3) := by decide +kernel
theorem dX5_init_4 : decode cX5_init 4 = .ok (.aload_n 0, 1) := by decide +kernel
theorem dX5_init_5 : decode cX5_init 5 = .ok (.aload_n 1, 1) := by decide +kernel
theorem dX5_init_6 : decode cX5_init 6 = .ok (.putfield 7, 3) := by decide +kernel
theorem dX5_init_9 : decode cX5_init 9 = .ok (.return_, 1) := by decide +kernel
def rmX5_init : Room := { frames := 1, cells := 0, slots := 0, locals := 20 }
theorem zdX5_init : yX5_init.cls = RX5 ∧ yX5_init.cls ≠ "java/lang/invoke/MethodHandle" ∧ yX5_init.cls ≠ "java/lang/invoke/VarHandle" ∧ (parseMethodDescriptor yX5_init.desc).map (fun d => d.parameters.length) = some 1 := by decide +kernel
theorem ko1X5_init : Cond.methodLink RX5 1 Lib.objectInit ∈ wsX5_init := by decide +kernel
theorem ko2X5_init : Cond.instanceMethod Lib.objectInit ∈ wsX5_init := by decide +kernel
theorem ko3X5_init : Cond.code Lib.objectInit ⟨#[0xb1]⟩ 1 none ∈ wsX5_init := by decide +kernel
theorem kiX5_init_X5 : ∀ w ∈ wsX50, w ∈ wsX5_init := by decide +kernel
theorem kfX5_init_7 : Cond.fieldLink RX5 7 "ShapeJudge$Tokens" "tape" "LShapeJudge$Tape;" ∈ wsX5_init := by decide +kernel
def s_X5_init (m : Mem) : Mem := (sto m 10 0 (nI 7))
set_option maxRecDepth 100000 in
set_option maxHeartbeats 4000000 in
theorem c_X5_init (l : Launch) (cA : Nat → ClassId) (D : va_G) {ad : Nat → Nat} {m : Mem} : zCc [] LcX l cA D yX5_init wsX5_init rmX5_init [.ref (ad 10), .ref (ad 7)] 11 ad m 11 (s_X5_init m) 0 0 := by
  refine zc_met (own := RX5) zsm_zLc (by decide +kernel) rfl rfl (Nat.le_of_ble_eq_true rfl) rfl ?_
  intro K C hK1 hK2 hKl hret
  subst hK1
  subst hK2
  subst hKl
  show zGc LcX K 11 0 0 ad m [(0, .ref (ad 10)), (1, .ref (ad 7))] 0 []
  refine zc_aload_n C 0 dX5_init_0 rfl rfl ?_
  refine zc_obj C ko1X5_init ko2X5_init ko3X5_init (Nat.le_of_ble_eq_true rfl) (Nat.le_of_ble_eq_true rfl) dX5_init_1 ?_
  refine zc_aload_n C 0 dX5_init_4 rfl rfl ?_
  refine zc_aload_n C 1 dX5_init_5 rfl rfl ?_
  refine zc_putFb C (b := 7) (k := 10) (Nat.le_of_ble_eq_true rfl) rfl rfl 0 (Nat.le_of_ble_eq_true rfl) rfl kiX5_init_X5 kfX5_init_7 tyX5 tyX5_ok nmX5 rfl rfl rfl (Nat.le_of_ble_eq_true rfl) (Nat.le_of_ble_eq_true rfl) dX5_init_6 ?_
  refine hret _ _ ad (fun i hi => ?_) dX5_init_9
  rfl
set_option maxRecDepth 20000 in
theorem ggX4_init_X5_init : GoodIn wsX4_init wsX5_init := goodIn_r _ [10, 11, 2, 3, 12, 13, 14, 15, 16, 17] (by decide +kernel) (by decide +kernel)
set_option maxRecDepth 20000 in
theorem gX4_init_X5_init : GoodIn wsX4_init (wsX5_init) := ggX4_init_X5_init
theorem dX4_init_0 : decode cX4_init 0 = .ok (.aload_n 0, 1) := by decide +kernel
theorem dX4_init_1 : decode cX4_init 1 = .ok (.invokespecial 3, 3) := by decide +kernel
theorem dX4_init_4 : decode cX4_init 4 = .ok (.aload_n 0, 1) := by decide +kernel
theorem dX4_init_5 : decode cX4_init 5 = .ok (.new 9, 3) := by decide +kernel
theorem dX4_init_8 : decode cX4_init 8 = .ok (.dup, 1) := by decide +kernel
theorem dX4_init_9 : decode cX4_init 9 = .ok (.aload_n 1, 1) := by decide +kernel
theorem dX4_init_10 : decode cX4_init 10 = .ok (.invokespecial 11, 3) := by decide +kernel
theorem dX4_init_13 : decode cX4_init 13 = .ok (.putfield 14, 3) := by decide +kernel
theorem dX4_init_16 : decode cX4_init 16 = .ok (.return_, 1) := by decide +kernel
def rmX4_init : Room := { frames := 2, cells := 1, slots := 5, locals := 41 }
theorem zdX4_init : yX4_init.cls = RX4 ∧ yX4_init.cls ≠ "java/lang/invoke/MethodHandle" ∧ yX4_init.cls ≠ "java/lang/invoke/VarHandle" ∧ (parseMethodDescriptor yX4_init.desc).map (fun d => d.parameters.length) = some 1 := by decide +kernel
theorem ko1X4_init : Cond.methodLink RX4 3 Lib.objectInit ∈ wsX4_init := by decide +kernel
theorem ko2X4_init : Cond.instanceMethod Lib.objectInit ∈ wsX4_init := by decide +kernel
theorem ko3X4_init : Cond.code Lib.objectInit ⟨#[0xb1]⟩ 1 none ∈ wsX4_init := by decide +kernel
theorem kw1X4_init_X5 : Cond.classLink RX4 9 RX5 ∈ wsX4_init := by decide +kernel
theorem kw2X4_init_X5 : Cond.instantiable RX5 5 ∈ wsX4_init := by decide +kernel
theorem kw3X4_init_X5 : Cond.initialized RX5 ∈ wsX4_init := by decide +kernel
theorem kiX4_init_X5 : ∀ w ∈ wsX50, w ∈ wsX4_init := by decide +kernel
theorem kn1X4_init_X5_init : Cond.initialized yX5_init.cls ∈ wsX4_init := by decide +kernel
theorem kn2X4_init_X5_init : Cond.methodLink RX4 11 yX5_init ∈ wsX4_init := by decide +kernel
theorem kn3X4_init_X5_init : Cond.instanceMethod yX5_init ∈ wsX4_init := by decide +kernel
theorem kiX4_init_X4 : ∀ w ∈ wsX40, w ∈ wsX4_init := by decide +kernel
theorem kfX4_init_14 : Cond.fieldLink RX4 14 "ShapeJudge$TextReader" "tokens" "LShapeJudge$Tokens;" ∈ wsX4_init := by decide +kernel
def s_X4_init (m : Mem) : Mem := (sto (s_X5_init (zal LcX m 10)) 9 0 (nI 10))
set_option maxRecDepth 100000 in
set_option maxHeartbeats 4000000 in
theorem c_X4_init (l : Launch) (cA : Nat → ClassId) (D : va_G) {ad : Nat → Nat} {m : Mem} : zCc [] LcX l cA D yX4_init wsX4_init rmX4_init [.ref (ad 9), .ref (ad 7)] 10 ad m 11 (s_X4_init m) 1 5 := by
  refine zc_met (own := RX4) zsm_zLc (by decide +kernel) rfl rfl (Nat.le_of_ble_eq_true rfl) rfl ?_
  intro K C hK1 hK2 hKl hret
  subst hK1
  subst hK2
  subst hKl
  show zGc LcX K 10 0 0 ad m [(0, .ref (ad 9)), (1, .ref (ad 7))] 0 []
  refine zc_aload_n C 0 dX4_init_0 rfl rfl ?_
  refine zc_obj C ko1X4_init ko2X4_init ko3X4_init (Nat.le_of_ble_eq_true rfl) (Nat.le_of_ble_eq_true rfl) dX4_init_1 ?_
  refine zc_aload_n C 0 dX4_init_4 rfl rfl ?_
  refine zc_new C (ci := 5) (n := 5) rfl rfl tyX5 tyX5_ok kiX4_init_X5 kw1X4_init_X5 kw2X4_init_X5 kw3X4_init_X5 zf0_10 (Nat.le_of_ble_eq_true rfl) (Nat.le_of_ble_eq_true rfl) (fun a => [(0, .ref (a 9)), (1, .ref (a 7))]) (fun a => [.ref (a 9)]) rfl rfl (fun a2 h => by constructor <;> simp only [h 7 (by decide), h 9 (by decide)]) dX4_init_5 (fun a1 h1 => ?_)
  refine zc_dup C dX4_init_8 ?_
  refine zc_aload_n C 1 dX4_init_9 rfl rfl ?_
  refine zc_call C (c_X5_init _ _ _) rfl gX4_init_X5_init rfl rfl kn1X4_init_X5_init kn2X4_init_X5_init kn3X4_init_X5_init rfl zdX5_init.2 rfl ⟨(Nat.le_of_ble_eq_true rfl), (Nat.le_of_ble_eq_true rfl)⟩ (Nat.le_of_ble_eq_true rfl) (Nat.le_of_ble_eq_true rfl) (Nat.le_of_ble_eq_true rfl) (fun a => [(0, .ref (a 9)), (1, .ref (a 7))]) (fun a => [.ref (a 10), .ref (a 9)]) rfl rfl (fun a2 h => by constructor <;> simp only [h 7 (by decide), h 9 (by decide), h 10 (by decide)]) dX4_init_10 rfl (fun a2 h2 => ?_)
  refine zc_putFb C (b := 10) (k := 9) (Nat.le_of_ble_eq_true rfl) rfl rfl 0 (Nat.le_of_ble_eq_true rfl) rfl kiX4_init_X4 kfX4_init_14 tyX4 tyX4_ok nmX4 rfl rfl rfl (Nat.le_of_ble_eq_true rfl) (Nat.le_of_ble_eq_true rfl) dX4_init_13 ?_
  refine hret _ _ a2 (fun i hi => ?_) dX4_init_16
  rw [h2 i (by omega), h1 i (by omega)]
set_option maxRecDepth 100000 in
theorem daX0_init : ∀ q ∈ ([(0, .aload_n 0, 1), (1, .invokespecial 3, 3), (4, .aload_n 0, 1), (5, .bipush 6, 2), (7, .newarray .int, 2), (9, .putfield 9, 3), (12, .aload_n 0, 1), (13, .bipush 6, 2), (15, .newarray .int, 2), (17, .putfield 15, 3), (20, .aload_n 0, 1), (21, .bipush 6, 2), (23, .newarray .boolean, 2), (25, .putfield 18, 3), (28, .aload_n 0, 1), (29, .bipush 6, 2), (31, .newarray .int, 2), (33, .putfield 22, 3), (36, .aload_n 0, 1), (37, .bipush 6, 2), (39, .newarray .int, 2), (41, .putfield 25, 3), (44, .aload_n 0, 1), (45, .bipush 6, 2), (47, .newarray .int, 2), (49, .putfield 28, 3), (52, .aload_n 0, 1), (53, .bipush 7, 2), (55, .newarray .int, 2), (57, .putfield 31, 3), (60, .aload_n 0, 1), (61, .sipush 146, 3), (64, .newarray .int, 2), (66, .putfield 34, 3), (69, .aload_n 0, 1), (70, .bipush 36, 2), (72, .newarray .int, 2), (74, .putfield 37, 3), (77, .aload_n 0, 1), (78, .bipush 36, 2), (80, .newarray .int, 2), (82, .putfield 40, 3), (85, .aload_n 0, 1), (86, .bipush 36, 2), (88, .newarray .int, 2), (90, .putfield 43, 3), (93, .aload_n 0, 1), (94, .bipush 36, 2), (96, .newarray .int, 2), (98, .putfield 46, 3), (101, .aload_n 0, 1), (102, .bipush 36, 2), (104, .newarray .int, 2), (106, .putfield 49, 3), (109, .return_, 1)] : List (Nat × Instr × Nat)), decode cX0_init q.1 = .ok q.2 := by decide +kernel
theorem dX0_init_0 : decode cX0_init 0 = .ok (.aload_n 0, 1) := daX0_init (0, .aload_n 0, 1) (List.mem_of_getElem? (i := 0) rfl)
theorem dX0_init_1 : decode cX0_init 1 = .ok (.invokespecial 3, 3) := daX0_init (1, .invokespecial 3, 3) (List.mem_of_getElem? (i := 1) rfl)
theorem dX0_init_4 : decode cX0_init 4 = .ok (.aload_n 0, 1) := daX0_init (4, .aload_n 0, 1) (List.mem_of_getElem? (i := 2) rfl)
theorem dX0_init_5 : decode cX0_init 5 = .ok (.bipush 6, 2) := daX0_init (5, .bipush 6, 2) (List.mem_of_getElem? (i := 3) rfl)
theorem dX0_init_7 : decode cX0_init 7 = .ok (.newarray .int, 2) := daX0_init (7, .newarray .int, 2) (List.mem_of_getElem? (i := 4) rfl)
theorem dX0_init_9 : decode cX0_init 9 = .ok (.putfield 9, 3) := daX0_init (9, .putfield 9, 3) (List.mem_of_getElem? (i := 5) rfl)
theorem dX0_init_12 : decode cX0_init 12 = .ok (.aload_n 0, 1) := daX0_init (12, .aload_n 0, 1) (List.mem_of_getElem? (i := 6) rfl)
theorem dX0_init_13 : decode cX0_init 13 = .ok (.bipush 6, 2) := daX0_init (13, .bipush 6, 2) (List.mem_of_getElem? (i := 7) rfl)
theorem dX0_init_15 : decode cX0_init 15 = .ok (.newarray .int, 2) := daX0_init (15, .newarray .int, 2) (List.mem_of_getElem? (i := 8) rfl)
theorem dX0_init_17 : decode cX0_init 17 = .ok (.putfield 15, 3) := daX0_init (17, .putfield 15, 3) (List.mem_of_getElem? (i := 9) rfl)
theorem dX0_init_20 : decode cX0_init 20 = .ok (.aload_n 0, 1) := daX0_init (20, .aload_n 0, 1) (List.mem_of_getElem? (i := 10) rfl)
theorem dX0_init_21 : decode cX0_init 21 = .ok (.bipush 6, 2) := daX0_init (21, .bipush 6, 2) (List.mem_of_getElem? (i := 11) rfl)
theorem dX0_init_23 : decode cX0_init 23 = .ok (.newarray .boolean, 2) := daX0_init (23, .newarray .boolean, 2) (List.mem_of_getElem? (i := 12) rfl)
theorem dX0_init_25 : decode cX0_init 25 = .ok (.putfield 18, 3) := daX0_init (25, .putfield 18, 3) (List.mem_of_getElem? (i := 13) rfl)
theorem dX0_init_28 : decode cX0_init 28 = .ok (.aload_n 0, 1) := daX0_init (28, .aload_n 0, 1) (List.mem_of_getElem? (i := 14) rfl)
theorem dX0_init_29 : decode cX0_init 29 = .ok (.bipush 6, 2) := daX0_init (29, .bipush 6, 2) (List.mem_of_getElem? (i := 15) rfl)
theorem dX0_init_31 : decode cX0_init 31 = .ok (.newarray .int, 2) := daX0_init (31, .newarray .int, 2) (List.mem_of_getElem? (i := 16) rfl)
theorem dX0_init_33 : decode cX0_init 33 = .ok (.putfield 22, 3) := daX0_init (33, .putfield 22, 3) (List.mem_of_getElem? (i := 17) rfl)
theorem dX0_init_36 : decode cX0_init 36 = .ok (.aload_n 0, 1) := daX0_init (36, .aload_n 0, 1) (List.mem_of_getElem? (i := 18) rfl)
theorem dX0_init_37 : decode cX0_init 37 = .ok (.bipush 6, 2) := daX0_init (37, .bipush 6, 2) (List.mem_of_getElem? (i := 19) rfl)
theorem dX0_init_39 : decode cX0_init 39 = .ok (.newarray .int, 2) := daX0_init (39, .newarray .int, 2) (List.mem_of_getElem? (i := 20) rfl)
theorem dX0_init_41 : decode cX0_init 41 = .ok (.putfield 25, 3) := daX0_init (41, .putfield 25, 3) (List.mem_of_getElem? (i := 21) rfl)
theorem dX0_init_44 : decode cX0_init 44 = .ok (.aload_n 0, 1) := daX0_init (44, .aload_n 0, 1) (List.mem_of_getElem? (i := 22) rfl)
theorem dX0_init_45 : decode cX0_init 45 = .ok (.bipush 6, 2) := daX0_init (45, .bipush 6, 2) (List.mem_of_getElem? (i := 23) rfl)
theorem dX0_init_47 : decode cX0_init 47 = .ok (.newarray .int, 2) := daX0_init (47, .newarray .int, 2) (List.mem_of_getElem? (i := 24) rfl)
theorem dX0_init_49 : decode cX0_init 49 = .ok (.putfield 28, 3) := daX0_init (49, .putfield 28, 3) (List.mem_of_getElem? (i := 25) rfl)
theorem dX0_init_52 : decode cX0_init 52 = .ok (.aload_n 0, 1) := daX0_init (52, .aload_n 0, 1) (List.mem_of_getElem? (i := 26) rfl)
theorem dX0_init_53 : decode cX0_init 53 = .ok (.bipush 7, 2) := daX0_init (53, .bipush 7, 2) (List.mem_of_getElem? (i := 27) rfl)
theorem dX0_init_55 : decode cX0_init 55 = .ok (.newarray .int, 2) := daX0_init (55, .newarray .int, 2) (List.mem_of_getElem? (i := 28) rfl)
theorem dX0_init_57 : decode cX0_init 57 = .ok (.putfield 31, 3) := daX0_init (57, .putfield 31, 3) (List.mem_of_getElem? (i := 29) rfl)
theorem dX0_init_60 : decode cX0_init 60 = .ok (.aload_n 0, 1) := daX0_init (60, .aload_n 0, 1) (List.mem_of_getElem? (i := 30) rfl)
theorem dX0_init_61 : decode cX0_init 61 = .ok (.sipush 146, 3) := daX0_init (61, .sipush 146, 3) (List.mem_of_getElem? (i := 31) rfl)
theorem dX0_init_64 : decode cX0_init 64 = .ok (.newarray .int, 2) := daX0_init (64, .newarray .int, 2) (List.mem_of_getElem? (i := 32) rfl)
theorem dX0_init_66 : decode cX0_init 66 = .ok (.putfield 34, 3) := daX0_init (66, .putfield 34, 3) (List.mem_of_getElem? (i := 33) rfl)
theorem dX0_init_69 : decode cX0_init 69 = .ok (.aload_n 0, 1) := daX0_init (69, .aload_n 0, 1) (List.mem_of_getElem? (i := 34) rfl)
theorem dX0_init_70 : decode cX0_init 70 = .ok (.bipush 36, 2) := daX0_init (70, .bipush 36, 2) (List.mem_of_getElem? (i := 35) rfl)
theorem dX0_init_72 : decode cX0_init 72 = .ok (.newarray .int, 2) := daX0_init (72, .newarray .int, 2) (List.mem_of_getElem? (i := 36) rfl)
theorem dX0_init_74 : decode cX0_init 74 = .ok (.putfield 37, 3) := daX0_init (74, .putfield 37, 3) (List.mem_of_getElem? (i := 37) rfl)
theorem dX0_init_77 : decode cX0_init 77 = .ok (.aload_n 0, 1) := daX0_init (77, .aload_n 0, 1) (List.mem_of_getElem? (i := 38) rfl)
theorem dX0_init_78 : decode cX0_init 78 = .ok (.bipush 36, 2) := daX0_init (78, .bipush 36, 2) (List.mem_of_getElem? (i := 39) rfl)
theorem dX0_init_80 : decode cX0_init 80 = .ok (.newarray .int, 2) := daX0_init (80, .newarray .int, 2) (List.mem_of_getElem? (i := 40) rfl)
theorem dX0_init_82 : decode cX0_init 82 = .ok (.putfield 40, 3) := daX0_init (82, .putfield 40, 3) (List.mem_of_getElem? (i := 41) rfl)
theorem dX0_init_85 : decode cX0_init 85 = .ok (.aload_n 0, 1) := daX0_init (85, .aload_n 0, 1) (List.mem_of_getElem? (i := 42) rfl)
theorem dX0_init_86 : decode cX0_init 86 = .ok (.bipush 36, 2) := daX0_init (86, .bipush 36, 2) (List.mem_of_getElem? (i := 43) rfl)
theorem dX0_init_88 : decode cX0_init 88 = .ok (.newarray .int, 2) := daX0_init (88, .newarray .int, 2) (List.mem_of_getElem? (i := 44) rfl)
theorem dX0_init_90 : decode cX0_init 90 = .ok (.putfield 43, 3) := daX0_init (90, .putfield 43, 3) (List.mem_of_getElem? (i := 45) rfl)
theorem dX0_init_93 : decode cX0_init 93 = .ok (.aload_n 0, 1) := daX0_init (93, .aload_n 0, 1) (List.mem_of_getElem? (i := 46) rfl)
theorem dX0_init_94 : decode cX0_init 94 = .ok (.bipush 36, 2) := daX0_init (94, .bipush 36, 2) (List.mem_of_getElem? (i := 47) rfl)
theorem dX0_init_96 : decode cX0_init 96 = .ok (.newarray .int, 2) := daX0_init (96, .newarray .int, 2) (List.mem_of_getElem? (i := 48) rfl)
theorem dX0_init_98 : decode cX0_init 98 = .ok (.putfield 46, 3) := daX0_init (98, .putfield 46, 3) (List.mem_of_getElem? (i := 49) rfl)
theorem dX0_init_101 : decode cX0_init 101 = .ok (.aload_n 0, 1) := daX0_init (101, .aload_n 0, 1) (List.mem_of_getElem? (i := 50) rfl)
theorem dX0_init_102 : decode cX0_init 102 = .ok (.bipush 36, 2) := daX0_init (102, .bipush 36, 2) (List.mem_of_getElem? (i := 51) rfl)
theorem dX0_init_104 : decode cX0_init 104 = .ok (.newarray .int, 2) := daX0_init (104, .newarray .int, 2) (List.mem_of_getElem? (i := 52) rfl)
theorem dX0_init_106 : decode cX0_init 106 = .ok (.putfield 49, 3) := daX0_init (106, .putfield 49, 3) (List.mem_of_getElem? (i := 53) rfl)
theorem dX0_init_109 : decode cX0_init 109 = .ok (.return_, 1) := daX0_init (109, .return_, 1) (List.mem_of_getElem? (i := 54) rfl)
def rmX0_init_11 : Room := { frames := 1, cells := 13, slots := 369, locals := 20 }
theorem zdX0_init : yX0_init.cls = RX0 ∧ yX0_init.cls ≠ "java/lang/invoke/MethodHandle" ∧ yX0_init.cls ≠ "java/lang/invoke/VarHandle" ∧ (parseMethodDescriptor yX0_init.desc).map (fun d => d.parameters.length) = some 0 := by decide +kernel
theorem ko1X0_init : Cond.methodLink RX0 3 Lib.objectInit ∈ wsX0_init := by decide +kernel
theorem ko2X0_init : Cond.instanceMethod Lib.objectInit ∈ wsX0_init := by decide +kernel
theorem ko3X0_init : Cond.code Lib.objectInit ⟨#[0xb1]⟩ 1 none ∈ wsX0_init := by decide +kernel
theorem kaX0_init_int : Cond.arrayClass .int ∈ wsX0_init := by decide +kernel
theorem kiX0_init_X0 : ∀ w ∈ wsX00, w ∈ wsX0_init := by decide +kernel
theorem kfX0_init_9 : Cond.fieldLink RX0 9 "ShapeJudge$Book" "word" "[I" ∈ wsX0_init := by decide +kernel
theorem kfX0_init_15 : Cond.fieldLink RX0 15 "ShapeJudge$Book" "partCount" "[I" ∈ wsX0_init := by decide +kernel
theorem kaX0_init_boolean : Cond.arrayClass .boolean ∈ wsX0_init := by decide +kernel
theorem kfX0_init_18 : Cond.fieldLink RX0 18 "ShapeJudge$Book" "closed" "[Z" ∈ wsX0_init := by decide +kernel
theorem kfX0_init_22 : Cond.fieldLink RX0 22 "ShapeJudge$Book" "names" "[I" ∈ wsX0_init := by decide +kernel
theorem kfX0_init_25 : Cond.fieldLink RX0 25 "ShapeJudge$Book" "reach" "[I" ∈ wsX0_init := by decide +kernel
theorem kfX0_init_28 : Cond.fieldLink RX0 28 "ShapeJudge$Book" "level" "[I" ∈ wsX0_init := by decide +kernel
theorem kfX0_init_31 : Cond.fieldLink RX0 31 "ShapeJudge$Book" "firstStep" "[I" ∈ wsX0_init := by decide +kernel
theorem kfX0_init_34 : Cond.fieldLink RX0 34 "ShapeJudge$Book" "steps" "[I" ∈ wsX0_init := by decide +kernel
theorem kfX0_init_37 : Cond.fieldLink RX0 37 "ShapeJudge$Book" "partName" "[I" ∈ wsX0_init := by decide +kernel
theorem kfX0_init_40 : Cond.fieldLink RX0 40 "ShapeJudge$Book" "partTest" "[I" ∈ wsX0_init := by decide +kernel
theorem kfX0_init_43 : Cond.fieldLink RX0 43 "ShapeJudge$Book" "partFirst" "[I" ∈ wsX0_init := by decide +kernel
theorem kfX0_init_46 : Cond.fieldLink RX0 46 "ShapeJudge$Book" "partSecond" "[I" ∈ wsX0_init := by decide +kernel
theorem kfX0_init_49 : Cond.fieldLink RX0 49 "ShapeJudge$Book" "partPlace" "[I" ∈ wsX0_init := by decide +kernel
def s_X0_init_11 (m : Mem) : Mem := (sto (zal LcX (sto (zal LcX (sto (zal LcX (sto (zal LcX (sto (zal LcX (sto (zal LcX (sto (zal LcX (sto (zal LcX (sto (zal LcX (sto (zal LcX (sto (zal LcX (sto (zal LcX (sto (zal LcX m 12) 11 3 (nI 12)) 13) 11 4 (nI 13)) 14) 11 5 (nI 14)) 15) 11 6 (nI 15)) 16) 11 7 (nI 16)) 17) 11 8 (nI 17)) 18) 11 9 (nI 18)) 19) 11 10 (nI 19)) 20) 11 11 (nI 20)) 21) 11 12 (nI 21)) 22) 11 13 (nI 22)) 23) 11 14 (nI 23)) 24) 11 15 (nI 24))
set_option maxRecDepth 100000 in
set_option maxHeartbeats 4000000 in
theorem c_X0_init_11 (l : Launch) (cA : Nat → ClassId) (D : va_G) {ad : Nat → Nat} {m : Mem} : zCc [] LcX l cA D yX0_init wsX0_init rmX0_init_11 [.ref (ad 11)] 12 ad m 25 (s_X0_init_11 m) 13 369 := by
  refine zc_met (own := RX0) zsm_zLc (by decide +kernel) rfl rfl (Nat.le_of_ble_eq_true rfl) rfl ?_
  intro K C hK1 hK2 hKl hret
  subst hK1
  subst hK2
  subst hKl
  show zGc LcX K 12 0 0 ad m [(0, .ref (ad 11))] 0 []
  refine zc_aload_n C 0 dX0_init_0 rfl rfl ?_
  refine zc_obj C ko1X0_init ko2X0_init ko3X0_init (Nat.le_of_ble_eq_true rfl) (Nat.le_of_ble_eq_true rfl) dX0_init_1 ?_
  refine zc_aload_n C 0 dX0_init_4 rfl rfl ?_
  refine zc_bipush C (v := 6) dX0_init_5 rfl ?_
  refine zc_newa C (t := 0) (n := 6) (ty := .int) rfl rfl (fun _ => rfl) (fun _ h => by cases h) (fun _ => rfl) kaX0_init_int (by decide) (by decide) (by decide) (Nat.le_of_ble_eq_true rfl) (Nat.le_of_ble_eq_true rfl) (fun a => [(0, .ref (a 11))]) (fun a => [.ref (a 11)]) rfl rfl (fun a2 h => by constructor <;> simp only [h 11 (by decide)]) dX0_init_7 (fun a1 h1 => ?_)
  refine zc_putFa C (b := 12) (k := 11) (Nat.le_of_ble_eq_true rfl) rfl rfl 3 (Nat.le_of_ble_eq_true rfl) rfl kiX0_init_X0 kfX0_init_9 tyX0 tyX0_ok nmX0 rfl rfl rfl (Nat.le_of_ble_eq_true rfl) (Nat.le_of_ble_eq_true rfl) dX0_init_9 ?_
  refine zc_aload_n C 0 dX0_init_12 rfl rfl ?_
  refine zc_bipush C (v := 6) dX0_init_13 rfl ?_
  refine zc_newa C (t := 0) (n := 6) (ty := .int) rfl rfl (fun _ => rfl) (fun _ h => by cases h) (fun _ => rfl) kaX0_init_int (by decide) (by decide) (by decide) (Nat.le_of_ble_eq_true rfl) (Nat.le_of_ble_eq_true rfl) (fun a => [(0, .ref (a 11))]) (fun a => [.ref (a 11)]) rfl rfl (fun a2 h => by constructor <;> simp only [h 11 (by decide)]) dX0_init_15 (fun a2 h2 => ?_)
  refine zc_putFa C (b := 13) (k := 11) (Nat.le_of_ble_eq_true rfl) rfl rfl 4 (Nat.le_of_ble_eq_true rfl) rfl kiX0_init_X0 kfX0_init_15 tyX0 tyX0_ok nmX0 rfl rfl rfl (Nat.le_of_ble_eq_true rfl) (Nat.le_of_ble_eq_true rfl) dX0_init_17 ?_
  refine zc_aload_n C 0 dX0_init_20 rfl rfl ?_
  refine zc_bipush C (v := 6) dX0_init_21 rfl ?_
  refine zc_newa C (t := 1) (n := 6) (ty := .boolean) rfl rfl (fun _ => rfl) (fun _ h => by cases h) (fun _ => rfl) kaX0_init_boolean (by decide) (by decide) (by decide) (Nat.le_of_ble_eq_true rfl) (Nat.le_of_ble_eq_true rfl) (fun a => [(0, .ref (a 11))]) (fun a => [.ref (a 11)]) rfl rfl (fun a2 h => by constructor <;> simp only [h 11 (by decide)]) dX0_init_23 (fun a3 h3 => ?_)
  refine zc_putFa C (b := 14) (k := 11) (Nat.le_of_ble_eq_true rfl) rfl rfl 5 (Nat.le_of_ble_eq_true rfl) rfl kiX0_init_X0 kfX0_init_18 tyX0 tyX0_ok nmX0 rfl rfl rfl (Nat.le_of_ble_eq_true rfl) (Nat.le_of_ble_eq_true rfl) dX0_init_25 ?_
  refine zc_aload_n C 0 dX0_init_28 rfl rfl ?_
  refine zc_bipush C (v := 6) dX0_init_29 rfl ?_
  refine zc_newa C (t := 0) (n := 6) (ty := .int) rfl rfl (fun _ => rfl) (fun _ h => by cases h) (fun _ => rfl) kaX0_init_int (by decide) (by decide) (by decide) (Nat.le_of_ble_eq_true rfl) (Nat.le_of_ble_eq_true rfl) (fun a => [(0, .ref (a 11))]) (fun a => [.ref (a 11)]) rfl rfl (fun a2 h => by constructor <;> simp only [h 11 (by decide)]) dX0_init_31 (fun a4 h4 => ?_)
  refine zc_putFa C (b := 15) (k := 11) (Nat.le_of_ble_eq_true rfl) rfl rfl 6 (Nat.le_of_ble_eq_true rfl) rfl kiX0_init_X0 kfX0_init_22 tyX0 tyX0_ok nmX0 rfl rfl rfl (Nat.le_of_ble_eq_true rfl) (Nat.le_of_ble_eq_true rfl) dX0_init_33 ?_
  refine zc_aload_n C 0 dX0_init_36 rfl rfl ?_
  refine zc_bipush C (v := 6) dX0_init_37 rfl ?_
  refine zc_newa C (t := 0) (n := 6) (ty := .int) rfl rfl (fun _ => rfl) (fun _ h => by cases h) (fun _ => rfl) kaX0_init_int (by decide) (by decide) (by decide) (Nat.le_of_ble_eq_true rfl) (Nat.le_of_ble_eq_true rfl) (fun a => [(0, .ref (a 11))]) (fun a => [.ref (a 11)]) rfl rfl (fun a2 h => by constructor <;> simp only [h 11 (by decide)]) dX0_init_39 (fun a5 h5 => ?_)
  refine zc_putFa C (b := 16) (k := 11) (Nat.le_of_ble_eq_true rfl) rfl rfl 7 (Nat.le_of_ble_eq_true rfl) rfl kiX0_init_X0 kfX0_init_25 tyX0 tyX0_ok nmX0 rfl rfl rfl (Nat.le_of_ble_eq_true rfl) (Nat.le_of_ble_eq_true rfl) dX0_init_41 ?_
  refine zc_aload_n C 0 dX0_init_44 rfl rfl ?_
  refine zc_bipush C (v := 6) dX0_init_45 rfl ?_
  refine zc_newa C (t := 0) (n := 6) (ty := .int) rfl rfl (fun _ => rfl) (fun _ h => by cases h) (fun _ => rfl) kaX0_init_int (by decide) (by decide) (by decide) (Nat.le_of_ble_eq_true rfl) (Nat.le_of_ble_eq_true rfl) (fun a => [(0, .ref (a 11))]) (fun a => [.ref (a 11)]) rfl rfl (fun a2 h => by constructor <;> simp only [h 11 (by decide)]) dX0_init_47 (fun a6 h6 => ?_)
  refine zc_putFa C (b := 17) (k := 11) (Nat.le_of_ble_eq_true rfl) rfl rfl 8 (Nat.le_of_ble_eq_true rfl) rfl kiX0_init_X0 kfX0_init_28 tyX0 tyX0_ok nmX0 rfl rfl rfl (Nat.le_of_ble_eq_true rfl) (Nat.le_of_ble_eq_true rfl) dX0_init_49 ?_
  refine zc_aload_n C 0 dX0_init_52 rfl rfl ?_
  refine zc_bipush C (v := 7) dX0_init_53 rfl ?_
  refine zc_newa C (t := 0) (n := 7) (ty := .int) rfl rfl (fun _ => rfl) (fun _ h => by cases h) (fun _ => rfl) kaX0_init_int (by decide) (by decide) (by decide) (Nat.le_of_ble_eq_true rfl) (Nat.le_of_ble_eq_true rfl) (fun a => [(0, .ref (a 11))]) (fun a => [.ref (a 11)]) rfl rfl (fun a2 h => by constructor <;> simp only [h 11 (by decide)]) dX0_init_55 (fun a7 h7 => ?_)
  refine zc_putFa C (b := 18) (k := 11) (Nat.le_of_ble_eq_true rfl) rfl rfl 9 (Nat.le_of_ble_eq_true rfl) rfl kiX0_init_X0 kfX0_init_31 tyX0 tyX0_ok nmX0 rfl rfl rfl (Nat.le_of_ble_eq_true rfl) (Nat.le_of_ble_eq_true rfl) dX0_init_57 ?_
  refine zc_aload_n C 0 dX0_init_60 rfl rfl ?_
  refine zc_sipush C (v := 146) dX0_init_61 rfl ?_
  refine zc_newa C (t := 0) (n := 146) (ty := .int) rfl rfl (fun _ => rfl) (fun _ h => by cases h) (fun _ => rfl) kaX0_init_int (by decide) (by decide) (by decide) (Nat.le_of_ble_eq_true rfl) (Nat.le_of_ble_eq_true rfl) (fun a => [(0, .ref (a 11))]) (fun a => [.ref (a 11)]) rfl rfl (fun a2 h => by constructor <;> simp only [h 11 (by decide)]) dX0_init_64 (fun a8 h8 => ?_)
  refine zc_putFa C (b := 19) (k := 11) (Nat.le_of_ble_eq_true rfl) rfl rfl 10 (Nat.le_of_ble_eq_true rfl) rfl kiX0_init_X0 kfX0_init_34 tyX0 tyX0_ok nmX0 rfl rfl rfl (Nat.le_of_ble_eq_true rfl) (Nat.le_of_ble_eq_true rfl) dX0_init_66 ?_
  refine zc_aload_n C 0 dX0_init_69 rfl rfl ?_
  refine zc_bipush C (v := 36) dX0_init_70 rfl ?_
  refine zc_newa C (t := 0) (n := 36) (ty := .int) rfl rfl (fun _ => rfl) (fun _ h => by cases h) (fun _ => rfl) kaX0_init_int (by decide) (by decide) (by decide) (Nat.le_of_ble_eq_true rfl) (Nat.le_of_ble_eq_true rfl) (fun a => [(0, .ref (a 11))]) (fun a => [.ref (a 11)]) rfl rfl (fun a2 h => by constructor <;> simp only [h 11 (by decide)]) dX0_init_72 (fun a9 h9 => ?_)
  refine zc_putFa C (b := 20) (k := 11) (Nat.le_of_ble_eq_true rfl) rfl rfl 11 (Nat.le_of_ble_eq_true rfl) rfl kiX0_init_X0 kfX0_init_37 tyX0 tyX0_ok nmX0 rfl rfl rfl (Nat.le_of_ble_eq_true rfl) (Nat.le_of_ble_eq_true rfl) dX0_init_74 ?_
  refine zc_aload_n C 0 dX0_init_77 rfl rfl ?_
  refine zc_bipush C (v := 36) dX0_init_78 rfl ?_
  refine zc_newa C (t := 0) (n := 36) (ty := .int) rfl rfl (fun _ => rfl) (fun _ h => by cases h) (fun _ => rfl) kaX0_init_int (by decide) (by decide) (by decide) (Nat.le_of_ble_eq_true rfl) (Nat.le_of_ble_eq_true rfl) (fun a => [(0, .ref (a 11))]) (fun a => [.ref (a 11)]) rfl rfl (fun a2 h => by constructor <;> simp only [h 11 (by decide)]) dX0_init_80 (fun a10 h10 => ?_)
  refine zc_putFa C (b := 21) (k := 11) (Nat.le_of_ble_eq_true rfl) rfl rfl 12 (Nat.le_of_ble_eq_true rfl) rfl kiX0_init_X0 kfX0_init_40 tyX0 tyX0_ok nmX0 rfl rfl rfl (Nat.le_of_ble_eq_true rfl) (Nat.le_of_ble_eq_true rfl) dX0_init_82 ?_
  refine zc_aload_n C 0 dX0_init_85 rfl rfl ?_
  refine zc_bipush C (v := 36) dX0_init_86 rfl ?_
  refine zc_newa C (t := 0) (n := 36) (ty := .int) rfl rfl (fun _ => rfl) (fun _ h => by cases h) (fun _ => rfl) kaX0_init_int (by decide) (by decide) (by decide) (Nat.le_of_ble_eq_true rfl) (Nat.le_of_ble_eq_true rfl) (fun a => [(0, .ref (a 11))]) (fun a => [.ref (a 11)]) rfl rfl (fun a2 h => by constructor <;> simp only [h 11 (by decide)]) dX0_init_88 (fun a11 h11 => ?_)
  refine zc_putFa C (b := 22) (k := 11) (Nat.le_of_ble_eq_true rfl) rfl rfl 13 (Nat.le_of_ble_eq_true rfl) rfl kiX0_init_X0 kfX0_init_43 tyX0 tyX0_ok nmX0 rfl rfl rfl (Nat.le_of_ble_eq_true rfl) (Nat.le_of_ble_eq_true rfl) dX0_init_90 ?_
  refine zc_aload_n C 0 dX0_init_93 rfl rfl ?_
  refine zc_bipush C (v := 36) dX0_init_94 rfl ?_
  refine zc_newa C (t := 0) (n := 36) (ty := .int) rfl rfl (fun _ => rfl) (fun _ h => by cases h) (fun _ => rfl) kaX0_init_int (by decide) (by decide) (by decide) (Nat.le_of_ble_eq_true rfl) (Nat.le_of_ble_eq_true rfl) (fun a => [(0, .ref (a 11))]) (fun a => [.ref (a 11)]) rfl rfl (fun a2 h => by constructor <;> simp only [h 11 (by decide)]) dX0_init_96 (fun a12 h12 => ?_)
  refine zc_putFa C (b := 23) (k := 11) (Nat.le_of_ble_eq_true rfl) rfl rfl 14 (Nat.le_of_ble_eq_true rfl) rfl kiX0_init_X0 kfX0_init_46 tyX0 tyX0_ok nmX0 rfl rfl rfl (Nat.le_of_ble_eq_true rfl) (Nat.le_of_ble_eq_true rfl) dX0_init_98 ?_
  refine zc_aload_n C 0 dX0_init_101 rfl rfl ?_
  refine zc_bipush C (v := 36) dX0_init_102 rfl ?_
  refine zc_newa C (t := 0) (n := 36) (ty := .int) rfl rfl (fun _ => rfl) (fun _ h => by cases h) (fun _ => rfl) kaX0_init_int (by decide) (by decide) (by decide) (Nat.le_of_ble_eq_true rfl) (Nat.le_of_ble_eq_true rfl) (fun a => [(0, .ref (a 11))]) (fun a => [.ref (a 11)]) rfl rfl (fun a2 h => by constructor <;> simp only [h 11 (by decide)]) dX0_init_104 (fun a13 h13 => ?_)
  refine zc_putFa C (b := 24) (k := 11) (Nat.le_of_ble_eq_true rfl) rfl rfl 15 (Nat.le_of_ble_eq_true rfl) rfl kiX0_init_X0 kfX0_init_49 tyX0 tyX0_ok nmX0 rfl rfl rfl (Nat.le_of_ble_eq_true rfl) (Nat.le_of_ble_eq_true rfl) dX0_init_106 ?_
  refine hret _ _ a13 (fun i hi => ?_) dX0_init_109
  rw [h13 i (by omega), h12 i (by omega), h11 i (by omega), h10 i (by omega), h9 i (by omega), h8 i (by omega), h7 i (by omega), h6 i (by omega), h5 i (by omega), h4 i (by omega), h3 i (by omega), h2 i (by omega), h1 i (by omega)]
def rmX0_init_25 : Room := { frames := 1, cells := 13, slots := 369, locals := 20 }
def s_X0_init_25 (m : Mem) : Mem := (sto (zal LcX (sto (zal LcX (sto (zal LcX (sto (zal LcX (sto (zal LcX (sto (zal LcX (sto (zal LcX (sto (zal LcX (sto (zal LcX (sto (zal LcX (sto (zal LcX (sto (zal LcX (sto (zal LcX m 26) 25 3 (nI 26)) 27) 25 4 (nI 27)) 28) 25 5 (nI 28)) 29) 25 6 (nI 29)) 30) 25 7 (nI 30)) 31) 25 8 (nI 31)) 32) 25 9 (nI 32)) 33) 25 10 (nI 33)) 34) 25 11 (nI 34)) 35) 25 12 (nI 35)) 36) 25 13 (nI 36)) 37) 25 14 (nI 37)) 38) 25 15 (nI 38))
set_option maxRecDepth 100000 in
set_option maxHeartbeats 4000000 in
theorem c_X0_init_25 (l : Launch) (cA : Nat → ClassId) (D : va_G) {ad : Nat → Nat} {m : Mem} : zCc [] LcX l cA D yX0_init wsX0_init rmX0_init_25 [.ref (ad 25)] 26 ad m 39 (s_X0_init_25 m) 13 369 := by
  refine zc_met (own := RX0) zsm_zLc (by decide +kernel) rfl rfl (Nat.le_of_ble_eq_true rfl) rfl ?_
  intro K C hK1 hK2 hKl hret
  subst hK1
  subst hK2
  subst hKl
  show zGc LcX K 26 0 0 ad m [(0, .ref (ad 25))] 0 []
  refine zc_aload_n C 0 dX0_init_0 rfl rfl ?_
  refine zc_obj C ko1X0_init ko2X0_init ko3X0_init (Nat.le_of_ble_eq_true rfl) (Nat.le_of_ble_eq_true rfl) dX0_init_1 ?_
  refine zc_aload_n C 0 dX0_init_4 rfl rfl ?_
  refine zc_bipush C (v := 6) dX0_init_5 rfl ?_
  refine zc_newa C (t := 0) (n := 6) (ty := .int) rfl rfl (fun _ => rfl) (fun _ h => by cases h) (fun _ => rfl) kaX0_init_int (by decide) (by decide) (by decide) (Nat.le_of_ble_eq_true rfl) (Nat.le_of_ble_eq_true rfl) (fun a => [(0, .ref (a 25))]) (fun a => [.ref (a 25)]) rfl rfl (fun a2 h => by constructor <;> simp only [h 25 (by decide)]) dX0_init_7 (fun a1 h1 => ?_)
  refine zc_putFa C (b := 26) (k := 25) (Nat.le_of_ble_eq_true rfl) rfl rfl 3 (Nat.le_of_ble_eq_true rfl) rfl kiX0_init_X0 kfX0_init_9 tyX0 tyX0_ok nmX0 rfl rfl rfl (Nat.le_of_ble_eq_true rfl) (Nat.le_of_ble_eq_true rfl) dX0_init_9 ?_
  refine zc_aload_n C 0 dX0_init_12 rfl rfl ?_
  refine zc_bipush C (v := 6) dX0_init_13 rfl ?_
  refine zc_newa C (t := 0) (n := 6) (ty := .int) rfl rfl (fun _ => rfl) (fun _ h => by cases h) (fun _ => rfl) kaX0_init_int (by decide) (by decide) (by decide) (Nat.le_of_ble_eq_true rfl) (Nat.le_of_ble_eq_true rfl) (fun a => [(0, .ref (a 25))]) (fun a => [.ref (a 25)]) rfl rfl (fun a2 h => by constructor <;> simp only [h 25 (by decide)]) dX0_init_15 (fun a2 h2 => ?_)
  refine zc_putFa C (b := 27) (k := 25) (Nat.le_of_ble_eq_true rfl) rfl rfl 4 (Nat.le_of_ble_eq_true rfl) rfl kiX0_init_X0 kfX0_init_15 tyX0 tyX0_ok nmX0 rfl rfl rfl (Nat.le_of_ble_eq_true rfl) (Nat.le_of_ble_eq_true rfl) dX0_init_17 ?_
  refine zc_aload_n C 0 dX0_init_20 rfl rfl ?_
  refine zc_bipush C (v := 6) dX0_init_21 rfl ?_
  refine zc_newa C (t := 1) (n := 6) (ty := .boolean) rfl rfl (fun _ => rfl) (fun _ h => by cases h) (fun _ => rfl) kaX0_init_boolean (by decide) (by decide) (by decide) (Nat.le_of_ble_eq_true rfl) (Nat.le_of_ble_eq_true rfl) (fun a => [(0, .ref (a 25))]) (fun a => [.ref (a 25)]) rfl rfl (fun a2 h => by constructor <;> simp only [h 25 (by decide)]) dX0_init_23 (fun a3 h3 => ?_)
  refine zc_putFa C (b := 28) (k := 25) (Nat.le_of_ble_eq_true rfl) rfl rfl 5 (Nat.le_of_ble_eq_true rfl) rfl kiX0_init_X0 kfX0_init_18 tyX0 tyX0_ok nmX0 rfl rfl rfl (Nat.le_of_ble_eq_true rfl) (Nat.le_of_ble_eq_true rfl) dX0_init_25 ?_
  refine zc_aload_n C 0 dX0_init_28 rfl rfl ?_
  refine zc_bipush C (v := 6) dX0_init_29 rfl ?_
  refine zc_newa C (t := 0) (n := 6) (ty := .int) rfl rfl (fun _ => rfl) (fun _ h => by cases h) (fun _ => rfl) kaX0_init_int (by decide) (by decide) (by decide) (Nat.le_of_ble_eq_true rfl) (Nat.le_of_ble_eq_true rfl) (fun a => [(0, .ref (a 25))]) (fun a => [.ref (a 25)]) rfl rfl (fun a2 h => by constructor <;> simp only [h 25 (by decide)]) dX0_init_31 (fun a4 h4 => ?_)
  refine zc_putFa C (b := 29) (k := 25) (Nat.le_of_ble_eq_true rfl) rfl rfl 6 (Nat.le_of_ble_eq_true rfl) rfl kiX0_init_X0 kfX0_init_22 tyX0 tyX0_ok nmX0 rfl rfl rfl (Nat.le_of_ble_eq_true rfl) (Nat.le_of_ble_eq_true rfl) dX0_init_33 ?_
  refine zc_aload_n C 0 dX0_init_36 rfl rfl ?_
  refine zc_bipush C (v := 6) dX0_init_37 rfl ?_
  refine zc_newa C (t := 0) (n := 6) (ty := .int) rfl rfl (fun _ => rfl) (fun _ h => by cases h) (fun _ => rfl) kaX0_init_int (by decide) (by decide) (by decide) (Nat.le_of_ble_eq_true rfl) (Nat.le_of_ble_eq_true rfl) (fun a => [(0, .ref (a 25))]) (fun a => [.ref (a 25)]) rfl rfl (fun a2 h => by constructor <;> simp only [h 25 (by decide)]) dX0_init_39 (fun a5 h5 => ?_)
  refine zc_putFa C (b := 30) (k := 25) (Nat.le_of_ble_eq_true rfl) rfl rfl 7 (Nat.le_of_ble_eq_true rfl) rfl kiX0_init_X0 kfX0_init_25 tyX0 tyX0_ok nmX0 rfl rfl rfl (Nat.le_of_ble_eq_true rfl) (Nat.le_of_ble_eq_true rfl) dX0_init_41 ?_
  refine zc_aload_n C 0 dX0_init_44 rfl rfl ?_
  refine zc_bipush C (v := 6) dX0_init_45 rfl ?_
  refine zc_newa C (t := 0) (n := 6) (ty := .int) rfl rfl (fun _ => rfl) (fun _ h => by cases h) (fun _ => rfl) kaX0_init_int (by decide) (by decide) (by decide) (Nat.le_of_ble_eq_true rfl) (Nat.le_of_ble_eq_true rfl) (fun a => [(0, .ref (a 25))]) (fun a => [.ref (a 25)]) rfl rfl (fun a2 h => by constructor <;> simp only [h 25 (by decide)]) dX0_init_47 (fun a6 h6 => ?_)
  refine zc_putFa C (b := 31) (k := 25) (Nat.le_of_ble_eq_true rfl) rfl rfl 8 (Nat.le_of_ble_eq_true rfl) rfl kiX0_init_X0 kfX0_init_28 tyX0 tyX0_ok nmX0 rfl rfl rfl (Nat.le_of_ble_eq_true rfl) (Nat.le_of_ble_eq_true rfl) dX0_init_49 ?_
  refine zc_aload_n C 0 dX0_init_52 rfl rfl ?_
  refine zc_bipush C (v := 7) dX0_init_53 rfl ?_
  refine zc_newa C (t := 0) (n := 7) (ty := .int) rfl rfl (fun _ => rfl) (fun _ h => by cases h) (fun _ => rfl) kaX0_init_int (by decide) (by decide) (by decide) (Nat.le_of_ble_eq_true rfl) (Nat.le_of_ble_eq_true rfl) (fun a => [(0, .ref (a 25))]) (fun a => [.ref (a 25)]) rfl rfl (fun a2 h => by constructor <;> simp only [h 25 (by decide)]) dX0_init_55 (fun a7 h7 => ?_)
  refine zc_putFa C (b := 32) (k := 25) (Nat.le_of_ble_eq_true rfl) rfl rfl 9 (Nat.le_of_ble_eq_true rfl) rfl kiX0_init_X0 kfX0_init_31 tyX0 tyX0_ok nmX0 rfl rfl rfl (Nat.le_of_ble_eq_true rfl) (Nat.le_of_ble_eq_true rfl) dX0_init_57 ?_
  refine zc_aload_n C 0 dX0_init_60 rfl rfl ?_
  refine zc_sipush C (v := 146) dX0_init_61 rfl ?_
  refine zc_newa C (t := 0) (n := 146) (ty := .int) rfl rfl (fun _ => rfl) (fun _ h => by cases h) (fun _ => rfl) kaX0_init_int (by decide) (by decide) (by decide) (Nat.le_of_ble_eq_true rfl) (Nat.le_of_ble_eq_true rfl) (fun a => [(0, .ref (a 25))]) (fun a => [.ref (a 25)]) rfl rfl (fun a2 h => by constructor <;> simp only [h 25 (by decide)]) dX0_init_64 (fun a8 h8 => ?_)
  refine zc_putFa C (b := 33) (k := 25) (Nat.le_of_ble_eq_true rfl) rfl rfl 10 (Nat.le_of_ble_eq_true rfl) rfl kiX0_init_X0 kfX0_init_34 tyX0 tyX0_ok nmX0 rfl rfl rfl (Nat.le_of_ble_eq_true rfl) (Nat.le_of_ble_eq_true rfl) dX0_init_66 ?_
  refine zc_aload_n C 0 dX0_init_69 rfl rfl ?_
  refine zc_bipush C (v := 36) dX0_init_70 rfl ?_
  refine zc_newa C (t := 0) (n := 36) (ty := .int) rfl rfl (fun _ => rfl) (fun _ h => by cases h) (fun _ => rfl) kaX0_init_int (by decide) (by decide) (by decide) (Nat.le_of_ble_eq_true rfl) (Nat.le_of_ble_eq_true rfl) (fun a => [(0, .ref (a 25))]) (fun a => [.ref (a 25)]) rfl rfl (fun a2 h => by constructor <;> simp only [h 25 (by decide)]) dX0_init_72 (fun a9 h9 => ?_)
  refine zc_putFa C (b := 34) (k := 25) (Nat.le_of_ble_eq_true rfl) rfl rfl 11 (Nat.le_of_ble_eq_true rfl) rfl kiX0_init_X0 kfX0_init_37 tyX0 tyX0_ok nmX0 rfl rfl rfl (Nat.le_of_ble_eq_true rfl) (Nat.le_of_ble_eq_true rfl) dX0_init_74 ?_
  refine zc_aload_n C 0 dX0_init_77 rfl rfl ?_
  refine zc_bipush C (v := 36) dX0_init_78 rfl ?_
  refine zc_newa C (t := 0) (n := 36) (ty := .int) rfl rfl (fun _ => rfl) (fun _ h => by cases h) (fun _ => rfl) kaX0_init_int (by decide) (by decide) (by decide) (Nat.le_of_ble_eq_true rfl) (Nat.le_of_ble_eq_true rfl) (fun a => [(0, .ref (a 25))]) (fun a => [.ref (a 25)]) rfl rfl (fun a2 h => by constructor <;> simp only [h 25 (by decide)]) dX0_init_80 (fun a10 h10 => ?_)
  refine zc_putFa C (b := 35) (k := 25) (Nat.le_of_ble_eq_true rfl) rfl rfl 12 (Nat.le_of_ble_eq_true rfl) rfl kiX0_init_X0 kfX0_init_40 tyX0 tyX0_ok nmX0 rfl rfl rfl (Nat.le_of_ble_eq_true rfl) (Nat.le_of_ble_eq_true rfl) dX0_init_82 ?_
  refine zc_aload_n C 0 dX0_init_85 rfl rfl ?_
  refine zc_bipush C (v := 36) dX0_init_86 rfl ?_
  refine zc_newa C (t := 0) (n := 36) (ty := .int) rfl rfl (fun _ => rfl) (fun _ h => by cases h) (fun _ => rfl) kaX0_init_int (by decide) (by decide) (by decide) (Nat.le_of_ble_eq_true rfl) (Nat.le_of_ble_eq_true rfl) (fun a => [(0, .ref (a 25))]) (fun a => [.ref (a 25)]) rfl rfl (fun a2 h => by constructor <;> simp only [h 25 (by decide)]) dX0_init_88 (fun a11 h11 => ?_)
  refine zc_putFa C (b := 36) (k := 25) (Nat.le_of_ble_eq_true rfl) rfl rfl 13 (Nat.le_of_ble_eq_true rfl) rfl kiX0_init_X0 kfX0_init_43 tyX0 tyX0_ok nmX0 rfl rfl rfl (Nat.le_of_ble_eq_true rfl) (Nat.le_of_ble_eq_true rfl) dX0_init_90 ?_
  refine zc_aload_n C 0 dX0_init_93 rfl rfl ?_
  refine zc_bipush C (v := 36) dX0_init_94 rfl ?_
  refine zc_newa C (t := 0) (n := 36) (ty := .int) rfl rfl (fun _ => rfl) (fun _ h => by cases h) (fun _ => rfl) kaX0_init_int (by decide) (by decide) (by decide) (Nat.le_of_ble_eq_true rfl) (Nat.le_of_ble_eq_true rfl) (fun a => [(0, .ref (a 25))]) (fun a => [.ref (a 25)]) rfl rfl (fun a2 h => by constructor <;> simp only [h 25 (by decide)]) dX0_init_96 (fun a12 h12 => ?_)
  refine zc_putFa C (b := 37) (k := 25) (Nat.le_of_ble_eq_true rfl) rfl rfl 14 (Nat.le_of_ble_eq_true rfl) rfl kiX0_init_X0 kfX0_init_46 tyX0 tyX0_ok nmX0 rfl rfl rfl (Nat.le_of_ble_eq_true rfl) (Nat.le_of_ble_eq_true rfl) dX0_init_98 ?_
  refine zc_aload_n C 0 dX0_init_101 rfl rfl ?_
  refine zc_bipush C (v := 36) dX0_init_102 rfl ?_
  refine zc_newa C (t := 0) (n := 36) (ty := .int) rfl rfl (fun _ => rfl) (fun _ h => by cases h) (fun _ => rfl) kaX0_init_int (by decide) (by decide) (by decide) (Nat.le_of_ble_eq_true rfl) (Nat.le_of_ble_eq_true rfl) (fun a => [(0, .ref (a 25))]) (fun a => [.ref (a 25)]) rfl rfl (fun a2 h => by constructor <;> simp only [h 25 (by decide)]) dX0_init_104 (fun a13 h13 => ?_)
  refine zc_putFa C (b := 38) (k := 25) (Nat.le_of_ble_eq_true rfl) rfl rfl 15 (Nat.le_of_ble_eq_true rfl) rfl kiX0_init_X0 kfX0_init_49 tyX0 tyX0_ok nmX0 rfl rfl rfl (Nat.le_of_ble_eq_true rfl) (Nat.le_of_ble_eq_true rfl) dX0_init_106 ?_
  refine hret _ _ a13 (fun i hi => ?_) dX0_init_109
  rw [h13 i (by omega), h12 i (by omega), h11 i (by omega), h10 i (by omega), h9 i (by omega), h8 i (by omega), h7 i (by omega), h6 i (by omega), h5 i (by omega), h4 i (by omega), h3 i (by omega), h2 i (by omega), h1 i (by omega)]
theorem dX2_init_0 : decode cX2_init 0 = .ok (.aload_n 0, 1) := by decide +kernel
theorem dX2_init_1 : decode cX2_init 1 = .ok (.invokespecial 3, 3) := by decide +kernel
theorem dX2_init_4 : decode cX2_init 4 = .ok (.aload_n 0, 1) := by decide +kernel
theorem dX2_init_5 : decode cX2_init 5 = .ok (.bipush 6, 2) := by decide +kernel
theorem dX2_init_7 : decode cX2_init 7 = .ok (.newarray .int, 2) := by decide +kernel
theorem dX2_init_9 : decode cX2_init 9 = .ok (.putfield 9, 3) := by decide +kernel
theorem dX2_init_12 : decode cX2_init 12 = .ok (.aload_n 0, 1) := by decide +kernel
theorem dX2_init_13 : decode cX2_init 13 = .ok (.bipush 6, 2) := by decide +kernel
theorem dX2_init_15 : decode cX2_init 15 = .ok (.newarray .int, 2) := by decide +kernel
theorem dX2_init_17 : decode cX2_init 17 = .ok (.putfield 15, 3) := by decide +kernel
theorem dX2_init_20 : decode cX2_init 20 = .ok (.aload_n 0, 1) := by decide +kernel
theorem dX2_init_21 : decode cX2_init 21 = .ok (.iconst 5, 1) := by decide +kernel
theorem dX2_init_22 : decode cX2_init 22 = .ok (.newarray .int, 2) := by decide +kernel
theorem dX2_init_24 : decode cX2_init 24 = .ok (.putfield 18, 3) := by decide +kernel
theorem dX2_init_27 : decode cX2_init 27 = .ok (.aload_n 0, 1) := by decide +kernel
theorem dX2_init_28 : decode cX2_init 28 = .ok (.bipush 6, 2) := by decide +kernel
theorem dX2_init_30 : decode cX2_init 30 = .ok (.newarray .int, 2) := by decide +kernel
theorem dX2_init_32 : decode cX2_init 32 = .ok (.putfield 21, 3) := by decide +kernel
theorem dX2_init_35 : decode cX2_init 35 = .ok (.aload_n 0, 1) := by decide +kernel
theorem dX2_init_36 : decode cX2_init 36 = .ok (.aload_n 1, 1) := by decide +kernel
theorem dX2_init_37 : decode cX2_init 37 = .ok (.putfield 24, 3) := by decide +kernel
theorem dX2_init_40 : decode cX2_init 40 = .ok (.aload_n 0, 1) := by decide +kernel
theorem dX2_init_41 : decode cX2_init 41 = .ok (.aload_n 2, 1) := by decide +kernel
theorem dX2_init_42 : decode cX2_init 42 = .ok (.putfield 28, 3) := by decide +kernel
theorem dX2_init_45 : decode cX2_init 45 = .ok (.iconst 0, 1) := by decide +kernel
theorem dX2_init_46 : decode cX2_init 46 = .ok (.istore_n 3, 1) := by decide +kernel
theorem dX2_init_47 : decode cX2_init 47 = .ok (.iload_n 3, 1) := by decide +kernel
theorem dX2_init_48 : decode cX2_init 48 = .ok (.iconst 5, 1) := by decide +kernel
theorem dX2_init_49 : decode cX2_init 49 = .ok (.if_icmp .ge 17, 3) := by decide +kernel
theorem dX2_init_52 : decode cX2_init 52 = .ok (.aload_n 0, 1) := by decide +kernel
theorem dX2_init_53 : decode cX2_init 53 = .ok (.getfield 18, 3) := by decide +kernel
theorem dX2_init_56 : decode cX2_init 56 = .ok (.iload_n 3, 1) := by decide +kernel
theorem dX2_init_57 : decode cX2_init 57 = .ok (.bipush 63, 2) := by decide +kernel
theorem dX2_init_59 : decode cX2_init 59 = .ok (.iastore, 1) := by decide +kernel
theorem dX2_init_60 : decode cX2_init 60 = .ok (.iinc 3 1, 3) := by decide +kernel
theorem dX2_init_63 : decode cX2_init 63 = .ok (.goto (-16), 3) := by decide +kernel
theorem dX2_init_66 : decode cX2_init 66 = .ok (.return_, 1) := by decide +kernel
def rmX2_init : Room := { frames := 1, cells := 4, slots := 23, locals := 20 }
theorem zdX2_init : yX2_init.cls = RX2 ∧ yX2_init.cls ≠ "java/lang/invoke/MethodHandle" ∧ yX2_init.cls ≠ "java/lang/invoke/VarHandle" ∧ (parseMethodDescriptor yX2_init.desc).map (fun d => d.parameters.length) = some 2 := by decide +kernel
theorem ko1X2_init : Cond.methodLink RX2 3 Lib.objectInit ∈ wsX2_init := by decide +kernel
theorem ko2X2_init : Cond.instanceMethod Lib.objectInit ∈ wsX2_init := by decide +kernel
theorem ko3X2_init : Cond.code Lib.objectInit ⟨#[0xb1]⟩ 1 none ∈ wsX2_init := by decide +kernel
theorem kaX2_init_int : Cond.arrayClass .int ∈ wsX2_init := by decide +kernel
theorem kiX2_init_X2 : ∀ w ∈ wsX20, w ∈ wsX2_init := by decide +kernel
theorem kfX2_init_9 : Cond.fieldLink RX2 9 "ShapeJudge$Judge" "fitting" "[I" ∈ wsX2_init := by decide +kernel
theorem kfX2_init_15 : Cond.fieldLink RX2 15 "ShapeJudge$Judge" "sure" "[I" ∈ wsX2_init := by decide +kernel
theorem kfX2_init_18 : Cond.fieldLink RX2 18 "ShapeJudge$Judge" "allowed" "[I" ∈ wsX2_init := by decide +kernel
theorem kfX2_init_21 : Cond.fieldLink RX2 21 "ShapeJudge$Judge" "stack" "[I" ∈ wsX2_init := by decide +kernel
theorem kfX2_init_24 : Cond.fieldLink RX2 24 "ShapeJudge$Judge" "graph" "LShapeJudge$Graph;" ∈ wsX2_init := by decide +kernel
theorem kfX2_init_28 : Cond.fieldLink RX2 28 "ShapeJudge$Judge" "book" "LShapeJudge$Book;" ∈ wsX2_init := by decide +kernel
def s_X2_init (m : Mem) : Mem := (sto (sto (sto (sto (sto (sto (sto (sto (zal LcX (sto (zal LcX (sto (zal LcX (sto (zal LcX m 40) 39 2 (nI 40)) 41) 39 3 (nI 41)) 42) 39 6 (nI 42)) 43) 39 7 (nI 43)) 39 0 (nI 1)) 39 1 (nI 11)) 42 (Int32.toNatClampNeg 0) 63) 42 (Int32.toNatClampNeg 1) 63) 42 (Int32.toNatClampNeg 2) 63) 42 (Int32.toNatClampNeg 3) 63) 42 (Int32.toNatClampNeg 4) 63)
set_option maxRecDepth 100000 in
set_option maxHeartbeats 4000000 in
theorem c_X2_init (l : Launch) (cA : Nat → ClassId) (D : va_G) {ad : Nat → Nat} {m : Mem} : zCc [] LcX l cA D yX2_init wsX2_init rmX2_init [.ref (ad 39), .ref (ad 1), .ref (ad 11)] 40 ad m 44 (s_X2_init m) 4 23 := by
  refine zc_met (own := RX2) zsm_zLc (by decide +kernel) rfl rfl (Nat.le_of_ble_eq_true rfl) rfl ?_
  intro K C hK1 hK2 hKl hret
  subst hK1
  subst hK2
  subst hKl
  show zGc LcX K 40 0 0 ad m [(0, .ref (ad 39)), (1, .ref (ad 1)), (2, .ref (ad 11))] 0 []
  refine zc_aload_n C 0 dX2_init_0 rfl rfl ?_
  refine zc_obj C ko1X2_init ko2X2_init ko3X2_init (Nat.le_of_ble_eq_true rfl) (Nat.le_of_ble_eq_true rfl) dX2_init_1 ?_
  refine zc_aload_n C 0 dX2_init_4 rfl rfl ?_
  refine zc_bipush C (v := 6) dX2_init_5 rfl ?_
  refine zc_newa C (t := 0) (n := 6) (ty := .int) rfl rfl (fun _ => rfl) (fun _ h => by cases h) (fun _ => rfl) kaX2_init_int (by decide) (by decide) (by decide) (Nat.le_of_ble_eq_true rfl) (Nat.le_of_ble_eq_true rfl) (fun a => [(0, .ref (a 39)), (1, .ref (a 1)), (2, .ref (a 11))]) (fun a => [.ref (a 39)]) rfl rfl (fun a2 h => by constructor <;> simp only [h 1 (by decide), h 11 (by decide), h 39 (by decide)]) dX2_init_7 (fun a1 h1 => ?_)
  refine zc_putFa C (b := 40) (k := 39) (Nat.le_of_ble_eq_true rfl) rfl rfl 2 (Nat.le_of_ble_eq_true rfl) rfl kiX2_init_X2 kfX2_init_9 tyX2 tyX2_ok nmX2 rfl rfl rfl (Nat.le_of_ble_eq_true rfl) (Nat.le_of_ble_eq_true rfl) dX2_init_9 ?_
  refine zc_aload_n C 0 dX2_init_12 rfl rfl ?_
  refine zc_bipush C (v := 6) dX2_init_13 rfl ?_
  refine zc_newa C (t := 0) (n := 6) (ty := .int) rfl rfl (fun _ => rfl) (fun _ h => by cases h) (fun _ => rfl) kaX2_init_int (by decide) (by decide) (by decide) (Nat.le_of_ble_eq_true rfl) (Nat.le_of_ble_eq_true rfl) (fun a => [(0, .ref (a 39)), (1, .ref (a 1)), (2, .ref (a 11))]) (fun a => [.ref (a 39)]) rfl rfl (fun a2 h => by constructor <;> simp only [h 1 (by decide), h 11 (by decide), h 39 (by decide)]) dX2_init_15 (fun a2 h2 => ?_)
  refine zc_putFa C (b := 41) (k := 39) (Nat.le_of_ble_eq_true rfl) rfl rfl 3 (Nat.le_of_ble_eq_true rfl) rfl kiX2_init_X2 kfX2_init_15 tyX2 tyX2_ok nmX2 rfl rfl rfl (Nat.le_of_ble_eq_true rfl) (Nat.le_of_ble_eq_true rfl) dX2_init_17 ?_
  refine zc_aload_n C 0 dX2_init_20 rfl rfl ?_
  refine zc_iconst C (v := 5) dX2_init_21 rfl ?_
  refine zc_newa C (t := 0) (n := 5) (ty := .int) rfl rfl (fun _ => rfl) (fun _ h => by cases h) (fun _ => rfl) kaX2_init_int (by decide) (by decide) (by decide) (Nat.le_of_ble_eq_true rfl) (Nat.le_of_ble_eq_true rfl) (fun a => [(0, .ref (a 39)), (1, .ref (a 1)), (2, .ref (a 11))]) (fun a => [.ref (a 39)]) rfl rfl (fun a2 h => by constructor <;> simp only [h 1 (by decide), h 11 (by decide), h 39 (by decide)]) dX2_init_22 (fun a3 h3 => ?_)
  refine zc_putFa C (b := 42) (k := 39) (Nat.le_of_ble_eq_true rfl) rfl rfl 6 (Nat.le_of_ble_eq_true rfl) rfl kiX2_init_X2 kfX2_init_18 tyX2 tyX2_ok nmX2 rfl rfl rfl (Nat.le_of_ble_eq_true rfl) (Nat.le_of_ble_eq_true rfl) dX2_init_24 ?_
  refine zc_aload_n C 0 dX2_init_27 rfl rfl ?_
  refine zc_bipush C (v := 6) dX2_init_28 rfl ?_
  refine zc_newa C (t := 0) (n := 6) (ty := .int) rfl rfl (fun _ => rfl) (fun _ h => by cases h) (fun _ => rfl) kaX2_init_int (by decide) (by decide) (by decide) (Nat.le_of_ble_eq_true rfl) (Nat.le_of_ble_eq_true rfl) (fun a => [(0, .ref (a 39)), (1, .ref (a 1)), (2, .ref (a 11))]) (fun a => [.ref (a 39)]) rfl rfl (fun a2 h => by constructor <;> simp only [h 1 (by decide), h 11 (by decide), h 39 (by decide)]) dX2_init_30 (fun a4 h4 => ?_)
  refine zc_putFa C (b := 43) (k := 39) (Nat.le_of_ble_eq_true rfl) rfl rfl 7 (Nat.le_of_ble_eq_true rfl) rfl kiX2_init_X2 kfX2_init_21 tyX2 tyX2_ok nmX2 rfl rfl rfl (Nat.le_of_ble_eq_true rfl) (Nat.le_of_ble_eq_true rfl) dX2_init_32 ?_
  refine zc_aload_n C 0 dX2_init_35 rfl rfl ?_
  refine zc_aload_n C 1 dX2_init_36 rfl rfl ?_
  refine zc_putFb C (b := 1) (k := 39) (Nat.le_of_ble_eq_true rfl) rfl rfl 0 (Nat.le_of_ble_eq_true rfl) rfl kiX2_init_X2 kfX2_init_24 tyX2 tyX2_ok nmX2 rfl rfl rfl (Nat.le_of_ble_eq_true rfl) (Nat.le_of_ble_eq_true rfl) dX2_init_37 ?_
  refine zc_aload_n C 0 dX2_init_40 rfl rfl ?_
  refine zc_aload_n C 2 dX2_init_41 rfl rfl ?_
  refine zc_putb C (b := 11) (k := 39) (Nat.le_of_ble_eq_true rfl) rfl rfl 1 (Nat.le_of_ble_eq_true rfl) rfl kiX2_init_X2 kfX2_init_28 tyX2 tyX2_ok nmX2 rfl rfl (Nat.le_of_ble_eq_true rfl) (Nat.le_of_ble_eq_true rfl) dX2_init_42 ?_
  refine zc_iconst C (v := 0) dX2_init_45 rfl ?_
  refine zc_istore_n C (lv2 := [(0, .ref (a4 39)), (1, .ref (a4 1)), (2, .ref (a4 11)), (3, .int 0)]) [1, 2, 3, 0] dX2_init_46 rfl (Nat.le_of_ble_eq_true rfl) rfl ?_
  refine zc_iload_n C 3 dX2_init_47 rfl rfl ?_
  refine zc_iconst C (v := 5) dX2_init_48 rfl ?_
  refine zc_icmp_ge (tgt := 66) C dX2_init_49 (by decide) (fun h => absurd h (by decide)) (fun _ => ?_)
  refine zc_aload_n C 0 dX2_init_52 rfl rfl ?_
  refine zc_getb C (b := 42) (k := 39) (Nat.le_of_ble_eq_true rfl) rfl rfl 6 (Nat.le_of_ble_eq_true rfl) rfl kiX2_init_X2 kfX2_init_18 (Nat.le_of_ble_eq_true rfl) rfl dX2_init_53 ?_
  refine zc_iload_n C 3 dX2_init_56 rfl rfl ?_
  refine zc_bipush C (v := 63) dX2_init_57 rfl ?_
  refine zc_iast C (k := 42) (Nat.le_of_ble_eq_true rfl) rfl (by decide) dX2_init_59 ?_
  refine zc_iinc C (v := 1) (lv2 := [(0, .ref (a4 39)), (1, .ref (a4 1)), (2, .ref (a4 11)), (3, .int 1)]) 3 [1, 2, 3, 0] dX2_init_60 rfl rfl (Nat.le_of_ble_eq_true rfl) rfl rfl ?_
  refine zc_goto (tgt := 47) C dX2_init_63 (by decide) ?_
  refine zc_iload_n C 3 dX2_init_47 rfl rfl ?_
  refine zc_iconst C (v := 5) dX2_init_48 rfl ?_
  refine zc_icmp_ge (tgt := 66) C dX2_init_49 (by decide) (fun h => absurd h (by decide)) (fun _ => ?_)
  refine zc_aload_n C 0 dX2_init_52 rfl rfl ?_
  refine zc_getb C (b := 42) (k := 39) (Nat.le_of_ble_eq_true rfl) rfl rfl 6 (Nat.le_of_ble_eq_true rfl) rfl kiX2_init_X2 kfX2_init_18 (Nat.le_of_ble_eq_true rfl) rfl dX2_init_53 ?_
  refine zc_iload_n C 3 dX2_init_56 rfl rfl ?_
  refine zc_bipush C (v := 63) dX2_init_57 rfl ?_
  refine zc_iast C (k := 42) (Nat.le_of_ble_eq_true rfl) rfl (by decide) dX2_init_59 ?_
  refine zc_iinc C (v := 2) (lv2 := [(0, .ref (a4 39)), (1, .ref (a4 1)), (2, .ref (a4 11)), (3, .int 2)]) 3 [1, 2, 3, 0] dX2_init_60 rfl rfl (Nat.le_of_ble_eq_true rfl) rfl rfl ?_
  refine zc_goto (tgt := 47) C dX2_init_63 (by decide) ?_
  refine zc_iload_n C 3 dX2_init_47 rfl rfl ?_
  refine zc_iconst C (v := 5) dX2_init_48 rfl ?_
  refine zc_icmp_ge (tgt := 66) C dX2_init_49 (by decide) (fun h => absurd h (by decide)) (fun _ => ?_)
  refine zc_aload_n C 0 dX2_init_52 rfl rfl ?_
  refine zc_getb C (b := 42) (k := 39) (Nat.le_of_ble_eq_true rfl) rfl rfl 6 (Nat.le_of_ble_eq_true rfl) rfl kiX2_init_X2 kfX2_init_18 (Nat.le_of_ble_eq_true rfl) rfl dX2_init_53 ?_
  refine zc_iload_n C 3 dX2_init_56 rfl rfl ?_
  refine zc_bipush C (v := 63) dX2_init_57 rfl ?_
  refine zc_iast C (k := 42) (Nat.le_of_ble_eq_true rfl) rfl (by decide) dX2_init_59 ?_
  refine zc_iinc C (v := 3) (lv2 := [(0, .ref (a4 39)), (1, .ref (a4 1)), (2, .ref (a4 11)), (3, .int 3)]) 3 [1, 2, 3, 0] dX2_init_60 rfl rfl (Nat.le_of_ble_eq_true rfl) rfl rfl ?_
  refine zc_goto (tgt := 47) C dX2_init_63 (by decide) ?_
  refine zc_iload_n C 3 dX2_init_47 rfl rfl ?_
  refine zc_iconst C (v := 5) dX2_init_48 rfl ?_
  refine zc_icmp_ge (tgt := 66) C dX2_init_49 (by decide) (fun h => absurd h (by decide)) (fun _ => ?_)
  refine zc_aload_n C 0 dX2_init_52 rfl rfl ?_
  refine zc_getb C (b := 42) (k := 39) (Nat.le_of_ble_eq_true rfl) rfl rfl 6 (Nat.le_of_ble_eq_true rfl) rfl kiX2_init_X2 kfX2_init_18 (Nat.le_of_ble_eq_true rfl) rfl dX2_init_53 ?_
  refine zc_iload_n C 3 dX2_init_56 rfl rfl ?_
  refine zc_bipush C (v := 63) dX2_init_57 rfl ?_
  refine zc_iast C (k := 42) (Nat.le_of_ble_eq_true rfl) rfl (by decide) dX2_init_59 ?_
  refine zc_iinc C (v := 4) (lv2 := [(0, .ref (a4 39)), (1, .ref (a4 1)), (2, .ref (a4 11)), (3, .int 4)]) 3 [1, 2, 3, 0] dX2_init_60 rfl rfl (Nat.le_of_ble_eq_true rfl) rfl rfl ?_
  refine zc_goto (tgt := 47) C dX2_init_63 (by decide) ?_
  refine zc_iload_n C 3 dX2_init_47 rfl rfl ?_
  refine zc_iconst C (v := 5) dX2_init_48 rfl ?_
  refine zc_icmp_ge (tgt := 66) C dX2_init_49 (by decide) (fun h => absurd h (by decide)) (fun _ => ?_)
  refine zc_aload_n C 0 dX2_init_52 rfl rfl ?_
  refine zc_getb C (b := 42) (k := 39) (Nat.le_of_ble_eq_true rfl) rfl rfl 6 (Nat.le_of_ble_eq_true rfl) rfl kiX2_init_X2 kfX2_init_18 (Nat.le_of_ble_eq_true rfl) rfl dX2_init_53 ?_
  refine zc_iload_n C 3 dX2_init_56 rfl rfl ?_
  refine zc_bipush C (v := 63) dX2_init_57 rfl ?_
  refine zc_iast C (k := 42) (Nat.le_of_ble_eq_true rfl) rfl (by decide) dX2_init_59 ?_
  refine zc_iinc C (v := 5) (lv2 := [(0, .ref (a4 39)), (1, .ref (a4 1)), (2, .ref (a4 11)), (3, .int 5)]) 3 [1, 2, 3, 0] dX2_init_60 rfl rfl (Nat.le_of_ble_eq_true rfl) rfl rfl ?_
  refine zc_goto (tgt := 47) C dX2_init_63 (by decide) ?_
  refine zc_iload_n C 3 dX2_init_47 rfl rfl ?_
  refine zc_iconst C (v := 5) dX2_init_48 rfl ?_
  refine zc_icmp_ge (tgt := 66) C dX2_init_49 (by decide) (fun _ => ?_) (fun h => absurd (by decide) h)
  refine hret _ _ a4 (fun i hi => ?_) dX2_init_66
  rw [h4 i (by omega), h3 i (by omega), h2 i (by omega), h1 i (by omega)]
abbrev nwX6 : List Cond := [.methodLinkNest RX6 9 yX1_init "ShapeJudge", .methodLinkNest RX6 18 yX3_init "ShapeJudge", .methodLinkNest RX6 34 yX0_init "ShapeJudge"]
set_option maxRecDepth 20000 in
theorem ggX6_init_X1_init : GoodIn wsX6_init wsX1_init := goodIn_r _ [27, 28, 2, 3, 29, 30, 31, 32, 33, 34, 35, 80, 81, 82, 83, 84, 85, 86] (by decide +kernel) (by decide +kernel)
set_option maxRecDepth 20000 in
theorem gX6_init_X1_init_n9 : GoodIn wsX6_init (wsX1_init) := ggX6_init_X1_init
set_option maxRecDepth 20000 in
theorem ggX6_init_X3_init : GoodIn wsX6_init wsX3_init := goodIn_r _ [37, 38, 2, 3, 39, 40, 94, 95] (by decide +kernel) (by decide +kernel)
set_option maxRecDepth 20000 in
theorem gX6_init_X3_init_n18 : GoodIn wsX6_init (wsX3_init) := ggX6_init_X3_init
set_option maxRecDepth 20000 in
theorem ggX6_init_X4_init : GoodIn wsX6_init wsX4_init := goodIn_r _ [43, 44, 2, 3, 45, 46, 47, 48, 49, 50, 51, 52, 53, 132, 133, 134, 135, 136, 96, 97, 98, 99, 100, 101, 102, 103, 104, 105] (by decide +kernel) (by decide +kernel)
set_option maxRecDepth 20000 in
theorem gX6_init_X4_init : GoodIn wsX6_init (wsX4_init) := ggX6_init_X4_init
set_option maxRecDepth 20000 in
theorem ggX6_init_X0_init : GoodIn wsX6_init wsX0_init := goodIn_r _ [55, 56, 2, 3, 31, 57, 58, 29, 59, 60, 61, 62, 63, 64, 65, 66, 67, 68, 69, 106, 107, 108, 109, 110, 111, 112, 113, 114, 115, 116, 117, 118, 119, 120, 121] (by decide +kernel) (by decide +kernel)
set_option maxRecDepth 20000 in
theorem gX6_init_X0_init_n34 : GoodIn wsX6_init (wsX0_init) := ggX6_init_X0_init
set_option maxRecDepth 20000 in
theorem ggX6_init_X2_init : GoodIn wsX6_init wsX2_init := goodIn_r _ [72, 73, 2, 3, 31, 74, 75, 76, 77, 78, 79, 122, 123, 124, 125, 126, 127, 128, 129, 130, 131] (by decide +kernel) (by decide +kernel)
set_option maxRecDepth 20000 in
theorem gX6_init_X2_init : GoodIn wsX6_init (wsX2_init) := ggX6_init_X2_init
set_option maxRecDepth 100000 in
theorem daX6_init : ∀ q ∈ ([(0, .aload_n 0, 1), (1, .invokespecial 1, 3), (4, .aload_n 0, 1), (5, .new 7, 3), (8, .dup, 1), (9, .invokespecial 9, 3), (12, .putfield 10, 3), (15, .aload_n 0, 1), (16, .new 16, 3), (19, .dup, 1), (20, .invokespecial 18, 3), (23, .putfield 19, 3), (26, .aload_n 0, 1), (27, .new 23, 3), (30, .dup, 1), (31, .aload_n 0, 1), (32, .getfield 19, 3), (35, .invokespecial 25, 3), (38, .putfield 28, 3), (41, .aload_n 0, 1), (42, .new 32, 3), (45, .dup, 1), (46, .invokespecial 34, 3), (49, .putfield 35, 3), (52, .aload_n 0, 1), (53, .new 32, 3), (56, .dup, 1), (57, .invokespecial 34, 3), (60, .putfield 39, 3), (63, .aload_n 0, 1), (64, .new 42, 3), (67, .dup, 1), (68, .aload_n 0, 1), (69, .getfield 10, 3), (72, .aload_n 0, 1), (73, .getfield 35, 3), (76, .invokespecial 44, 3), (79, .putfield 47, 3), (82, .aload_n 0, 1), (83, .iconst 0, 1), (84, .putfield 51, 3), (87, .return_, 1)] : List (Nat × Instr × Nat)), decode cX6_init q.1 = .ok q.2 := by decide +kernel
theorem dX6_init_0 : decode cX6_init 0 = .ok (.aload_n 0, 1) := daX6_init (0, .aload_n 0, 1) (List.mem_of_getElem? (i := 0) rfl)
theorem dX6_init_1 : decode cX6_init 1 = .ok (.invokespecial 1, 3) := daX6_init (1, .invokespecial 1, 3) (List.mem_of_getElem? (i := 1) rfl)
theorem dX6_init_4 : decode cX6_init 4 = .ok (.aload_n 0, 1) := daX6_init (4, .aload_n 0, 1) (List.mem_of_getElem? (i := 2) rfl)
theorem dX6_init_5 : decode cX6_init 5 = .ok (.new 7, 3) := daX6_init (5, .new 7, 3) (List.mem_of_getElem? (i := 3) rfl)
theorem dX6_init_8 : decode cX6_init 8 = .ok (.dup, 1) := daX6_init (8, .dup, 1) (List.mem_of_getElem? (i := 4) rfl)
theorem dX6_init_9 : decode cX6_init 9 = .ok (.invokespecial 9, 3) := daX6_init (9, .invokespecial 9, 3) (List.mem_of_getElem? (i := 5) rfl)
theorem dX6_init_12 : decode cX6_init 12 = .ok (.putfield 10, 3) := daX6_init (12, .putfield 10, 3) (List.mem_of_getElem? (i := 6) rfl)
theorem dX6_init_15 : decode cX6_init 15 = .ok (.aload_n 0, 1) := daX6_init (15, .aload_n 0, 1) (List.mem_of_getElem? (i := 7) rfl)
theorem dX6_init_16 : decode cX6_init 16 = .ok (.new 16, 3) := daX6_init (16, .new 16, 3) (List.mem_of_getElem? (i := 8) rfl)
theorem dX6_init_19 : decode cX6_init 19 = .ok (.dup, 1) := daX6_init (19, .dup, 1) (List.mem_of_getElem? (i := 9) rfl)
theorem dX6_init_20 : decode cX6_init 20 = .ok (.invokespecial 18, 3) := daX6_init (20, .invokespecial 18, 3) (List.mem_of_getElem? (i := 10) rfl)
theorem dX6_init_23 : decode cX6_init 23 = .ok (.putfield 19, 3) := daX6_init (23, .putfield 19, 3) (List.mem_of_getElem? (i := 11) rfl)
theorem dX6_init_26 : decode cX6_init 26 = .ok (.aload_n 0, 1) := daX6_init (26, .aload_n 0, 1) (List.mem_of_getElem? (i := 12) rfl)
theorem dX6_init_27 : decode cX6_init 27 = .ok (.new 23, 3) := daX6_init (27, .new 23, 3) (List.mem_of_getElem? (i := 13) rfl)
theorem dX6_init_30 : decode cX6_init 30 = .ok (.dup, 1) := daX6_init (30, .dup, 1) (List.mem_of_getElem? (i := 14) rfl)
theorem dX6_init_31 : decode cX6_init 31 = .ok (.aload_n 0, 1) := daX6_init (31, .aload_n 0, 1) (List.mem_of_getElem? (i := 15) rfl)
theorem dX6_init_32 : decode cX6_init 32 = .ok (.getfield 19, 3) := daX6_init (32, .getfield 19, 3) (List.mem_of_getElem? (i := 16) rfl)
theorem dX6_init_35 : decode cX6_init 35 = .ok (.invokespecial 25, 3) := daX6_init (35, .invokespecial 25, 3) (List.mem_of_getElem? (i := 17) rfl)
theorem dX6_init_38 : decode cX6_init 38 = .ok (.putfield 28, 3) := daX6_init (38, .putfield 28, 3) (List.mem_of_getElem? (i := 18) rfl)
theorem dX6_init_41 : decode cX6_init 41 = .ok (.aload_n 0, 1) := daX6_init (41, .aload_n 0, 1) (List.mem_of_getElem? (i := 19) rfl)
theorem dX6_init_42 : decode cX6_init 42 = .ok (.new 32, 3) := daX6_init (42, .new 32, 3) (List.mem_of_getElem? (i := 20) rfl)
theorem dX6_init_45 : decode cX6_init 45 = .ok (.dup, 1) := daX6_init (45, .dup, 1) (List.mem_of_getElem? (i := 21) rfl)
theorem dX6_init_46 : decode cX6_init 46 = .ok (.invokespecial 34, 3) := daX6_init (46, .invokespecial 34, 3) (List.mem_of_getElem? (i := 22) rfl)
theorem dX6_init_49 : decode cX6_init 49 = .ok (.putfield 35, 3) := daX6_init (49, .putfield 35, 3) (List.mem_of_getElem? (i := 23) rfl)
theorem dX6_init_52 : decode cX6_init 52 = .ok (.aload_n 0, 1) := daX6_init (52, .aload_n 0, 1) (List.mem_of_getElem? (i := 24) rfl)
theorem dX6_init_53 : decode cX6_init 53 = .ok (.new 32, 3) := daX6_init (53, .new 32, 3) (List.mem_of_getElem? (i := 25) rfl)
theorem dX6_init_56 : decode cX6_init 56 = .ok (.dup, 1) := daX6_init (56, .dup, 1) (List.mem_of_getElem? (i := 26) rfl)
theorem dX6_init_57 : decode cX6_init 57 = .ok (.invokespecial 34, 3) := daX6_init (57, .invokespecial 34, 3) (List.mem_of_getElem? (i := 27) rfl)
theorem dX6_init_60 : decode cX6_init 60 = .ok (.putfield 39, 3) := daX6_init (60, .putfield 39, 3) (List.mem_of_getElem? (i := 28) rfl)
theorem dX6_init_63 : decode cX6_init 63 = .ok (.aload_n 0, 1) := daX6_init (63, .aload_n 0, 1) (List.mem_of_getElem? (i := 29) rfl)
theorem dX6_init_64 : decode cX6_init 64 = .ok (.new 42, 3) := daX6_init (64, .new 42, 3) (List.mem_of_getElem? (i := 30) rfl)
theorem dX6_init_67 : decode cX6_init 67 = .ok (.dup, 1) := daX6_init (67, .dup, 1) (List.mem_of_getElem? (i := 31) rfl)
theorem dX6_init_68 : decode cX6_init 68 = .ok (.aload_n 0, 1) := daX6_init (68, .aload_n 0, 1) (List.mem_of_getElem? (i := 32) rfl)
theorem dX6_init_69 : decode cX6_init 69 = .ok (.getfield 10, 3) := daX6_init (69, .getfield 10, 3) (List.mem_of_getElem? (i := 33) rfl)
theorem dX6_init_72 : decode cX6_init 72 = .ok (.aload_n 0, 1) := daX6_init (72, .aload_n 0, 1) (List.mem_of_getElem? (i := 34) rfl)
theorem dX6_init_73 : decode cX6_init 73 = .ok (.getfield 35, 3) := daX6_init (73, .getfield 35, 3) (List.mem_of_getElem? (i := 35) rfl)
theorem dX6_init_76 : decode cX6_init 76 = .ok (.invokespecial 44, 3) := daX6_init (76, .invokespecial 44, 3) (List.mem_of_getElem? (i := 36) rfl)
theorem dX6_init_79 : decode cX6_init 79 = .ok (.putfield 47, 3) := daX6_init (79, .putfield 47, 3) (List.mem_of_getElem? (i := 37) rfl)
theorem dX6_init_82 : decode cX6_init 82 = .ok (.aload_n 0, 1) := daX6_init (82, .aload_n 0, 1) (List.mem_of_getElem? (i := 38) rfl)
theorem dX6_init_83 : decode cX6_init 83 = .ok (.iconst 0, 1) := daX6_init (83, .iconst 0, 1) (List.mem_of_getElem? (i := 39) rfl)
theorem dX6_init_84 : decode cX6_init 84 = .ok (.putfield 51, 3) := daX6_init (84, .putfield 51, 3) (List.mem_of_getElem? (i := 40) rfl)
theorem dX6_init_87 : decode cX6_init 87 = .ok (.return_, 1) := daX6_init (87, .return_, 1) (List.mem_of_getElem? (i := 41) rfl)
def rmX6_init : Room := { frames := 3, cells := 43, slots := 1357, locals := 62 }
theorem zdX6_init : yX6_init.cls = RX6 ∧ yX6_init.cls ≠ "java/lang/invoke/MethodHandle" ∧ yX6_init.cls ≠ "java/lang/invoke/VarHandle" ∧ (parseMethodDescriptor yX6_init.desc).map (fun d => d.parameters.length) = some 0 := by decide +kernel
theorem ko1X6_init : Cond.methodLink RX6 1 Lib.objectInit ∈ wsX6_init := by decide +kernel
theorem ko2X6_init : Cond.instanceMethod Lib.objectInit ∈ wsX6_init := by decide +kernel
theorem ko3X6_init : Cond.code Lib.objectInit ⟨#[0xb1]⟩ 1 none ∈ wsX6_init := by decide +kernel
theorem kw1X6_init_X1 : Cond.classLink RX6 7 RX1 ∈ wsX6_init := by decide +kernel
theorem kw2X6_init_X1 : Cond.instantiable RX1 7 ∈ wsX6_init := by decide +kernel
theorem kw3X6_init_X1 : Cond.initialized RX1 ∈ wsX6_init := by decide +kernel
theorem kiX6_init_X1 : ∀ w ∈ wsX10, w ∈ wsX6_init := by decide +kernel
theorem kn1X6_init_X1_init : Cond.initialized yX1_init.cls ∈ wsX6_init := by decide +kernel
theorem kn3X6_init_X1_init : Cond.instanceMethod yX1_init ∈ wsX6_init := by decide +kernel
theorem kiX6_init_X6 : ∀ w ∈ wsX60, w ∈ wsX6_init := by decide +kernel
theorem kfX6_init_10 : Cond.fieldLink RX6 10 "ShapeJudge" "graph" "LShapeJudge$Graph;" ∈ wsX6_init := by decide +kernel
theorem kw1X6_init_X3 : Cond.classLink RX6 16 RX3 ∈ wsX6_init := by decide +kernel
theorem kw2X6_init_X3 : Cond.instantiable RX3 2 ∈ wsX6_init := by decide +kernel
theorem kw3X6_init_X3 : Cond.initialized RX3 ∈ wsX6_init := by decide +kernel
theorem kiX6_init_X3 : ∀ w ∈ wsX30, w ∈ wsX6_init := by decide +kernel
theorem kn1X6_init_X3_init : Cond.initialized yX3_init.cls ∈ wsX6_init := by decide +kernel
theorem kn3X6_init_X3_init : Cond.instanceMethod yX3_init ∈ wsX6_init := by decide +kernel
theorem kfX6_init_19 : Cond.fieldLink RX6 19 "ShapeJudge" "tape" "LShapeJudge$Tape;" ∈ wsX6_init := by decide +kernel
theorem kw1X6_init_X4 : Cond.classLink RX6 23 RX4 ∈ wsX6_init := by decide +kernel
theorem kw2X6_init_X4 : Cond.instantiable RX4 10 ∈ wsX6_init := by decide +kernel
theorem kw3X6_init_X4 : Cond.initialized RX4 ∈ wsX6_init := by decide +kernel
theorem kiX6_init_X4 : ∀ w ∈ wsX40, w ∈ wsX6_init := by decide +kernel
theorem kn1X6_init_X4_init : Cond.initialized yX4_init.cls ∈ wsX6_init := by decide +kernel
theorem kn2X6_init_X4_init : Cond.methodLink RX6 25 yX4_init ∈ wsX6_init := by decide +kernel
theorem kn3X6_init_X4_init : Cond.instanceMethod yX4_init ∈ wsX6_init := by decide +kernel
theorem kfX6_init_28 : Cond.fieldLink RX6 28 "ShapeJudge" "reader" "LShapeJudge$TextReader;" ∈ wsX6_init := by decide +kernel
theorem kw1X6_init_X0 : Cond.classLink RX6 32 RX0 ∈ wsX6_init := by decide +kernel
theorem kw2X6_init_X0 : Cond.instantiable RX0 16 ∈ wsX6_init := by decide +kernel
theorem kw3X6_init_X0 : Cond.initialized RX0 ∈ wsX6_init := by decide +kernel
theorem kiX6_init_X0 : ∀ w ∈ wsX00, w ∈ wsX6_init := by decide +kernel
theorem kn1X6_init_X0_init : Cond.initialized yX0_init.cls ∈ wsX6_init := by decide +kernel
theorem kn3X6_init_X0_init : Cond.instanceMethod yX0_init ∈ wsX6_init := by decide +kernel
theorem kfX6_init_35 : Cond.fieldLink RX6 35 "ShapeJudge" "book" "LShapeJudge$Book;" ∈ wsX6_init := by decide +kernel
theorem kfX6_init_39 : Cond.fieldLink RX6 39 "ShapeJudge" "spare" "LShapeJudge$Book;" ∈ wsX6_init := by decide +kernel
theorem kw1X6_init_X2 : Cond.classLink RX6 42 RX2 ∈ wsX6_init := by decide +kernel
theorem kw2X6_init_X2 : Cond.instantiable RX2 10 ∈ wsX6_init := by decide +kernel
theorem kw3X6_init_X2 : Cond.initialized RX2 ∈ wsX6_init := by decide +kernel
theorem kiX6_init_X2 : ∀ w ∈ wsX20, w ∈ wsX6_init := by decide +kernel
theorem kn1X6_init_X2_init : Cond.initialized yX2_init.cls ∈ wsX6_init := by decide +kernel
theorem kn2X6_init_X2_init : Cond.methodLink RX6 44 yX2_init ∈ wsX6_init := by decide +kernel
theorem kn3X6_init_X2_init : Cond.instanceMethod yX2_init ∈ wsX6_init := by decide +kernel
theorem kfX6_init_47 : Cond.fieldLink RX6 47 "ShapeJudge" "judge" "LShapeJudge$Judge;" ∈ wsX6_init := by decide +kernel
theorem kfX6_init_51 : Cond.fieldLink RX6 51 "ShapeJudge" "latestFault" "I" ∈ wsX6_init := by decide +kernel
def s_X6_init (m : Mem) : Mem := (sto (sto (s_X2_init (zal LcX (sto (s_X0_init_25 (zal LcX (sto (s_X0_init_11 (zal LcX (sto (s_X4_init (zal LcX (sto (s_X3_init (zal LcX (sto (s_X1_init (zal LcX m 1)) 0 0 (nI 1)) 7)) 0 1 (nI 7)) 9)) 0 2 (nI 9)) 11)) 0 4 (nI 11)) 25)) 0 5 (nI 25)) 39)) 0 3 (nI 39)) 0 6 0)
set_option maxRecDepth 100000 in
set_option maxHeartbeats 4000000 in
theorem c_X6_init (l : Launch) (cA : Nat → ClassId) (D : va_G) {ad : Nat → Nat} {m : Mem} : zCc nwX6 LcX l cA D yX6_init wsX6_init rmX6_init [.ref (ad 0)] 1 ad m 44 (s_X6_init m) 43 1357 := by
  refine zc_met (own := RX6) zsm_zLc (by decide +kernel) rfl rfl (Nat.le_of_ble_eq_true rfl) rfl ?_
  intro K C hK1 hK2 hKl hret
  subst hK1
  subst hK2
  subst hKl
  show zGc LcX K 1 0 0 ad m [(0, .ref (ad 0))] 0 []
  refine zc_aload_n C 0 dX6_init_0 rfl rfl ?_
  refine zc_obj C ko1X6_init ko2X6_init ko3X6_init (Nat.le_of_ble_eq_true rfl) (Nat.le_of_ble_eq_true rfl) dX6_init_1 ?_
  refine zc_aload_n C 0 dX6_init_4 rfl rfl ?_
  refine zc_new C (ci := 1) (n := 7) rfl rfl tyX1 tyX1_ok kiX6_init_X1 kw1X6_init_X1 kw2X6_init_X1 kw3X6_init_X1 zf0_1 (Nat.le_of_ble_eq_true rfl) (Nat.le_of_ble_eq_true rfl) (fun a => [(0, .ref (a 0))]) (fun a => [.ref (a 0)]) rfl rfl (fun a2 h => by constructor <;> simp only [h 0 (by decide)]) dX6_init_5 (fun a1 h1 => ?_)
  refine zc_dup C dX6_init_8 ?_
  refine zc_callN C (c_X1_init _ _ _) rfl gX6_init_X1_init_n9 rfl rfl kn1X6_init_X1_init (List.mem_of_getElem? (i := 0) rfl) kn3X6_init_X1_init rfl zdX1_init.2 rfl ⟨(Nat.le_of_ble_eq_true rfl), (Nat.le_of_ble_eq_true rfl)⟩ (Nat.le_of_ble_eq_true rfl) (Nat.le_of_ble_eq_true rfl) (Nat.le_of_ble_eq_true rfl) (fun a => [(0, .ref (a 0))]) (fun a => [.ref (a 1), .ref (a 0)]) rfl rfl (fun a2 h => by constructor <;> simp only [h 0 (by decide), h 1 (by decide)]) dX6_init_9 rfl (fun a2 h2 => ?_)
  refine zc_putFb C (b := 1) (k := 0) (Nat.le_of_ble_eq_true rfl) rfl rfl 0 (Nat.le_of_ble_eq_true rfl) rfl kiX6_init_X6 kfX6_init_10 tyX6 tyX6_ok nmX6 rfl rfl rfl (Nat.le_of_ble_eq_true rfl) (Nat.le_of_ble_eq_true rfl) dX6_init_12 ?_
  refine zc_aload_n C 0 dX6_init_15 rfl rfl ?_
  refine zc_new C (ci := 3) (n := 2) rfl rfl tyX3 tyX3_ok kiX6_init_X3 kw1X6_init_X3 kw2X6_init_X3 kw3X6_init_X3 zf0_7 (Nat.le_of_ble_eq_true rfl) (Nat.le_of_ble_eq_true rfl) (fun a => [(0, .ref (a 0))]) (fun a => [.ref (a 0)]) rfl rfl (fun a2 h => by constructor <;> simp only [h 0 (by decide)]) dX6_init_16 (fun a3 h3 => ?_)
  refine zc_dup C dX6_init_19 ?_
  refine zc_callN C (c_X3_init _ _ _) rfl gX6_init_X3_init_n18 rfl rfl kn1X6_init_X3_init (List.mem_of_getElem? (i := 1) rfl) kn3X6_init_X3_init rfl zdX3_init.2 rfl ⟨(Nat.le_of_ble_eq_true rfl), (Nat.le_of_ble_eq_true rfl)⟩ (Nat.le_of_ble_eq_true rfl) (Nat.le_of_ble_eq_true rfl) (Nat.le_of_ble_eq_true rfl) (fun a => [(0, .ref (a 0))]) (fun a => [.ref (a 7), .ref (a 0)]) rfl rfl (fun a2 h => by constructor <;> simp only [h 0 (by decide), h 7 (by decide)]) dX6_init_20 rfl (fun a4 h4 => ?_)
  refine zc_putFb C (b := 7) (k := 0) (Nat.le_of_ble_eq_true rfl) rfl rfl 1 (Nat.le_of_ble_eq_true rfl) rfl kiX6_init_X6 kfX6_init_19 tyX6 tyX6_ok nmX6 rfl rfl rfl (Nat.le_of_ble_eq_true rfl) (Nat.le_of_ble_eq_true rfl) dX6_init_23 ?_
  refine zc_aload_n C 0 dX6_init_26 rfl rfl ?_
  refine zc_new C (ci := 4) (n := 10) rfl rfl tyX4 tyX4_ok kiX6_init_X4 kw1X6_init_X4 kw2X6_init_X4 kw3X6_init_X4 zf0_9 (Nat.le_of_ble_eq_true rfl) (Nat.le_of_ble_eq_true rfl) (fun a => [(0, .ref (a 0))]) (fun a => [.ref (a 0)]) rfl rfl (fun a2 h => by constructor <;> simp only [h 0 (by decide)]) dX6_init_27 (fun a5 h5 => ?_)
  refine zc_dup C dX6_init_30 ?_
  refine zc_aload_n C 0 dX6_init_31 rfl rfl ?_
  refine zc_getb C (b := 7) (k := 0) (Nat.le_of_ble_eq_true rfl) rfl rfl 1 (Nat.le_of_ble_eq_true rfl) rfl kiX6_init_X6 kfX6_init_19 (Nat.le_of_ble_eq_true rfl) rfl dX6_init_32 ?_
  refine zc_call C (c_X4_init _ _ _) rfl gX6_init_X4_init rfl rfl kn1X6_init_X4_init kn2X6_init_X4_init kn3X6_init_X4_init rfl zdX4_init.2 rfl ⟨(Nat.le_of_ble_eq_true rfl), (Nat.le_of_ble_eq_true rfl)⟩ (Nat.le_of_ble_eq_true rfl) (Nat.le_of_ble_eq_true rfl) (Nat.le_of_ble_eq_true rfl) (fun a => [(0, .ref (a 0))]) (fun a => [.ref (a 9), .ref (a 0)]) rfl rfl (fun a2 h => by constructor <;> simp only [h 0 (by decide), h 9 (by decide)]) dX6_init_35 rfl (fun a6 h6 => ?_)
  refine zc_putFb C (b := 9) (k := 0) (Nat.le_of_ble_eq_true rfl) rfl rfl 2 (Nat.le_of_ble_eq_true rfl) rfl kiX6_init_X6 kfX6_init_28 tyX6 tyX6_ok nmX6 rfl rfl rfl (Nat.le_of_ble_eq_true rfl) (Nat.le_of_ble_eq_true rfl) dX6_init_38 ?_
  refine zc_aload_n C 0 dX6_init_41 rfl rfl ?_
  refine zc_new C (ci := 0) (n := 16) rfl rfl tyX0 tyX0_ok kiX6_init_X0 kw1X6_init_X0 kw2X6_init_X0 kw3X6_init_X0 zf0_11 (Nat.le_of_ble_eq_true rfl) (Nat.le_of_ble_eq_true rfl) (fun a => [(0, .ref (a 0))]) (fun a => [.ref (a 0)]) rfl rfl (fun a2 h => by constructor <;> simp only [h 0 (by decide)]) dX6_init_42 (fun a7 h7 => ?_)
  refine zc_dup C dX6_init_45 ?_
  refine zc_callN C (c_X0_init_11 _ _ _) rfl gX6_init_X0_init_n34 rfl rfl kn1X6_init_X0_init (List.mem_of_getElem? (i := 2) rfl) kn3X6_init_X0_init rfl zdX0_init.2 rfl ⟨(Nat.le_of_ble_eq_true rfl), (Nat.le_of_ble_eq_true rfl)⟩ (Nat.le_of_ble_eq_true rfl) (Nat.le_of_ble_eq_true rfl) (Nat.le_of_ble_eq_true rfl) (fun a => [(0, .ref (a 0))]) (fun a => [.ref (a 11), .ref (a 0)]) rfl rfl (fun a2 h => by constructor <;> simp only [h 0 (by decide), h 11 (by decide)]) dX6_init_46 rfl (fun a8 h8 => ?_)
  refine zc_putb C (b := 11) (k := 0) (Nat.le_of_ble_eq_true rfl) rfl rfl 4 (Nat.le_of_ble_eq_true rfl) rfl kiX6_init_X6 kfX6_init_35 tyX6 tyX6_ok nmX6 rfl rfl (Nat.le_of_ble_eq_true rfl) (Nat.le_of_ble_eq_true rfl) dX6_init_49 ?_
  refine zc_aload_n C 0 dX6_init_52 rfl rfl ?_
  refine zc_new C (ci := 0) (n := 16) rfl rfl tyX0 tyX0_ok kiX6_init_X0 kw1X6_init_X0 kw2X6_init_X0 kw3X6_init_X0 zf0_25 (Nat.le_of_ble_eq_true rfl) (Nat.le_of_ble_eq_true rfl) (fun a => [(0, .ref (a 0))]) (fun a => [.ref (a 0)]) rfl rfl (fun a2 h => by constructor <;> simp only [h 0 (by decide)]) dX6_init_53 (fun a9 h9 => ?_)
  refine zc_dup C dX6_init_56 ?_
  refine zc_callN C (c_X0_init_25 _ _ _) rfl gX6_init_X0_init_n34 rfl rfl kn1X6_init_X0_init (List.mem_of_getElem? (i := 2) rfl) kn3X6_init_X0_init rfl zdX0_init.2 rfl ⟨(Nat.le_of_ble_eq_true rfl), (Nat.le_of_ble_eq_true rfl)⟩ (Nat.le_of_ble_eq_true rfl) (Nat.le_of_ble_eq_true rfl) (Nat.le_of_ble_eq_true rfl) (fun a => [(0, .ref (a 0))]) (fun a => [.ref (a 25), .ref (a 0)]) rfl rfl (fun a2 h => by constructor <;> simp only [h 0 (by decide), h 25 (by decide)]) dX6_init_57 rfl (fun a10 h10 => ?_)
  refine zc_putb C (b := 25) (k := 0) (Nat.le_of_ble_eq_true rfl) rfl rfl 5 (Nat.le_of_ble_eq_true rfl) rfl kiX6_init_X6 kfX6_init_39 tyX6 tyX6_ok nmX6 rfl rfl (Nat.le_of_ble_eq_true rfl) (Nat.le_of_ble_eq_true rfl) dX6_init_60 ?_
  refine zc_aload_n C 0 dX6_init_63 rfl rfl ?_
  refine zc_new C (ci := 2) (n := 10) rfl rfl tyX2 tyX2_ok kiX6_init_X2 kw1X6_init_X2 kw2X6_init_X2 kw3X6_init_X2 zf0_39 (Nat.le_of_ble_eq_true rfl) (Nat.le_of_ble_eq_true rfl) (fun a => [(0, .ref (a 0))]) (fun a => [.ref (a 0)]) rfl rfl (fun a2 h => by constructor <;> simp only [h 0 (by decide)]) dX6_init_64 (fun a11 h11 => ?_)
  refine zc_dup C dX6_init_67 ?_
  refine zc_aload_n C 0 dX6_init_68 rfl rfl ?_
  refine zc_getb C (b := 1) (k := 0) (Nat.le_of_ble_eq_true rfl) rfl rfl 0 (Nat.le_of_ble_eq_true rfl) rfl kiX6_init_X6 kfX6_init_10 (Nat.le_of_ble_eq_true rfl) rfl dX6_init_69 ?_
  refine zc_aload_n C 0 dX6_init_72 rfl rfl ?_
  refine zc_getb C (b := 11) (k := 0) (Nat.le_of_ble_eq_true rfl) rfl rfl 4 (Nat.le_of_ble_eq_true rfl) rfl kiX6_init_X6 kfX6_init_35 (Nat.le_of_ble_eq_true rfl) rfl dX6_init_73 ?_
  refine zc_call C (c_X2_init _ _ _) rfl gX6_init_X2_init rfl rfl kn1X6_init_X2_init kn2X6_init_X2_init kn3X6_init_X2_init rfl zdX2_init.2 rfl ⟨(Nat.le_of_ble_eq_true rfl), (Nat.le_of_ble_eq_true rfl)⟩ (Nat.le_of_ble_eq_true rfl) (Nat.le_of_ble_eq_true rfl) (Nat.le_of_ble_eq_true rfl) (fun a => [(0, .ref (a 0))]) (fun a => [.ref (a 39), .ref (a 0)]) rfl rfl (fun a2 h => by constructor <;> simp only [h 0 (by decide), h 39 (by decide)]) dX6_init_76 rfl (fun a12 h12 => ?_)
  refine zc_putFb C (b := 39) (k := 0) (Nat.le_of_ble_eq_true rfl) rfl rfl 3 (Nat.le_of_ble_eq_true rfl) rfl kiX6_init_X6 kfX6_init_47 tyX6 tyX6_ok nmX6 rfl rfl rfl (Nat.le_of_ble_eq_true rfl) (Nat.le_of_ble_eq_true rfl) dX6_init_79 ?_
  refine zc_aload_n C 0 dX6_init_82 rfl rfl ?_
  refine zc_iconst C (v := 0) dX6_init_83 rfl ?_
  refine zc_puti C (k := 0) (Nat.le_of_ble_eq_true rfl) rfl rfl 6 (Nat.le_of_ble_eq_true rfl) rfl kiX6_init_X6 kfX6_init_51 tyX6 tyX6_ok nmX6 rfl rfl dX6_init_84 ?_
  refine hret _ _ a12 (fun i hi => ?_) dX6_init_87
  rw [h12 i (by omega), h11 i (by omega), h10 i (by omega), h9 i (by omega), h8 i (by omega), h7 i (by omega), h6 i (by omega), h5 i (by omega), h4 i (by omega), h3 i (by omega), h2 i (by omega), h1 i (by omega)]
