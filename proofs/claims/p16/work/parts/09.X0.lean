theorem dX0_hasShape_0 : decode cX0_hasShape 0 = .ok (.iload_n 1, 1) := by decide +kernel
theorem dX0_hasShape_1 : decode cX0_hasShape 1 = .ok (.ifCond .lt 21, 3) := by decide +kernel
theorem dX0_hasShape_4 : decode cX0_hasShape 4 = .ok (.iload_n 1, 1) := by decide +kernel
theorem dX0_hasShape_5 : decode cX0_hasShape 5 = .ok (.aload_n 0, 1) := by decide +kernel
theorem dX0_hasShape_6 : decode cX0_hasShape 6 = .ok (.getfield 52, 3) := by decide +kernel
theorem dX0_hasShape_9 : decode cX0_hasShape 9 = .ok (.if_icmp .ge 13, 3) := by decide +kernel
theorem dX0_hasShape_12 : decode cX0_hasShape 12 = .ok (.iload_n 1, 1) := by decide +kernel
theorem dX0_hasShape_13 : decode cX0_hasShape 13 = .ok (.bipush 6, 2) := by decide +kernel
theorem dX0_hasShape_15 : decode cX0_hasShape 15 = .ok (.if_icmp .ge 7, 3) := by decide +kernel
theorem dX0_hasShape_18 : decode cX0_hasShape 18 = .ok (.iconst 1, 1) := by decide +kernel
theorem dX0_hasShape_19 : decode cX0_hasShape 19 = .ok (.goto 4, 3) := by decide +kernel
theorem dX0_hasShape_22 : decode cX0_hasShape 22 = .ok (.iconst 0, 1) := by decide +kernel
theorem dX0_hasShape_23 : decode cX0_hasShape 23 = .ok (.ireturn, 1) := by decide +kernel
def rmX0_hasShape : Room := { frames := 0, cells := 0, slots := 0, locals := 0 }
theorem zdX0_hasShape : yX0_hasShape.cls = RX0 ∧ yX0_hasShape.cls ≠ "java/lang/invoke/MethodHandle" ∧ yX0_hasShape.cls ≠ "java/lang/invoke/VarHandle" ∧ (parseMethodDescriptor yX0_hasShape.desc).map (fun d => d.parameters.length) = some 1 := by decide +kernel
theorem kiX0_hasShape_X0 : ∀ w ∈ wsX00, w ∈ wsX0_hasShape := fun _ h => (List.mem_cons_of_mem _ (List.mem_append_right _ h))
theorem kfX0_hasShape_52 : Cond.fieldLink RX0 52 "ShapeJudge$Book" "shapeCount" "I" ∈ wsX0_hasShape := (List.mem_of_getElem? (i := 1) rfl)
def s_X0_hasShape (m : Mem) (b : Nat) (a1 : Int32) : Option (Int32) :=
  (if a1 < 0 then (some 0) else ((if (m b 0) ≤ a1 then (some 0) else ((if 6 ≤ a1 then (some 0) else (some 1))))))
set_option maxRecDepth 100000 in
set_option maxHeartbeats 4000000 in
theorem c_X0_hasShape (l : Launch) (w : ZW) {m : Mem} {b : Nat} {a1 : Int32} {r9 : Int32} (hb : isb b) (hf : s_X0_hasShape m b a1 = some r9) : zCi MX l w yX0_hasShape wsX0_hasShape rmX0_hasShape [.ref (w.2.1 b), .int a1] m m r9 := by
  refine z_met_z MX_ok (own := RX0) (by decide +kernel) rfl rfl (Nat.le_of_ble_eq_true rfl) ?_
  intro K C hKw hKl hret
  subst hKw
  subst hKl
  unfold s_X0_hasShape at hf
  show zGo MX K m [(0, .ref ((zw K).2.1 b)), (1, .int a1)] 0 []
  refine z_iload_n C 1 dX0_hasShape_0 rfl rfl ?_
  refine z_if_lt (tgt := 22) C dX0_hasShape_1 (by decide) (fun c3 => ?_) (fun c3 => ?_)
  · replace hf := if_t c3 hf
    refine z_iconst C (v := 0) dX0_hasShape_22 rfl ?_
    cases hf
    exact hret _ _ dX0_hasShape_23 (Or.inl rfl)
  · replace hf := if_f c3 hf
    refine z_iload_n C 1 dX0_hasShape_4 rfl rfl ?_
    refine z_aload_n C 0 dX0_hasShape_5 rfl rfl ?_
    refine z_geti C (isb_k0 hb) (isb_L0 hb) rfl 0 (Nat.le_of_ble_eq_true rfl) rfl kiX0_hasShape_X0 kfX0_hasShape_52 dX0_hasShape_6 ?_
    refine z_icmp_ge (tgt := 22) C dX0_hasShape_9 (by decide) (fun c2 => ?_) (fun c2 => ?_)
    · replace hf := if_t c2 hf
      refine z_iconst C (v := 0) dX0_hasShape_22 rfl ?_
      cases hf
      exact hret _ _ dX0_hasShape_23 (Or.inl rfl)
    · replace hf := if_f c2 hf
      refine z_iload_n C 1 dX0_hasShape_12 rfl rfl ?_
      refine z_bipush C (v := 6) dX0_hasShape_13 rfl ?_
      refine z_icmp_ge (tgt := 22) C dX0_hasShape_15 (by decide) (fun c1 => ?_) (fun c1 => ?_)
      · replace hf := if_t c1 hf
        refine z_iconst C (v := 0) dX0_hasShape_22 rfl ?_
        cases hf
        exact hret _ _ dX0_hasShape_23 (Or.inl rfl)
      · replace hf := if_f c1 hf
        refine z_iconst C (v := 1) dX0_hasShape_18 rfl ?_
        refine z_goto (tgt := 23) C dX0_hasShape_19 (by decide) ?_
        cases hf
        exact hret _ _ dX0_hasShape_23 (Or.inr rfl)
set_option maxRecDepth 20000 in
theorem ggX0_hasRoomForPart_X0_hasShape : GoodIn wsX0_hasRoomForPart wsX0_hasShape := goodIn_sub (List.forall_mem_cons.mpr ⟨(List.mem_of_getElem? (i := 7) rfl), (List.forall_mem_append.mpr ⟨(List.forall_mem_cons.mpr ⟨(List.mem_of_getElem? (i := 1) rfl), (fun _ h => absurd h List.not_mem_nil)⟩), (fun _ h => (List.mem_cons_of_mem _ (List.mem_append_right _ h)))⟩)⟩) (by decide +kernel)
set_option maxRecDepth 20000 in
theorem gX0_hasRoomForPart_X0_hasShape : GoodIn wsX0_hasRoomForPart (wsV RX0 56 RX0 yX0_hasShape wsX0_hasShape) := goodIn_app (goodIn_sub (List.forall_mem_cons.mpr ⟨(List.mem_of_getElem? (i := 3) rfl), (List.forall_mem_cons.mpr ⟨(List.mem_of_getElem? (i := 4) rfl), (List.forall_mem_cons.mpr ⟨(List.mem_of_getElem? (i := 5) rfl), (List.forall_mem_cons.mpr ⟨(List.mem_of_getElem? (i := 6) rfl), (fun _ h => absurd h List.not_mem_nil)⟩)⟩)⟩)⟩) (by decide +kernel)) ggX0_hasRoomForPart_X0_hasShape
theorem dX0_hasRoomForPart_0 : decode cX0_hasRoomForPart 0 = .ok (.aload_n 0, 1) := by decide +kernel
theorem dX0_hasRoomForPart_1 : decode cX0_hasRoomForPart 1 = .ok (.aload_n 0, 1) := by decide +kernel
theorem dX0_hasRoomForPart_2 : decode cX0_hasRoomForPart 2 = .ok (.getfield 52, 3) := by decide +kernel
theorem dX0_hasRoomForPart_5 : decode cX0_hasRoomForPart 5 = .ok (.iconst 1, 1) := by decide +kernel
theorem dX0_hasRoomForPart_6 : decode cX0_hasRoomForPart 6 = .ok (.isub, 1) := by decide +kernel
theorem dX0_hasRoomForPart_7 : decode cX0_hasRoomForPart 7 = .ok (.invokevirtual 56, 3) := by decide +kernel
theorem dX0_hasRoomForPart_10 : decode cX0_hasRoomForPart 10 = .ok (.ifCond .eq 23, 3) := by decide +kernel
theorem dX0_hasRoomForPart_13 : decode cX0_hasRoomForPart 13 = .ok (.aload_n 0, 1) := by decide +kernel
theorem dX0_hasRoomForPart_14 : decode cX0_hasRoomForPart 14 = .ok (.getfield 15, 3) := by decide +kernel
theorem dX0_hasRoomForPart_17 : decode cX0_hasRoomForPart 17 = .ok (.aload_n 0, 1) := by decide +kernel
theorem dX0_hasRoomForPart_18 : decode cX0_hasRoomForPart 18 = .ok (.getfield 52, 3) := by decide +kernel
theorem dX0_hasRoomForPart_21 : decode cX0_hasRoomForPart 21 = .ok (.iconst 1, 1) := by decide +kernel
theorem dX0_hasRoomForPart_22 : decode cX0_hasRoomForPart 22 = .ok (.isub, 1) := by decide +kernel
theorem dX0_hasRoomForPart_23 : decode cX0_hasRoomForPart 23 = .ok (.iaload, 1) := by decide +kernel
theorem dX0_hasRoomForPart_24 : decode cX0_hasRoomForPart 24 = .ok (.bipush 6, 2) := by decide +kernel
theorem dX0_hasRoomForPart_26 : decode cX0_hasRoomForPart 26 = .ok (.if_icmp .ge 7, 3) := by decide +kernel
theorem dX0_hasRoomForPart_29 : decode cX0_hasRoomForPart 29 = .ok (.iconst 1, 1) := by decide +kernel
theorem dX0_hasRoomForPart_30 : decode cX0_hasRoomForPart 30 = .ok (.goto 4, 3) := by decide +kernel
theorem dX0_hasRoomForPart_33 : decode cX0_hasRoomForPart 33 = .ok (.iconst 0, 1) := by decide +kernel
theorem dX0_hasRoomForPart_34 : decode cX0_hasRoomForPart 34 = .ok (.ireturn, 1) := by decide +kernel
def rmX0_hasRoomForPart : Room := { frames := 1, cells := 0, slots := 0, locals := 21 }
theorem zdX0_hasRoomForPart : yX0_hasRoomForPart.cls = RX0 ∧ yX0_hasRoomForPart.cls ≠ "java/lang/invoke/MethodHandle" ∧ yX0_hasRoomForPart.cls ≠ "java/lang/invoke/VarHandle" ∧ (parseMethodDescriptor yX0_hasRoomForPart.desc).map (fun d => d.parameters.length) = some 0 := by decide +kernel
theorem kiX0_hasRoomForPart_X0 : ∀ w ∈ wsX00, w ∈ wsX0_hasRoomForPart := fun _ h => (List.mem_cons_of_mem _ (List.mem_append_right _ h))
theorem kfX0_hasRoomForPart_52 : Cond.fieldLink RX0 52 "ShapeJudge$Book" "shapeCount" "I" ∈ wsX0_hasRoomForPart := (List.mem_of_getElem? (i := 1) rfl)
theorem kfX0_hasRoomForPart_15 : Cond.fieldLink RX0 15 "ShapeJudge$Book" "partCount" "[I" ∈ wsX0_hasRoomForPart := (List.mem_of_getElem? (i := 2) rfl)
def s_X0_hasRoomForPart (m : Mem) (b : Nat) : Option (Int32) :=
  (s_X0_hasShape m b ((m b 0) - 1)).bind fun r2 => (if r2 = 0 then (some 0) else (ck (zin ((m b 0) - 1) 6 = true) ((if 6 ≤ (m (b + 2) (Int32.toNatClampNeg ((m b 0) - 1))) then (some 0) else (some 1)))))
set_option maxRecDepth 100000 in
set_option maxHeartbeats 4000000 in
theorem c_X0_hasRoomForPart (l : Launch) (w : ZW) {m : Mem} {b : Nat} {r9 : Int32} (hb : isb b) (hf : s_X0_hasRoomForPart m b = some r9) : zCi MX l w yX0_hasRoomForPart wsX0_hasRoomForPart rmX0_hasRoomForPart [.ref (w.2.1 b)] m m r9 := by
  refine z_met_z MX_ok (own := RX0) (by decide +kernel) rfl rfl (Nat.le_of_ble_eq_true rfl) ?_
  intro K C hKw hKl hret
  subst hKw
  subst hKl
  unfold s_X0_hasRoomForPart at hf
  show zGo MX K m [(0, .ref ((zw K).2.1 b))] 0 []
  refine z_aload_n C 0 dX0_hasRoomForPart_0 rfl rfl ?_
  refine z_aload_n C 0 dX0_hasRoomForPart_1 rfl rfl ?_
  refine z_geti C (isb_k0 hb) (isb_L0 hb) rfl 0 (Nat.le_of_ble_eq_true rfl) rfl kiX0_hasRoomForPart_X0 kfX0_hasRoomForPart_52 dX0_hasRoomForPart_2 ?_
  refine z_iconst C (v := 1) dX0_hasRoomForPart_5 rfl ?_
  refine z_isub C dX0_hasRoomForPart_6 ?_
  obtain ⟨r2, hc1, hf⟩ := zb_el hf
  refine z_cVi C (c_X0_hasShape _ _ hb hc1) rfl gX0_hasRoomForPart_X0_hasShape rfl rfl zdX0_hasShape rfl (isb_k0 hb) (isb_L0 hb) rfl rfl ⟨Nat.le_of_ble_eq_true rfl, Nat.le_of_ble_eq_true rfl⟩ (Nat.le_of_ble_eq_true rfl) dX0_hasRoomForPart_7 rfl ?_
  refine z_if_eq (tgt := 33) C dX0_hasRoomForPart_10 (by decide) (fun c5 => ?_) (fun c5 => ?_)
  · replace hf := if_t c5 hf
    refine z_iconst C (v := 0) dX0_hasRoomForPart_33 rfl ?_
    cases hf
    exact hret _ _ dX0_hasRoomForPart_34 (Or.inl rfl)
  · replace hf := if_f c5 hf
    refine z_aload_n C 0 dX0_hasRoomForPart_13 rfl rfl ?_
    refine z_getr C (t := b + 2) (isb_k0 hb) (isb_L0 hb) rfl 4 (Nat.le_of_ble_eq_true rfl) rfl kiX0_hasRoomForPart_X0 kfX0_hasRoomForPart_15 dX0_hasRoomForPart_14 ?_
    refine z_aload_n C 0 dX0_hasRoomForPart_17 rfl rfl ?_
    refine z_geti C (isb_k0 hb) (isb_L0 hb) rfl 0 (Nat.le_of_ble_eq_true rfl) rfl kiX0_hasRoomForPart_X0 kfX0_hasRoomForPart_52 dX0_hasRoomForPart_18 ?_
    refine z_iconst C (v := 1) dX0_hasRoomForPart_21 rfl ?_
    refine z_isub C dX0_hasRoomForPart_22 ?_
    obtain ⟨hi3, hf⟩ := ck_el hf
    refine z_iald C (k := (b + 2)) (isb_k2 hb) (isb_L2 hb) hi3 dX0_hasRoomForPart_23 ?_
    refine z_bipush C (v := 6) dX0_hasRoomForPart_24 rfl ?_
    refine z_icmp_ge (tgt := 33) C dX0_hasRoomForPart_26 (by decide) (fun c4 => ?_) (fun c4 => ?_)
    · replace hf := if_t c4 hf
      refine z_iconst C (v := 0) dX0_hasRoomForPart_33 rfl ?_
      cases hf
      exact hret _ _ dX0_hasRoomForPart_34 (Or.inl rfl)
    · replace hf := if_f c4 hf
      refine z_iconst C (v := 1) dX0_hasRoomForPart_29 rfl ?_
      refine z_goto (tgt := 34) C dX0_hasRoomForPart_30 (by decide) ?_
      cases hf
      exact hret _ _ dX0_hasRoomForPart_34 (Or.inr rfl)
set_option maxRecDepth 20000 in
theorem ggX0_addStep_X0_hasShape : GoodIn wsX0_addStep wsX0_hasShape := goodIn_sub (List.forall_mem_cons.mpr ⟨(List.mem_of_getElem? (i := 9) rfl), (List.forall_mem_append.mpr ⟨(List.forall_mem_cons.mpr ⟨(List.mem_of_getElem? (i := 3) rfl), (fun _ h => absurd h List.not_mem_nil)⟩), (fun _ h => (List.mem_cons_of_mem _ (List.mem_append_right _ h)))⟩)⟩) (by decide +kernel)
set_option maxRecDepth 20000 in
theorem gX0_addStep_X0_hasShape : GoodIn wsX0_addStep (wsV RX0 56 RX0 yX0_hasShape wsX0_hasShape) := goodIn_app (goodIn_sub (List.forall_mem_cons.mpr ⟨(List.mem_of_getElem? (i := 5) rfl), (List.forall_mem_cons.mpr ⟨(List.mem_of_getElem? (i := 6) rfl), (List.forall_mem_cons.mpr ⟨(List.mem_of_getElem? (i := 7) rfl), (List.forall_mem_cons.mpr ⟨(List.mem_of_getElem? (i := 8) rfl), (fun _ h => absurd h List.not_mem_nil)⟩)⟩)⟩)⟩) (by decide +kernel)) ggX0_addStep_X0_hasShape
theorem dX0_addStep_0 : decode cX0_addStep 0 = .ok (.aload_n 0, 1) := by decide +kernel
theorem dX0_addStep_1 : decode cX0_addStep 1 = .ok (.getfield 60, 3) := by decide +kernel
theorem dX0_addStep_4 : decode cX0_addStep 4 = .ok (.aload_n 0, 1) := by decide +kernel
theorem dX0_addStep_5 : decode cX0_addStep 5 = .ok (.getfield 34, 3) := by decide +kernel
theorem dX0_addStep_8 : decode cX0_addStep 8 = .ok (.arraylength, 1) := by decide +kernel
theorem dX0_addStep_9 : decode cX0_addStep 9 = .ok (.if_icmp .ge 54, 3) := by decide +kernel
theorem dX0_addStep_12 : decode cX0_addStep 12 = .ok (.aload_n 0, 1) := by decide +kernel
theorem dX0_addStep_13 : decode cX0_addStep 13 = .ok (.aload_n 0, 1) := by decide +kernel
theorem dX0_addStep_14 : decode cX0_addStep 14 = .ok (.getfield 52, 3) := by decide +kernel
theorem dX0_addStep_17 : decode cX0_addStep 17 = .ok (.iconst 1, 1) := by decide +kernel
theorem dX0_addStep_18 : decode cX0_addStep 18 = .ok (.isub, 1) := by decide +kernel
theorem dX0_addStep_19 : decode cX0_addStep 19 = .ok (.invokevirtual 56, 3) := by decide +kernel
theorem dX0_addStep_22 : decode cX0_addStep 22 = .ok (.ifCond .eq 41, 3) := by decide +kernel
theorem dX0_addStep_25 : decode cX0_addStep 25 = .ok (.aload_n 0, 1) := by decide +kernel
theorem dX0_addStep_26 : decode cX0_addStep 26 = .ok (.getfield 34, 3) := by decide +kernel
theorem dX0_addStep_29 : decode cX0_addStep 29 = .ok (.aload_n 0, 1) := by decide +kernel
theorem dX0_addStep_30 : decode cX0_addStep 30 = .ok (.getfield 60, 3) := by decide +kernel
theorem dX0_addStep_33 : decode cX0_addStep 33 = .ok (.iload_n 1, 1) := by decide +kernel
theorem dX0_addStep_34 : decode cX0_addStep 34 = .ok (.bipush 64, 2) := by decide +kernel
theorem dX0_addStep_36 : decode cX0_addStep 36 = .ok (.imul, 1) := by decide +kernel
theorem dX0_addStep_37 : decode cX0_addStep 37 = .ok (.iload_n 2, 1) := by decide +kernel
theorem dX0_addStep_38 : decode cX0_addStep 38 = .ok (.iadd, 1) := by decide +kernel
theorem dX0_addStep_39 : decode cX0_addStep 39 = .ok (.iastore, 1) := by decide +kernel
theorem dX0_addStep_40 : decode cX0_addStep 40 = .ok (.aload_n 0, 1) := by decide +kernel
theorem dX0_addStep_41 : decode cX0_addStep 41 = .ok (.dup, 1) := by decide +kernel
theorem dX0_addStep_42 : decode cX0_addStep 42 = .ok (.getfield 60, 3) := by decide +kernel
theorem dX0_addStep_45 : decode cX0_addStep 45 = .ok (.iconst 1, 1) := by decide +kernel
theorem dX0_addStep_46 : decode cX0_addStep 46 = .ok (.iadd, 1) := by decide +kernel
theorem dX0_addStep_47 : decode cX0_addStep 47 = .ok (.putfield 60, 3) := by decide +kernel
theorem dX0_addStep_50 : decode cX0_addStep 50 = .ok (.aload_n 0, 1) := by decide +kernel
theorem dX0_addStep_51 : decode cX0_addStep 51 = .ok (.getfield 31, 3) := by decide +kernel
theorem dX0_addStep_54 : decode cX0_addStep 54 = .ok (.aload_n 0, 1) := by decide +kernel
theorem dX0_addStep_55 : decode cX0_addStep 55 = .ok (.getfield 52, 3) := by decide +kernel
theorem dX0_addStep_58 : decode cX0_addStep 58 = .ok (.aload_n 0, 1) := by decide +kernel
theorem dX0_addStep_59 : decode cX0_addStep 59 = .ok (.getfield 60, 3) := by decide +kernel
theorem dX0_addStep_62 : decode cX0_addStep 62 = .ok (.iastore, 1) := by decide +kernel
theorem dX0_addStep_63 : decode cX0_addStep 63 = .ok (.return_, 1) := by decide +kernel
def rmX0_addStep : Room := { frames := 1, cells := 0, slots := 0, locals := 21 }
theorem zdX0_addStep : yX0_addStep.cls = RX0 ∧ yX0_addStep.cls ≠ "java/lang/invoke/MethodHandle" ∧ yX0_addStep.cls ≠ "java/lang/invoke/VarHandle" ∧ (parseMethodDescriptor yX0_addStep.desc).map (fun d => d.parameters.length) = some 2 := by decide +kernel
theorem kiX0_addStep_X0 : ∀ w ∈ wsX00, w ∈ wsX0_addStep := fun _ h => (List.mem_cons_of_mem _ (List.mem_append_right _ h))
theorem kfX0_addStep_60 : Cond.fieldLink RX0 60 "ShapeJudge$Book" "stepCount" "I" ∈ wsX0_addStep := (List.mem_of_getElem? (i := 1) rfl)
theorem kfX0_addStep_34 : Cond.fieldLink RX0 34 "ShapeJudge$Book" "steps" "[I" ∈ wsX0_addStep := (List.mem_of_getElem? (i := 2) rfl)
theorem kfX0_addStep_52 : Cond.fieldLink RX0 52 "ShapeJudge$Book" "shapeCount" "I" ∈ wsX0_addStep := (List.mem_of_getElem? (i := 3) rfl)
theorem kfX0_addStep_31 : Cond.fieldLink RX0 31 "ShapeJudge$Book" "firstStep" "[I" ∈ wsX0_addStep := (List.mem_of_getElem? (i := 4) rfl)
def s_X0_addStep (m : Mem) (b : Nat) (a1 : Int32) (a2 : Int32) : Option (Mem) :=
  (if 146 ≤ (m b 1) then (some m) else ((s_X0_hasShape m b ((m b 0) - 1)).bind fun r2 => (if r2 = 0 then (some m) else (ck (zin (m b 1) 146 = true) (bn (sto m (b + 8) (Int32.toNatClampNeg (m b 1)) ((a1 * 64) + a2)) fun m4 => bn (sto m4 b 1 ((m4 b 1) + 1)) fun m5 => ck (zin (m5 b 0) 7 = true) (bn (sto m5 (b + 7) (Int32.toNatClampNeg (m5 b 0)) (m5 b 1)) fun m7 => some m7))))))
set_option maxRecDepth 100000 in
set_option maxHeartbeats 4000000 in
theorem c_X0_addStep (l : Launch) (w : ZW) {m : Mem} {b : Nat} {a1 : Int32} {a2 : Int32} {m9 : Mem} (hb : isb b) (hf : s_X0_addStep m b a1 a2 = some m9) : zCv MX l w yX0_addStep wsX0_addStep rmX0_addStep [.ref (w.2.1 b), .int a1, .int a2] m m9 := by
  refine z_met_v MX_ok (own := RX0) (by decide +kernel) rfl rfl (Nat.le_of_ble_eq_true rfl) ?_
  intro K C hKw hKl hret
  subst hKw
  subst hKl
  unfold s_X0_addStep at hf
  show zGo MX K m [(0, .ref ((zw K).2.1 b)), (1, .int a1), (2, .int a2)] 0 []
  refine z_aload_n C 0 dX0_addStep_0 rfl rfl ?_
  refine z_geti C (isb_k0 hb) (isb_L0 hb) rfl 1 (Nat.le_of_ble_eq_true rfl) rfl kiX0_addStep_X0 kfX0_addStep_60 dX0_addStep_1 ?_
  refine z_aload_n C 0 dX0_addStep_4 rfl rfl ?_
  refine z_getr C (t := b + 8) (isb_k0 hb) (isb_L0 hb) rfl 10 (Nat.le_of_ble_eq_true rfl) rfl kiX0_addStep_X0 kfX0_addStep_34 dX0_addStep_5 ?_
  refine z_alen C (k := (b + 8)) (v := 146) (isb_k8 hb) (isb_L8 hb) (fun _ => rfl) rfl dX0_addStep_8 ?_
  refine z_icmp_ge (tgt := 63) C dX0_addStep_9 (by decide) (fun c9 => ?_) (fun c9 => ?_)
  · replace hf := if_t c9 hf
    cases hf
    exact hret _ _ dX0_addStep_63
  · replace hf := if_f c9 hf
    refine z_aload_n C 0 dX0_addStep_12 rfl rfl ?_
    refine z_aload_n C 0 dX0_addStep_13 rfl rfl ?_
    refine z_geti C (isb_k0 hb) (isb_L0 hb) rfl 0 (Nat.le_of_ble_eq_true rfl) rfl kiX0_addStep_X0 kfX0_addStep_52 dX0_addStep_14 ?_
    refine z_iconst C (v := 1) dX0_addStep_17 rfl ?_
    refine z_isub C dX0_addStep_18 ?_
    obtain ⟨r2, hc1, hf⟩ := zb_el hf
    refine z_cVi C (c_X0_hasShape _ _ hb hc1) rfl gX0_addStep_X0_hasShape rfl rfl zdX0_hasShape rfl (isb_k0 hb) (isb_L0 hb) rfl rfl ⟨Nat.le_of_ble_eq_true rfl, Nat.le_of_ble_eq_true rfl⟩ (Nat.le_of_ble_eq_true rfl) dX0_addStep_19 rfl ?_
    refine z_if_eq (tgt := 63) C dX0_addStep_22 (by decide) (fun c8 => ?_) (fun c8 => ?_)
    · replace hf := if_t c8 hf
      cases hf
      exact hret _ _ dX0_addStep_63
    · replace hf := if_f c8 hf
      refine z_aload_n C 0 dX0_addStep_25 rfl rfl ?_
      refine z_getr C (t := b + 8) (isb_k0 hb) (isb_L0 hb) rfl 10 (Nat.le_of_ble_eq_true rfl) rfl kiX0_addStep_X0 kfX0_addStep_34 dX0_addStep_26 ?_
      refine z_aload_n C 0 dX0_addStep_29 rfl rfl ?_
      refine z_geti C (isb_k0 hb) (isb_L0 hb) rfl 1 (Nat.le_of_ble_eq_true rfl) rfl kiX0_addStep_X0 kfX0_addStep_60 dX0_addStep_30 ?_
      refine z_iload_n C 1 dX0_addStep_33 rfl rfl ?_
      refine z_bipush C (v := 64) dX0_addStep_34 rfl ?_
      refine z_imul C dX0_addStep_36 ?_
      refine z_iload_n C 2 dX0_addStep_37 rfl rfl ?_
      refine z_iadd C dX0_addStep_38 ?_
      obtain ⟨hi3, hf⟩ := ck_el hf
      refine z_iast C (k := (b + 8)) (isb_k8 hb) (isb_L8 hb) hi3 dX0_addStep_39 ?_
      refine z_nm (fun m4 e_m4 => ?_)
      replace hf := bn_to e_m4 hf
      refine z_aload_n C 0 dX0_addStep_40 rfl rfl ?_
      refine z_dup_a C dX0_addStep_41 ?_
      refine z_geti C (isb_k0 hb) (isb_L0 hb) rfl 1 (Nat.le_of_ble_eq_true rfl) rfl kiX0_addStep_X0 kfX0_addStep_60 dX0_addStep_42 ?_
      refine z_iconst C (v := 1) dX0_addStep_45 rfl ?_
      refine z_iadd C dX0_addStep_46 ?_
      refine z_puti C (isb_k0 hb) (isb_L0 hb) rfl 1 (Nat.le_of_ble_eq_true rfl) rfl kiX0_addStep_X0 kfX0_addStep_60 tyX0 tyX0_ok nmX0 rfl rfl dX0_addStep_47 ?_
      refine z_nm (fun m5 e_m5 => ?_)
      replace hf := bn_to e_m5 hf
      refine z_aload_n C 0 dX0_addStep_50 rfl rfl ?_
      refine z_getr C (t := b + 7) (isb_k0 hb) (isb_L0 hb) rfl 9 (Nat.le_of_ble_eq_true rfl) rfl kiX0_addStep_X0 kfX0_addStep_31 dX0_addStep_51 ?_
      refine z_aload_n C 0 dX0_addStep_54 rfl rfl ?_
      refine z_geti C (isb_k0 hb) (isb_L0 hb) rfl 0 (Nat.le_of_ble_eq_true rfl) rfl kiX0_addStep_X0 kfX0_addStep_52 dX0_addStep_55 ?_
      refine z_aload_n C 0 dX0_addStep_58 rfl rfl ?_
      refine z_geti C (isb_k0 hb) (isb_L0 hb) rfl 1 (Nat.le_of_ble_eq_true rfl) rfl kiX0_addStep_X0 kfX0_addStep_60 dX0_addStep_59 ?_
      obtain ⟨hi6, hf⟩ := ck_el hf
      refine z_iast C (k := (b + 7)) (isb_k7 hb) (isb_L7 hb) hi6 dX0_addStep_62 ?_
      refine z_nm (fun m7 e_m7 => ?_)
      replace hf := bn_to e_m7 hf
      cases hf
      exact hret _ _ dX0_addStep_63
set_option maxRecDepth 20000 in
theorem ggX0_addPart_X0_hasRoomForPart : GoodIn wsX0_addPart wsX0_hasRoomForPart := goodIn_sub (List.forall_mem_cons.mpr ⟨(List.mem_of_getElem? (i := 10) rfl), (List.forall_mem_append.mpr ⟨(List.forall_mem_cons.mpr ⟨(List.mem_of_getElem? (i := 1) rfl), (List.forall_mem_cons.mpr ⟨(List.mem_of_getElem? (i := 2) rfl), (List.forall_mem_cons.mpr ⟨(List.mem_of_getElem? (i := 11) rfl), (List.forall_mem_cons.mpr ⟨(List.mem_of_getElem? (i := 12) rfl), (List.forall_mem_cons.mpr ⟨(List.mem_of_getElem? (i := 13) rfl), (List.forall_mem_cons.mpr ⟨(List.mem_of_getElem? (i := 9) rfl), (List.forall_mem_cons.mpr ⟨(List.mem_of_getElem? (i := 14) rfl), (fun _ h => absurd h List.not_mem_nil)⟩)⟩)⟩)⟩)⟩)⟩)⟩), (fun _ h => (List.mem_cons_of_mem _ (List.mem_append_right _ h)))⟩)⟩) (by decide +kernel)
set_option maxRecDepth 20000 in
theorem gX0_addPart_X0_hasRoomForPart : GoodIn wsX0_addPart (wsV RX0 66 RX0 yX0_hasRoomForPart wsX0_hasRoomForPart) := goodIn_app (goodIn_sub (List.forall_mem_cons.mpr ⟨(List.mem_of_getElem? (i := 6) rfl), (List.forall_mem_cons.mpr ⟨(List.mem_of_getElem? (i := 7) rfl), (List.forall_mem_cons.mpr ⟨(List.mem_of_getElem? (i := 8) rfl), (List.forall_mem_cons.mpr ⟨(List.mem_of_getElem? (i := 9) rfl), (fun _ h => absurd h List.not_mem_nil)⟩)⟩)⟩)⟩) (by decide +kernel)) ggX0_addPart_X0_hasRoomForPart
set_option maxRecDepth 20000 in
theorem ggX0_addPart_X0_addStep : GoodIn wsX0_addPart wsX0_addStep := goodIn_sub (List.forall_mem_cons.mpr ⟨(List.mem_of_getElem? (i := 18) rfl), (List.forall_mem_append.mpr ⟨(List.forall_mem_cons.mpr ⟨(List.mem_of_getElem? (i := 19) rfl), (List.forall_mem_cons.mpr ⟨(List.mem_of_getElem? (i := 20) rfl), (List.forall_mem_cons.mpr ⟨(List.mem_of_getElem? (i := 1) rfl), (List.forall_mem_cons.mpr ⟨(List.mem_of_getElem? (i := 21) rfl), (List.forall_mem_cons.mpr ⟨(List.mem_of_getElem? (i := 11) rfl), (List.forall_mem_cons.mpr ⟨(List.mem_of_getElem? (i := 12) rfl), (List.forall_mem_cons.mpr ⟨(List.mem_of_getElem? (i := 13) rfl), (List.forall_mem_cons.mpr ⟨(List.mem_of_getElem? (i := 9) rfl), (List.forall_mem_cons.mpr ⟨(List.mem_of_getElem? (i := 14) rfl), (fun _ h => absurd h List.not_mem_nil)⟩)⟩)⟩)⟩)⟩)⟩)⟩)⟩)⟩), (fun _ h => (List.mem_cons_of_mem _ (List.mem_append_right _ h)))⟩)⟩) (by decide +kernel)
set_option maxRecDepth 20000 in
theorem gX0_addPart_X0_addStep : GoodIn wsX0_addPart (wsV RX0 70 RX0 yX0_addStep wsX0_addStep) := goodIn_app (goodIn_sub (List.forall_mem_cons.mpr ⟨(List.mem_of_getElem? (i := 15) rfl), (List.forall_mem_cons.mpr ⟨(List.mem_of_getElem? (i := 16) rfl), (List.forall_mem_cons.mpr ⟨(List.mem_of_getElem? (i := 17) rfl), (List.forall_mem_cons.mpr ⟨(List.mem_of_getElem? (i := 9) rfl), (fun _ h => absurd h List.not_mem_nil)⟩)⟩)⟩)⟩) (by decide +kernel)) ggX0_addPart_X0_addStep
set_option maxRecDepth 100000 in
theorem daX0_addPart : ∀ q ∈ ([(0, .aload_n 0, 1), (1, .invokevirtual 66, 3), (4, .ifCond .ne 4, 3), (7, .return_, 1), (8, .aload_n 0, 1), (9, .getfield 52, 3), (12, .iconst 1, 1), (13, .isub, 1), (14, .istore_n 2, 1), (15, .aload_n 0, 1), (16, .getfield 15, 3), (19, .iload_n 2, 1), (20, .iaload, 1), (21, .istore_n 3, 1), (22, .aload_n 0, 1), (23, .getfield 15, 3), (26, .iload_n 2, 1), (27, .dup2, 1), (28, .iaload, 1), (29, .iconst 1, 1), (30, .iadd, 1), (31, .iastore, 1), (32, .aload_n 0, 1), (33, .iload_n 2, 1), (34, .bipush 6, 2), (36, .imul, 1), (37, .iload_n 3, 1), (38, .iadd, 1), (39, .putfield 63, 3), (42, .aload_n 0, 1), (43, .getfield 37, 3), (46, .aload_n 0, 1), (47, .getfield 63, 3), (50, .iload_n 1, 1), (51, .iastore, 1), (52, .aload_n 0, 1), (53, .getfield 22, 3), (56, .iload_n 2, 1), (57, .dup2, 1), (58, .iaload, 1), (59, .iconst 1, 1), (60, .iload_n 1, 1), (61, .ishl, 1), (62, .ior, 1), (63, .iastore, 1), (64, .aload_n 0, 1), (65, .iconst 0, 1), (66, .iload_n 3, 1), (67, .invokevirtual 70, 3), (70, .return_, 1)] : List (Nat × Instr × Nat)), decode cX0_addPart q.1 = .ok q.2 := by decide +kernel
theorem dX0_addPart_0 : decode cX0_addPart 0 = .ok (.aload_n 0, 1) := daX0_addPart (0, .aload_n 0, 1) (List.mem_of_getElem? (i := 0) rfl)
theorem dX0_addPart_1 : decode cX0_addPart 1 = .ok (.invokevirtual 66, 3) := daX0_addPart (1, .invokevirtual 66, 3) (List.mem_of_getElem? (i := 1) rfl)
theorem dX0_addPart_4 : decode cX0_addPart 4 = .ok (.ifCond .ne 4, 3) := daX0_addPart (4, .ifCond .ne 4, 3) (List.mem_of_getElem? (i := 2) rfl)
theorem dX0_addPart_7 : decode cX0_addPart 7 = .ok (.return_, 1) := daX0_addPart (7, .return_, 1) (List.mem_of_getElem? (i := 3) rfl)
theorem dX0_addPart_8 : decode cX0_addPart 8 = .ok (.aload_n 0, 1) := daX0_addPart (8, .aload_n 0, 1) (List.mem_of_getElem? (i := 4) rfl)
theorem dX0_addPart_9 : decode cX0_addPart 9 = .ok (.getfield 52, 3) := daX0_addPart (9, .getfield 52, 3) (List.mem_of_getElem? (i := 5) rfl)
theorem dX0_addPart_12 : decode cX0_addPart 12 = .ok (.iconst 1, 1) := daX0_addPart (12, .iconst 1, 1) (List.mem_of_getElem? (i := 6) rfl)
theorem dX0_addPart_13 : decode cX0_addPart 13 = .ok (.isub, 1) := daX0_addPart (13, .isub, 1) (List.mem_of_getElem? (i := 7) rfl)
theorem dX0_addPart_14 : decode cX0_addPart 14 = .ok (.istore_n 2, 1) := daX0_addPart (14, .istore_n 2, 1) (List.mem_of_getElem? (i := 8) rfl)
theorem dX0_addPart_15 : decode cX0_addPart 15 = .ok (.aload_n 0, 1) := daX0_addPart (15, .aload_n 0, 1) (List.mem_of_getElem? (i := 9) rfl)
theorem dX0_addPart_16 : decode cX0_addPart 16 = .ok (.getfield 15, 3) := daX0_addPart (16, .getfield 15, 3) (List.mem_of_getElem? (i := 10) rfl)
theorem dX0_addPart_19 : decode cX0_addPart 19 = .ok (.iload_n 2, 1) := daX0_addPart (19, .iload_n 2, 1) (List.mem_of_getElem? (i := 11) rfl)
theorem dX0_addPart_20 : decode cX0_addPart 20 = .ok (.iaload, 1) := daX0_addPart (20, .iaload, 1) (List.mem_of_getElem? (i := 12) rfl)
theorem dX0_addPart_21 : decode cX0_addPart 21 = .ok (.istore_n 3, 1) := daX0_addPart (21, .istore_n 3, 1) (List.mem_of_getElem? (i := 13) rfl)
theorem dX0_addPart_22 : decode cX0_addPart 22 = .ok (.aload_n 0, 1) := daX0_addPart (22, .aload_n 0, 1) (List.mem_of_getElem? (i := 14) rfl)
theorem dX0_addPart_23 : decode cX0_addPart 23 = .ok (.getfield 15, 3) := daX0_addPart (23, .getfield 15, 3) (List.mem_of_getElem? (i := 15) rfl)
theorem dX0_addPart_26 : decode cX0_addPart 26 = .ok (.iload_n 2, 1) := daX0_addPart (26, .iload_n 2, 1) (List.mem_of_getElem? (i := 16) rfl)
theorem dX0_addPart_27 : decode cX0_addPart 27 = .ok (.dup2, 1) := daX0_addPart (27, .dup2, 1) (List.mem_of_getElem? (i := 17) rfl)
theorem dX0_addPart_28 : decode cX0_addPart 28 = .ok (.iaload, 1) := daX0_addPart (28, .iaload, 1) (List.mem_of_getElem? (i := 18) rfl)
theorem dX0_addPart_29 : decode cX0_addPart 29 = .ok (.iconst 1, 1) := daX0_addPart (29, .iconst 1, 1) (List.mem_of_getElem? (i := 19) rfl)
theorem dX0_addPart_30 : decode cX0_addPart 30 = .ok (.iadd, 1) := daX0_addPart (30, .iadd, 1) (List.mem_of_getElem? (i := 20) rfl)
theorem dX0_addPart_31 : decode cX0_addPart 31 = .ok (.iastore, 1) := daX0_addPart (31, .iastore, 1) (List.mem_of_getElem? (i := 21) rfl)
theorem dX0_addPart_32 : decode cX0_addPart 32 = .ok (.aload_n 0, 1) := daX0_addPart (32, .aload_n 0, 1) (List.mem_of_getElem? (i := 22) rfl)
theorem dX0_addPart_33 : decode cX0_addPart 33 = .ok (.iload_n 2, 1) := daX0_addPart (33, .iload_n 2, 1) (List.mem_of_getElem? (i := 23) rfl)
theorem dX0_addPart_34 : decode cX0_addPart 34 = .ok (.bipush 6, 2) := daX0_addPart (34, .bipush 6, 2) (List.mem_of_getElem? (i := 24) rfl)
theorem dX0_addPart_36 : decode cX0_addPart 36 = .ok (.imul, 1) := daX0_addPart (36, .imul, 1) (List.mem_of_getElem? (i := 25) rfl)
theorem dX0_addPart_37 : decode cX0_addPart 37 = .ok (.iload_n 3, 1) := daX0_addPart (37, .iload_n 3, 1) (List.mem_of_getElem? (i := 26) rfl)
theorem dX0_addPart_38 : decode cX0_addPart 38 = .ok (.iadd, 1) := daX0_addPart (38, .iadd, 1) (List.mem_of_getElem? (i := 27) rfl)
theorem dX0_addPart_39 : decode cX0_addPart 39 = .ok (.putfield 63, 3) := daX0_addPart (39, .putfield 63, 3) (List.mem_of_getElem? (i := 28) rfl)
theorem dX0_addPart_42 : decode cX0_addPart 42 = .ok (.aload_n 0, 1) := daX0_addPart (42, .aload_n 0, 1) (List.mem_of_getElem? (i := 29) rfl)
theorem dX0_addPart_43 : decode cX0_addPart 43 = .ok (.getfield 37, 3) := daX0_addPart (43, .getfield 37, 3) (List.mem_of_getElem? (i := 30) rfl)
theorem dX0_addPart_46 : decode cX0_addPart 46 = .ok (.aload_n 0, 1) := daX0_addPart (46, .aload_n 0, 1) (List.mem_of_getElem? (i := 31) rfl)
theorem dX0_addPart_47 : decode cX0_addPart 47 = .ok (.getfield 63, 3) := daX0_addPart (47, .getfield 63, 3) (List.mem_of_getElem? (i := 32) rfl)
theorem dX0_addPart_50 : decode cX0_addPart 50 = .ok (.iload_n 1, 1) := daX0_addPart (50, .iload_n 1, 1) (List.mem_of_getElem? (i := 33) rfl)
theorem dX0_addPart_51 : decode cX0_addPart 51 = .ok (.iastore, 1) := daX0_addPart (51, .iastore, 1) (List.mem_of_getElem? (i := 34) rfl)
theorem dX0_addPart_52 : decode cX0_addPart 52 = .ok (.aload_n 0, 1) := daX0_addPart (52, .aload_n 0, 1) (List.mem_of_getElem? (i := 35) rfl)
theorem dX0_addPart_53 : decode cX0_addPart 53 = .ok (.getfield 22, 3) := daX0_addPart (53, .getfield 22, 3) (List.mem_of_getElem? (i := 36) rfl)
theorem dX0_addPart_56 : decode cX0_addPart 56 = .ok (.iload_n 2, 1) := daX0_addPart (56, .iload_n 2, 1) (List.mem_of_getElem? (i := 37) rfl)
theorem dX0_addPart_57 : decode cX0_addPart 57 = .ok (.dup2, 1) := daX0_addPart (57, .dup2, 1) (List.mem_of_getElem? (i := 38) rfl)
theorem dX0_addPart_58 : decode cX0_addPart 58 = .ok (.iaload, 1) := daX0_addPart (58, .iaload, 1) (List.mem_of_getElem? (i := 39) rfl)
theorem dX0_addPart_59 : decode cX0_addPart 59 = .ok (.iconst 1, 1) := daX0_addPart (59, .iconst 1, 1) (List.mem_of_getElem? (i := 40) rfl)
theorem dX0_addPart_60 : decode cX0_addPart 60 = .ok (.iload_n 1, 1) := daX0_addPart (60, .iload_n 1, 1) (List.mem_of_getElem? (i := 41) rfl)
theorem dX0_addPart_61 : decode cX0_addPart 61 = .ok (.ishl, 1) := daX0_addPart (61, .ishl, 1) (List.mem_of_getElem? (i := 42) rfl)
theorem dX0_addPart_62 : decode cX0_addPart 62 = .ok (.ior, 1) := daX0_addPart (62, .ior, 1) (List.mem_of_getElem? (i := 43) rfl)
theorem dX0_addPart_63 : decode cX0_addPart 63 = .ok (.iastore, 1) := daX0_addPart (63, .iastore, 1) (List.mem_of_getElem? (i := 44) rfl)
theorem dX0_addPart_64 : decode cX0_addPart 64 = .ok (.aload_n 0, 1) := daX0_addPart (64, .aload_n 0, 1) (List.mem_of_getElem? (i := 45) rfl)
theorem dX0_addPart_65 : decode cX0_addPart 65 = .ok (.iconst 0, 1) := daX0_addPart (65, .iconst 0, 1) (List.mem_of_getElem? (i := 46) rfl)
theorem dX0_addPart_66 : decode cX0_addPart 66 = .ok (.iload_n 3, 1) := daX0_addPart (66, .iload_n 3, 1) (List.mem_of_getElem? (i := 47) rfl)
theorem dX0_addPart_67 : decode cX0_addPart 67 = .ok (.invokevirtual 70, 3) := daX0_addPart (67, .invokevirtual 70, 3) (List.mem_of_getElem? (i := 48) rfl)
theorem dX0_addPart_70 : decode cX0_addPart 70 = .ok (.return_, 1) := daX0_addPart (70, .return_, 1) (List.mem_of_getElem? (i := 49) rfl)
def rmX0_addPart : Room := { frames := 2, cells := 0, slots := 0, locals := 43 }
theorem zdX0_addPart : yX0_addPart.cls = RX0 ∧ yX0_addPart.cls ≠ "java/lang/invoke/MethodHandle" ∧ yX0_addPart.cls ≠ "java/lang/invoke/VarHandle" ∧ (parseMethodDescriptor yX0_addPart.desc).map (fun d => d.parameters.length) = some 1 := by decide +kernel
theorem kiX0_addPart_X0 : ∀ w ∈ wsX00, w ∈ wsX0_addPart := fun _ h => (List.mem_cons_of_mem _ (List.mem_append_right _ h))
theorem kfX0_addPart_52 : Cond.fieldLink RX0 52 "ShapeJudge$Book" "shapeCount" "I" ∈ wsX0_addPart := (List.mem_of_getElem? (i := 1) rfl)
theorem kfX0_addPart_15 : Cond.fieldLink RX0 15 "ShapeJudge$Book" "partCount" "[I" ∈ wsX0_addPart := (List.mem_of_getElem? (i := 2) rfl)
theorem kfX0_addPart_63 : Cond.fieldLink RX0 63 "ShapeJudge$Book" "lastSlot" "I" ∈ wsX0_addPart := (List.mem_of_getElem? (i := 3) rfl)
theorem kfX0_addPart_37 : Cond.fieldLink RX0 37 "ShapeJudge$Book" "partName" "[I" ∈ wsX0_addPart := (List.mem_of_getElem? (i := 4) rfl)
theorem kfX0_addPart_22 : Cond.fieldLink RX0 22 "ShapeJudge$Book" "names" "[I" ∈ wsX0_addPart := (List.mem_of_getElem? (i := 5) rfl)
def s_X0_addPart (m : Mem) (b : Nat) (a1 : Int32) : Option (Mem) :=
  (s_X0_hasRoomForPart m b).bind fun r2 => (if r2 = 0 then (some m) else (bn ((m b 0) - 1) fun x3 => ck (zin x3 6 = true) (bn (m (b + 2) (Int32.toNatClampNeg x3)) fun x5 => ck (zin x3 6 = true) (ck (zin x3 6 = true) (bn (sto m (b + 2) (Int32.toNatClampNeg x3) ((m (b + 2) (Int32.toNatClampNeg x3)) + 1)) fun m8 => bn (sto m8 b 2 ((x3 * 6) + x5)) fun m9 => ck (zin (m9 b 2) 36 = true) (bn (sto m9 (b + 9) (Int32.toNatClampNeg (m9 b 2)) a1) fun m11 => ck (zin x3 6 = true) (ck (zin x3 6 = true) (bn (sto m11 (b + 4) (Int32.toNatClampNeg x3) ((m11 (b + 4) (Int32.toNatClampNeg x3)) ||| ((1 : Int32) <<< (a1 &&& 31)))) fun m14 => (s_X0_addStep m14 b 0 x5).bind fun m16 => some m16))))))))
set_option maxRecDepth 100000 in
set_option maxHeartbeats 4000000 in
theorem c_X0_addPart (l : Launch) (w : ZW) {m : Mem} {b : Nat} {a1 : Int32} {m9 : Mem} (hb : isb b) (hf : s_X0_addPart m b a1 = some m9) : zCv MX l w yX0_addPart wsX0_addPart rmX0_addPart [.ref (w.2.1 b), .int a1] m m9 := by
  refine z_met_v MX_ok (own := RX0) (by decide +kernel) rfl rfl (Nat.le_of_ble_eq_true rfl) ?_
  intro K C hKw hKl hret
  subst hKw
  subst hKl
  unfold s_X0_addPart at hf
  show zGo MX K m [(0, .ref ((zw K).2.1 b)), (1, .int a1)] 0 []
  refine z_aload_n C 0 dX0_addPart_0 rfl rfl ?_
  obtain ⟨r2, hc1, hf⟩ := zb_el hf
  refine z_cVi C (c_X0_hasRoomForPart _ _ hb hc1) rfl gX0_addPart_X0_hasRoomForPart rfl rfl zdX0_hasRoomForPart rfl (isb_k0 hb) (isb_L0 hb) rfl rfl ⟨Nat.le_of_ble_eq_true rfl, Nat.le_of_ble_eq_true rfl⟩ (Nat.le_of_ble_eq_true rfl) dX0_addPart_1 rfl ?_
  refine z_if_ne (tgt := 8) C dX0_addPart_4 (by decide) (fun c17 => ?_) (fun c17 => ?_)
  · replace hf := if_f c17 hf
    refine z_aload_n C 0 dX0_addPart_8 rfl rfl ?_
    refine z_geti C (isb_k0 hb) (isb_L0 hb) rfl 0 (Nat.le_of_ble_eq_true rfl) rfl kiX0_addPart_X0 kfX0_addPart_52 dX0_addPart_9 ?_
    refine z_iconst C (v := 1) dX0_addPart_12 rfl ?_
    refine z_isub C dX0_addPart_13 ?_
    refine z_topi (fun x3 e_x3 => ?_)
    replace hf := bn_to e_x3 hf
    refine z_istore_n C (lv2 := [(0, .ref ((zw K).2.1 b)), (1, .int a1), (2, .int x3)]) [1, 2, 0] dX0_addPart_14 rfl (Nat.le_of_ble_eq_true rfl) rfl ?_
    refine z_aload_n C 0 dX0_addPart_15 rfl rfl ?_
    refine z_getr C (t := b + 2) (isb_k0 hb) (isb_L0 hb) rfl 4 (Nat.le_of_ble_eq_true rfl) rfl kiX0_addPart_X0 kfX0_addPart_15 dX0_addPart_16 ?_
    refine z_iload_n C 2 dX0_addPart_19 rfl rfl ?_
    obtain ⟨hi4, hf⟩ := ck_el hf
    refine z_iald C (k := (b + 2)) (isb_k2 hb) (isb_L2 hb) hi4 dX0_addPart_20 ?_
    refine z_topi (fun x5 e_x5 => ?_)
    replace hf := bn_to e_x5 hf
    refine z_istore_n C (lv2 := [(0, .ref ((zw K).2.1 b)), (1, .int a1), (2, .int x3), (3, .int x5)]) [1, 2, 3, 0] dX0_addPart_21 rfl (Nat.le_of_ble_eq_true rfl) rfl ?_
    refine z_aload_n C 0 dX0_addPart_22 rfl rfl ?_
    refine z_getr C (t := b + 2) (isb_k0 hb) (isb_L0 hb) rfl 4 (Nat.le_of_ble_eq_true rfl) rfl kiX0_addPart_X0 kfX0_addPart_15 dX0_addPart_23 ?_
    refine z_iload_n C 2 dX0_addPart_26 rfl rfl ?_
    refine z_dup2 C dX0_addPart_27 ?_
    obtain ⟨hi6, hf⟩ := ck_el hf
    refine z_iald C (k := (b + 2)) (isb_k2 hb) (isb_L2 hb) hi6 dX0_addPart_28 ?_
    refine z_iconst C (v := 1) dX0_addPart_29 rfl ?_
    refine z_iadd C dX0_addPart_30 ?_
    obtain ⟨hi7, hf⟩ := ck_el hf
    refine z_iast C (k := (b + 2)) (isb_k2 hb) (isb_L2 hb) hi7 dX0_addPart_31 ?_
    refine z_nm (fun m8 e_m8 => ?_)
    replace hf := bn_to e_m8 hf
    refine z_aload_n C 0 dX0_addPart_32 rfl rfl ?_
    refine z_iload_n C 2 dX0_addPart_33 rfl rfl ?_
    refine z_bipush C (v := 6) dX0_addPart_34 rfl ?_
    refine z_imul C dX0_addPart_36 ?_
    refine z_iload_n C 3 dX0_addPart_37 rfl rfl ?_
    refine z_iadd C dX0_addPart_38 ?_
    refine z_puti C (isb_k0 hb) (isb_L0 hb) rfl 2 (Nat.le_of_ble_eq_true rfl) rfl kiX0_addPart_X0 kfX0_addPart_63 tyX0 tyX0_ok nmX0 rfl rfl dX0_addPart_39 ?_
    refine z_nm (fun m9 e_m9 => ?_)
    replace hf := bn_to e_m9 hf
    refine z_aload_n C 0 dX0_addPart_42 rfl rfl ?_
    refine z_getr C (t := b + 9) (isb_k0 hb) (isb_L0 hb) rfl 11 (Nat.le_of_ble_eq_true rfl) rfl kiX0_addPart_X0 kfX0_addPart_37 dX0_addPart_43 ?_
    refine z_aload_n C 0 dX0_addPart_46 rfl rfl ?_
    refine z_geti C (isb_k0 hb) (isb_L0 hb) rfl 2 (Nat.le_of_ble_eq_true rfl) rfl kiX0_addPart_X0 kfX0_addPart_63 dX0_addPart_47 ?_
    refine z_iload_n C 1 dX0_addPart_50 rfl rfl ?_
    obtain ⟨hi10, hf⟩ := ck_el hf
    refine z_iast C (k := (b + 9)) (isb_k9 hb) (isb_L9 hb) hi10 dX0_addPart_51 ?_
    refine z_nm (fun m11 e_m11 => ?_)
    replace hf := bn_to e_m11 hf
    refine z_aload_n C 0 dX0_addPart_52 rfl rfl ?_
    refine z_getr C (t := b + 4) (isb_k0 hb) (isb_L0 hb) rfl 6 (Nat.le_of_ble_eq_true rfl) rfl kiX0_addPart_X0 kfX0_addPart_22 dX0_addPart_53 ?_
    refine z_iload_n C 2 dX0_addPart_56 rfl rfl ?_
    refine z_dup2 C dX0_addPart_57 ?_
    obtain ⟨hi12, hf⟩ := ck_el hf
    refine z_iald C (k := (b + 4)) (isb_k4 hb) (isb_L4 hb) hi12 dX0_addPart_58 ?_
    refine z_iconst C (v := 1) dX0_addPart_59 rfl ?_
    refine z_iload_n C 1 dX0_addPart_60 rfl rfl ?_
    refine z_ishl C dX0_addPart_61 ?_
    refine z_ior C dX0_addPart_62 ?_
    obtain ⟨hi13, hf⟩ := ck_el hf
    refine z_iast C (k := (b + 4)) (isb_k4 hb) (isb_L4 hb) hi13 dX0_addPart_63 ?_
    refine z_nm (fun m14 e_m14 => ?_)
    replace hf := bn_to e_m14 hf
    refine z_aload_n C 0 dX0_addPart_64 rfl rfl ?_
    refine z_iconst C (v := 0) dX0_addPart_65 rfl ?_
    refine z_iload_n C 3 dX0_addPart_66 rfl rfl ?_
    obtain ⟨m16, hc15, hf⟩ := zb_el hf
    refine z_cVv C (c_X0_addStep _ _ hb hc15) rfl gX0_addPart_X0_addStep rfl rfl zdX0_addStep rfl (isb_k0 hb) (isb_L0 hb) rfl rfl ⟨Nat.le_of_ble_eq_true rfl, Nat.le_of_ble_eq_true rfl⟩ (Nat.le_of_ble_eq_true rfl) dX0_addPart_67 rfl ?_
    cases hf
    exact hret _ _ dX0_addPart_70
  · replace hf := if_t c17 hf
    cases hf
    exact hret _ _ dX0_addPart_7
theorem dX0_clear_0 : decode cX0_clear 0 = .ok (.aload_n 0, 1) := by decide +kernel
theorem dX0_clear_1 : decode cX0_clear 1 = .ok (.iconst 0, 1) := by decide +kernel
theorem dX0_clear_2 : decode cX0_clear 2 = .ok (.putfield 52, 3) := by decide +kernel
theorem dX0_clear_5 : decode cX0_clear 5 = .ok (.aload_n 0, 1) := by decide +kernel
theorem dX0_clear_6 : decode cX0_clear 6 = .ok (.iconst 0, 1) := by decide +kernel
theorem dX0_clear_7 : decode cX0_clear 7 = .ok (.putfield 60, 3) := by decide +kernel
theorem dX0_clear_10 : decode cX0_clear 10 = .ok (.aload_n 0, 1) := by decide +kernel
theorem dX0_clear_11 : decode cX0_clear 11 = .ok (.iconst 0, 1) := by decide +kernel
theorem dX0_clear_12 : decode cX0_clear 12 = .ok (.putfield 63, 3) := by decide +kernel
theorem dX0_clear_15 : decode cX0_clear 15 = .ok (.aload_n 0, 1) := by decide +kernel
theorem dX0_clear_16 : decode cX0_clear 16 = .ok (.getfield 31, 3) := by decide +kernel
theorem dX0_clear_19 : decode cX0_clear 19 = .ok (.iconst 0, 1) := by decide +kernel
theorem dX0_clear_20 : decode cX0_clear 20 = .ok (.iconst 0, 1) := by decide +kernel
theorem dX0_clear_21 : decode cX0_clear 21 = .ok (.iastore, 1) := by decide +kernel
theorem dX0_clear_22 : decode cX0_clear 22 = .ok (.return_, 1) := by decide +kernel
def rmX0_clear : Room := { frames := 0, cells := 0, slots := 0, locals := 0 }
theorem zdX0_clear : yX0_clear.cls = RX0 ∧ yX0_clear.cls ≠ "java/lang/invoke/MethodHandle" ∧ yX0_clear.cls ≠ "java/lang/invoke/VarHandle" ∧ (parseMethodDescriptor yX0_clear.desc).map (fun d => d.parameters.length) = some 0 := by decide +kernel
theorem kiX0_clear_X0 : ∀ w ∈ wsX00, w ∈ wsX0_clear := fun _ h => (List.mem_cons_of_mem _ (List.mem_append_right _ h))
theorem kfX0_clear_52 : Cond.fieldLink RX0 52 "ShapeJudge$Book" "shapeCount" "I" ∈ wsX0_clear := (List.mem_of_getElem? (i := 1) rfl)
theorem kfX0_clear_60 : Cond.fieldLink RX0 60 "ShapeJudge$Book" "stepCount" "I" ∈ wsX0_clear := (List.mem_of_getElem? (i := 2) rfl)
theorem kfX0_clear_63 : Cond.fieldLink RX0 63 "ShapeJudge$Book" "lastSlot" "I" ∈ wsX0_clear := (List.mem_of_getElem? (i := 3) rfl)
theorem kfX0_clear_31 : Cond.fieldLink RX0 31 "ShapeJudge$Book" "firstStep" "[I" ∈ wsX0_clear := (List.mem_of_getElem? (i := 4) rfl)
def s_X0_clear (m : Mem) (b : Nat) : Option (Mem) :=
  bn (sto m b 0 0) fun m1 => bn (sto m1 b 1 0) fun m2 => bn (sto m2 b 2 0) fun m3 => ck (zin 0 7 = true) (bn (sto m3 (b + 7) (Int32.toNatClampNeg 0) 0) fun m5 => some m5)
set_option maxRecDepth 100000 in
set_option maxHeartbeats 4000000 in
theorem c_X0_clear (l : Launch) (w : ZW) {m : Mem} {b : Nat} {m9 : Mem} (hb : isb b) (hf : s_X0_clear m b = some m9) : zCv MX l w yX0_clear wsX0_clear rmX0_clear [.ref (w.2.1 b)] m m9 := by
  refine z_met_v MX_ok (own := RX0) (by decide +kernel) rfl rfl (Nat.le_of_ble_eq_true rfl) ?_
  intro K C hKw hKl hret
  subst hKw
  subst hKl
  unfold s_X0_clear at hf
  show zGo MX K m [(0, .ref ((zw K).2.1 b))] 0 []
  refine z_aload_n C 0 dX0_clear_0 rfl rfl ?_
  refine z_iconst C (v := 0) dX0_clear_1 rfl ?_
  refine z_puti C (isb_k0 hb) (isb_L0 hb) rfl 0 (Nat.le_of_ble_eq_true rfl) rfl kiX0_clear_X0 kfX0_clear_52 tyX0 tyX0_ok nmX0 rfl rfl dX0_clear_2 ?_
  refine z_nm (fun m1 e_m1 => ?_)
  replace hf := bn_to e_m1 hf
  refine z_aload_n C 0 dX0_clear_5 rfl rfl ?_
  refine z_iconst C (v := 0) dX0_clear_6 rfl ?_
  refine z_puti C (isb_k0 hb) (isb_L0 hb) rfl 1 (Nat.le_of_ble_eq_true rfl) rfl kiX0_clear_X0 kfX0_clear_60 tyX0 tyX0_ok nmX0 rfl rfl dX0_clear_7 ?_
  refine z_nm (fun m2 e_m2 => ?_)
  replace hf := bn_to e_m2 hf
  refine z_aload_n C 0 dX0_clear_10 rfl rfl ?_
  refine z_iconst C (v := 0) dX0_clear_11 rfl ?_
  refine z_puti C (isb_k0 hb) (isb_L0 hb) rfl 2 (Nat.le_of_ble_eq_true rfl) rfl kiX0_clear_X0 kfX0_clear_63 tyX0 tyX0_ok nmX0 rfl rfl dX0_clear_12 ?_
  refine z_nm (fun m3 e_m3 => ?_)
  replace hf := bn_to e_m3 hf
  refine z_aload_n C 0 dX0_clear_15 rfl rfl ?_
  refine z_getr C (t := b + 7) (isb_k0 hb) (isb_L0 hb) rfl 9 (Nat.le_of_ble_eq_true rfl) rfl kiX0_clear_X0 kfX0_clear_31 dX0_clear_16 ?_
  refine z_iconst C (v := 0) dX0_clear_19 rfl ?_
  refine z_iconst C (v := 0) dX0_clear_20 rfl ?_
  obtain ⟨hi4, hf⟩ := ck_el hf
  refine z_iast C (k := (b + 7)) (isb_k7 hb) (isb_L7 hb) hi4 dX0_clear_21 ?_
  refine z_nm (fun m5 e_m5 => ?_)
  replace hf := bn_to e_m5 hf
  cases hf
  exact hret _ _ dX0_clear_22
set_option maxRecDepth 20000 in
theorem ggX0_closeShape_X0_hasShape : GoodIn wsX0_closeShape wsX0_hasShape := goodIn_sub (List.forall_mem_cons.mpr ⟨(List.mem_of_getElem? (i := 7) rfl), (List.forall_mem_append.mpr ⟨(List.forall_mem_cons.mpr ⟨(List.mem_of_getElem? (i := 1) rfl), (fun _ h => absurd h List.not_mem_nil)⟩), (fun _ h => (List.mem_cons_of_mem _ (List.mem_append_right _ h)))⟩)⟩) (by decide +kernel)
set_option maxRecDepth 20000 in
theorem gX0_closeShape_X0_hasShape : GoodIn wsX0_closeShape (wsV RX0 56 RX0 yX0_hasShape wsX0_hasShape) := goodIn_app (goodIn_sub (List.forall_mem_cons.mpr ⟨(List.mem_of_getElem? (i := 3) rfl), (List.forall_mem_cons.mpr ⟨(List.mem_of_getElem? (i := 4) rfl), (List.forall_mem_cons.mpr ⟨(List.mem_of_getElem? (i := 5) rfl), (List.forall_mem_cons.mpr ⟨(List.mem_of_getElem? (i := 6) rfl), (fun _ h => absurd h List.not_mem_nil)⟩)⟩)⟩)⟩) (by decide +kernel)) ggX0_closeShape_X0_hasShape
theorem dX0_closeShape_0 : decode cX0_closeShape 0 = .ok (.aload_n 0, 1) := by decide +kernel
theorem dX0_closeShape_1 : decode cX0_closeShape 1 = .ok (.aload_n 0, 1) := by decide +kernel
theorem dX0_closeShape_2 : decode cX0_closeShape 2 = .ok (.getfield 52, 3) := by decide +kernel
theorem dX0_closeShape_5 : decode cX0_closeShape 5 = .ok (.iconst 1, 1) := by decide +kernel
theorem dX0_closeShape_6 : decode cX0_closeShape 6 = .ok (.isub, 1) := by decide +kernel
theorem dX0_closeShape_7 : decode cX0_closeShape 7 = .ok (.invokevirtual 56, 3) := by decide +kernel
theorem dX0_closeShape_10 : decode cX0_closeShape 10 = .ok (.ifCond .eq 15, 3) := by decide +kernel
theorem dX0_closeShape_13 : decode cX0_closeShape 13 = .ok (.aload_n 0, 1) := by decide +kernel
theorem dX0_closeShape_14 : decode cX0_closeShape 14 = .ok (.getfield 18, 3) := by decide +kernel
theorem dX0_closeShape_17 : decode cX0_closeShape 17 = .ok (.aload_n 0, 1) := by decide +kernel
theorem dX0_closeShape_18 : decode cX0_closeShape 18 = .ok (.getfield 52, 3) := by decide +kernel
theorem dX0_closeShape_21 : decode cX0_closeShape 21 = .ok (.iconst 1, 1) := by decide +kernel
theorem dX0_closeShape_22 : decode cX0_closeShape 22 = .ok (.isub, 1) := by decide +kernel
theorem dX0_closeShape_23 : decode cX0_closeShape 23 = .ok (.iconst 1, 1) := by decide +kernel
theorem dX0_closeShape_24 : decode cX0_closeShape 24 = .ok (.bastore, 1) := by decide +kernel
theorem dX0_closeShape_25 : decode cX0_closeShape 25 = .ok (.return_, 1) := by decide +kernel
def rmX0_closeShape : Room := { frames := 1, cells := 0, slots := 0, locals := 21 }
theorem zdX0_closeShape : yX0_closeShape.cls = RX0 ∧ yX0_closeShape.cls ≠ "java/lang/invoke/MethodHandle" ∧ yX0_closeShape.cls ≠ "java/lang/invoke/VarHandle" ∧ (parseMethodDescriptor yX0_closeShape.desc).map (fun d => d.parameters.length) = some 0 := by decide +kernel
theorem kiX0_closeShape_X0 : ∀ w ∈ wsX00, w ∈ wsX0_closeShape := fun _ h => (List.mem_cons_of_mem _ (List.mem_append_right _ h))
theorem kfX0_closeShape_52 : Cond.fieldLink RX0 52 "ShapeJudge$Book" "shapeCount" "I" ∈ wsX0_closeShape := (List.mem_of_getElem? (i := 1) rfl)
theorem kfX0_closeShape_18 : Cond.fieldLink RX0 18 "ShapeJudge$Book" "closed" "[Z" ∈ wsX0_closeShape := (List.mem_of_getElem? (i := 2) rfl)
def s_X0_closeShape (m : Mem) (b : Nat) : Option (Mem) :=
  (s_X0_hasShape m b ((m b 0) - 1)).bind fun r2 => (if r2 = 0 then (some m) else (ck (zin ((m b 0) - 1) 6 = true) (bn (sto m (b + 3) (Int32.toNatClampNeg ((m b 0) - 1)) (vp_nar .boolean 1)) fun m4 => some m4)))
set_option maxRecDepth 100000 in
set_option maxHeartbeats 4000000 in
theorem c_X0_closeShape (l : Launch) (w : ZW) {m : Mem} {b : Nat} {m9 : Mem} (hb : isb b) (hf : s_X0_closeShape m b = some m9) : zCv MX l w yX0_closeShape wsX0_closeShape rmX0_closeShape [.ref (w.2.1 b)] m m9 := by
  refine z_met_v MX_ok (own := RX0) (by decide +kernel) rfl rfl (Nat.le_of_ble_eq_true rfl) ?_
  intro K C hKw hKl hret
  subst hKw
  subst hKl
  unfold s_X0_closeShape at hf
  show zGo MX K m [(0, .ref ((zw K).2.1 b))] 0 []
  refine z_aload_n C 0 dX0_closeShape_0 rfl rfl ?_
  refine z_aload_n C 0 dX0_closeShape_1 rfl rfl ?_
  refine z_geti C (isb_k0 hb) (isb_L0 hb) rfl 0 (Nat.le_of_ble_eq_true rfl) rfl kiX0_closeShape_X0 kfX0_closeShape_52 dX0_closeShape_2 ?_
  refine z_iconst C (v := 1) dX0_closeShape_5 rfl ?_
  refine z_isub C dX0_closeShape_6 ?_
  obtain ⟨r2, hc1, hf⟩ := zb_el hf
  refine z_cVi C (c_X0_hasShape _ _ hb hc1) rfl gX0_closeShape_X0_hasShape rfl rfl zdX0_hasShape rfl (isb_k0 hb) (isb_L0 hb) rfl rfl ⟨Nat.le_of_ble_eq_true rfl, Nat.le_of_ble_eq_true rfl⟩ (Nat.le_of_ble_eq_true rfl) dX0_closeShape_7 rfl ?_
  refine z_if_eq (tgt := 25) C dX0_closeShape_10 (by decide) (fun c5 => ?_) (fun c5 => ?_)
  · replace hf := if_t c5 hf
    cases hf
    exact hret _ _ dX0_closeShape_25
  · replace hf := if_f c5 hf
    refine z_aload_n C 0 dX0_closeShape_13 rfl rfl ?_
    refine z_getr C (t := b + 3) (isb_k0 hb) (isb_L0 hb) rfl 5 (Nat.le_of_ble_eq_true rfl) rfl kiX0_closeShape_X0 kfX0_closeShape_18 dX0_closeShape_14 ?_
    refine z_aload_n C 0 dX0_closeShape_17 rfl rfl ?_
    refine z_geti C (isb_k0 hb) (isb_L0 hb) rfl 0 (Nat.le_of_ble_eq_true rfl) rfl kiX0_closeShape_X0 kfX0_closeShape_52 dX0_closeShape_18 ?_
    refine z_iconst C (v := 1) dX0_closeShape_21 rfl ?_
    refine z_isub C dX0_closeShape_22 ?_
    refine z_iconst C (v := 1) dX0_closeShape_23 rfl ?_
    obtain ⟨hi3, hf⟩ := ck_el hf
    refine z_zast C (k := (b + 3)) (isb_k3 hb) (isb_L3 hb) hi3 dX0_closeShape_24 ?_
    refine z_nm (fun m4 e_m4 => ?_)
    replace hf := bn_to e_m4 hf
    cases hf
    exact hret _ _ dX0_closeShape_25
set_option maxRecDepth 20000 in
theorem ggX0_dependsOn_X0_hasShape : GoodIn wsX0_dependsOn wsX0_hasShape := goodIn_sub (List.forall_mem_cons.mpr ⟨(List.mem_of_getElem? (i := 6) rfl), (List.forall_mem_append.mpr ⟨(List.forall_mem_cons.mpr ⟨(List.mem_of_getElem? (i := 7) rfl), (fun _ h => absurd h List.not_mem_nil)⟩), (fun _ h => (List.mem_cons_of_mem _ (List.mem_append_right _ h)))⟩)⟩) (by decide +kernel)
set_option maxRecDepth 20000 in
theorem gX0_dependsOn_X0_hasShape : GoodIn wsX0_dependsOn (wsV RX0 56 RX0 yX0_hasShape wsX0_hasShape) := goodIn_app (goodIn_sub (List.forall_mem_cons.mpr ⟨(List.mem_of_getElem? (i := 2) rfl), (List.forall_mem_cons.mpr ⟨(List.mem_of_getElem? (i := 3) rfl), (List.forall_mem_cons.mpr ⟨(List.mem_of_getElem? (i := 4) rfl), (List.forall_mem_cons.mpr ⟨(List.mem_of_getElem? (i := 5) rfl), (fun _ h => absurd h List.not_mem_nil)⟩)⟩)⟩)⟩) (by decide +kernel)) ggX0_dependsOn_X0_hasShape
theorem dX0_dependsOn_0 : decode cX0_dependsOn 0 = .ok (.aload_n 0, 1) := by decide +kernel
theorem dX0_dependsOn_1 : decode cX0_dependsOn 1 = .ok (.iload_n 1, 1) := by decide +kernel
theorem dX0_dependsOn_2 : decode cX0_dependsOn 2 = .ok (.invokevirtual 56, 3) := by decide +kernel
theorem dX0_dependsOn_5 : decode cX0_dependsOn 5 = .ok (.ifCond .eq 20, 3) := by decide +kernel
theorem dX0_dependsOn_8 : decode cX0_dependsOn 8 = .ok (.aload_n 0, 1) := by decide +kernel
theorem dX0_dependsOn_9 : decode cX0_dependsOn 9 = .ok (.getfield 25, 3) := by decide +kernel
theorem dX0_dependsOn_12 : decode cX0_dependsOn 12 = .ok (.iload_n 1, 1) := by decide +kernel
theorem dX0_dependsOn_13 : decode cX0_dependsOn 13 = .ok (.iaload, 1) := by decide +kernel
theorem dX0_dependsOn_14 : decode cX0_dependsOn 14 = .ok (.iload_n 2, 1) := by decide +kernel
theorem dX0_dependsOn_15 : decode cX0_dependsOn 15 = .ok (.ishr, 1) := by decide +kernel
theorem dX0_dependsOn_16 : decode cX0_dependsOn 16 = .ok (.iconst 1, 1) := by decide +kernel
theorem dX0_dependsOn_17 : decode cX0_dependsOn 17 = .ok (.iand, 1) := by decide +kernel
theorem dX0_dependsOn_18 : decode cX0_dependsOn 18 = .ok (.ifCond .eq 7, 3) := by decide +kernel
theorem dX0_dependsOn_21 : decode cX0_dependsOn 21 = .ok (.iconst 1, 1) := by decide +kernel
theorem dX0_dependsOn_22 : decode cX0_dependsOn 22 = .ok (.goto 4, 3) := by decide +kernel
theorem dX0_dependsOn_25 : decode cX0_dependsOn 25 = .ok (.iconst 0, 1) := by decide +kernel
theorem dX0_dependsOn_26 : decode cX0_dependsOn 26 = .ok (.ireturn, 1) := by decide +kernel
def rmX0_dependsOn : Room := { frames := 1, cells := 0, slots := 0, locals := 21 }
theorem zdX0_dependsOn : yX0_dependsOn.cls = RX0 ∧ yX0_dependsOn.cls ≠ "java/lang/invoke/MethodHandle" ∧ yX0_dependsOn.cls ≠ "java/lang/invoke/VarHandle" ∧ (parseMethodDescriptor yX0_dependsOn.desc).map (fun d => d.parameters.length) = some 2 := by decide +kernel
theorem kiX0_dependsOn_X0 : ∀ w ∈ wsX00, w ∈ wsX0_dependsOn := fun _ h => (List.mem_cons_of_mem _ (List.mem_append_right _ h))
theorem kfX0_dependsOn_25 : Cond.fieldLink RX0 25 "ShapeJudge$Book" "reach" "[I" ∈ wsX0_dependsOn := (List.mem_of_getElem? (i := 1) rfl)
def s_X0_dependsOn (m : Mem) (b : Nat) (a1 : Int32) (a2 : Int32) : Option (Int32) :=
  (s_X0_hasShape m b a1).bind fun r2 => (if r2 = 0 then (some 0) else (ck (zin a1 6 = true) ((if (((m (b + 5) (Int32.toNatClampNeg a1)) >>> (a2 &&& 31)) &&& 1) = 0 then (some 0) else (some 1)))))
set_option maxRecDepth 100000 in
set_option maxHeartbeats 4000000 in
theorem c_X0_dependsOn (l : Launch) (w : ZW) {m : Mem} {b : Nat} {a1 : Int32} {a2 : Int32} {r9 : Int32} (hb : isb b) (hf : s_X0_dependsOn m b a1 a2 = some r9) : zCi MX l w yX0_dependsOn wsX0_dependsOn rmX0_dependsOn [.ref (w.2.1 b), .int a1, .int a2] m m r9 := by
  refine z_met_z MX_ok (own := RX0) (by decide +kernel) rfl rfl (Nat.le_of_ble_eq_true rfl) ?_
  intro K C hKw hKl hret
  subst hKw
  subst hKl
  unfold s_X0_dependsOn at hf
  show zGo MX K m [(0, .ref ((zw K).2.1 b)), (1, .int a1), (2, .int a2)] 0 []
  refine z_aload_n C 0 dX0_dependsOn_0 rfl rfl ?_
  refine z_iload_n C 1 dX0_dependsOn_1 rfl rfl ?_
  obtain ⟨r2, hc1, hf⟩ := zb_el hf
  refine z_cVi C (c_X0_hasShape _ _ hb hc1) rfl gX0_dependsOn_X0_hasShape rfl rfl zdX0_hasShape rfl (isb_k0 hb) (isb_L0 hb) rfl rfl ⟨Nat.le_of_ble_eq_true rfl, Nat.le_of_ble_eq_true rfl⟩ (Nat.le_of_ble_eq_true rfl) dX0_dependsOn_2 rfl ?_
  refine z_if_eq (tgt := 25) C dX0_dependsOn_5 (by decide) (fun c5 => ?_) (fun c5 => ?_)
  · replace hf := if_t c5 hf
    refine z_iconst C (v := 0) dX0_dependsOn_25 rfl ?_
    cases hf
    exact hret _ _ dX0_dependsOn_26 (Or.inl rfl)
  · replace hf := if_f c5 hf
    refine z_aload_n C 0 dX0_dependsOn_8 rfl rfl ?_
    refine z_getr C (t := b + 5) (isb_k0 hb) (isb_L0 hb) rfl 7 (Nat.le_of_ble_eq_true rfl) rfl kiX0_dependsOn_X0 kfX0_dependsOn_25 dX0_dependsOn_9 ?_
    refine z_iload_n C 1 dX0_dependsOn_12 rfl rfl ?_
    obtain ⟨hi3, hf⟩ := ck_el hf
    refine z_iald C (k := (b + 5)) (isb_k5 hb) (isb_L5 hb) hi3 dX0_dependsOn_13 ?_
    refine z_iload_n C 2 dX0_dependsOn_14 rfl rfl ?_
    refine z_ishr C dX0_dependsOn_15 ?_
    refine z_iconst C (v := 1) dX0_dependsOn_16 rfl ?_
    refine z_iand C dX0_dependsOn_17 ?_
    refine z_if_eq (tgt := 25) C dX0_dependsOn_18 (by decide) (fun c4 => ?_) (fun c4 => ?_)
    · replace hf := if_t c4 hf
      refine z_iconst C (v := 0) dX0_dependsOn_25 rfl ?_
      cases hf
      exact hret _ _ dX0_dependsOn_26 (Or.inl rfl)
    · replace hf := if_f c4 hf
      refine z_iconst C (v := 1) dX0_dependsOn_21 rfl ?_
      refine z_goto (tgt := 26) C dX0_dependsOn_22 (by decide) ?_
      cases hf
      exact hret _ _ dX0_dependsOn_26 (Or.inr rfl)
theorem dX0_refers_0 : decode cX0_refers 0 = .ok (.aload_n 0, 1) := by decide +kernel
theorem dX0_refers_1 : decode cX0_refers 1 = .ok (.getfield 40, 3) := by decide +kernel
theorem dX0_refers_4 : decode cX0_refers 4 = .ok (.iload_n 1, 1) := by decide +kernel
theorem dX0_refers_5 : decode cX0_refers 5 = .ok (.iaload, 1) := by decide +kernel
theorem dX0_refers_6 : decode cX0_refers 6 = .ok (.iconst 1, 1) := by decide +kernel
theorem dX0_refers_7 : decode cX0_refers 7 = .ok (.if_icmp .eq 13, 3) := by decide +kernel
theorem dX0_refers_10 : decode cX0_refers 10 = .ok (.aload_n 0, 1) := by decide +kernel
theorem dX0_refers_11 : decode cX0_refers 11 = .ok (.getfield 40, 3) := by decide +kernel
theorem dX0_refers_14 : decode cX0_refers 14 = .ok (.iload_n 1, 1) := by decide +kernel
theorem dX0_refers_15 : decode cX0_refers 15 = .ok (.iaload, 1) := by decide +kernel
theorem dX0_refers_16 : decode cX0_refers 16 = .ok (.iconst 2, 1) := by decide +kernel
theorem dX0_refers_17 : decode cX0_refers 17 = .ok (.if_icmp .ne 7, 3) := by decide +kernel
theorem dX0_refers_20 : decode cX0_refers 20 = .ok (.iconst 1, 1) := by decide +kernel
theorem dX0_refers_21 : decode cX0_refers 21 = .ok (.goto 4, 3) := by decide +kernel
theorem dX0_refers_24 : decode cX0_refers 24 = .ok (.iconst 0, 1) := by decide +kernel
theorem dX0_refers_25 : decode cX0_refers 25 = .ok (.ireturn, 1) := by decide +kernel
def rmX0_refers : Room := { frames := 0, cells := 0, slots := 0, locals := 0 }
theorem zdX0_refers : yX0_refers.cls = RX0 ∧ yX0_refers.cls ≠ "java/lang/invoke/MethodHandle" ∧ yX0_refers.cls ≠ "java/lang/invoke/VarHandle" ∧ (parseMethodDescriptor yX0_refers.desc).map (fun d => d.parameters.length) = some 1 := by decide +kernel
theorem kiX0_refers_X0 : ∀ w ∈ wsX00, w ∈ wsX0_refers := fun _ h => (List.mem_cons_of_mem _ (List.mem_append_right _ h))
theorem kfX0_refers_40 : Cond.fieldLink RX0 40 "ShapeJudge$Book" "partTest" "[I" ∈ wsX0_refers := (List.mem_of_getElem? (i := 1) rfl)
def s_X0_refers (m : Mem) (b : Nat) (a1 : Int32) : Option (Int32) :=
  ck (zin a1 36 = true) ((if (m (b + 10) (Int32.toNatClampNeg a1)) = 1 then (some 1) else (ck (zin a1 36 = true) ((if (m (b + 10) (Int32.toNatClampNeg a1)) = 2 then (some 1) else (some 0))))))
set_option maxRecDepth 100000 in
set_option maxHeartbeats 4000000 in
theorem c_X0_refers (l : Launch) (w : ZW) {m : Mem} {b : Nat} {a1 : Int32} {r9 : Int32} (hb : isb b) (hf : s_X0_refers m b a1 = some r9) : zCi MX l w yX0_refers wsX0_refers rmX0_refers [.ref (w.2.1 b), .int a1] m m r9 := by
  refine z_met_z MX_ok (own := RX0) (by decide +kernel) rfl rfl (Nat.le_of_ble_eq_true rfl) ?_
  intro K C hKw hKl hret
  subst hKw
  subst hKl
  unfold s_X0_refers at hf
  show zGo MX K m [(0, .ref ((zw K).2.1 b)), (1, .int a1)] 0 []
  refine z_aload_n C 0 dX0_refers_0 rfl rfl ?_
  refine z_getr C (t := b + 10) (isb_k0 hb) (isb_L0 hb) rfl 12 (Nat.le_of_ble_eq_true rfl) rfl kiX0_refers_X0 kfX0_refers_40 dX0_refers_1 ?_
  refine z_iload_n C 1 dX0_refers_4 rfl rfl ?_
  obtain ⟨hi1, hf⟩ := ck_el hf
  refine z_iald C (k := (b + 10)) (isb_k10 hb) (isb_L10 hb) hi1 dX0_refers_5 ?_
  refine z_iconst C (v := 1) dX0_refers_6 rfl ?_
  refine z_icmp_eq (tgt := 20) C dX0_refers_7 (by decide) (fun c4 => ?_) (fun c4 => ?_)
  · replace hf := if_t c4 hf
    refine z_iconst C (v := 1) dX0_refers_20 rfl ?_
    refine z_goto (tgt := 25) C dX0_refers_21 (by decide) ?_
    cases hf
    exact hret _ _ dX0_refers_25 (Or.inr rfl)
  · replace hf := if_f c4 hf
    refine z_aload_n C 0 dX0_refers_10 rfl rfl ?_
    refine z_getr C (t := b + 10) (isb_k0 hb) (isb_L0 hb) rfl 12 (Nat.le_of_ble_eq_true rfl) rfl kiX0_refers_X0 kfX0_refers_40 dX0_refers_11 ?_
    refine z_iload_n C 1 dX0_refers_14 rfl rfl ?_
    obtain ⟨hi2, hf⟩ := ck_el hf
    refine z_iald C (k := (b + 10)) (isb_k10 hb) (isb_L10 hb) hi2 dX0_refers_15 ?_
    refine z_iconst C (v := 2) dX0_refers_16 rfl ?_
    refine z_icmp_ne (tgt := 24) C dX0_refers_17 (by decide) (fun c3 => ?_) (fun c3 => ?_)
    · replace hf := if_f c3 hf
      refine z_iconst C (v := 0) dX0_refers_24 rfl ?_
      cases hf
      exact hret _ _ dX0_refers_25 (Or.inl rfl)
    · replace hf := if_t c3 hf
      refine z_iconst C (v := 1) dX0_refers_20 rfl ?_
      refine z_goto (tgt := 25) C dX0_refers_21 (by decide) ?_
      cases hf
      exact hret _ _ dX0_refers_25 (Or.inr rfl)
set_option maxRecDepth 20000 in
theorem ggX0_raiseLevel_X0_refers : GoodIn wsX0_raiseLevel wsX0_refers := goodIn_sub (List.forall_mem_cons.mpr ⟨(List.mem_of_getElem? (i := 13) rfl), (List.forall_mem_append.mpr ⟨(List.forall_mem_cons.mpr ⟨(List.mem_of_getElem? (i := 4) rfl), (fun _ h => absurd h List.not_mem_nil)⟩), (fun _ h => (List.mem_cons_of_mem _ (List.mem_append_right _ h)))⟩)⟩) (by decide +kernel)
set_option maxRecDepth 20000 in
theorem gX0_raiseLevel_X0_refers : GoodIn wsX0_raiseLevel (wsV RX0 74 RX0 yX0_refers wsX0_refers) := goodIn_app (goodIn_sub (List.forall_mem_cons.mpr ⟨(List.mem_of_getElem? (i := 9) rfl), (List.forall_mem_cons.mpr ⟨(List.mem_of_getElem? (i := 10) rfl), (List.forall_mem_cons.mpr ⟨(List.mem_of_getElem? (i := 11) rfl), (List.forall_mem_cons.mpr ⟨(List.mem_of_getElem? (i := 12) rfl), (fun _ h => absurd h List.not_mem_nil)⟩)⟩)⟩)⟩) (by decide +kernel)) ggX0_raiseLevel_X0_refers
set_option maxRecDepth 20000 in
theorem ggX0_raiseLevel_X0_hasShape : GoodIn wsX0_raiseLevel wsX0_hasShape := goodIn_sub (List.forall_mem_cons.mpr ⟨(List.mem_of_getElem? (i := 17) rfl), (List.forall_mem_append.mpr ⟨(List.forall_mem_cons.mpr ⟨(List.mem_of_getElem? (i := 18) rfl), (fun _ h => absurd h List.not_mem_nil)⟩), (fun _ h => (List.mem_cons_of_mem _ (List.mem_append_right _ h)))⟩)⟩) (by decide +kernel)
set_option maxRecDepth 20000 in
theorem gX0_raiseLevel_X0_hasShape : GoodIn wsX0_raiseLevel (wsV RX0 56 RX0 yX0_hasShape wsX0_hasShape) := goodIn_app (goodIn_sub (List.forall_mem_cons.mpr ⟨(List.mem_of_getElem? (i := 14) rfl), (List.forall_mem_cons.mpr ⟨(List.mem_of_getElem? (i := 15) rfl), (List.forall_mem_cons.mpr ⟨(List.mem_of_getElem? (i := 16) rfl), (List.forall_mem_cons.mpr ⟨(List.mem_of_getElem? (i := 12) rfl), (fun _ h => absurd h List.not_mem_nil)⟩)⟩)⟩)⟩) (by decide +kernel)) ggX0_raiseLevel_X0_hasShape
set_option maxRecDepth 100000 in
theorem daX0_raiseLevel : ∀ q ∈ ([(0, .iconst 0, 1), (1, .istore_n 2, 1), (2, .iload_n 2, 1), (3, .aload_n 0, 1), (4, .getfield 15, 3), (7, .iload_n 1, 1), (8, .iaload, 1), (9, .if_icmp .ge 84, 3), (12, .iload_n 1, 1), (13, .bipush 6, 2), (15, .imul, 1), (16, .iload_n 2, 1), (17, .iadd, 1), (18, .istore_n 3, 1), (19, .aload_n 0, 1), (20, .iload_n 3, 1), (21, .invokevirtual 74, 3), (24, .ifCond .eq 63, 3), (27, .aload_n 0, 1), (28, .aload_n 0, 1), (29, .getfield 43, 3), (32, .iload_n 3, 1), (33, .iaload, 1), (34, .invokevirtual 56, 3), (37, .ifCond .eq 50, 3), (40, .aload_n 0, 1), (41, .getfield 28, 3), (44, .aload_n 0, 1), (45, .getfield 43, 3), (48, .iload_n 3, 1), (49, .iaload, 1), (50, .iaload, 1), (51, .istore 4, 2), (53, .aload_n 0, 1), (54, .getfield 28, 3), (57, .iload_n 1, 1), (58, .aload_n 0, 1), (59, .getfield 28, 3), (62, .iload_n 1, 1), (63, .iaload, 1), (64, .aload_n 0, 1), (65, .getfield 40, 3), (68, .iload_n 3, 1), (69, .iaload, 1), (70, .iconst 2, 1), (71, .if_icmp .ne 10, 3), (74, .iload 4, 2), (76, .iconst 1, 1), (77, .iadd, 1), (78, .goto 5, 3), (81, .iload 4, 2), (83, .invokestatic 89, 3), (86, .iastore, 1), (87, .iinc 2 1, 3), (90, .goto (-88), 3), (93, .return_, 1)] : List (Nat × Instr × Nat)), decode cX0_raiseLevel q.1 = .ok q.2 := by decide +kernel
theorem dX0_raiseLevel_0 : decode cX0_raiseLevel 0 = .ok (.iconst 0, 1) := daX0_raiseLevel (0, .iconst 0, 1) (List.mem_of_getElem? (i := 0) rfl)
theorem dX0_raiseLevel_1 : decode cX0_raiseLevel 1 = .ok (.istore_n 2, 1) := daX0_raiseLevel (1, .istore_n 2, 1) (List.mem_of_getElem? (i := 1) rfl)
theorem dX0_raiseLevel_2 : decode cX0_raiseLevel 2 = .ok (.iload_n 2, 1) := daX0_raiseLevel (2, .iload_n 2, 1) (List.mem_of_getElem? (i := 2) rfl)
theorem dX0_raiseLevel_3 : decode cX0_raiseLevel 3 = .ok (.aload_n 0, 1) := daX0_raiseLevel (3, .aload_n 0, 1) (List.mem_of_getElem? (i := 3) rfl)
theorem dX0_raiseLevel_4 : decode cX0_raiseLevel 4 = .ok (.getfield 15, 3) := daX0_raiseLevel (4, .getfield 15, 3) (List.mem_of_getElem? (i := 4) rfl)
theorem dX0_raiseLevel_7 : decode cX0_raiseLevel 7 = .ok (.iload_n 1, 1) := daX0_raiseLevel (7, .iload_n 1, 1) (List.mem_of_getElem? (i := 5) rfl)
theorem dX0_raiseLevel_8 : decode cX0_raiseLevel 8 = .ok (.iaload, 1) := daX0_raiseLevel (8, .iaload, 1) (List.mem_of_getElem? (i := 6) rfl)
theorem dX0_raiseLevel_9 : decode cX0_raiseLevel 9 = .ok (.if_icmp .ge 84, 3) := daX0_raiseLevel (9, .if_icmp .ge 84, 3) (List.mem_of_getElem? (i := 7) rfl)
theorem dX0_raiseLevel_12 : decode cX0_raiseLevel 12 = .ok (.iload_n 1, 1) := daX0_raiseLevel (12, .iload_n 1, 1) (List.mem_of_getElem? (i := 8) rfl)
theorem dX0_raiseLevel_13 : decode cX0_raiseLevel 13 = .ok (.bipush 6, 2) := daX0_raiseLevel (13, .bipush 6, 2) (List.mem_of_getElem? (i := 9) rfl)
theorem dX0_raiseLevel_15 : decode cX0_raiseLevel 15 = .ok (.imul, 1) := daX0_raiseLevel (15, .imul, 1) (List.mem_of_getElem? (i := 10) rfl)
theorem dX0_raiseLevel_16 : decode cX0_raiseLevel 16 = .ok (.iload_n 2, 1) := daX0_raiseLevel (16, .iload_n 2, 1) (List.mem_of_getElem? (i := 11) rfl)
theorem dX0_raiseLevel_17 : decode cX0_raiseLevel 17 = .ok (.iadd, 1) := daX0_raiseLevel (17, .iadd, 1) (List.mem_of_getElem? (i := 12) rfl)
theorem dX0_raiseLevel_18 : decode cX0_raiseLevel 18 = .ok (.istore_n 3, 1) := daX0_raiseLevel (18, .istore_n 3, 1) (List.mem_of_getElem? (i := 13) rfl)
theorem dX0_raiseLevel_19 : decode cX0_raiseLevel 19 = .ok (.aload_n 0, 1) := daX0_raiseLevel (19, .aload_n 0, 1) (List.mem_of_getElem? (i := 14) rfl)
theorem dX0_raiseLevel_20 : decode cX0_raiseLevel 20 = .ok (.iload_n 3, 1) := daX0_raiseLevel (20, .iload_n 3, 1) (List.mem_of_getElem? (i := 15) rfl)
theorem dX0_raiseLevel_21 : decode cX0_raiseLevel 21 = .ok (.invokevirtual 74, 3) := daX0_raiseLevel (21, .invokevirtual 74, 3) (List.mem_of_getElem? (i := 16) rfl)
theorem dX0_raiseLevel_24 : decode cX0_raiseLevel 24 = .ok (.ifCond .eq 63, 3) := daX0_raiseLevel (24, .ifCond .eq 63, 3) (List.mem_of_getElem? (i := 17) rfl)
theorem dX0_raiseLevel_27 : decode cX0_raiseLevel 27 = .ok (.aload_n 0, 1) := daX0_raiseLevel (27, .aload_n 0, 1) (List.mem_of_getElem? (i := 18) rfl)
theorem dX0_raiseLevel_28 : decode cX0_raiseLevel 28 = .ok (.aload_n 0, 1) := daX0_raiseLevel (28, .aload_n 0, 1) (List.mem_of_getElem? (i := 19) rfl)
theorem dX0_raiseLevel_29 : decode cX0_raiseLevel 29 = .ok (.getfield 43, 3) := daX0_raiseLevel (29, .getfield 43, 3) (List.mem_of_getElem? (i := 20) rfl)
theorem dX0_raiseLevel_32 : decode cX0_raiseLevel 32 = .ok (.iload_n 3, 1) := daX0_raiseLevel (32, .iload_n 3, 1) (List.mem_of_getElem? (i := 21) rfl)
theorem dX0_raiseLevel_33 : decode cX0_raiseLevel 33 = .ok (.iaload, 1) := daX0_raiseLevel (33, .iaload, 1) (List.mem_of_getElem? (i := 22) rfl)
theorem dX0_raiseLevel_34 : decode cX0_raiseLevel 34 = .ok (.invokevirtual 56, 3) := daX0_raiseLevel (34, .invokevirtual 56, 3) (List.mem_of_getElem? (i := 23) rfl)
theorem dX0_raiseLevel_37 : decode cX0_raiseLevel 37 = .ok (.ifCond .eq 50, 3) := daX0_raiseLevel (37, .ifCond .eq 50, 3) (List.mem_of_getElem? (i := 24) rfl)
theorem dX0_raiseLevel_40 : decode cX0_raiseLevel 40 = .ok (.aload_n 0, 1) := daX0_raiseLevel (40, .aload_n 0, 1) (List.mem_of_getElem? (i := 25) rfl)
theorem dX0_raiseLevel_41 : decode cX0_raiseLevel 41 = .ok (.getfield 28, 3) := daX0_raiseLevel (41, .getfield 28, 3) (List.mem_of_getElem? (i := 26) rfl)
theorem dX0_raiseLevel_44 : decode cX0_raiseLevel 44 = .ok (.aload_n 0, 1) := daX0_raiseLevel (44, .aload_n 0, 1) (List.mem_of_getElem? (i := 27) rfl)
theorem dX0_raiseLevel_45 : decode cX0_raiseLevel 45 = .ok (.getfield 43, 3) := daX0_raiseLevel (45, .getfield 43, 3) (List.mem_of_getElem? (i := 28) rfl)
theorem dX0_raiseLevel_48 : decode cX0_raiseLevel 48 = .ok (.iload_n 3, 1) := daX0_raiseLevel (48, .iload_n 3, 1) (List.mem_of_getElem? (i := 29) rfl)
theorem dX0_raiseLevel_49 : decode cX0_raiseLevel 49 = .ok (.iaload, 1) := daX0_raiseLevel (49, .iaload, 1) (List.mem_of_getElem? (i := 30) rfl)
theorem dX0_raiseLevel_50 : decode cX0_raiseLevel 50 = .ok (.iaload, 1) := daX0_raiseLevel (50, .iaload, 1) (List.mem_of_getElem? (i := 31) rfl)
theorem dX0_raiseLevel_51 : decode cX0_raiseLevel 51 = .ok (.istore 4, 2) := daX0_raiseLevel (51, .istore 4, 2) (List.mem_of_getElem? (i := 32) rfl)
theorem dX0_raiseLevel_53 : decode cX0_raiseLevel 53 = .ok (.aload_n 0, 1) := daX0_raiseLevel (53, .aload_n 0, 1) (List.mem_of_getElem? (i := 33) rfl)
theorem dX0_raiseLevel_54 : decode cX0_raiseLevel 54 = .ok (.getfield 28, 3) := daX0_raiseLevel (54, .getfield 28, 3) (List.mem_of_getElem? (i := 34) rfl)
theorem dX0_raiseLevel_57 : decode cX0_raiseLevel 57 = .ok (.iload_n 1, 1) := daX0_raiseLevel (57, .iload_n 1, 1) (List.mem_of_getElem? (i := 35) rfl)
theorem dX0_raiseLevel_58 : decode cX0_raiseLevel 58 = .ok (.aload_n 0, 1) := daX0_raiseLevel (58, .aload_n 0, 1) (List.mem_of_getElem? (i := 36) rfl)
theorem dX0_raiseLevel_59 : decode cX0_raiseLevel 59 = .ok (.getfield 28, 3) := daX0_raiseLevel (59, .getfield 28, 3) (List.mem_of_getElem? (i := 37) rfl)
theorem dX0_raiseLevel_62 : decode cX0_raiseLevel 62 = .ok (.iload_n 1, 1) := daX0_raiseLevel (62, .iload_n 1, 1) (List.mem_of_getElem? (i := 38) rfl)
theorem dX0_raiseLevel_63 : decode cX0_raiseLevel 63 = .ok (.iaload, 1) := daX0_raiseLevel (63, .iaload, 1) (List.mem_of_getElem? (i := 39) rfl)
theorem dX0_raiseLevel_64 : decode cX0_raiseLevel 64 = .ok (.aload_n 0, 1) := daX0_raiseLevel (64, .aload_n 0, 1) (List.mem_of_getElem? (i := 40) rfl)
theorem dX0_raiseLevel_65 : decode cX0_raiseLevel 65 = .ok (.getfield 40, 3) := daX0_raiseLevel (65, .getfield 40, 3) (List.mem_of_getElem? (i := 41) rfl)
theorem dX0_raiseLevel_68 : decode cX0_raiseLevel 68 = .ok (.iload_n 3, 1) := daX0_raiseLevel (68, .iload_n 3, 1) (List.mem_of_getElem? (i := 42) rfl)
theorem dX0_raiseLevel_69 : decode cX0_raiseLevel 69 = .ok (.iaload, 1) := daX0_raiseLevel (69, .iaload, 1) (List.mem_of_getElem? (i := 43) rfl)
theorem dX0_raiseLevel_70 : decode cX0_raiseLevel 70 = .ok (.iconst 2, 1) := daX0_raiseLevel (70, .iconst 2, 1) (List.mem_of_getElem? (i := 44) rfl)
theorem dX0_raiseLevel_71 : decode cX0_raiseLevel 71 = .ok (.if_icmp .ne 10, 3) := daX0_raiseLevel (71, .if_icmp .ne 10, 3) (List.mem_of_getElem? (i := 45) rfl)
theorem dX0_raiseLevel_74 : decode cX0_raiseLevel 74 = .ok (.iload 4, 2) := daX0_raiseLevel (74, .iload 4, 2) (List.mem_of_getElem? (i := 46) rfl)
theorem dX0_raiseLevel_76 : decode cX0_raiseLevel 76 = .ok (.iconst 1, 1) := daX0_raiseLevel (76, .iconst 1, 1) (List.mem_of_getElem? (i := 47) rfl)
theorem dX0_raiseLevel_77 : decode cX0_raiseLevel 77 = .ok (.iadd, 1) := daX0_raiseLevel (77, .iadd, 1) (List.mem_of_getElem? (i := 48) rfl)
theorem dX0_raiseLevel_78 : decode cX0_raiseLevel 78 = .ok (.goto 5, 3) := daX0_raiseLevel (78, .goto 5, 3) (List.mem_of_getElem? (i := 49) rfl)
theorem dX0_raiseLevel_81 : decode cX0_raiseLevel 81 = .ok (.iload 4, 2) := daX0_raiseLevel (81, .iload 4, 2) (List.mem_of_getElem? (i := 50) rfl)
theorem dX0_raiseLevel_83 : decode cX0_raiseLevel 83 = .ok (.invokestatic 89, 3) := daX0_raiseLevel (83, .invokestatic 89, 3) (List.mem_of_getElem? (i := 51) rfl)
theorem dX0_raiseLevel_86 : decode cX0_raiseLevel 86 = .ok (.iastore, 1) := daX0_raiseLevel (86, .iastore, 1) (List.mem_of_getElem? (i := 52) rfl)
theorem dX0_raiseLevel_87 : decode cX0_raiseLevel 87 = .ok (.iinc 2 1, 3) := daX0_raiseLevel (87, .iinc 2 1, 3) (List.mem_of_getElem? (i := 53) rfl)
theorem dX0_raiseLevel_90 : decode cX0_raiseLevel 90 = .ok (.goto (-88), 3) := daX0_raiseLevel (90, .goto (-88), 3) (List.mem_of_getElem? (i := 54) rfl)
theorem dX0_raiseLevel_93 : decode cX0_raiseLevel 93 = .ok (.return_, 1) := daX0_raiseLevel (93, .return_, 1) (List.mem_of_getElem? (i := 55) rfl)
def rmX0_raiseLevel : Room := { frames := 1, cells := 0, slots := 0, locals := 21 }
theorem zdX0_raiseLevel : yX0_raiseLevel.cls = RX0 ∧ yX0_raiseLevel.cls ≠ "java/lang/invoke/MethodHandle" ∧ yX0_raiseLevel.cls ≠ "java/lang/invoke/VarHandle" ∧ (parseMethodDescriptor yX0_raiseLevel.desc).map (fun d => d.parameters.length) = some 1 := by decide +kernel
theorem kiX0_raiseLevel_X0 : ∀ w ∈ wsX00, w ∈ wsX0_raiseLevel := fun _ h => (List.mem_cons_of_mem _ (List.mem_append_right _ h))
theorem kfX0_raiseLevel_15 : Cond.fieldLink RX0 15 "ShapeJudge$Book" "partCount" "[I" ∈ wsX0_raiseLevel := (List.mem_of_getElem? (i := 1) rfl)
theorem kfX0_raiseLevel_43 : Cond.fieldLink RX0 43 "ShapeJudge$Book" "partFirst" "[I" ∈ wsX0_raiseLevel := (List.mem_of_getElem? (i := 2) rfl)
theorem kfX0_raiseLevel_28 : Cond.fieldLink RX0 28 "ShapeJudge$Book" "level" "[I" ∈ wsX0_raiseLevel := (List.mem_of_getElem? (i := 3) rfl)
theorem kfX0_raiseLevel_40 : Cond.fieldLink RX0 40 "ShapeJudge$Book" "partTest" "[I" ∈ wsX0_raiseLevel := (List.mem_of_getElem? (i := 4) rfl)
theorem km1X0_raiseLevel : Cond.methodLink RX0 89 Lib.Math.max.name ∈ wsX0_raiseLevel := by decide +kernel
theorem km2X0_raiseLevel : Cond.static Lib.Math.max.name ∈ wsX0_raiseLevel := by decide +kernel
theorem km3X0_raiseLevel : Cond.initialized "java/lang/Math" ∈ wsX0_raiseLevel := by decide +kernel
theorem km4X0_raiseLevel : Cond.code Lib.Math.max.name Lib.Math.max.code 2 (some .int) ∈ wsX0_raiseLevel := by decide +kernel
def t_X0_raiseLevel_2 (b : Nat) (a1 : Int32) (i1 : Int32) (m2 : Mem) : Option ((Int32 × Mem) ⊕ (Mem)) :=
  ck (zin a1 6 = true) ((if (m2 (b + 2) (Int32.toNatClampNeg a1)) ≤ i1 then (some (.inr m2)) else (bn ((a1 * 6) + i1) fun x4 => (s_X0_refers m2 b x4).bind fun r6 => (if r6 = 0 then (bn (i1 + 1) fun x7 => some (.inl (x7, m2))) else (ck (zin x4 36 = true) ((s_X0_hasShape m2 b (m2 (b + 11) (Int32.toNatClampNeg x4))).bind fun r10 => (if r10 = 0 then (bn (i1 + 1) fun x11 => some (.inl (x11, m2))) else (ck (zin x4 36 = true) (ck (zin (m2 (b + 11) (Int32.toNatClampNeg x4)) 6 = true) (bn (m2 (b + 6) (Int32.toNatClampNeg (m2 (b + 11) (Int32.toNatClampNeg x4)))) fun x14 => ck (zin a1 6 = true) (ck (zin x4 36 = true) ((if (m2 (b + 10) (Int32.toNatClampNeg x4)) = 2 then (ck (zin a1 6 = true) (bn (sto m2 (b + 6) (Int32.toNatClampNeg a1) (if (m2 (b + 6) (Int32.toNatClampNeg a1)) < (x14 + 1) then (x14 + 1) else (m2 (b + 6) (Int32.toNatClampNeg a1)))) fun m21 => bn (i1 + 1) fun x22 => some (.inl (x22, m21)))) else (ck (zin a1 6 = true) (bn (sto m2 (b + 6) (Int32.toNatClampNeg a1) (if (m2 (b + 6) (Int32.toNatClampNeg a1)) < x14 then x14 else (m2 (b + 6) (Int32.toNatClampNeg a1)))) fun m18 => bn (i1 + 1) fun x19 => some (.inl (x19, m18)))))))))))))))))
def l_X0_raiseLevel_2 (b : Nat) (a1 : Int32) (n : Nat) (i1 : Int32) (m2 : Mem) : Option (Mem) := zlp n (fun a => t_X0_raiseLevel_2 b a1 a.1 a.2) (i1, m2)
def s_X0_raiseLevel (m : Mem) (b : Nat) (a1 : Int32) : Option (Mem) :=
  ((l_X0_raiseLevel_2 b a1 FU 0 m).bind fun m27 => some m27)
set_option maxRecDepth 100000 in
set_option maxHeartbeats 4000000 in
theorem w_X0_raiseLevel_2 {K : ZK} (C : zOK MX K cX0_raiseLevel 5 none RX0 wsX0_raiseLevel rmX0_raiseLevel) {b : Nat} {a1 : Int32} (hb : isb b) {o0 : Mem} (hk : zGo MX K o0 [] 93 []) : ∀ (n : Nat) (i1 : Int32) (m2 : Mem), l_X0_raiseLevel_2 b a1 n i1 m2 = some o0 → zGo MX K m2 [(0, .ref ((zw K).2.1 b)), (1, .int a1), (2, .int i1)] 2 [] := by
  intro n
  induction n with
  | zero =>
    intro i1 m2 hf
    cases hf
  | succ n ih =>
    intro i1 m2 hf
    obtain ⟨z, hf, hz⟩ := zlp_el hf
    replace hf : t_X0_raiseLevel_2 b a1 i1 m2 = some z := hf
    unfold t_X0_raiseLevel_2 at hf
    refine z_iload_n C 2 dX0_raiseLevel_2 rfl rfl ?_
    refine z_aload_n C 0 dX0_raiseLevel_3 rfl rfl ?_
    refine z_getr C (t := b + 2) (isb_k0 hb) (isb_L0 hb) rfl 4 (Nat.le_of_ble_eq_true rfl) rfl kiX0_raiseLevel_X0 kfX0_raiseLevel_15 dX0_raiseLevel_4 ?_
    refine z_iload_n C 1 dX0_raiseLevel_7 rfl rfl ?_
    obtain ⟨hi3, hf⟩ := ck_el hf
    refine z_iald C (k := (b + 2)) (isb_k2 hb) (isb_L2 hb) hi3 dX0_raiseLevel_8 ?_
    refine z_icmp_ge (tgt := 93) C dX0_raiseLevel_9 (by decide) (fun c26 => ?_) (fun c26 => ?_)
    · replace hf := if_t c26 hf
      cases hf
      replace hz := zlz_r hz
      cases hz
      exact z_sub [] rfl hk
    · replace hf := if_f c26 hf
      refine z_iload_n C 1 dX0_raiseLevel_12 rfl rfl ?_
      refine z_bipush C (v := 6) dX0_raiseLevel_13 rfl ?_
      refine z_imul C dX0_raiseLevel_15 ?_
      refine z_iload_n C 2 dX0_raiseLevel_16 rfl rfl ?_
      refine z_iadd C dX0_raiseLevel_17 ?_
      refine z_topi (fun x4 e_x4 => ?_)
      replace hf := bn_to e_x4 hf
      refine z_istore_n C (lv2 := [(0, .ref ((zw K).2.1 b)), (1, .int a1), (2, .int i1), (3, .int x4)]) [1, 2, 3, 0] dX0_raiseLevel_18 rfl (Nat.le_of_ble_eq_true rfl) rfl ?_
      refine z_aload_n C 0 dX0_raiseLevel_19 rfl rfl ?_
      refine z_iload_n C 3 dX0_raiseLevel_20 rfl rfl ?_
      obtain ⟨r6, hc5, hf⟩ := zb_el hf
      refine z_cVi C (c_X0_refers _ _ hb hc5) rfl gX0_raiseLevel_X0_refers rfl rfl zdX0_refers rfl (isb_k0 hb) (isb_L0 hb) rfl rfl ⟨Nat.le_of_ble_eq_true rfl, Nat.le_of_ble_eq_true rfl⟩ (Nat.le_of_ble_eq_true rfl) dX0_raiseLevel_21 rfl ?_
      refine z_if_eq (tgt := 87) C dX0_raiseLevel_24 (by decide) (fun c25 => ?_) (fun c25 => ?_)
      · replace hf := if_t c25 hf
        obtain ⟨x7, e_x7⟩ : ∃ y : Int32, y = i1 + 1 := ⟨_, rfl⟩
        replace hf := bn_to e_x7 hf
        refine z_iinc C (lv2 := [(0, .ref ((zw K).2.1 b)), (1, .int a1), (2, .int x7), (3, .int x4)]) 2 [1, 2, 0, 3] dX0_raiseLevel_87 rfl rfl (Nat.le_of_ble_eq_true rfl) e_x7 rfl ?_
        refine z_goto (tgt := 2) C dX0_raiseLevel_90 (by decide) ?_
        cases hf
        exact z_sub [0, 1, 2] rfl (ih x7 m2 hz)
      · replace hf := if_f c25 hf
        refine z_aload_n C 0 dX0_raiseLevel_27 rfl rfl ?_
        refine z_aload_n C 0 dX0_raiseLevel_28 rfl rfl ?_
        refine z_getr C (t := b + 11) (isb_k0 hb) (isb_L0 hb) rfl 13 (Nat.le_of_ble_eq_true rfl) rfl kiX0_raiseLevel_X0 kfX0_raiseLevel_43 dX0_raiseLevel_29 ?_
        refine z_iload_n C 3 dX0_raiseLevel_32 rfl rfl ?_
        obtain ⟨hi8, hf⟩ := ck_el hf
        refine z_iald C (k := (b + 11)) (isb_k11 hb) (isb_L11 hb) hi8 dX0_raiseLevel_33 ?_
        obtain ⟨r10, hc9, hf⟩ := zb_el hf
        refine z_cVi C (c_X0_hasShape _ _ hb hc9) rfl gX0_raiseLevel_X0_hasShape rfl rfl zdX0_hasShape rfl (isb_k0 hb) (isb_L0 hb) rfl rfl ⟨Nat.le_of_ble_eq_true rfl, Nat.le_of_ble_eq_true rfl⟩ (Nat.le_of_ble_eq_true rfl) dX0_raiseLevel_34 rfl ?_
        refine z_if_eq (tgt := 87) C dX0_raiseLevel_37 (by decide) (fun c24 => ?_) (fun c24 => ?_)
        · replace hf := if_t c24 hf
          obtain ⟨x11, e_x11⟩ : ∃ y : Int32, y = i1 + 1 := ⟨_, rfl⟩
          replace hf := bn_to e_x11 hf
          refine z_iinc C (lv2 := [(0, .ref ((zw K).2.1 b)), (1, .int a1), (2, .int x11), (3, .int x4)]) 2 [1, 2, 0, 3] dX0_raiseLevel_87 rfl rfl (Nat.le_of_ble_eq_true rfl) e_x11 rfl ?_
          refine z_goto (tgt := 2) C dX0_raiseLevel_90 (by decide) ?_
          cases hf
          exact z_sub [0, 1, 2] rfl (ih x11 m2 hz)
        · replace hf := if_f c24 hf
          refine z_aload_n C 0 dX0_raiseLevel_40 rfl rfl ?_
          refine z_getr C (t := b + 6) (isb_k0 hb) (isb_L0 hb) rfl 8 (Nat.le_of_ble_eq_true rfl) rfl kiX0_raiseLevel_X0 kfX0_raiseLevel_28 dX0_raiseLevel_41 ?_
          refine z_aload_n C 0 dX0_raiseLevel_44 rfl rfl ?_
          refine z_getr C (t := b + 11) (isb_k0 hb) (isb_L0 hb) rfl 13 (Nat.le_of_ble_eq_true rfl) rfl kiX0_raiseLevel_X0 kfX0_raiseLevel_43 dX0_raiseLevel_45 ?_
          refine z_iload_n C 3 dX0_raiseLevel_48 rfl rfl ?_
          obtain ⟨hi12, hf⟩ := ck_el hf
          refine z_iald C (k := (b + 11)) (isb_k11 hb) (isb_L11 hb) hi12 dX0_raiseLevel_49 ?_
          obtain ⟨hi13, hf⟩ := ck_el hf
          refine z_iald C (k := (b + 6)) (isb_k6 hb) (isb_L6 hb) hi13 dX0_raiseLevel_50 ?_
          refine z_topi (fun x14 e_x14 => ?_)
          replace hf := bn_to e_x14 hf
          refine z_istore C (lv2 := [(0, .ref ((zw K).2.1 b)), (1, .int a1), (2, .int i1), (3, .int x4), (4, .int x14)]) [1, 2, 3, 4, 0] dX0_raiseLevel_51 (Nat.le_of_ble_eq_true rfl) rfl ?_
          refine z_aload_n C 0 dX0_raiseLevel_53 rfl rfl ?_
          refine z_getr C (t := b + 6) (isb_k0 hb) (isb_L0 hb) rfl 8 (Nat.le_of_ble_eq_true rfl) rfl kiX0_raiseLevel_X0 kfX0_raiseLevel_28 dX0_raiseLevel_54 ?_
          refine z_iload_n C 1 dX0_raiseLevel_57 rfl rfl ?_
          refine z_aload_n C 0 dX0_raiseLevel_58 rfl rfl ?_
          refine z_getr C (t := b + 6) (isb_k0 hb) (isb_L0 hb) rfl 8 (Nat.le_of_ble_eq_true rfl) rfl kiX0_raiseLevel_X0 kfX0_raiseLevel_28 dX0_raiseLevel_59 ?_
          refine z_iload_n C 1 dX0_raiseLevel_62 rfl rfl ?_
          obtain ⟨hi15, hf⟩ := ck_el hf
          refine z_iald C (k := (b + 6)) (isb_k6 hb) (isb_L6 hb) hi15 dX0_raiseLevel_63 ?_
          refine z_aload_n C 0 dX0_raiseLevel_64 rfl rfl ?_
          refine z_getr C (t := b + 10) (isb_k0 hb) (isb_L0 hb) rfl 12 (Nat.le_of_ble_eq_true rfl) rfl kiX0_raiseLevel_X0 kfX0_raiseLevel_40 dX0_raiseLevel_65 ?_
          refine z_iload_n C 3 dX0_raiseLevel_68 rfl rfl ?_
          obtain ⟨hi16, hf⟩ := ck_el hf
          refine z_iald C (k := (b + 10)) (isb_k10 hb) (isb_L10 hb) hi16 dX0_raiseLevel_69 ?_
          refine z_iconst C (v := 2) dX0_raiseLevel_70 rfl ?_
          refine z_icmp_ne (tgt := 81) C dX0_raiseLevel_71 (by decide) (fun c23 => ?_) (fun c23 => ?_)
          · replace hf := if_f c23 hf
            refine z_iload C 4 dX0_raiseLevel_81 rfl ?_
            refine z_max C km1X0_raiseLevel km2X0_raiseLevel km3X0_raiseLevel km4X0_raiseLevel (Nat.le_of_ble_eq_true rfl) (Nat.le_of_ble_eq_true rfl) dX0_raiseLevel_83 ?_
            obtain ⟨hi17, hf⟩ := ck_el hf
            refine z_iast C (k := (b + 6)) (isb_k6 hb) (isb_L6 hb) hi17 dX0_raiseLevel_86 ?_
            refine z_nm (fun m18 e_m18 => ?_)
            replace hf := bn_to e_m18 hf
            obtain ⟨x19, e_x19⟩ : ∃ y : Int32, y = i1 + 1 := ⟨_, rfl⟩
            replace hf := bn_to e_x19 hf
            refine z_iinc C (lv2 := [(0, .ref ((zw K).2.1 b)), (1, .int a1), (2, .int x19), (3, .int x4), (4, .int x14)]) 2 [1, 2, 0, 3, 4] dX0_raiseLevel_87 rfl rfl (Nat.le_of_ble_eq_true rfl) e_x19 rfl ?_
            refine z_goto (tgt := 2) C dX0_raiseLevel_90 (by decide) ?_
            cases hf
            exact z_sub [0, 1, 2] rfl (ih x19 m18 hz)
          · replace hf := if_t c23 hf
            refine z_iload C 4 dX0_raiseLevel_74 rfl ?_
            refine z_iconst C (v := 1) dX0_raiseLevel_76 rfl ?_
            refine z_iadd C dX0_raiseLevel_77 ?_
            refine z_goto (tgt := 83) C dX0_raiseLevel_78 (by decide) ?_
            refine z_max C km1X0_raiseLevel km2X0_raiseLevel km3X0_raiseLevel km4X0_raiseLevel (Nat.le_of_ble_eq_true rfl) (Nat.le_of_ble_eq_true rfl) dX0_raiseLevel_83 ?_
            obtain ⟨hi20, hf⟩ := ck_el hf
            refine z_iast C (k := (b + 6)) (isb_k6 hb) (isb_L6 hb) hi20 dX0_raiseLevel_86 ?_
            refine z_nm (fun m21 e_m21 => ?_)
            replace hf := bn_to e_m21 hf
            obtain ⟨x22, e_x22⟩ : ∃ y : Int32, y = i1 + 1 := ⟨_, rfl⟩
            replace hf := bn_to e_x22 hf
            refine z_iinc C (lv2 := [(0, .ref ((zw K).2.1 b)), (1, .int a1), (2, .int x22), (3, .int x4), (4, .int x14)]) 2 [1, 2, 0, 3, 4] dX0_raiseLevel_87 rfl rfl (Nat.le_of_ble_eq_true rfl) e_x22 rfl ?_
            refine z_goto (tgt := 2) C dX0_raiseLevel_90 (by decide) ?_
            cases hf
            exact z_sub [0, 1, 2] rfl (ih x22 m21 hz)
set_option maxRecDepth 100000 in
set_option maxHeartbeats 4000000 in
theorem c_X0_raiseLevel (l : Launch) (w : ZW) {m : Mem} {b : Nat} {a1 : Int32} {m9 : Mem} (hb : isb b) (hf : s_X0_raiseLevel m b a1 = some m9) : zCv MX l w yX0_raiseLevel wsX0_raiseLevel rmX0_raiseLevel [.ref (w.2.1 b), .int a1] m m9 := by
  refine z_met_v MX_ok (own := RX0) (by decide +kernel) rfl rfl (Nat.le_of_ble_eq_true rfl) ?_
  intro K C hKw hKl hret
  subst hKw
  subst hKl
  unfold s_X0_raiseLevel at hf
  show zGo MX K m [(0, .ref ((zw K).2.1 b)), (1, .int a1)] 0 []
  refine z_iconst C (v := 0) dX0_raiseLevel_0 rfl ?_
  refine z_istore_n C (lv2 := [(0, .ref ((zw K).2.1 b)), (1, .int a1), (2, .int 0)]) [1, 2, 0] dX0_raiseLevel_1 rfl (Nat.le_of_ble_eq_true rfl) rfl ?_
  obtain ⟨m27, hg, hf⟩ := zb_el hf
  refine z_sub [0, 1, 2] rfl (w_X0_raiseLevel_2 C hb ?_ _ _ _ hg)
  clear hg
  cases hf
  exact hret _ _ dX0_raiseLevel_93
set_option maxRecDepth 20000 in
theorem ggX0_findLevels_X0_raiseLevel : GoodIn wsX0_findLevels wsX0_raiseLevel := goodIn_sub (List.forall_mem_cons.mpr ⟨(List.mem_of_getElem? (i := 6) rfl), (List.forall_mem_append.mpr ⟨(List.forall_mem_cons.mpr ⟨(List.mem_of_getElem? (i := 7) rfl), (List.forall_mem_cons.mpr ⟨(List.mem_of_getElem? (i := 8) rfl), (List.forall_mem_cons.mpr ⟨(List.mem_of_getElem? (i := 9) rfl), (List.forall_mem_cons.mpr ⟨(List.mem_of_getElem? (i := 10) rfl), (List.forall_mem_cons.mpr ⟨(List.mem_of_getElem? (i := 11) rfl), (List.forall_mem_cons.mpr ⟨(List.mem_of_getElem? (i := 12) rfl), (List.forall_mem_cons.mpr ⟨(List.mem_of_getElem? (i := 13) rfl), (List.forall_mem_cons.mpr ⟨(List.mem_of_getElem? (i := 14) rfl), (List.forall_mem_cons.mpr ⟨(List.mem_of_getElem? (i := 15) rfl), (List.forall_mem_cons.mpr ⟨(List.mem_of_getElem? (i := 16) rfl), (List.forall_mem_cons.mpr ⟨(List.mem_of_getElem? (i := 17) rfl), (List.forall_mem_cons.mpr ⟨(List.mem_of_getElem? (i := 5) rfl), (List.forall_mem_cons.mpr ⟨(List.mem_of_getElem? (i := 18) rfl), (List.forall_mem_cons.mpr ⟨(List.mem_of_getElem? (i := 19) rfl), (List.forall_mem_cons.mpr ⟨(List.mem_of_getElem? (i := 20) rfl), (List.forall_mem_cons.mpr ⟨(List.mem_of_getElem? (i := 21) rfl), (List.forall_mem_cons.mpr ⟨(List.mem_of_getElem? (i := 22) rfl), (List.forall_mem_cons.mpr ⟨(List.mem_of_getElem? (i := 1) rfl), (fun _ h => absurd h List.not_mem_nil)⟩)⟩)⟩)⟩)⟩)⟩)⟩)⟩)⟩)⟩)⟩)⟩)⟩)⟩)⟩)⟩)⟩)⟩), (fun _ h => (List.mem_cons_of_mem _ (List.mem_append_right _ h)))⟩)⟩) (by decide +kernel)
set_option maxRecDepth 20000 in
theorem gX0_findLevels_X0_raiseLevel : GoodIn wsX0_findLevels (wsV RX0 85 RX0 yX0_raiseLevel wsX0_raiseLevel) := goodIn_app (goodIn_sub (List.forall_mem_cons.mpr ⟨(List.mem_of_getElem? (i := 2) rfl), (List.forall_mem_cons.mpr ⟨(List.mem_of_getElem? (i := 3) rfl), (List.forall_mem_cons.mpr ⟨(List.mem_of_getElem? (i := 4) rfl), (List.forall_mem_cons.mpr ⟨(List.mem_of_getElem? (i := 5) rfl), (fun _ h => absurd h List.not_mem_nil)⟩)⟩)⟩)⟩) (by decide +kernel)) ggX0_findLevels_X0_raiseLevel
theorem dX0_findLevels_0 : decode cX0_findLevels 0 = .ok (.iconst 0, 1) := by decide +kernel
theorem dX0_findLevels_1 : decode cX0_findLevels 1 = .ok (.istore_n 1, 1) := by decide +kernel
theorem dX0_findLevels_2 : decode cX0_findLevels 2 = .ok (.iload_n 1, 1) := by decide +kernel
theorem dX0_findLevels_3 : decode cX0_findLevels 3 = .ok (.bipush 6, 2) := by decide +kernel
theorem dX0_findLevels_5 : decode cX0_findLevels 5 = .ok (.if_icmp .ge 30, 3) := by decide +kernel
theorem dX0_findLevels_8 : decode cX0_findLevels 8 = .ok (.iconst 0, 1) := by decide +kernel
theorem dX0_findLevels_9 : decode cX0_findLevels 9 = .ok (.istore_n 2, 1) := by decide +kernel
theorem dX0_findLevels_10 : decode cX0_findLevels 10 = .ok (.iload_n 2, 1) := by decide +kernel
theorem dX0_findLevels_11 : decode cX0_findLevels 11 = .ok (.aload_n 0, 1) := by decide +kernel
theorem dX0_findLevels_12 : decode cX0_findLevels 12 = .ok (.getfield 52, 3) := by decide +kernel
theorem dX0_findLevels_15 : decode cX0_findLevels 15 = .ok (.if_icmp .ge 14, 3) := by decide +kernel
theorem dX0_findLevels_18 : decode cX0_findLevels 18 = .ok (.aload_n 0, 1) := by decide +kernel
theorem dX0_findLevels_19 : decode cX0_findLevels 19 = .ok (.iload_n 2, 1) := by decide +kernel
theorem dX0_findLevels_20 : decode cX0_findLevels 20 = .ok (.invokevirtual 85, 3) := by decide +kernel
theorem dX0_findLevels_23 : decode cX0_findLevels 23 = .ok (.iinc 2 1, 3) := by decide +kernel
theorem dX0_findLevels_26 : decode cX0_findLevels 26 = .ok (.goto (-16), 3) := by decide +kernel
theorem dX0_findLevels_29 : decode cX0_findLevels 29 = .ok (.iinc 1 1, 3) := by decide +kernel
theorem dX0_findLevels_32 : decode cX0_findLevels 32 = .ok (.goto (-30), 3) := by decide +kernel
theorem dX0_findLevels_35 : decode cX0_findLevels 35 = .ok (.return_, 1) := by decide +kernel
def rmX0_findLevels : Room := { frames := 2, cells := 0, slots := 0, locals := 45 }
theorem zdX0_findLevels : yX0_findLevels.cls = RX0 ∧ yX0_findLevels.cls ≠ "java/lang/invoke/MethodHandle" ∧ yX0_findLevels.cls ≠ "java/lang/invoke/VarHandle" ∧ (parseMethodDescriptor yX0_findLevels.desc).map (fun d => d.parameters.length) = some 0 := by decide +kernel
theorem kiX0_findLevels_X0 : ∀ w ∈ wsX00, w ∈ wsX0_findLevels := fun _ h => (List.mem_cons_of_mem _ (List.mem_append_right _ h))
theorem kfX0_findLevels_52 : Cond.fieldLink RX0 52 "ShapeJudge$Book" "shapeCount" "I" ∈ wsX0_findLevels := (List.mem_of_getElem? (i := 1) rfl)
def t_X0_findLevels_10 (b : Nat) (i3 : Int32) (m4 : Mem) : Option ((Int32 × Mem) ⊕ (Mem)) :=
  (if (m4 b 0) ≤ i3 then (some (.inr m4)) else ((s_X0_raiseLevel m4 b i3).bind fun m6 => bn (i3 + 1) fun x7 => some (.inl (x7, m6))))
def l_X0_findLevels_10 (b : Nat) (n : Nat) (i3 : Int32) (m4 : Mem) : Option (Mem) := zlp n (fun a => t_X0_findLevels_10 b a.1 a.2) (i3, m4)
def t_X0_findLevels_2 (b : Nat) (i1 : Int32) (m2 : Mem) : Option ((Int32 × Mem) ⊕ (Mem)) :=
  (if 6 ≤ i1 then (some (.inr m2)) else (((l_X0_findLevels_10 b FU 0 m2).bind fun m9 => bn (i1 + 1) fun x10 => some (.inl (x10, m9)))))
def l_X0_findLevels_2 (b : Nat) (n : Nat) (i1 : Int32) (m2 : Mem) : Option (Mem) := zlp n (fun a => t_X0_findLevels_2 b a.1 a.2) (i1, m2)
def s_X0_findLevels (m : Mem) (b : Nat) : Option (Mem) :=
  ((l_X0_findLevels_2 b FU 0 m).bind fun m12 => some m12)
set_option maxRecDepth 100000 in
set_option maxHeartbeats 4000000 in
theorem w_X0_findLevels_10 {K : ZK} (C : zOK MX K cX0_findLevels 3 none RX0 wsX0_findLevels rmX0_findLevels) {b : Nat} {i1 : Int32} (hb : isb b) {o0 : Mem} (hk : zGo MX K o0 [(0, .ref ((zw K).2.1 b)), (1, .int i1)] 29 []) : ∀ (n : Nat) (i3 : Int32) (m4 : Mem), l_X0_findLevels_10 b n i3 m4 = some o0 → zGo MX K m4 [(0, .ref ((zw K).2.1 b)), (1, .int i1), (2, .int i3)] 10 [] := by
  intro n
  induction n with
  | zero =>
    intro i3 m4 hf
    cases hf
  | succ n ih =>
    intro i3 m4 hf
    obtain ⟨z, hf, hz⟩ := zlp_el hf
    replace hf : t_X0_findLevels_10 b i3 m4 = some z := hf
    unfold t_X0_findLevels_10 at hf
    refine z_iload_n C 2 dX0_findLevels_10 rfl rfl ?_
    refine z_aload_n C 0 dX0_findLevels_11 rfl rfl ?_
    refine z_geti C (isb_k0 hb) (isb_L0 hb) rfl 0 (Nat.le_of_ble_eq_true rfl) rfl kiX0_findLevels_X0 kfX0_findLevels_52 dX0_findLevels_12 ?_
    refine z_icmp_ge (tgt := 29) C dX0_findLevels_15 (by decide) (fun c8 => ?_) (fun c8 => ?_)
    · replace hf := if_t c8 hf
      cases hf
      replace hz := zlz_r hz
      cases hz
      exact z_sub [0, 1] rfl hk
    · replace hf := if_f c8 hf
      refine z_aload_n C 0 dX0_findLevels_18 rfl rfl ?_
      refine z_iload_n C 2 dX0_findLevels_19 rfl rfl ?_
      obtain ⟨m6, hc5, hf⟩ := zb_el hf
      refine z_cVv C (c_X0_raiseLevel _ _ hb hc5) rfl gX0_findLevels_X0_raiseLevel rfl rfl zdX0_raiseLevel rfl (isb_k0 hb) (isb_L0 hb) rfl rfl ⟨Nat.le_of_ble_eq_true rfl, Nat.le_of_ble_eq_true rfl⟩ (Nat.le_of_ble_eq_true rfl) dX0_findLevels_20 rfl ?_
      obtain ⟨x7, e_x7⟩ : ∃ y : Int32, y = i3 + 1 := ⟨_, rfl⟩
      replace hf := bn_to e_x7 hf
      refine z_iinc C (lv2 := [(0, .ref ((zw K).2.1 b)), (1, .int i1), (2, .int x7)]) 2 [1, 2, 0] dX0_findLevels_23 rfl rfl (Nat.le_of_ble_eq_true rfl) e_x7 rfl ?_
      refine z_goto (tgt := 10) C dX0_findLevels_26 (by decide) ?_
      cases hf
      exact z_sub [0, 1, 2] rfl (ih x7 m6 hz)
set_option maxRecDepth 100000 in
set_option maxHeartbeats 4000000 in
theorem w_X0_findLevels_2 {K : ZK} (C : zOK MX K cX0_findLevels 3 none RX0 wsX0_findLevels rmX0_findLevels) {b : Nat} (hb : isb b) {o0 : Mem} (hk : zGo MX K o0 [] 35 []) : ∀ (n : Nat) (i1 : Int32) (m2 : Mem), l_X0_findLevels_2 b n i1 m2 = some o0 → zGo MX K m2 [(0, .ref ((zw K).2.1 b)), (1, .int i1)] 2 [] := by
  intro n
  induction n with
  | zero =>
    intro i1 m2 hf
    cases hf
  | succ n ih =>
    intro i1 m2 hf
    obtain ⟨z, hf, hz⟩ := zlp_el hf
    replace hf : t_X0_findLevels_2 b i1 m2 = some z := hf
    unfold t_X0_findLevels_2 at hf
    refine z_iload_n C 1 dX0_findLevels_2 rfl rfl ?_
    refine z_bipush C (v := 6) dX0_findLevels_3 rfl ?_
    refine z_icmp_ge (tgt := 35) C dX0_findLevels_5 (by decide) (fun c11 => ?_) (fun c11 => ?_)
    · replace hf := if_t c11 hf
      cases hf
      replace hz := zlz_r hz
      cases hz
      exact z_sub [] rfl hk
    · replace hf := if_f c11 hf
      refine z_iconst C (v := 0) dX0_findLevels_8 rfl ?_
      refine z_istore_n C (lv2 := [(0, .ref ((zw K).2.1 b)), (1, .int i1), (2, .int 0)]) [1, 2, 0] dX0_findLevels_9 rfl (Nat.le_of_ble_eq_true rfl) rfl ?_
      obtain ⟨m9, hg, hf⟩ := zb_el hf
      refine z_sub [0, 1, 2] rfl (w_X0_findLevels_10 C hb ?_ _ _ _ hg)
      clear hg
      obtain ⟨x10, e_x10⟩ : ∃ y : Int32, y = i1 + 1 := ⟨_, rfl⟩
      replace hf := bn_to e_x10 hf
      refine z_iinc C (lv2 := [(0, .ref ((zw K).2.1 b)), (1, .int x10)]) 1 [1, 0] dX0_findLevels_29 rfl rfl (Nat.le_of_ble_eq_true rfl) e_x10 rfl ?_
      refine z_goto (tgt := 2) C dX0_findLevels_32 (by decide) ?_
      cases hf
      exact z_sub [0, 1] rfl (ih x10 m9 hz)
set_option maxRecDepth 100000 in
set_option maxHeartbeats 4000000 in
theorem c_X0_findLevels (l : Launch) (w : ZW) {m : Mem} {b : Nat} {m9 : Mem} (hb : isb b) (hf : s_X0_findLevels m b = some m9) : zCv MX l w yX0_findLevels wsX0_findLevels rmX0_findLevels [.ref (w.2.1 b)] m m9 := by
  refine z_met_v MX_ok (own := RX0) (by decide +kernel) rfl rfl (Nat.le_of_ble_eq_true rfl) ?_
  intro K C hKw hKl hret
  subst hKw
  subst hKl
  unfold s_X0_findLevels at hf
  show zGo MX K m [(0, .ref ((zw K).2.1 b))] 0 []
  refine z_iconst C (v := 0) dX0_findLevels_0 rfl ?_
  refine z_istore_n C (lv2 := [(0, .ref ((zw K).2.1 b)), (1, .int 0)]) [1, 0] dX0_findLevels_1 rfl (Nat.le_of_ble_eq_true rfl) rfl ?_
  obtain ⟨m12, hg, hf⟩ := zb_el hf
  refine z_sub [0, 1] rfl (w_X0_findLevels_2 C hb ?_ _ _ _ hg)
  clear hg
  cases hf
  exact hret _ _ dX0_findLevels_35
theorem dX0_findReach_0 : decode cX0_findReach 0 = .ok (.iconst 0, 1) := by decide +kernel
theorem dX0_findReach_1 : decode cX0_findReach 1 = .ok (.istore_n 1, 1) := by decide +kernel
theorem dX0_findReach_2 : decode cX0_findReach 2 = .ok (.iload_n 1, 1) := by decide +kernel
theorem dX0_findReach_3 : decode cX0_findReach 3 = .ok (.aload_n 0, 1) := by decide +kernel
theorem dX0_findReach_4 : decode cX0_findReach 4 = .ok (.getfield 52, 3) := by decide +kernel
theorem dX0_findReach_7 : decode cX0_findReach 7 = .ok (.if_icmp .ge 53, 3) := by decide +kernel
theorem dX0_findReach_10 : decode cX0_findReach 10 = .ok (.iconst 0, 1) := by decide +kernel
theorem dX0_findReach_11 : decode cX0_findReach 11 = .ok (.istore_n 2, 1) := by decide +kernel
theorem dX0_findReach_12 : decode cX0_findReach 12 = .ok (.iload_n 2, 1) := by decide +kernel
theorem dX0_findReach_13 : decode cX0_findReach 13 = .ok (.aload_n 0, 1) := by decide +kernel
theorem dX0_findReach_14 : decode cX0_findReach 14 = .ok (.getfield 52, 3) := by decide +kernel
theorem dX0_findReach_17 : decode cX0_findReach 17 = .ok (.if_icmp .ge 37, 3) := by decide +kernel
theorem dX0_findReach_20 : decode cX0_findReach 20 = .ok (.aload_n 0, 1) := by decide +kernel
theorem dX0_findReach_21 : decode cX0_findReach 21 = .ok (.getfield 25, 3) := by decide +kernel
theorem dX0_findReach_24 : decode cX0_findReach 24 = .ok (.iload_n 2, 1) := by decide +kernel
theorem dX0_findReach_25 : decode cX0_findReach 25 = .ok (.iaload, 1) := by decide +kernel
theorem dX0_findReach_26 : decode cX0_findReach 26 = .ok (.iload_n 1, 1) := by decide +kernel
theorem dX0_findReach_27 : decode cX0_findReach 27 = .ok (.ishr, 1) := by decide +kernel
theorem dX0_findReach_28 : decode cX0_findReach 28 = .ok (.iconst 1, 1) := by decide +kernel
theorem dX0_findReach_29 : decode cX0_findReach 29 = .ok (.iand, 1) := by decide +kernel
theorem dX0_findReach_30 : decode cX0_findReach 30 = .ok (.ifCond .eq 18, 3) := by decide +kernel
theorem dX0_findReach_33 : decode cX0_findReach 33 = .ok (.aload_n 0, 1) := by decide +kernel
theorem dX0_findReach_34 : decode cX0_findReach 34 = .ok (.getfield 25, 3) := by decide +kernel
theorem dX0_findReach_37 : decode cX0_findReach 37 = .ok (.iload_n 2, 1) := by decide +kernel
theorem dX0_findReach_38 : decode cX0_findReach 38 = .ok (.dup2, 1) := by decide +kernel
theorem dX0_findReach_39 : decode cX0_findReach 39 = .ok (.iaload, 1) := by decide +kernel
theorem dX0_findReach_40 : decode cX0_findReach 40 = .ok (.aload_n 0, 1) := by decide +kernel
theorem dX0_findReach_41 : decode cX0_findReach 41 = .ok (.getfield 25, 3) := by decide +kernel
theorem dX0_findReach_44 : decode cX0_findReach 44 = .ok (.iload_n 1, 1) := by decide +kernel
theorem dX0_findReach_45 : decode cX0_findReach 45 = .ok (.iaload, 1) := by decide +kernel
theorem dX0_findReach_46 : decode cX0_findReach 46 = .ok (.ior, 1) := by decide +kernel
theorem dX0_findReach_47 : decode cX0_findReach 47 = .ok (.iastore, 1) := by decide +kernel
theorem dX0_findReach_48 : decode cX0_findReach 48 = .ok (.iinc 2 1, 3) := by decide +kernel
theorem dX0_findReach_51 : decode cX0_findReach 51 = .ok (.goto (-39), 3) := by decide +kernel
theorem dX0_findReach_54 : decode cX0_findReach 54 = .ok (.iinc 1 1, 3) := by decide +kernel
theorem dX0_findReach_57 : decode cX0_findReach 57 = .ok (.goto (-55), 3) := by decide +kernel
theorem dX0_findReach_60 : decode cX0_findReach 60 = .ok (.return_, 1) := by decide +kernel
def rmX0_findReach : Room := { frames := 0, cells := 0, slots := 0, locals := 0 }
theorem zdX0_findReach : yX0_findReach.cls = RX0 ∧ yX0_findReach.cls ≠ "java/lang/invoke/MethodHandle" ∧ yX0_findReach.cls ≠ "java/lang/invoke/VarHandle" ∧ (parseMethodDescriptor yX0_findReach.desc).map (fun d => d.parameters.length) = some 0 := by decide +kernel
theorem kiX0_findReach_X0 : ∀ w ∈ wsX00, w ∈ wsX0_findReach := fun _ h => (List.mem_cons_of_mem _ (List.mem_append_right _ h))
theorem kfX0_findReach_52 : Cond.fieldLink RX0 52 "ShapeJudge$Book" "shapeCount" "I" ∈ wsX0_findReach := (List.mem_of_getElem? (i := 1) rfl)
theorem kfX0_findReach_25 : Cond.fieldLink RX0 25 "ShapeJudge$Book" "reach" "[I" ∈ wsX0_findReach := (List.mem_of_getElem? (i := 2) rfl)
def t_X0_findReach_12 (b : Nat) (i1 : Int32) (i3 : Int32) (m4 : Mem) : Option ((Int32 × Mem) ⊕ (Mem)) :=
  (if (m4 b 0) ≤ i3 then (some (.inr m4)) else (ck (zin i3 6 = true) ((if (((m4 (b + 5) (Int32.toNatClampNeg i3)) >>> (i1 &&& 31)) &&& 1) = 0 then (bn (i3 + 1) fun x6 => some (.inl (x6, m4))) else (ck (zin i3 6 = true) (ck (zin i1 6 = true) (ck (zin i3 6 = true) (bn (sto m4 (b + 5) (Int32.toNatClampNeg i3) ((m4 (b + 5) (Int32.toNatClampNeg i3)) ||| (m4 (b + 5) (Int32.toNatClampNeg i1)))) fun m10 => bn (i3 + 1) fun x11 => some (.inl (x11, m10))))))))))
def l_X0_findReach_12 (b : Nat) (i1 : Int32) (n : Nat) (i3 : Int32) (m4 : Mem) : Option (Mem) := zlp n (fun a => t_X0_findReach_12 b i1 a.1 a.2) (i3, m4)
def t_X0_findReach_2 (b : Nat) (i1 : Int32) (m2 : Mem) : Option ((Int32 × Mem) ⊕ (Mem)) :=
  (if (m2 b 0) ≤ i1 then (some (.inr m2)) else (((l_X0_findReach_12 b i1 FU 0 m2).bind fun m14 => bn (i1 + 1) fun x15 => some (.inl (x15, m14)))))
def l_X0_findReach_2 (b : Nat) (n : Nat) (i1 : Int32) (m2 : Mem) : Option (Mem) := zlp n (fun a => t_X0_findReach_2 b a.1 a.2) (i1, m2)
def s_X0_findReach (m : Mem) (b : Nat) : Option (Mem) :=
  ((l_X0_findReach_2 b FU 0 m).bind fun m17 => some m17)
set_option maxRecDepth 100000 in
set_option maxHeartbeats 4000000 in
theorem w_X0_findReach_12 {K : ZK} (C : zOK MX K cX0_findReach 3 none RX0 wsX0_findReach rmX0_findReach) {b : Nat} {i1 : Int32} (hb : isb b) {o0 : Mem} (hk : zGo MX K o0 [(0, .ref ((zw K).2.1 b)), (1, .int i1)] 54 []) : ∀ (n : Nat) (i3 : Int32) (m4 : Mem), l_X0_findReach_12 b i1 n i3 m4 = some o0 → zGo MX K m4 [(0, .ref ((zw K).2.1 b)), (1, .int i1), (2, .int i3)] 12 [] := by
  intro n
  induction n with
  | zero =>
    intro i3 m4 hf
    cases hf
  | succ n ih =>
    intro i3 m4 hf
    obtain ⟨z, hf, hz⟩ := zlp_el hf
    replace hf : t_X0_findReach_12 b i1 i3 m4 = some z := hf
    unfold t_X0_findReach_12 at hf
    refine z_iload_n C 2 dX0_findReach_12 rfl rfl ?_
    refine z_aload_n C 0 dX0_findReach_13 rfl rfl ?_
    refine z_geti C (isb_k0 hb) (isb_L0 hb) rfl 0 (Nat.le_of_ble_eq_true rfl) rfl kiX0_findReach_X0 kfX0_findReach_52 dX0_findReach_14 ?_
    refine z_icmp_ge (tgt := 54) C dX0_findReach_17 (by decide) (fun c13 => ?_) (fun c13 => ?_)
    · replace hf := if_t c13 hf
      cases hf
      replace hz := zlz_r hz
      cases hz
      exact z_sub [0, 1] rfl hk
    · replace hf := if_f c13 hf
      refine z_aload_n C 0 dX0_findReach_20 rfl rfl ?_
      refine z_getr C (t := b + 5) (isb_k0 hb) (isb_L0 hb) rfl 7 (Nat.le_of_ble_eq_true rfl) rfl kiX0_findReach_X0 kfX0_findReach_25 dX0_findReach_21 ?_
      refine z_iload_n C 2 dX0_findReach_24 rfl rfl ?_
      obtain ⟨hi5, hf⟩ := ck_el hf
      refine z_iald C (k := (b + 5)) (isb_k5 hb) (isb_L5 hb) hi5 dX0_findReach_25 ?_
      refine z_iload_n C 1 dX0_findReach_26 rfl rfl ?_
      refine z_ishr C dX0_findReach_27 ?_
      refine z_iconst C (v := 1) dX0_findReach_28 rfl ?_
      refine z_iand C dX0_findReach_29 ?_
      refine z_if_eq (tgt := 48) C dX0_findReach_30 (by decide) (fun c12 => ?_) (fun c12 => ?_)
      · replace hf := if_t c12 hf
        obtain ⟨x6, e_x6⟩ : ∃ y : Int32, y = i3 + 1 := ⟨_, rfl⟩
        replace hf := bn_to e_x6 hf
        refine z_iinc C (lv2 := [(0, .ref ((zw K).2.1 b)), (1, .int i1), (2, .int x6)]) 2 [1, 2, 0] dX0_findReach_48 rfl rfl (Nat.le_of_ble_eq_true rfl) e_x6 rfl ?_
        refine z_goto (tgt := 12) C dX0_findReach_51 (by decide) ?_
        cases hf
        exact z_sub [0, 1, 2] rfl (ih x6 m4 hz)
      · replace hf := if_f c12 hf
        refine z_aload_n C 0 dX0_findReach_33 rfl rfl ?_
        refine z_getr C (t := b + 5) (isb_k0 hb) (isb_L0 hb) rfl 7 (Nat.le_of_ble_eq_true rfl) rfl kiX0_findReach_X0 kfX0_findReach_25 dX0_findReach_34 ?_
        refine z_iload_n C 2 dX0_findReach_37 rfl rfl ?_
        refine z_dup2 C dX0_findReach_38 ?_
        obtain ⟨hi7, hf⟩ := ck_el hf
        refine z_iald C (k := (b + 5)) (isb_k5 hb) (isb_L5 hb) hi7 dX0_findReach_39 ?_
        refine z_aload_n C 0 dX0_findReach_40 rfl rfl ?_
        refine z_getr C (t := b + 5) (isb_k0 hb) (isb_L0 hb) rfl 7 (Nat.le_of_ble_eq_true rfl) rfl kiX0_findReach_X0 kfX0_findReach_25 dX0_findReach_41 ?_
        refine z_iload_n C 1 dX0_findReach_44 rfl rfl ?_
        obtain ⟨hi8, hf⟩ := ck_el hf
        refine z_iald C (k := (b + 5)) (isb_k5 hb) (isb_L5 hb) hi8 dX0_findReach_45 ?_
        refine z_ior C dX0_findReach_46 ?_
        obtain ⟨hi9, hf⟩ := ck_el hf
        refine z_iast C (k := (b + 5)) (isb_k5 hb) (isb_L5 hb) hi9 dX0_findReach_47 ?_
        refine z_nm (fun m10 e_m10 => ?_)
        replace hf := bn_to e_m10 hf
        obtain ⟨x11, e_x11⟩ : ∃ y : Int32, y = i3 + 1 := ⟨_, rfl⟩
        replace hf := bn_to e_x11 hf
        refine z_iinc C (lv2 := [(0, .ref ((zw K).2.1 b)), (1, .int i1), (2, .int x11)]) 2 [1, 2, 0] dX0_findReach_48 rfl rfl (Nat.le_of_ble_eq_true rfl) e_x11 rfl ?_
        refine z_goto (tgt := 12) C dX0_findReach_51 (by decide) ?_
        cases hf
        exact z_sub [0, 1, 2] rfl (ih x11 m10 hz)
set_option maxRecDepth 100000 in
set_option maxHeartbeats 4000000 in
theorem w_X0_findReach_2 {K : ZK} (C : zOK MX K cX0_findReach 3 none RX0 wsX0_findReach rmX0_findReach) {b : Nat} (hb : isb b) {o0 : Mem} (hk : zGo MX K o0 [] 60 []) : ∀ (n : Nat) (i1 : Int32) (m2 : Mem), l_X0_findReach_2 b n i1 m2 = some o0 → zGo MX K m2 [(0, .ref ((zw K).2.1 b)), (1, .int i1)] 2 [] := by
  intro n
  induction n with
  | zero =>
    intro i1 m2 hf
    cases hf
  | succ n ih =>
    intro i1 m2 hf
    obtain ⟨z, hf, hz⟩ := zlp_el hf
    replace hf : t_X0_findReach_2 b i1 m2 = some z := hf
    unfold t_X0_findReach_2 at hf
    refine z_iload_n C 1 dX0_findReach_2 rfl rfl ?_
    refine z_aload_n C 0 dX0_findReach_3 rfl rfl ?_
    refine z_geti C (isb_k0 hb) (isb_L0 hb) rfl 0 (Nat.le_of_ble_eq_true rfl) rfl kiX0_findReach_X0 kfX0_findReach_52 dX0_findReach_4 ?_
    refine z_icmp_ge (tgt := 60) C dX0_findReach_7 (by decide) (fun c16 => ?_) (fun c16 => ?_)
    · replace hf := if_t c16 hf
      cases hf
      replace hz := zlz_r hz
      cases hz
      exact z_sub [] rfl hk
    · replace hf := if_f c16 hf
      refine z_iconst C (v := 0) dX0_findReach_10 rfl ?_
      refine z_istore_n C (lv2 := [(0, .ref ((zw K).2.1 b)), (1, .int i1), (2, .int 0)]) [1, 2, 0] dX0_findReach_11 rfl (Nat.le_of_ble_eq_true rfl) rfl ?_
      obtain ⟨m14, hg, hf⟩ := zb_el hf
      refine z_sub [0, 1, 2] rfl (w_X0_findReach_12 C hb ?_ _ _ _ hg)
      clear hg
      obtain ⟨x15, e_x15⟩ : ∃ y : Int32, y = i1 + 1 := ⟨_, rfl⟩
      replace hf := bn_to e_x15 hf
      refine z_iinc C (lv2 := [(0, .ref ((zw K).2.1 b)), (1, .int x15)]) 1 [1, 0] dX0_findReach_54 rfl rfl (Nat.le_of_ble_eq_true rfl) e_x15 rfl ?_
      refine z_goto (tgt := 2) C dX0_findReach_57 (by decide) ?_
      cases hf
      exact z_sub [0, 1] rfl (ih x15 m14 hz)
set_option maxRecDepth 100000 in
set_option maxHeartbeats 4000000 in
theorem c_X0_findReach (l : Launch) (w : ZW) {m : Mem} {b : Nat} {m9 : Mem} (hb : isb b) (hf : s_X0_findReach m b = some m9) : zCv MX l w yX0_findReach wsX0_findReach rmX0_findReach [.ref (w.2.1 b)] m m9 := by
  refine z_met_v MX_ok (own := RX0) (by decide +kernel) rfl rfl (Nat.le_of_ble_eq_true rfl) ?_
  intro K C hKw hKl hret
  subst hKw
  subst hKl
  unfold s_X0_findReach at hf
  show zGo MX K m [(0, .ref ((zw K).2.1 b))] 0 []
  refine z_iconst C (v := 0) dX0_findReach_0 rfl ?_
  refine z_istore_n C (lv2 := [(0, .ref ((zw K).2.1 b)), (1, .int 0)]) [1, 0] dX0_findReach_1 rfl (Nat.le_of_ble_eq_true rfl) rfl ?_
  obtain ⟨m17, hg, hf⟩ := zb_el hf
  refine z_sub [0, 1] rfl (w_X0_findReach_2 C hb ?_ _ _ _ hg)
  clear hg
  cases hf
  exact hret _ _ dX0_findReach_60
set_option maxRecDepth 20000 in
theorem ggX0_hasPart_X0_hasShape : GoodIn wsX0_hasPart wsX0_hasShape := goodIn_sub (List.forall_mem_cons.mpr ⟨(List.mem_of_getElem? (i := 6) rfl), (List.forall_mem_append.mpr ⟨(List.forall_mem_cons.mpr ⟨(List.mem_of_getElem? (i := 7) rfl), (fun _ h => absurd h List.not_mem_nil)⟩), (fun _ h => (List.mem_cons_of_mem _ (List.mem_append_right _ h)))⟩)⟩) (by decide +kernel)
set_option maxRecDepth 20000 in
theorem gX0_hasPart_X0_hasShape : GoodIn wsX0_hasPart (wsV RX0 56 RX0 yX0_hasShape wsX0_hasShape) := goodIn_app (goodIn_sub (List.forall_mem_cons.mpr ⟨(List.mem_of_getElem? (i := 2) rfl), (List.forall_mem_cons.mpr ⟨(List.mem_of_getElem? (i := 3) rfl), (List.forall_mem_cons.mpr ⟨(List.mem_of_getElem? (i := 4) rfl), (List.forall_mem_cons.mpr ⟨(List.mem_of_getElem? (i := 5) rfl), (fun _ h => absurd h List.not_mem_nil)⟩)⟩)⟩)⟩) (by decide +kernel)) ggX0_hasPart_X0_hasShape
theorem dX0_hasPart_0 : decode cX0_hasPart 0 = .ok (.aload_n 0, 1) := by decide +kernel
theorem dX0_hasPart_1 : decode cX0_hasPart 1 = .ok (.iload_n 1, 1) := by decide +kernel
theorem dX0_hasPart_2 : decode cX0_hasPart 2 = .ok (.invokevirtual 56, 3) := by decide +kernel
theorem dX0_hasPart_5 : decode cX0_hasPart 5 = .ok (.ifCond .eq 27, 3) := by decide +kernel
theorem dX0_hasPart_8 : decode cX0_hasPart 8 = .ok (.iload_n 2, 1) := by decide +kernel
theorem dX0_hasPart_9 : decode cX0_hasPart 9 = .ok (.ifCond .lt 23, 3) := by decide +kernel
theorem dX0_hasPart_12 : decode cX0_hasPart 12 = .ok (.iload_n 2, 1) := by decide +kernel
theorem dX0_hasPart_13 : decode cX0_hasPart 13 = .ok (.aload_n 0, 1) := by decide +kernel
theorem dX0_hasPart_14 : decode cX0_hasPart 14 = .ok (.getfield 15, 3) := by decide +kernel
theorem dX0_hasPart_17 : decode cX0_hasPart 17 = .ok (.iload_n 1, 1) := by decide +kernel
theorem dX0_hasPart_18 : decode cX0_hasPart 18 = .ok (.iaload, 1) := by decide +kernel
theorem dX0_hasPart_19 : decode cX0_hasPart 19 = .ok (.if_icmp .ge 13, 3) := by decide +kernel
theorem dX0_hasPart_22 : decode cX0_hasPart 22 = .ok (.iload_n 2, 1) := by decide +kernel
theorem dX0_hasPart_23 : decode cX0_hasPart 23 = .ok (.bipush 6, 2) := by decide +kernel
theorem dX0_hasPart_25 : decode cX0_hasPart 25 = .ok (.if_icmp .ge 7, 3) := by decide +kernel
theorem dX0_hasPart_28 : decode cX0_hasPart 28 = .ok (.iconst 1, 1) := by decide +kernel
theorem dX0_hasPart_29 : decode cX0_hasPart 29 = .ok (.goto 4, 3) := by decide +kernel
theorem dX0_hasPart_32 : decode cX0_hasPart 32 = .ok (.iconst 0, 1) := by decide +kernel
theorem dX0_hasPart_33 : decode cX0_hasPart 33 = .ok (.ireturn, 1) := by decide +kernel
def rmX0_hasPart : Room := { frames := 1, cells := 0, slots := 0, locals := 21 }
theorem zdX0_hasPart : yX0_hasPart.cls = RX0 ∧ yX0_hasPart.cls ≠ "java/lang/invoke/MethodHandle" ∧ yX0_hasPart.cls ≠ "java/lang/invoke/VarHandle" ∧ (parseMethodDescriptor yX0_hasPart.desc).map (fun d => d.parameters.length) = some 2 := by decide +kernel
theorem kiX0_hasPart_X0 : ∀ w ∈ wsX00, w ∈ wsX0_hasPart := fun _ h => (List.mem_cons_of_mem _ (List.mem_append_right _ h))
theorem kfX0_hasPart_15 : Cond.fieldLink RX0 15 "ShapeJudge$Book" "partCount" "[I" ∈ wsX0_hasPart := (List.mem_of_getElem? (i := 1) rfl)
def s_X0_hasPart (m : Mem) (b : Nat) (a1 : Int32) (a2 : Int32) : Option (Int32) :=
  (s_X0_hasShape m b a1).bind fun r2 => (if r2 = 0 then (some 0) else ((if a2 < 0 then (some 0) else (ck (zin a1 6 = true) ((if (m (b + 2) (Int32.toNatClampNeg a1)) ≤ a2 then (some 0) else ((if 6 ≤ a2 then (some 0) else (some 1)))))))))
set_option maxRecDepth 100000 in
set_option maxHeartbeats 4000000 in
theorem c_X0_hasPart (l : Launch) (w : ZW) {m : Mem} {b : Nat} {a1 : Int32} {a2 : Int32} {r9 : Int32} (hb : isb b) (hf : s_X0_hasPart m b a1 a2 = some r9) : zCi MX l w yX0_hasPart wsX0_hasPart rmX0_hasPart [.ref (w.2.1 b), .int a1, .int a2] m m r9 := by
  refine z_met_z MX_ok (own := RX0) (by decide +kernel) rfl rfl (Nat.le_of_ble_eq_true rfl) ?_
  intro K C hKw hKl hret
  subst hKw
  subst hKl
  unfold s_X0_hasPart at hf
  show zGo MX K m [(0, .ref ((zw K).2.1 b)), (1, .int a1), (2, .int a2)] 0 []
  refine z_aload_n C 0 dX0_hasPart_0 rfl rfl ?_
  refine z_iload_n C 1 dX0_hasPart_1 rfl rfl ?_
  obtain ⟨r2, hc1, hf⟩ := zb_el hf
  refine z_cVi C (c_X0_hasShape _ _ hb hc1) rfl gX0_hasPart_X0_hasShape rfl rfl zdX0_hasShape rfl (isb_k0 hb) (isb_L0 hb) rfl rfl ⟨Nat.le_of_ble_eq_true rfl, Nat.le_of_ble_eq_true rfl⟩ (Nat.le_of_ble_eq_true rfl) dX0_hasPart_2 rfl ?_
  refine z_if_eq (tgt := 32) C dX0_hasPart_5 (by decide) (fun c7 => ?_) (fun c7 => ?_)
  · replace hf := if_t c7 hf
    refine z_iconst C (v := 0) dX0_hasPart_32 rfl ?_
    cases hf
    exact hret _ _ dX0_hasPart_33 (Or.inl rfl)
  · replace hf := if_f c7 hf
    refine z_iload_n C 2 dX0_hasPart_8 rfl rfl ?_
    refine z_if_lt (tgt := 32) C dX0_hasPart_9 (by decide) (fun c6 => ?_) (fun c6 => ?_)
    · replace hf := if_t c6 hf
      refine z_iconst C (v := 0) dX0_hasPart_32 rfl ?_
      cases hf
      exact hret _ _ dX0_hasPart_33 (Or.inl rfl)
    · replace hf := if_f c6 hf
      refine z_iload_n C 2 dX0_hasPart_12 rfl rfl ?_
      refine z_aload_n C 0 dX0_hasPart_13 rfl rfl ?_
      refine z_getr C (t := b + 2) (isb_k0 hb) (isb_L0 hb) rfl 4 (Nat.le_of_ble_eq_true rfl) rfl kiX0_hasPart_X0 kfX0_hasPart_15 dX0_hasPart_14 ?_
      refine z_iload_n C 1 dX0_hasPart_17 rfl rfl ?_
      obtain ⟨hi3, hf⟩ := ck_el hf
      refine z_iald C (k := (b + 2)) (isb_k2 hb) (isb_L2 hb) hi3 dX0_hasPart_18 ?_
      refine z_icmp_ge (tgt := 32) C dX0_hasPart_19 (by decide) (fun c5 => ?_) (fun c5 => ?_)
      · replace hf := if_t c5 hf
        refine z_iconst C (v := 0) dX0_hasPart_32 rfl ?_
        cases hf
        exact hret _ _ dX0_hasPart_33 (Or.inl rfl)
      · replace hf := if_f c5 hf
        refine z_iload_n C 2 dX0_hasPart_22 rfl rfl ?_
        refine z_bipush C (v := 6) dX0_hasPart_23 rfl ?_
        refine z_icmp_ge (tgt := 32) C dX0_hasPart_25 (by decide) (fun c4 => ?_) (fun c4 => ?_)
        · replace hf := if_t c4 hf
          refine z_iconst C (v := 0) dX0_hasPart_32 rfl ?_
          cases hf
          exact hret _ _ dX0_hasPart_33 (Or.inl rfl)
        · replace hf := if_f c4 hf
          refine z_iconst C (v := 1) dX0_hasPart_28 rfl ?_
          refine z_goto (tgt := 33) C dX0_hasPart_29 (by decide) ?_
          cases hf
          exact hret _ _ dX0_hasPart_33 (Or.inr rfl)
theorem dX0_shapeOf_0 : decode cX0_shapeOf 0 = .ok (.iconst 0, 1) := by decide +kernel
theorem dX0_shapeOf_1 : decode cX0_shapeOf 1 = .ok (.istore_n 2, 1) := by decide +kernel
theorem dX0_shapeOf_2 : decode cX0_shapeOf 2 = .ok (.iload_n 2, 1) := by decide +kernel
theorem dX0_shapeOf_3 : decode cX0_shapeOf 3 = .ok (.aload_n 0, 1) := by decide +kernel
theorem dX0_shapeOf_4 : decode cX0_shapeOf 4 = .ok (.getfield 52, 3) := by decide +kernel
theorem dX0_shapeOf_7 : decode cX0_shapeOf 7 = .ok (.if_icmp .ge 21, 3) := by decide +kernel
theorem dX0_shapeOf_10 : decode cX0_shapeOf 10 = .ok (.aload_n 0, 1) := by decide +kernel
theorem dX0_shapeOf_11 : decode cX0_shapeOf 11 = .ok (.getfield 9, 3) := by decide +kernel
theorem dX0_shapeOf_14 : decode cX0_shapeOf 14 = .ok (.iload_n 2, 1) := by decide +kernel
theorem dX0_shapeOf_15 : decode cX0_shapeOf 15 = .ok (.iaload, 1) := by decide +kernel
theorem dX0_shapeOf_16 : decode cX0_shapeOf 16 = .ok (.iload_n 1, 1) := by decide +kernel
theorem dX0_shapeOf_17 : decode cX0_shapeOf 17 = .ok (.if_icmp .ne 5, 3) := by decide +kernel
theorem dX0_shapeOf_20 : decode cX0_shapeOf 20 = .ok (.iload_n 2, 1) := by decide +kernel
theorem dX0_shapeOf_21 : decode cX0_shapeOf 21 = .ok (.ireturn, 1) := by decide +kernel
theorem dX0_shapeOf_22 : decode cX0_shapeOf 22 = .ok (.iinc 2 1, 3) := by decide +kernel
theorem dX0_shapeOf_25 : decode cX0_shapeOf 25 = .ok (.goto (-23), 3) := by decide +kernel
theorem dX0_shapeOf_28 : decode cX0_shapeOf 28 = .ok (.iconst (-1), 1) := by decide +kernel
theorem dX0_shapeOf_29 : decode cX0_shapeOf 29 = .ok (.ireturn, 1) := by decide +kernel
def rmX0_shapeOf : Room := { frames := 0, cells := 0, slots := 0, locals := 0 }
theorem zdX0_shapeOf : yX0_shapeOf.cls = RX0 ∧ yX0_shapeOf.cls ≠ "java/lang/invoke/MethodHandle" ∧ yX0_shapeOf.cls ≠ "java/lang/invoke/VarHandle" ∧ (parseMethodDescriptor yX0_shapeOf.desc).map (fun d => d.parameters.length) = some 1 := by decide +kernel
theorem kiX0_shapeOf_X0 : ∀ w ∈ wsX00, w ∈ wsX0_shapeOf := fun _ h => (List.mem_cons_of_mem _ (List.mem_append_right _ h))
theorem kfX0_shapeOf_52 : Cond.fieldLink RX0 52 "ShapeJudge$Book" "shapeCount" "I" ∈ wsX0_shapeOf := (List.mem_of_getElem? (i := 1) rfl)
theorem kfX0_shapeOf_9 : Cond.fieldLink RX0 9 "ShapeJudge$Book" "word" "[I" ∈ wsX0_shapeOf := (List.mem_of_getElem? (i := 2) rfl)
def t_X0_shapeOf_2 (m : Mem) (b : Nat) (a1 : Int32) (i1 : Int32) : Option ((Int32) ⊕ (Int32)) :=
  (if (m b 0) ≤ i1 then (some (.inr (-1))) else (ck (zin i1 6 = true) ((if (m (b + 1) (Int32.toNatClampNeg i1)) = a1 then (some (.inr i1)) else (bn (i1 + 1) fun x3 => some (.inl x3))))))
def l_X0_shapeOf_2 (m : Mem) (b : Nat) (a1 : Int32) (n : Nat) (i1 : Int32) : Option (Int32) := zlp n (fun a => t_X0_shapeOf_2 m b a1 a) i1
def s_X0_shapeOf (m : Mem) (b : Nat) (a1 : Int32) : Option (Int32) :=
  l_X0_shapeOf_2 m b a1 FU 0
set_option maxRecDepth 100000 in
set_option maxHeartbeats 4000000 in
theorem w_X0_shapeOf_2 {K : ZK} (C : zOK MX K cX0_shapeOf 3 (some .int) RX0 wsX0_shapeOf rmX0_shapeOf) {m : Mem} {b : Nat} {a1 : Int32} (hb : isb b) {r9 : Int32} (hret : zRi MX K cX0_shapeOf m r9) : ∀ (n : Nat) (i1 : Int32), l_X0_shapeOf_2 m b a1 n i1 = some r9 → zGo MX K m [(0, .ref ((zw K).2.1 b)), (1, .int a1), (2, .int i1)] 2 [] := by
  intro n
  induction n with
  | zero =>
    intro i1 hf
    cases hf
  | succ n ih =>
    intro i1 hf
    obtain ⟨z, hf, hz⟩ := zlp_el hf
    replace hf : t_X0_shapeOf_2 m b a1 i1 = some z := hf
    unfold t_X0_shapeOf_2 at hf
    refine z_iload_n C 2 dX0_shapeOf_2 rfl rfl ?_
    refine z_aload_n C 0 dX0_shapeOf_3 rfl rfl ?_
    refine z_geti C (isb_k0 hb) (isb_L0 hb) rfl 0 (Nat.le_of_ble_eq_true rfl) rfl kiX0_shapeOf_X0 kfX0_shapeOf_52 dX0_shapeOf_4 ?_
    refine z_icmp_ge (tgt := 28) C dX0_shapeOf_7 (by decide) (fun c5 => ?_) (fun c5 => ?_)
    · replace hf := if_t c5 hf
      refine z_iconst C (v := (-1)) dX0_shapeOf_28 (by decide) ?_
      cases hf
      replace hz := zlz_r hz
      cases hz
      exact hret _ _ dX0_shapeOf_29
    · replace hf := if_f c5 hf
      refine z_aload_n C 0 dX0_shapeOf_10 rfl rfl ?_
      refine z_getr C (t := b + 1) (isb_k0 hb) (isb_L0 hb) rfl 3 (Nat.le_of_ble_eq_true rfl) rfl kiX0_shapeOf_X0 kfX0_shapeOf_9 dX0_shapeOf_11 ?_
      refine z_iload_n C 2 dX0_shapeOf_14 rfl rfl ?_
      obtain ⟨hi2, hf⟩ := ck_el hf
      refine z_iald C (k := (b + 1)) (isb_k1 hb) (isb_L1 hb) hi2 dX0_shapeOf_15 ?_
      refine z_iload_n C 1 dX0_shapeOf_16 rfl rfl ?_
      refine z_icmp_ne (tgt := 22) C dX0_shapeOf_17 (by decide) (fun c4 => ?_) (fun c4 => ?_)
      · replace hf := if_f c4 hf
        obtain ⟨x3, e_x3⟩ : ∃ y : Int32, y = i1 + 1 := ⟨_, rfl⟩
        replace hf := bn_to e_x3 hf
        refine z_iinc C (lv2 := [(0, .ref ((zw K).2.1 b)), (1, .int a1), (2, .int x3)]) 2 [1, 2, 0] dX0_shapeOf_22 rfl rfl (Nat.le_of_ble_eq_true rfl) e_x3 rfl ?_
        refine z_goto (tgt := 2) C dX0_shapeOf_25 (by decide) ?_
        cases hf
        exact z_sub [0, 1, 2] rfl (ih x3 hz)
      · replace hf := if_t c4 hf
        refine z_iload_n C 2 dX0_shapeOf_20 rfl rfl ?_
        cases hf
        replace hz := zlz_r hz
        cases hz
        exact hret _ _ dX0_shapeOf_21
set_option maxRecDepth 100000 in
set_option maxHeartbeats 4000000 in
theorem c_X0_shapeOf (l : Launch) (w : ZW) {m : Mem} {b : Nat} {a1 : Int32} {r9 : Int32} (hb : isb b) (hf : s_X0_shapeOf m b a1 = some r9) : zCi MX l w yX0_shapeOf wsX0_shapeOf rmX0_shapeOf [.ref (w.2.1 b), .int a1] m m r9 := by
  refine z_met_i MX_ok (own := RX0) (by decide +kernel) rfl rfl (Nat.le_of_ble_eq_true rfl) ?_
  intro K C hKw hKl hret
  subst hKw
  subst hKl
  unfold s_X0_shapeOf at hf
  show zGo MX K m [(0, .ref ((zw K).2.1 b)), (1, .int a1)] 0 []
  refine z_iconst C (v := 0) dX0_shapeOf_0 rfl ?_
  refine z_istore_n C (lv2 := [(0, .ref ((zw K).2.1 b)), (1, .int a1), (2, .int 0)]) [1, 2, 0] dX0_shapeOf_1 rfl (Nat.le_of_ble_eq_true rfl) rfl ?_
  exact z_sub [0, 1, 2] rfl (w_X0_shapeOf_2 C hb hret _ _ hf)
set_option maxRecDepth 20000 in
theorem ggX0_linkReferences_X0_refers : GoodIn wsX0_linkReferences wsX0_refers := goodIn_sub (List.forall_mem_cons.mpr ⟨(List.mem_of_getElem? (i := 10) rfl), (List.forall_mem_append.mpr ⟨(List.forall_mem_cons.mpr ⟨(List.mem_of_getElem? (i := 11) rfl), (fun _ h => absurd h List.not_mem_nil)⟩), (fun _ h => (List.mem_cons_of_mem _ (List.mem_append_right _ h)))⟩)⟩) (by decide +kernel)
set_option maxRecDepth 20000 in
theorem gX0_linkReferences_X0_refers : GoodIn wsX0_linkReferences (wsV RX0 74 RX0 yX0_refers wsX0_refers) := goodIn_app (goodIn_sub (List.forall_mem_cons.mpr ⟨(List.mem_of_getElem? (i := 6) rfl), (List.forall_mem_cons.mpr ⟨(List.mem_of_getElem? (i := 7) rfl), (List.forall_mem_cons.mpr ⟨(List.mem_of_getElem? (i := 8) rfl), (List.forall_mem_cons.mpr ⟨(List.mem_of_getElem? (i := 9) rfl), (fun _ h => absurd h List.not_mem_nil)⟩)⟩)⟩)⟩) (by decide +kernel)) ggX0_linkReferences_X0_refers
set_option maxRecDepth 20000 in
theorem ggX0_linkReferences_X0_shapeOf : GoodIn wsX0_linkReferences wsX0_shapeOf := goodIn_sub (List.forall_mem_cons.mpr ⟨(List.mem_of_getElem? (i := 15) rfl), (List.forall_mem_append.mpr ⟨(List.forall_mem_cons.mpr ⟨(List.mem_of_getElem? (i := 1) rfl), (List.forall_mem_cons.mpr ⟨(List.mem_of_getElem? (i := 16) rfl), (fun _ h => absurd h List.not_mem_nil)⟩)⟩), (fun _ h => (List.mem_cons_of_mem _ (List.mem_append_right _ h)))⟩)⟩) (by decide +kernel)
set_option maxRecDepth 20000 in
theorem gX0_linkReferences_X0_shapeOf : GoodIn wsX0_linkReferences (wsV RX0 77 RX0 yX0_shapeOf wsX0_shapeOf) := goodIn_app (goodIn_sub (List.forall_mem_cons.mpr ⟨(List.mem_of_getElem? (i := 12) rfl), (List.forall_mem_cons.mpr ⟨(List.mem_of_getElem? (i := 13) rfl), (List.forall_mem_cons.mpr ⟨(List.mem_of_getElem? (i := 14) rfl), (List.forall_mem_cons.mpr ⟨(List.mem_of_getElem? (i := 9) rfl), (fun _ h => absurd h List.not_mem_nil)⟩)⟩)⟩)⟩) (by decide +kernel)) ggX0_linkReferences_X0_shapeOf
set_option maxRecDepth 100000 in
theorem daX0_linkReferences : ∀ q ∈ ([(0, .iconst 0, 1), (1, .istore_n 1, 1), (2, .iload_n 1, 1), (3, .aload_n 0, 1), (4, .getfield 52, 3), (7, .if_icmp .ge 87, 3), (10, .iconst 0, 1), (11, .istore_n 2, 1), (12, .iload_n 2, 1), (13, .aload_n 0, 1), (14, .getfield 15, 3), (17, .iload_n 1, 1), (18, .iaload, 1), (19, .if_icmp .ge 69, 3), (22, .iload_n 1, 1), (23, .bipush 6, 2), (25, .imul, 1), (26, .iload_n 2, 1), (27, .iadd, 1), (28, .istore_n 3, 1), (29, .aload_n 0, 1), (30, .iload_n 3, 1), (31, .invokevirtual 74, 3), (34, .ifCond .eq 48, 3), (37, .aload_n 0, 1), (38, .aload_n 0, 1), (39, .getfield 43, 3), (42, .iload_n 3, 1), (43, .iaload, 1), (44, .invokevirtual 77, 3), (47, .istore 4, 2), (49, .iload 4, 2), (51, .ifCond .ge 10, 3), (54, .aload_n 0, 1), (55, .getfield 49, 3), (58, .iload_n 3, 1), (59, .iaload, 1), (60, .ireturn, 1), (61, .aload_n 0, 1), (62, .getfield 43, 3), (65, .iload_n 3, 1), (66, .iload 4, 2), (68, .iastore, 1), (69, .aload_n 0, 1), (70, .getfield 25, 3), (73, .iload_n 1, 1), (74, .dup2, 1), (75, .iaload, 1), (76, .iconst 1, 1), (77, .iload 4, 2), (79, .ishl, 1), (80, .ior, 1), (81, .iastore, 1), (82, .iinc 2 1, 3), (85, .goto (-73), 3), (88, .iinc 1 1, 3), (91, .goto (-89), 3), (94, .iconst (-1), 1), (95, .ireturn, 1)] : List (Nat × Instr × Nat)), decode cX0_linkReferences q.1 = .ok q.2 := by decide +kernel
theorem dX0_linkReferences_0 : decode cX0_linkReferences 0 = .ok (.iconst 0, 1) := daX0_linkReferences (0, .iconst 0, 1) (List.mem_of_getElem? (i := 0) rfl)
theorem dX0_linkReferences_1 : decode cX0_linkReferences 1 = .ok (.istore_n 1, 1) := daX0_linkReferences (1, .istore_n 1, 1) (List.mem_of_getElem? (i := 1) rfl)
theorem dX0_linkReferences_2 : decode cX0_linkReferences 2 = .ok (.iload_n 1, 1) := daX0_linkReferences (2, .iload_n 1, 1) (List.mem_of_getElem? (i := 2) rfl)
theorem dX0_linkReferences_3 : decode cX0_linkReferences 3 = .ok (.aload_n 0, 1) := daX0_linkReferences (3, .aload_n 0, 1) (List.mem_of_getElem? (i := 3) rfl)
theorem dX0_linkReferences_4 : decode cX0_linkReferences 4 = .ok (.getfield 52, 3) := daX0_linkReferences (4, .getfield 52, 3) (List.mem_of_getElem? (i := 4) rfl)
theorem dX0_linkReferences_7 : decode cX0_linkReferences 7 = .ok (.if_icmp .ge 87, 3) := daX0_linkReferences (7, .if_icmp .ge 87, 3) (List.mem_of_getElem? (i := 5) rfl)
theorem dX0_linkReferences_10 : decode cX0_linkReferences 10 = .ok (.iconst 0, 1) := daX0_linkReferences (10, .iconst 0, 1) (List.mem_of_getElem? (i := 6) rfl)
theorem dX0_linkReferences_11 : decode cX0_linkReferences 11 = .ok (.istore_n 2, 1) := daX0_linkReferences (11, .istore_n 2, 1) (List.mem_of_getElem? (i := 7) rfl)
theorem dX0_linkReferences_12 : decode cX0_linkReferences 12 = .ok (.iload_n 2, 1) := daX0_linkReferences (12, .iload_n 2, 1) (List.mem_of_getElem? (i := 8) rfl)
theorem dX0_linkReferences_13 : decode cX0_linkReferences 13 = .ok (.aload_n 0, 1) := daX0_linkReferences (13, .aload_n 0, 1) (List.mem_of_getElem? (i := 9) rfl)
theorem dX0_linkReferences_14 : decode cX0_linkReferences 14 = .ok (.getfield 15, 3) := daX0_linkReferences (14, .getfield 15, 3) (List.mem_of_getElem? (i := 10) rfl)
theorem dX0_linkReferences_17 : decode cX0_linkReferences 17 = .ok (.iload_n 1, 1) := daX0_linkReferences (17, .iload_n 1, 1) (List.mem_of_getElem? (i := 11) rfl)
theorem dX0_linkReferences_18 : decode cX0_linkReferences 18 = .ok (.iaload, 1) := daX0_linkReferences (18, .iaload, 1) (List.mem_of_getElem? (i := 12) rfl)
theorem dX0_linkReferences_19 : decode cX0_linkReferences 19 = .ok (.if_icmp .ge 69, 3) := daX0_linkReferences (19, .if_icmp .ge 69, 3) (List.mem_of_getElem? (i := 13) rfl)
theorem dX0_linkReferences_22 : decode cX0_linkReferences 22 = .ok (.iload_n 1, 1) := daX0_linkReferences (22, .iload_n 1, 1) (List.mem_of_getElem? (i := 14) rfl)
theorem dX0_linkReferences_23 : decode cX0_linkReferences 23 = .ok (.bipush 6, 2) := daX0_linkReferences (23, .bipush 6, 2) (List.mem_of_getElem? (i := 15) rfl)
theorem dX0_linkReferences_25 : decode cX0_linkReferences 25 = .ok (.imul, 1) := daX0_linkReferences (25, .imul, 1) (List.mem_of_getElem? (i := 16) rfl)
theorem dX0_linkReferences_26 : decode cX0_linkReferences 26 = .ok (.iload_n 2, 1) := daX0_linkReferences (26, .iload_n 2, 1) (List.mem_of_getElem? (i := 17) rfl)
theorem dX0_linkReferences_27 : decode cX0_linkReferences 27 = .ok (.iadd, 1) := daX0_linkReferences (27, .iadd, 1) (List.mem_of_getElem? (i := 18) rfl)
theorem dX0_linkReferences_28 : decode cX0_linkReferences 28 = .ok (.istore_n 3, 1) := daX0_linkReferences (28, .istore_n 3, 1) (List.mem_of_getElem? (i := 19) rfl)
theorem dX0_linkReferences_29 : decode cX0_linkReferences 29 = .ok (.aload_n 0, 1) := daX0_linkReferences (29, .aload_n 0, 1) (List.mem_of_getElem? (i := 20) rfl)
theorem dX0_linkReferences_30 : decode cX0_linkReferences 30 = .ok (.iload_n 3, 1) := daX0_linkReferences (30, .iload_n 3, 1) (List.mem_of_getElem? (i := 21) rfl)
theorem dX0_linkReferences_31 : decode cX0_linkReferences 31 = .ok (.invokevirtual 74, 3) := daX0_linkReferences (31, .invokevirtual 74, 3) (List.mem_of_getElem? (i := 22) rfl)
theorem dX0_linkReferences_34 : decode cX0_linkReferences 34 = .ok (.ifCond .eq 48, 3) := daX0_linkReferences (34, .ifCond .eq 48, 3) (List.mem_of_getElem? (i := 23) rfl)
theorem dX0_linkReferences_37 : decode cX0_linkReferences 37 = .ok (.aload_n 0, 1) := daX0_linkReferences (37, .aload_n 0, 1) (List.mem_of_getElem? (i := 24) rfl)
theorem dX0_linkReferences_38 : decode cX0_linkReferences 38 = .ok (.aload_n 0, 1) := daX0_linkReferences (38, .aload_n 0, 1) (List.mem_of_getElem? (i := 25) rfl)
theorem dX0_linkReferences_39 : decode cX0_linkReferences 39 = .ok (.getfield 43, 3) := daX0_linkReferences (39, .getfield 43, 3) (List.mem_of_getElem? (i := 26) rfl)
theorem dX0_linkReferences_42 : decode cX0_linkReferences 42 = .ok (.iload_n 3, 1) := daX0_linkReferences (42, .iload_n 3, 1) (List.mem_of_getElem? (i := 27) rfl)
theorem dX0_linkReferences_43 : decode cX0_linkReferences 43 = .ok (.iaload, 1) := daX0_linkReferences (43, .iaload, 1) (List.mem_of_getElem? (i := 28) rfl)
theorem dX0_linkReferences_44 : decode cX0_linkReferences 44 = .ok (.invokevirtual 77, 3) := daX0_linkReferences (44, .invokevirtual 77, 3) (List.mem_of_getElem? (i := 29) rfl)
theorem dX0_linkReferences_47 : decode cX0_linkReferences 47 = .ok (.istore 4, 2) := daX0_linkReferences (47, .istore 4, 2) (List.mem_of_getElem? (i := 30) rfl)
theorem dX0_linkReferences_49 : decode cX0_linkReferences 49 = .ok (.iload 4, 2) := daX0_linkReferences (49, .iload 4, 2) (List.mem_of_getElem? (i := 31) rfl)
theorem dX0_linkReferences_51 : decode cX0_linkReferences 51 = .ok (.ifCond .ge 10, 3) := daX0_linkReferences (51, .ifCond .ge 10, 3) (List.mem_of_getElem? (i := 32) rfl)
theorem dX0_linkReferences_54 : decode cX0_linkReferences 54 = .ok (.aload_n 0, 1) := daX0_linkReferences (54, .aload_n 0, 1) (List.mem_of_getElem? (i := 33) rfl)
theorem dX0_linkReferences_55 : decode cX0_linkReferences 55 = .ok (.getfield 49, 3) := daX0_linkReferences (55, .getfield 49, 3) (List.mem_of_getElem? (i := 34) rfl)
theorem dX0_linkReferences_58 : decode cX0_linkReferences 58 = .ok (.iload_n 3, 1) := daX0_linkReferences (58, .iload_n 3, 1) (List.mem_of_getElem? (i := 35) rfl)
theorem dX0_linkReferences_59 : decode cX0_linkReferences 59 = .ok (.iaload, 1) := daX0_linkReferences (59, .iaload, 1) (List.mem_of_getElem? (i := 36) rfl)
theorem dX0_linkReferences_60 : decode cX0_linkReferences 60 = .ok (.ireturn, 1) := daX0_linkReferences (60, .ireturn, 1) (List.mem_of_getElem? (i := 37) rfl)
theorem dX0_linkReferences_61 : decode cX0_linkReferences 61 = .ok (.aload_n 0, 1) := daX0_linkReferences (61, .aload_n 0, 1) (List.mem_of_getElem? (i := 38) rfl)
theorem dX0_linkReferences_62 : decode cX0_linkReferences 62 = .ok (.getfield 43, 3) := daX0_linkReferences (62, .getfield 43, 3) (List.mem_of_getElem? (i := 39) rfl)
theorem dX0_linkReferences_65 : decode cX0_linkReferences 65 = .ok (.iload_n 3, 1) := daX0_linkReferences (65, .iload_n 3, 1) (List.mem_of_getElem? (i := 40) rfl)
theorem dX0_linkReferences_66 : decode cX0_linkReferences 66 = .ok (.iload 4, 2) := daX0_linkReferences (66, .iload 4, 2) (List.mem_of_getElem? (i := 41) rfl)
theorem dX0_linkReferences_68 : decode cX0_linkReferences 68 = .ok (.iastore, 1) := daX0_linkReferences (68, .iastore, 1) (List.mem_of_getElem? (i := 42) rfl)
theorem dX0_linkReferences_69 : decode cX0_linkReferences 69 = .ok (.aload_n 0, 1) := daX0_linkReferences (69, .aload_n 0, 1) (List.mem_of_getElem? (i := 43) rfl)
theorem dX0_linkReferences_70 : decode cX0_linkReferences 70 = .ok (.getfield 25, 3) := daX0_linkReferences (70, .getfield 25, 3) (List.mem_of_getElem? (i := 44) rfl)
theorem dX0_linkReferences_73 : decode cX0_linkReferences 73 = .ok (.iload_n 1, 1) := daX0_linkReferences (73, .iload_n 1, 1) (List.mem_of_getElem? (i := 45) rfl)
theorem dX0_linkReferences_74 : decode cX0_linkReferences 74 = .ok (.dup2, 1) := daX0_linkReferences (74, .dup2, 1) (List.mem_of_getElem? (i := 46) rfl)
theorem dX0_linkReferences_75 : decode cX0_linkReferences 75 = .ok (.iaload, 1) := daX0_linkReferences (75, .iaload, 1) (List.mem_of_getElem? (i := 47) rfl)
theorem dX0_linkReferences_76 : decode cX0_linkReferences 76 = .ok (.iconst 1, 1) := daX0_linkReferences (76, .iconst 1, 1) (List.mem_of_getElem? (i := 48) rfl)
theorem dX0_linkReferences_77 : decode cX0_linkReferences 77 = .ok (.iload 4, 2) := daX0_linkReferences (77, .iload 4, 2) (List.mem_of_getElem? (i := 49) rfl)
theorem dX0_linkReferences_79 : decode cX0_linkReferences 79 = .ok (.ishl, 1) := daX0_linkReferences (79, .ishl, 1) (List.mem_of_getElem? (i := 50) rfl)
theorem dX0_linkReferences_80 : decode cX0_linkReferences 80 = .ok (.ior, 1) := daX0_linkReferences (80, .ior, 1) (List.mem_of_getElem? (i := 51) rfl)
theorem dX0_linkReferences_81 : decode cX0_linkReferences 81 = .ok (.iastore, 1) := daX0_linkReferences (81, .iastore, 1) (List.mem_of_getElem? (i := 52) rfl)
theorem dX0_linkReferences_82 : decode cX0_linkReferences 82 = .ok (.iinc 2 1, 3) := daX0_linkReferences (82, .iinc 2 1, 3) (List.mem_of_getElem? (i := 53) rfl)
theorem dX0_linkReferences_85 : decode cX0_linkReferences 85 = .ok (.goto (-73), 3) := daX0_linkReferences (85, .goto (-73), 3) (List.mem_of_getElem? (i := 54) rfl)
theorem dX0_linkReferences_88 : decode cX0_linkReferences 88 = .ok (.iinc 1 1, 3) := daX0_linkReferences (88, .iinc 1 1, 3) (List.mem_of_getElem? (i := 55) rfl)
theorem dX0_linkReferences_91 : decode cX0_linkReferences 91 = .ok (.goto (-89), 3) := daX0_linkReferences (91, .goto (-89), 3) (List.mem_of_getElem? (i := 56) rfl)
theorem dX0_linkReferences_94 : decode cX0_linkReferences 94 = .ok (.iconst (-1), 1) := daX0_linkReferences (94, .iconst (-1), 1) (List.mem_of_getElem? (i := 57) rfl)
theorem dX0_linkReferences_95 : decode cX0_linkReferences 95 = .ok (.ireturn, 1) := daX0_linkReferences (95, .ireturn, 1) (List.mem_of_getElem? (i := 58) rfl)
def rmX0_linkReferences : Room := { frames := 1, cells := 0, slots := 0, locals := 22 }
theorem zdX0_linkReferences : yX0_linkReferences.cls = RX0 ∧ yX0_linkReferences.cls ≠ "java/lang/invoke/MethodHandle" ∧ yX0_linkReferences.cls ≠ "java/lang/invoke/VarHandle" ∧ (parseMethodDescriptor yX0_linkReferences.desc).map (fun d => d.parameters.length) = some 0 := by decide +kernel
theorem kiX0_linkReferences_X0 : ∀ w ∈ wsX00, w ∈ wsX0_linkReferences := fun _ h => (List.mem_cons_of_mem _ (List.mem_append_right _ h))
theorem kfX0_linkReferences_52 : Cond.fieldLink RX0 52 "ShapeJudge$Book" "shapeCount" "I" ∈ wsX0_linkReferences := (List.mem_of_getElem? (i := 1) rfl)
theorem kfX0_linkReferences_15 : Cond.fieldLink RX0 15 "ShapeJudge$Book" "partCount" "[I" ∈ wsX0_linkReferences := (List.mem_of_getElem? (i := 2) rfl)
theorem kfX0_linkReferences_43 : Cond.fieldLink RX0 43 "ShapeJudge$Book" "partFirst" "[I" ∈ wsX0_linkReferences := (List.mem_of_getElem? (i := 3) rfl)
theorem kfX0_linkReferences_25 : Cond.fieldLink RX0 25 "ShapeJudge$Book" "reach" "[I" ∈ wsX0_linkReferences := (List.mem_of_getElem? (i := 5) rfl)
theorem kfX0_linkReferences_49 : Cond.fieldLink RX0 49 "ShapeJudge$Book" "partPlace" "[I" ∈ wsX0_linkReferences := (List.mem_of_getElem? (i := 4) rfl)
def t_X0_linkReferences_12 (b : Nat) (i1 : Int32) (i3 : Int32) (m4 : Mem) : Option ((Int32 × Mem) ⊕ ((Int32 × Mem) ⊕ (Mem))) :=
  ck (zin i1 6 = true) ((if (m4 (b + 2) (Int32.toNatClampNeg i1)) ≤ i3 then (some (.inr (.inr m4))) else (bn ((i1 * 6) + i3) fun x6 => (s_X0_refers m4 b x6).bind fun r8 => (if r8 = 0 then (bn (i3 + 1) fun x9 => some (.inl (x9, m4))) else (ck (zin x6 36 = true) ((s_X0_shapeOf m4 b (m4 (b + 11) (Int32.toNatClampNeg x6))).bind fun r12 => (if 0 ≤ r12 then (ck (zin x6 36 = true) (bn (sto m4 (b + 11) (Int32.toNatClampNeg x6) r12) fun m14 => ck (zin i1 6 = true) (ck (zin i1 6 = true) (bn (sto m14 (b + 5) (Int32.toNatClampNeg i1) ((m14 (b + 5) (Int32.toNatClampNeg i1)) ||| ((1 : Int32) <<< (r12 &&& 31)))) fun m17 => bn (i3 + 1) fun x18 => some (.inl (x18, m17)))))) else (ck (zin x6 36 = true) (some (.inr (.inl ((m4 (b + 13) (Int32.toNatClampNeg x6)), m4))))))))))))
def l_X0_linkReferences_12 (b : Nat) (i1 : Int32) (n : Nat) (i3 : Int32) (m4 : Mem) : Option ((Int32 × Mem) ⊕ (Mem)) := zlp n (fun a => t_X0_linkReferences_12 b i1 a.1 a.2) (i3, m4)
def t_X0_linkReferences_2 (b : Nat) (i1 : Int32) (m2 : Mem) : Option ((Int32 × Mem) ⊕ (Int32 × Mem)) :=
  (if (m2 b 0) ≤ i1 then (some (.inr ((-1), m2))) else ((zbS (l_X0_linkReferences_12 b i1 FU 0 m2) (fun r => some (.inr r)) (fun m23 => bn (i1 + 1) fun x24 => some (.inl (x24, m23))))))
def l_X0_linkReferences_2 (b : Nat) (n : Nat) (i1 : Int32) (m2 : Mem) : Option (Int32 × Mem) := zlp n (fun a => t_X0_linkReferences_2 b a.1 a.2) (i1, m2)
def s_X0_linkReferences (m : Mem) (b : Nat) : Option (Int32 × Mem) :=
  l_X0_linkReferences_2 b FU 0 m
set_option maxRecDepth 100000 in
set_option maxHeartbeats 4000000 in
theorem w_X0_linkReferences_12 {K : ZK} (C : zOK MX K cX0_linkReferences 5 (some .int) RX0 wsX0_linkReferences rmX0_linkReferences) {b : Nat} {i1 : Int32} (hb : isb b) {o : (Int32 × Mem) ⊕ (Mem)} (hret : ∀ r, o = .inl r → zRi MX K cX0_linkReferences r.2 r.1) (hk : ∀ q0, o = .inr q0 → zGo MX K q0 [(0, .ref ((zw K).2.1 b)), (1, .int i1)] 88 []) : ∀ (n : Nat) (i3 : Int32) (m4 : Mem), l_X0_linkReferences_12 b i1 n i3 m4 = some o → zGo MX K m4 [(0, .ref ((zw K).2.1 b)), (1, .int i1), (2, .int i3)] 12 [] := by
  intro n
  induction n with
  | zero =>
    intro i3 m4 hf
    cases hf
  | succ n ih =>
    intro i3 m4 hf
    obtain ⟨z, hf, hz⟩ := zlp_el hf
    replace hf : t_X0_linkReferences_12 b i1 i3 m4 = some z := hf
    unfold t_X0_linkReferences_12 at hf
    refine z_iload_n C 2 dX0_linkReferences_12 rfl rfl ?_
    refine z_aload_n C 0 dX0_linkReferences_13 rfl rfl ?_
    refine z_getr C (t := b + 2) (isb_k0 hb) (isb_L0 hb) rfl 4 (Nat.le_of_ble_eq_true rfl) rfl kiX0_linkReferences_X0 kfX0_linkReferences_15 dX0_linkReferences_14 ?_
    refine z_iload_n C 1 dX0_linkReferences_17 rfl rfl ?_
    obtain ⟨hi5, hf⟩ := ck_el hf
    refine z_iald C (k := (b + 2)) (isb_k2 hb) (isb_L2 hb) hi5 dX0_linkReferences_18 ?_
    refine z_icmp_ge (tgt := 88) C dX0_linkReferences_19 (by decide) (fun c22 => ?_) (fun c22 => ?_)
    · replace hf := if_t c22 hf
      cases hf
      replace hz := zlz_r hz
      cases hz
      exact z_sub [0, 1] rfl (hk _ rfl)
    · replace hf := if_f c22 hf
      refine z_iload_n C 1 dX0_linkReferences_22 rfl rfl ?_
      refine z_bipush C (v := 6) dX0_linkReferences_23 rfl ?_
      refine z_imul C dX0_linkReferences_25 ?_
      refine z_iload_n C 2 dX0_linkReferences_26 rfl rfl ?_
      refine z_iadd C dX0_linkReferences_27 ?_
      refine z_topi (fun x6 e_x6 => ?_)
      replace hf := bn_to e_x6 hf
      refine z_istore_n C (lv2 := [(0, .ref ((zw K).2.1 b)), (1, .int i1), (2, .int i3), (3, .int x6)]) [1, 2, 3, 0] dX0_linkReferences_28 rfl (Nat.le_of_ble_eq_true rfl) rfl ?_
      refine z_aload_n C 0 dX0_linkReferences_29 rfl rfl ?_
      refine z_iload_n C 3 dX0_linkReferences_30 rfl rfl ?_
      obtain ⟨r8, hc7, hf⟩ := zb_el hf
      refine z_cVi C (c_X0_refers _ _ hb hc7) rfl gX0_linkReferences_X0_refers rfl rfl zdX0_refers rfl (isb_k0 hb) (isb_L0 hb) rfl rfl ⟨Nat.le_of_ble_eq_true rfl, Nat.le_of_ble_eq_true rfl⟩ (Nat.le_of_ble_eq_true rfl) dX0_linkReferences_31 rfl ?_
      refine z_if_eq (tgt := 82) C dX0_linkReferences_34 (by decide) (fun c21 => ?_) (fun c21 => ?_)
      · replace hf := if_t c21 hf
        obtain ⟨x9, e_x9⟩ : ∃ y : Int32, y = i3 + 1 := ⟨_, rfl⟩
        replace hf := bn_to e_x9 hf
        refine z_iinc C (lv2 := [(0, .ref ((zw K).2.1 b)), (1, .int i1), (2, .int x9), (3, .int x6)]) 2 [1, 2, 0, 3] dX0_linkReferences_82 rfl rfl (Nat.le_of_ble_eq_true rfl) e_x9 rfl ?_
        refine z_goto (tgt := 12) C dX0_linkReferences_85 (by decide) ?_
        cases hf
        exact z_sub [0, 1, 2] rfl (ih x9 m4 hz)
      · replace hf := if_f c21 hf
        refine z_aload_n C 0 dX0_linkReferences_37 rfl rfl ?_
        refine z_aload_n C 0 dX0_linkReferences_38 rfl rfl ?_
        refine z_getr C (t := b + 11) (isb_k0 hb) (isb_L0 hb) rfl 13 (Nat.le_of_ble_eq_true rfl) rfl kiX0_linkReferences_X0 kfX0_linkReferences_43 dX0_linkReferences_39 ?_
        refine z_iload_n C 3 dX0_linkReferences_42 rfl rfl ?_
        obtain ⟨hi10, hf⟩ := ck_el hf
        refine z_iald C (k := (b + 11)) (isb_k11 hb) (isb_L11 hb) hi10 dX0_linkReferences_43 ?_
        obtain ⟨r12, hc11, hf⟩ := zb_el hf
        refine z_cVi C (c_X0_shapeOf _ _ hb hc11) rfl gX0_linkReferences_X0_shapeOf rfl rfl zdX0_shapeOf rfl (isb_k0 hb) (isb_L0 hb) rfl rfl ⟨Nat.le_of_ble_eq_true rfl, Nat.le_of_ble_eq_true rfl⟩ (Nat.le_of_ble_eq_true rfl) dX0_linkReferences_44 rfl ?_
        refine z_istore C (lv2 := [(0, .ref ((zw K).2.1 b)), (1, .int i1), (2, .int i3), (3, .int x6), (4, .int r12)]) [1, 2, 3, 4, 0] dX0_linkReferences_47 (Nat.le_of_ble_eq_true rfl) rfl ?_
        refine z_iload C 4 dX0_linkReferences_49 rfl ?_
        refine z_if_ge (tgt := 61) C dX0_linkReferences_51 (by decide) (fun c20 => ?_) (fun c20 => ?_)
        · replace hf := if_t c20 hf
          refine z_aload_n C 0 dX0_linkReferences_61 rfl rfl ?_
          refine z_getr C (t := b + 11) (isb_k0 hb) (isb_L0 hb) rfl 13 (Nat.le_of_ble_eq_true rfl) rfl kiX0_linkReferences_X0 kfX0_linkReferences_43 dX0_linkReferences_62 ?_
          refine z_iload_n C 3 dX0_linkReferences_65 rfl rfl ?_
          refine z_iload C 4 dX0_linkReferences_66 rfl ?_
          obtain ⟨hi13, hf⟩ := ck_el hf
          refine z_iast C (k := (b + 11)) (isb_k11 hb) (isb_L11 hb) hi13 dX0_linkReferences_68 ?_
          refine z_nm (fun m14 e_m14 => ?_)
          replace hf := bn_to e_m14 hf
          refine z_aload_n C 0 dX0_linkReferences_69 rfl rfl ?_
          refine z_getr C (t := b + 5) (isb_k0 hb) (isb_L0 hb) rfl 7 (Nat.le_of_ble_eq_true rfl) rfl kiX0_linkReferences_X0 kfX0_linkReferences_25 dX0_linkReferences_70 ?_
          refine z_iload_n C 1 dX0_linkReferences_73 rfl rfl ?_
          refine z_dup2 C dX0_linkReferences_74 ?_
          obtain ⟨hi15, hf⟩ := ck_el hf
          refine z_iald C (k := (b + 5)) (isb_k5 hb) (isb_L5 hb) hi15 dX0_linkReferences_75 ?_
          refine z_iconst C (v := 1) dX0_linkReferences_76 rfl ?_
          refine z_iload C 4 dX0_linkReferences_77 rfl ?_
          refine z_ishl C dX0_linkReferences_79 ?_
          refine z_ior C dX0_linkReferences_80 ?_
          obtain ⟨hi16, hf⟩ := ck_el hf
          refine z_iast C (k := (b + 5)) (isb_k5 hb) (isb_L5 hb) hi16 dX0_linkReferences_81 ?_
          refine z_nm (fun m17 e_m17 => ?_)
          replace hf := bn_to e_m17 hf
          obtain ⟨x18, e_x18⟩ : ∃ y : Int32, y = i3 + 1 := ⟨_, rfl⟩
          replace hf := bn_to e_x18 hf
          refine z_iinc C (lv2 := [(0, .ref ((zw K).2.1 b)), (1, .int i1), (2, .int x18), (3, .int x6), (4, .int r12)]) 2 [1, 2, 0, 3, 4] dX0_linkReferences_82 rfl rfl (Nat.le_of_ble_eq_true rfl) e_x18 rfl ?_
          refine z_goto (tgt := 12) C dX0_linkReferences_85 (by decide) ?_
          cases hf
          exact z_sub [0, 1, 2] rfl (ih x18 m17 hz)
        · replace hf := if_f c20 hf
          refine z_aload_n C 0 dX0_linkReferences_54 rfl rfl ?_
          refine z_getr C (t := b + 13) (isb_k0 hb) (isb_L0 hb) rfl 15 (Nat.le_of_ble_eq_true rfl) rfl kiX0_linkReferences_X0 kfX0_linkReferences_49 dX0_linkReferences_55 ?_
          refine z_iload_n C 3 dX0_linkReferences_58 rfl rfl ?_
          obtain ⟨hi19, hf⟩ := ck_el hf
          refine z_iald C (k := (b + 13)) (isb_k13 hb) (isb_L13 hb) hi19 dX0_linkReferences_59 ?_
          cases hf
          replace hz := zlz_r hz
          cases hz
          exact hret _ rfl _ _ dX0_linkReferences_60
set_option maxRecDepth 100000 in
set_option maxHeartbeats 4000000 in
theorem w_X0_linkReferences_2 {K : ZK} (C : zOK MX K cX0_linkReferences 5 (some .int) RX0 wsX0_linkReferences rmX0_linkReferences) {b : Nat} (hb : isb b) {r9 : Int32} {m9 : Mem} (hret : zRi MX K cX0_linkReferences m9 r9) : ∀ (n : Nat) (i1 : Int32) (m2 : Mem), l_X0_linkReferences_2 b n i1 m2 = some (r9, m9) → zGo MX K m2 [(0, .ref ((zw K).2.1 b)), (1, .int i1)] 2 [] := by
  intro n
  induction n with
  | zero =>
    intro i1 m2 hf
    cases hf
  | succ n ih =>
    intro i1 m2 hf
    obtain ⟨z, hf, hz⟩ := zlp_el hf
    replace hf : t_X0_linkReferences_2 b i1 m2 = some z := hf
    unfold t_X0_linkReferences_2 at hf
    refine z_iload_n C 1 dX0_linkReferences_2 rfl rfl ?_
    refine z_aload_n C 0 dX0_linkReferences_3 rfl rfl ?_
    refine z_geti C (isb_k0 hb) (isb_L0 hb) rfl 0 (Nat.le_of_ble_eq_true rfl) rfl kiX0_linkReferences_X0 kfX0_linkReferences_52 dX0_linkReferences_4 ?_
    refine z_icmp_ge (tgt := 94) C dX0_linkReferences_7 (by decide) (fun c25 => ?_) (fun c25 => ?_)
    · replace hf := if_t c25 hf
      refine z_iconst C (v := (-1)) dX0_linkReferences_94 (by decide) ?_
      cases hf
      replace hz := zlz_r hz
      cases hz
      exact hret _ _ dX0_linkReferences_95
    · replace hf := if_f c25 hf
      refine z_iconst C (v := 0) dX0_linkReferences_10 rfl ?_
      refine z_istore_n C (lv2 := [(0, .ref ((zw K).2.1 b)), (1, .int i1), (2, .int 0)]) [1, 2, 0] dX0_linkReferences_11 rfl (Nat.le_of_ble_eq_true rfl) rfl ?_
      obtain ⟨r, hg, hf⟩ | ⟨m23, hg, hf⟩ := zbS_el hf
      · cases hf
        replace hz := zlz_r hz
        cases hz
        refine z_sub [0, 1, 2] rfl (w_X0_linkReferences_12 C hb ?_ ?_ _ _ _ hg)
        · intro r2 e2
          cases e2
          exact hret
        · intro _ e2
          cases e2
      · refine z_sub [0, 1, 2] rfl (w_X0_linkReferences_12 C hb ?_ ?_ _ _ _ hg)
        · intro r2 e2
          cases e2
        · intro m232 e2
          cases e2
          clear hg
          obtain ⟨x24, e_x24⟩ : ∃ y : Int32, y = i1 + 1 := ⟨_, rfl⟩
          replace hf := bn_to e_x24 hf
          refine z_iinc C (lv2 := [(0, .ref ((zw K).2.1 b)), (1, .int x24)]) 1 [1, 0] dX0_linkReferences_88 rfl rfl (Nat.le_of_ble_eq_true rfl) e_x24 rfl ?_
          refine z_goto (tgt := 2) C dX0_linkReferences_91 (by decide) ?_
          cases hf
          exact z_sub [0, 1] rfl (ih x24 m23 hz)
set_option maxRecDepth 100000 in
set_option maxHeartbeats 4000000 in
theorem c_X0_linkReferences (l : Launch) (w : ZW) {m : Mem} {b : Nat} {r9 : Int32} {m9 : Mem} (hb : isb b) (hf : s_X0_linkReferences m b = some (r9, m9)) : zCi MX l w yX0_linkReferences wsX0_linkReferences rmX0_linkReferences [.ref (w.2.1 b)] m m9 r9 := by
  refine z_met_i MX_ok (own := RX0) (by decide +kernel) rfl rfl (Nat.le_of_ble_eq_true rfl) ?_
  intro K C hKw hKl hret
  subst hKw
  subst hKl
  unfold s_X0_linkReferences at hf
  show zGo MX K m [(0, .ref ((zw K).2.1 b))] 0 []
  refine z_iconst C (v := 0) dX0_linkReferences_0 rfl ?_
  refine z_istore_n C (lv2 := [(0, .ref ((zw K).2.1 b)), (1, .int 0)]) [1, 0] dX0_linkReferences_1 rfl (Nat.le_of_ble_eq_true rfl) rfl ?_
  exact z_sub [0, 1] rfl (w_X0_linkReferences_2 C hb hret _ _ _ hf)
set_option maxRecDepth 100000 in
theorem daX0_openShape : ∀ q ∈ ([(0, .aload_n 0, 1), (1, .getfield 52, 3), (4, .bipush 6, 2), (6, .if_icmp .lt 4, 3), (9, .return_, 1), (10, .aload_n 0, 1), (11, .getfield 52, 3), (14, .istore_n 2, 1), (15, .aload_n 0, 1), (16, .dup, 1), (17, .getfield 52, 3), (20, .iconst 1, 1), (21, .iadd, 1), (22, .putfield 52, 3), (25, .aload_n 0, 1), (26, .getfield 9, 3), (29, .iload_n 2, 1), (30, .iload_n 1, 1), (31, .iastore, 1), (32, .aload_n 0, 1), (33, .getfield 15, 3), (36, .iload_n 2, 1), (37, .iconst 0, 1), (38, .iastore, 1), (39, .aload_n 0, 1), (40, .getfield 18, 3), (43, .iload_n 2, 1), (44, .iconst 0, 1), (45, .bastore, 1), (46, .aload_n 0, 1), (47, .getfield 22, 3), (50, .iload_n 2, 1), (51, .iconst 0, 1), (52, .iastore, 1), (53, .aload_n 0, 1), (54, .getfield 25, 3), (57, .iload_n 2, 1), (58, .iconst 0, 1), (59, .iastore, 1), (60, .aload_n 0, 1), (61, .getfield 28, 3), (64, .iload_n 2, 1), (65, .iconst 0, 1), (66, .iastore, 1), (67, .aload_n 0, 1), (68, .getfield 31, 3), (71, .iload_n 2, 1), (72, .iconst 1, 1), (73, .iadd, 1), (74, .aload_n 0, 1), (75, .getfield 60, 3), (78, .iastore, 1), (79, .return_, 1)] : List (Nat × Instr × Nat)), decode cX0_openShape q.1 = .ok q.2 := by decide +kernel
theorem dX0_openShape_0 : decode cX0_openShape 0 = .ok (.aload_n 0, 1) := daX0_openShape (0, .aload_n 0, 1) (List.mem_of_getElem? (i := 0) rfl)
theorem dX0_openShape_1 : decode cX0_openShape 1 = .ok (.getfield 52, 3) := daX0_openShape (1, .getfield 52, 3) (List.mem_of_getElem? (i := 1) rfl)
theorem dX0_openShape_4 : decode cX0_openShape 4 = .ok (.bipush 6, 2) := daX0_openShape (4, .bipush 6, 2) (List.mem_of_getElem? (i := 2) rfl)
theorem dX0_openShape_6 : decode cX0_openShape 6 = .ok (.if_icmp .lt 4, 3) := daX0_openShape (6, .if_icmp .lt 4, 3) (List.mem_of_getElem? (i := 3) rfl)
theorem dX0_openShape_9 : decode cX0_openShape 9 = .ok (.return_, 1) := daX0_openShape (9, .return_, 1) (List.mem_of_getElem? (i := 4) rfl)
theorem dX0_openShape_10 : decode cX0_openShape 10 = .ok (.aload_n 0, 1) := daX0_openShape (10, .aload_n 0, 1) (List.mem_of_getElem? (i := 5) rfl)
theorem dX0_openShape_11 : decode cX0_openShape 11 = .ok (.getfield 52, 3) := daX0_openShape (11, .getfield 52, 3) (List.mem_of_getElem? (i := 6) rfl)
theorem dX0_openShape_14 : decode cX0_openShape 14 = .ok (.istore_n 2, 1) := daX0_openShape (14, .istore_n 2, 1) (List.mem_of_getElem? (i := 7) rfl)
theorem dX0_openShape_15 : decode cX0_openShape 15 = .ok (.aload_n 0, 1) := daX0_openShape (15, .aload_n 0, 1) (List.mem_of_getElem? (i := 8) rfl)
theorem dX0_openShape_16 : decode cX0_openShape 16 = .ok (.dup, 1) := daX0_openShape (16, .dup, 1) (List.mem_of_getElem? (i := 9) rfl)
theorem dX0_openShape_17 : decode cX0_openShape 17 = .ok (.getfield 52, 3) := daX0_openShape (17, .getfield 52, 3) (List.mem_of_getElem? (i := 10) rfl)
theorem dX0_openShape_20 : decode cX0_openShape 20 = .ok (.iconst 1, 1) := daX0_openShape (20, .iconst 1, 1) (List.mem_of_getElem? (i := 11) rfl)
theorem dX0_openShape_21 : decode cX0_openShape 21 = .ok (.iadd, 1) := daX0_openShape (21, .iadd, 1) (List.mem_of_getElem? (i := 12) rfl)
theorem dX0_openShape_22 : decode cX0_openShape 22 = .ok (.putfield 52, 3) := daX0_openShape (22, .putfield 52, 3) (List.mem_of_getElem? (i := 13) rfl)
theorem dX0_openShape_25 : decode cX0_openShape 25 = .ok (.aload_n 0, 1) := daX0_openShape (25, .aload_n 0, 1) (List.mem_of_getElem? (i := 14) rfl)
theorem dX0_openShape_26 : decode cX0_openShape 26 = .ok (.getfield 9, 3) := daX0_openShape (26, .getfield 9, 3) (List.mem_of_getElem? (i := 15) rfl)
theorem dX0_openShape_29 : decode cX0_openShape 29 = .ok (.iload_n 2, 1) := daX0_openShape (29, .iload_n 2, 1) (List.mem_of_getElem? (i := 16) rfl)
theorem dX0_openShape_30 : decode cX0_openShape 30 = .ok (.iload_n 1, 1) := daX0_openShape (30, .iload_n 1, 1) (List.mem_of_getElem? (i := 17) rfl)
theorem dX0_openShape_31 : decode cX0_openShape 31 = .ok (.iastore, 1) := daX0_openShape (31, .iastore, 1) (List.mem_of_getElem? (i := 18) rfl)
theorem dX0_openShape_32 : decode cX0_openShape 32 = .ok (.aload_n 0, 1) := daX0_openShape (32, .aload_n 0, 1) (List.mem_of_getElem? (i := 19) rfl)
theorem dX0_openShape_33 : decode cX0_openShape 33 = .ok (.getfield 15, 3) := daX0_openShape (33, .getfield 15, 3) (List.mem_of_getElem? (i := 20) rfl)
theorem dX0_openShape_36 : decode cX0_openShape 36 = .ok (.iload_n 2, 1) := daX0_openShape (36, .iload_n 2, 1) (List.mem_of_getElem? (i := 21) rfl)
theorem dX0_openShape_37 : decode cX0_openShape 37 = .ok (.iconst 0, 1) := daX0_openShape (37, .iconst 0, 1) (List.mem_of_getElem? (i := 22) rfl)
theorem dX0_openShape_38 : decode cX0_openShape 38 = .ok (.iastore, 1) := daX0_openShape (38, .iastore, 1) (List.mem_of_getElem? (i := 23) rfl)
theorem dX0_openShape_39 : decode cX0_openShape 39 = .ok (.aload_n 0, 1) := daX0_openShape (39, .aload_n 0, 1) (List.mem_of_getElem? (i := 24) rfl)
theorem dX0_openShape_40 : decode cX0_openShape 40 = .ok (.getfield 18, 3) := daX0_openShape (40, .getfield 18, 3) (List.mem_of_getElem? (i := 25) rfl)
theorem dX0_openShape_43 : decode cX0_openShape 43 = .ok (.iload_n 2, 1) := daX0_openShape (43, .iload_n 2, 1) (List.mem_of_getElem? (i := 26) rfl)
theorem dX0_openShape_44 : decode cX0_openShape 44 = .ok (.iconst 0, 1) := daX0_openShape (44, .iconst 0, 1) (List.mem_of_getElem? (i := 27) rfl)
theorem dX0_openShape_45 : decode cX0_openShape 45 = .ok (.bastore, 1) := daX0_openShape (45, .bastore, 1) (List.mem_of_getElem? (i := 28) rfl)
theorem dX0_openShape_46 : decode cX0_openShape 46 = .ok (.aload_n 0, 1) := daX0_openShape (46, .aload_n 0, 1) (List.mem_of_getElem? (i := 29) rfl)
theorem dX0_openShape_47 : decode cX0_openShape 47 = .ok (.getfield 22, 3) := daX0_openShape (47, .getfield 22, 3) (List.mem_of_getElem? (i := 30) rfl)
theorem dX0_openShape_50 : decode cX0_openShape 50 = .ok (.iload_n 2, 1) := daX0_openShape (50, .iload_n 2, 1) (List.mem_of_getElem? (i := 31) rfl)
theorem dX0_openShape_51 : decode cX0_openShape 51 = .ok (.iconst 0, 1) := daX0_openShape (51, .iconst 0, 1) (List.mem_of_getElem? (i := 32) rfl)
theorem dX0_openShape_52 : decode cX0_openShape 52 = .ok (.iastore, 1) := daX0_openShape (52, .iastore, 1) (List.mem_of_getElem? (i := 33) rfl)
theorem dX0_openShape_53 : decode cX0_openShape 53 = .ok (.aload_n 0, 1) := daX0_openShape (53, .aload_n 0, 1) (List.mem_of_getElem? (i := 34) rfl)
theorem dX0_openShape_54 : decode cX0_openShape 54 = .ok (.getfield 25, 3) := daX0_openShape (54, .getfield 25, 3) (List.mem_of_getElem? (i := 35) rfl)
theorem dX0_openShape_57 : decode cX0_openShape 57 = .ok (.iload_n 2, 1) := daX0_openShape (57, .iload_n 2, 1) (List.mem_of_getElem? (i := 36) rfl)
theorem dX0_openShape_58 : decode cX0_openShape 58 = .ok (.iconst 0, 1) := daX0_openShape (58, .iconst 0, 1) (List.mem_of_getElem? (i := 37) rfl)
theorem dX0_openShape_59 : decode cX0_openShape 59 = .ok (.iastore, 1) := daX0_openShape (59, .iastore, 1) (List.mem_of_getElem? (i := 38) rfl)
theorem dX0_openShape_60 : decode cX0_openShape 60 = .ok (.aload_n 0, 1) := daX0_openShape (60, .aload_n 0, 1) (List.mem_of_getElem? (i := 39) rfl)
theorem dX0_openShape_61 : decode cX0_openShape 61 = .ok (.getfield 28, 3) := daX0_openShape (61, .getfield 28, 3) (List.mem_of_getElem? (i := 40) rfl)
theorem dX0_openShape_64 : decode cX0_openShape 64 = .ok (.iload_n 2, 1) := daX0_openShape (64, .iload_n 2, 1) (List.mem_of_getElem? (i := 41) rfl)
theorem dX0_openShape_65 : decode cX0_openShape 65 = .ok (.iconst 0, 1) := daX0_openShape (65, .iconst 0, 1) (List.mem_of_getElem? (i := 42) rfl)
theorem dX0_openShape_66 : decode cX0_openShape 66 = .ok (.iastore, 1) := daX0_openShape (66, .iastore, 1) (List.mem_of_getElem? (i := 43) rfl)
theorem dX0_openShape_67 : decode cX0_openShape 67 = .ok (.aload_n 0, 1) := daX0_openShape (67, .aload_n 0, 1) (List.mem_of_getElem? (i := 44) rfl)
theorem dX0_openShape_68 : decode cX0_openShape 68 = .ok (.getfield 31, 3) := daX0_openShape (68, .getfield 31, 3) (List.mem_of_getElem? (i := 45) rfl)
theorem dX0_openShape_71 : decode cX0_openShape 71 = .ok (.iload_n 2, 1) := daX0_openShape (71, .iload_n 2, 1) (List.mem_of_getElem? (i := 46) rfl)
theorem dX0_openShape_72 : decode cX0_openShape 72 = .ok (.iconst 1, 1) := daX0_openShape (72, .iconst 1, 1) (List.mem_of_getElem? (i := 47) rfl)
theorem dX0_openShape_73 : decode cX0_openShape 73 = .ok (.iadd, 1) := daX0_openShape (73, .iadd, 1) (List.mem_of_getElem? (i := 48) rfl)
theorem dX0_openShape_74 : decode cX0_openShape 74 = .ok (.aload_n 0, 1) := daX0_openShape (74, .aload_n 0, 1) (List.mem_of_getElem? (i := 49) rfl)
theorem dX0_openShape_75 : decode cX0_openShape 75 = .ok (.getfield 60, 3) := daX0_openShape (75, .getfield 60, 3) (List.mem_of_getElem? (i := 50) rfl)
theorem dX0_openShape_78 : decode cX0_openShape 78 = .ok (.iastore, 1) := daX0_openShape (78, .iastore, 1) (List.mem_of_getElem? (i := 51) rfl)
theorem dX0_openShape_79 : decode cX0_openShape 79 = .ok (.return_, 1) := daX0_openShape (79, .return_, 1) (List.mem_of_getElem? (i := 52) rfl)
def rmX0_openShape : Room := { frames := 0, cells := 0, slots := 0, locals := 0 }
theorem zdX0_openShape : yX0_openShape.cls = RX0 ∧ yX0_openShape.cls ≠ "java/lang/invoke/MethodHandle" ∧ yX0_openShape.cls ≠ "java/lang/invoke/VarHandle" ∧ (parseMethodDescriptor yX0_openShape.desc).map (fun d => d.parameters.length) = some 1 := by decide +kernel
theorem kiX0_openShape_X0 : ∀ w ∈ wsX00, w ∈ wsX0_openShape := fun _ h => (List.mem_cons_of_mem _ (List.mem_append_right _ h))
theorem kfX0_openShape_52 : Cond.fieldLink RX0 52 "ShapeJudge$Book" "shapeCount" "I" ∈ wsX0_openShape := (List.mem_of_getElem? (i := 1) rfl)
theorem kfX0_openShape_9 : Cond.fieldLink RX0 9 "ShapeJudge$Book" "word" "[I" ∈ wsX0_openShape := (List.mem_of_getElem? (i := 2) rfl)
theorem kfX0_openShape_15 : Cond.fieldLink RX0 15 "ShapeJudge$Book" "partCount" "[I" ∈ wsX0_openShape := (List.mem_of_getElem? (i := 3) rfl)
theorem kfX0_openShape_18 : Cond.fieldLink RX0 18 "ShapeJudge$Book" "closed" "[Z" ∈ wsX0_openShape := (List.mem_of_getElem? (i := 4) rfl)
theorem kfX0_openShape_22 : Cond.fieldLink RX0 22 "ShapeJudge$Book" "names" "[I" ∈ wsX0_openShape := (List.mem_of_getElem? (i := 5) rfl)
theorem kfX0_openShape_25 : Cond.fieldLink RX0 25 "ShapeJudge$Book" "reach" "[I" ∈ wsX0_openShape := (List.mem_of_getElem? (i := 6) rfl)
theorem kfX0_openShape_28 : Cond.fieldLink RX0 28 "ShapeJudge$Book" "level" "[I" ∈ wsX0_openShape := (List.mem_of_getElem? (i := 7) rfl)
theorem kfX0_openShape_31 : Cond.fieldLink RX0 31 "ShapeJudge$Book" "firstStep" "[I" ∈ wsX0_openShape := (List.mem_of_getElem? (i := 8) rfl)
theorem kfX0_openShape_60 : Cond.fieldLink RX0 60 "ShapeJudge$Book" "stepCount" "I" ∈ wsX0_openShape := (List.mem_of_getElem? (i := 9) rfl)
def s_X0_openShape (m : Mem) (b : Nat) (a1 : Int32) : Option (Mem) :=
  (if (m b 0) < 6 then (bn (m b 0) fun x1 => bn (sto m b 0 ((m b 0) + 1)) fun m2 => ck (zin x1 6 = true) (bn (sto m2 (b + 1) (Int32.toNatClampNeg x1) a1) fun m4 => ck (zin x1 6 = true) (bn (sto m4 (b + 2) (Int32.toNatClampNeg x1) 0) fun m6 => ck (zin x1 6 = true) (bn (sto m6 (b + 3) (Int32.toNatClampNeg x1) (vp_nar .boolean 0)) fun m8 => ck (zin x1 6 = true) (bn (sto m8 (b + 4) (Int32.toNatClampNeg x1) 0) fun m10 => ck (zin x1 6 = true) (bn (sto m10 (b + 5) (Int32.toNatClampNeg x1) 0) fun m12 => ck (zin x1 6 = true) (bn (sto m12 (b + 6) (Int32.toNatClampNeg x1) 0) fun m14 => ck (zin (x1 + 1) 7 = true) (bn (sto m14 (b + 7) (Int32.toNatClampNeg (x1 + 1)) (m14 b 1)) fun m16 => some m16)))))))) else (some m))
set_option maxRecDepth 100000 in
set_option maxHeartbeats 4000000 in
theorem c_X0_openShape (l : Launch) (w : ZW) {m : Mem} {b : Nat} {a1 : Int32} {m9 : Mem} (hb : isb b) (hf : s_X0_openShape m b a1 = some m9) : zCv MX l w yX0_openShape wsX0_openShape rmX0_openShape [.ref (w.2.1 b), .int a1] m m9 := by
  refine z_met_v MX_ok (own := RX0) (by decide +kernel) rfl rfl (Nat.le_of_ble_eq_true rfl) ?_
  intro K C hKw hKl hret
  subst hKw
  subst hKl
  unfold s_X0_openShape at hf
  show zGo MX K m [(0, .ref ((zw K).2.1 b)), (1, .int a1)] 0 []
  refine z_aload_n C 0 dX0_openShape_0 rfl rfl ?_
  refine z_geti C (isb_k0 hb) (isb_L0 hb) rfl 0 (Nat.le_of_ble_eq_true rfl) rfl kiX0_openShape_X0 kfX0_openShape_52 dX0_openShape_1 ?_
  refine z_bipush C (v := 6) dX0_openShape_4 rfl ?_
  refine z_icmp_lt (tgt := 10) C dX0_openShape_6 (by decide) (fun c17 => ?_) (fun c17 => ?_)
  · replace hf := if_t c17 hf
    refine z_aload_n C 0 dX0_openShape_10 rfl rfl ?_
    refine z_geti C (isb_k0 hb) (isb_L0 hb) rfl 0 (Nat.le_of_ble_eq_true rfl) rfl kiX0_openShape_X0 kfX0_openShape_52 dX0_openShape_11 ?_
    refine z_topi (fun x1 e_x1 => ?_)
    replace hf := bn_to e_x1 hf
    refine z_istore_n C (lv2 := [(0, .ref ((zw K).2.1 b)), (1, .int a1), (2, .int x1)]) [1, 2, 0] dX0_openShape_14 rfl (Nat.le_of_ble_eq_true rfl) rfl ?_
    refine z_aload_n C 0 dX0_openShape_15 rfl rfl ?_
    refine z_dup_a C dX0_openShape_16 ?_
    refine z_geti C (isb_k0 hb) (isb_L0 hb) rfl 0 (Nat.le_of_ble_eq_true rfl) rfl kiX0_openShape_X0 kfX0_openShape_52 dX0_openShape_17 ?_
    refine z_iconst C (v := 1) dX0_openShape_20 rfl ?_
    refine z_iadd C dX0_openShape_21 ?_
    refine z_puti C (isb_k0 hb) (isb_L0 hb) rfl 0 (Nat.le_of_ble_eq_true rfl) rfl kiX0_openShape_X0 kfX0_openShape_52 tyX0 tyX0_ok nmX0 rfl rfl dX0_openShape_22 ?_
    refine z_nm (fun m2 e_m2 => ?_)
    replace hf := bn_to e_m2 hf
    refine z_aload_n C 0 dX0_openShape_25 rfl rfl ?_
    refine z_getr C (t := b + 1) (isb_k0 hb) (isb_L0 hb) rfl 3 (Nat.le_of_ble_eq_true rfl) rfl kiX0_openShape_X0 kfX0_openShape_9 dX0_openShape_26 ?_
    refine z_iload_n C 2 dX0_openShape_29 rfl rfl ?_
    refine z_iload_n C 1 dX0_openShape_30 rfl rfl ?_
    obtain ⟨hi3, hf⟩ := ck_el hf
    refine z_iast C (k := (b + 1)) (isb_k1 hb) (isb_L1 hb) hi3 dX0_openShape_31 ?_
    refine z_nm (fun m4 e_m4 => ?_)
    replace hf := bn_to e_m4 hf
    refine z_aload_n C 0 dX0_openShape_32 rfl rfl ?_
    refine z_getr C (t := b + 2) (isb_k0 hb) (isb_L0 hb) rfl 4 (Nat.le_of_ble_eq_true rfl) rfl kiX0_openShape_X0 kfX0_openShape_15 dX0_openShape_33 ?_
    refine z_iload_n C 2 dX0_openShape_36 rfl rfl ?_
    refine z_iconst C (v := 0) dX0_openShape_37 rfl ?_
    obtain ⟨hi5, hf⟩ := ck_el hf
    refine z_iast C (k := (b + 2)) (isb_k2 hb) (isb_L2 hb) hi5 dX0_openShape_38 ?_
    refine z_nm (fun m6 e_m6 => ?_)
    replace hf := bn_to e_m6 hf
    refine z_aload_n C 0 dX0_openShape_39 rfl rfl ?_
    refine z_getr C (t := b + 3) (isb_k0 hb) (isb_L0 hb) rfl 5 (Nat.le_of_ble_eq_true rfl) rfl kiX0_openShape_X0 kfX0_openShape_18 dX0_openShape_40 ?_
    refine z_iload_n C 2 dX0_openShape_43 rfl rfl ?_
    refine z_iconst C (v := 0) dX0_openShape_44 rfl ?_
    obtain ⟨hi7, hf⟩ := ck_el hf
    refine z_zast C (k := (b + 3)) (isb_k3 hb) (isb_L3 hb) hi7 dX0_openShape_45 ?_
    refine z_nm (fun m8 e_m8 => ?_)
    replace hf := bn_to e_m8 hf
    refine z_aload_n C 0 dX0_openShape_46 rfl rfl ?_
    refine z_getr C (t := b + 4) (isb_k0 hb) (isb_L0 hb) rfl 6 (Nat.le_of_ble_eq_true rfl) rfl kiX0_openShape_X0 kfX0_openShape_22 dX0_openShape_47 ?_
    refine z_iload_n C 2 dX0_openShape_50 rfl rfl ?_
    refine z_iconst C (v := 0) dX0_openShape_51 rfl ?_
    obtain ⟨hi9, hf⟩ := ck_el hf
    refine z_iast C (k := (b + 4)) (isb_k4 hb) (isb_L4 hb) hi9 dX0_openShape_52 ?_
    refine z_nm (fun m10 e_m10 => ?_)
    replace hf := bn_to e_m10 hf
    refine z_aload_n C 0 dX0_openShape_53 rfl rfl ?_
    refine z_getr C (t := b + 5) (isb_k0 hb) (isb_L0 hb) rfl 7 (Nat.le_of_ble_eq_true rfl) rfl kiX0_openShape_X0 kfX0_openShape_25 dX0_openShape_54 ?_
    refine z_iload_n C 2 dX0_openShape_57 rfl rfl ?_
    refine z_iconst C (v := 0) dX0_openShape_58 rfl ?_
    obtain ⟨hi11, hf⟩ := ck_el hf
    refine z_iast C (k := (b + 5)) (isb_k5 hb) (isb_L5 hb) hi11 dX0_openShape_59 ?_
    refine z_nm (fun m12 e_m12 => ?_)
    replace hf := bn_to e_m12 hf
    refine z_aload_n C 0 dX0_openShape_60 rfl rfl ?_
    refine z_getr C (t := b + 6) (isb_k0 hb) (isb_L0 hb) rfl 8 (Nat.le_of_ble_eq_true rfl) rfl kiX0_openShape_X0 kfX0_openShape_28 dX0_openShape_61 ?_
    refine z_iload_n C 2 dX0_openShape_64 rfl rfl ?_
    refine z_iconst C (v := 0) dX0_openShape_65 rfl ?_
    obtain ⟨hi13, hf⟩ := ck_el hf
    refine z_iast C (k := (b + 6)) (isb_k6 hb) (isb_L6 hb) hi13 dX0_openShape_66 ?_
    refine z_nm (fun m14 e_m14 => ?_)
    replace hf := bn_to e_m14 hf
    refine z_aload_n C 0 dX0_openShape_67 rfl rfl ?_
    refine z_getr C (t := b + 7) (isb_k0 hb) (isb_L0 hb) rfl 9 (Nat.le_of_ble_eq_true rfl) rfl kiX0_openShape_X0 kfX0_openShape_31 dX0_openShape_68 ?_
    refine z_iload_n C 2 dX0_openShape_71 rfl rfl ?_
    refine z_iconst C (v := 1) dX0_openShape_72 rfl ?_
    refine z_iadd C dX0_openShape_73 ?_
    refine z_aload_n C 0 dX0_openShape_74 rfl rfl ?_
    refine z_geti C (isb_k0 hb) (isb_L0 hb) rfl 1 (Nat.le_of_ble_eq_true rfl) rfl kiX0_openShape_X0 kfX0_openShape_60 dX0_openShape_75 ?_
    obtain ⟨hi15, hf⟩ := ck_el hf
    refine z_iast C (k := (b + 7)) (isb_k7 hb) (isb_L7 hb) hi15 dX0_openShape_78 ?_
    refine z_nm (fun m16 e_m16 => ?_)
    replace hf := bn_to e_m16 hf
    cases hf
    exact hret _ _ dX0_openShape_79
  · replace hf := if_f c17 hf
    cases hf
    exact hret _ _ dX0_openShape_9
set_option maxRecDepth 20000 in
theorem ggX0_placeOfCircle_X0_dependsOn : GoodIn wsX0_placeOfCircle wsX0_dependsOn := goodIn_sub (List.forall_mem_cons.mpr ⟨(List.mem_of_getElem? (i := 10) rfl), (List.forall_mem_append.mpr ⟨(List.forall_mem_cons.mpr ⟨(List.mem_of_getElem? (i := 11) rfl), (List.forall_mem_cons.mpr ⟨(List.mem_of_getElem? (i := 12) rfl), (List.forall_mem_cons.mpr ⟨(List.mem_of_getElem? (i := 13) rfl), (List.forall_mem_cons.mpr ⟨(List.mem_of_getElem? (i := 14) rfl), (List.forall_mem_cons.mpr ⟨(List.mem_of_getElem? (i := 9) rfl), (List.forall_mem_cons.mpr ⟨(List.mem_of_getElem? (i := 15) rfl), (List.forall_mem_cons.mpr ⟨(List.mem_of_getElem? (i := 1) rfl), (fun _ h => absurd h List.not_mem_nil)⟩)⟩)⟩)⟩)⟩)⟩)⟩), (fun _ h => (List.mem_cons_of_mem _ (List.mem_append_right _ h)))⟩)⟩) (by decide +kernel)
set_option maxRecDepth 20000 in
theorem gX0_placeOfCircle_X0_dependsOn : GoodIn wsX0_placeOfCircle (wsV RX0 81 RX0 yX0_dependsOn wsX0_dependsOn) := goodIn_app (goodIn_sub (List.forall_mem_cons.mpr ⟨(List.mem_of_getElem? (i := 6) rfl), (List.forall_mem_cons.mpr ⟨(List.mem_of_getElem? (i := 7) rfl), (List.forall_mem_cons.mpr ⟨(List.mem_of_getElem? (i := 8) rfl), (List.forall_mem_cons.mpr ⟨(List.mem_of_getElem? (i := 9) rfl), (fun _ h => absurd h List.not_mem_nil)⟩)⟩)⟩)⟩) (by decide +kernel)) ggX0_placeOfCircle_X0_dependsOn
set_option maxRecDepth 100000 in
theorem daX0_placeOfCircle : ∀ q ∈ ([(0, .iconst 0, 1), (1, .istore_n 1, 1), (2, .iload_n 1, 1), (3, .aload_n 0, 1), (4, .getfield 52, 3), (7, .if_icmp .ge 65, 3), (10, .iconst 0, 1), (11, .istore_n 2, 1), (12, .iload_n 2, 1), (13, .aload_n 0, 1), (14, .getfield 15, 3), (17, .iload_n 1, 1), (18, .iaload, 1), (19, .if_icmp .ge 47, 3), (22, .iload_n 1, 1), (23, .bipush 6, 2), (25, .imul, 1), (26, .iload_n 2, 1), (27, .iadd, 1), (28, .istore_n 3, 1), (29, .aload_n 0, 1), (30, .getfield 40, 3), (33, .iload_n 3, 1), (34, .iaload, 1), (35, .iconst 2, 1), (36, .if_icmp .ne 24, 3), (39, .aload_n 0, 1), (40, .aload_n 0, 1), (41, .getfield 43, 3), (44, .iload_n 3, 1), (45, .iaload, 1), (46, .iload_n 1, 1), (47, .invokevirtual 81, 3), (50, .ifCond .eq 10, 3), (53, .aload_n 0, 1), (54, .getfield 49, 3), (57, .iload_n 3, 1), (58, .iaload, 1), (59, .ireturn, 1), (60, .iinc 2 1, 3), (63, .goto (-51), 3), (66, .iinc 1 1, 3), (69, .goto (-67), 3), (72, .iconst (-1), 1), (73, .ireturn, 1)] : List (Nat × Instr × Nat)), decode cX0_placeOfCircle q.1 = .ok q.2 := by decide +kernel
theorem dX0_placeOfCircle_0 : decode cX0_placeOfCircle 0 = .ok (.iconst 0, 1) := daX0_placeOfCircle (0, .iconst 0, 1) (List.mem_of_getElem? (i := 0) rfl)
theorem dX0_placeOfCircle_1 : decode cX0_placeOfCircle 1 = .ok (.istore_n 1, 1) := daX0_placeOfCircle (1, .istore_n 1, 1) (List.mem_of_getElem? (i := 1) rfl)
theorem dX0_placeOfCircle_2 : decode cX0_placeOfCircle 2 = .ok (.iload_n 1, 1) := daX0_placeOfCircle (2, .iload_n 1, 1) (List.mem_of_getElem? (i := 2) rfl)
theorem dX0_placeOfCircle_3 : decode cX0_placeOfCircle 3 = .ok (.aload_n 0, 1) := daX0_placeOfCircle (3, .aload_n 0, 1) (List.mem_of_getElem? (i := 3) rfl)
theorem dX0_placeOfCircle_4 : decode cX0_placeOfCircle 4 = .ok (.getfield 52, 3) := daX0_placeOfCircle (4, .getfield 52, 3) (List.mem_of_getElem? (i := 4) rfl)
theorem dX0_placeOfCircle_7 : decode cX0_placeOfCircle 7 = .ok (.if_icmp .ge 65, 3) := daX0_placeOfCircle (7, .if_icmp .ge 65, 3) (List.mem_of_getElem? (i := 5) rfl)
theorem dX0_placeOfCircle_10 : decode cX0_placeOfCircle 10 = .ok (.iconst 0, 1) := daX0_placeOfCircle (10, .iconst 0, 1) (List.mem_of_getElem? (i := 6) rfl)
theorem dX0_placeOfCircle_11 : decode cX0_placeOfCircle 11 = .ok (.istore_n 2, 1) := daX0_placeOfCircle (11, .istore_n 2, 1) (List.mem_of_getElem? (i := 7) rfl)
theorem dX0_placeOfCircle_12 : decode cX0_placeOfCircle 12 = .ok (.iload_n 2, 1) := daX0_placeOfCircle (12, .iload_n 2, 1) (List.mem_of_getElem? (i := 8) rfl)
theorem dX0_placeOfCircle_13 : decode cX0_placeOfCircle 13 = .ok (.aload_n 0, 1) := daX0_placeOfCircle (13, .aload_n 0, 1) (List.mem_of_getElem? (i := 9) rfl)
theorem dX0_placeOfCircle_14 : decode cX0_placeOfCircle 14 = .ok (.getfield 15, 3) := daX0_placeOfCircle (14, .getfield 15, 3) (List.mem_of_getElem? (i := 10) rfl)
theorem dX0_placeOfCircle_17 : decode cX0_placeOfCircle 17 = .ok (.iload_n 1, 1) := daX0_placeOfCircle (17, .iload_n 1, 1) (List.mem_of_getElem? (i := 11) rfl)
theorem dX0_placeOfCircle_18 : decode cX0_placeOfCircle 18 = .ok (.iaload, 1) := daX0_placeOfCircle (18, .iaload, 1) (List.mem_of_getElem? (i := 12) rfl)
theorem dX0_placeOfCircle_19 : decode cX0_placeOfCircle 19 = .ok (.if_icmp .ge 47, 3) := daX0_placeOfCircle (19, .if_icmp .ge 47, 3) (List.mem_of_getElem? (i := 13) rfl)
theorem dX0_placeOfCircle_22 : decode cX0_placeOfCircle 22 = .ok (.iload_n 1, 1) := daX0_placeOfCircle (22, .iload_n 1, 1) (List.mem_of_getElem? (i := 14) rfl)
theorem dX0_placeOfCircle_23 : decode cX0_placeOfCircle 23 = .ok (.bipush 6, 2) := daX0_placeOfCircle (23, .bipush 6, 2) (List.mem_of_getElem? (i := 15) rfl)
theorem dX0_placeOfCircle_25 : decode cX0_placeOfCircle 25 = .ok (.imul, 1) := daX0_placeOfCircle (25, .imul, 1) (List.mem_of_getElem? (i := 16) rfl)
theorem dX0_placeOfCircle_26 : decode cX0_placeOfCircle 26 = .ok (.iload_n 2, 1) := daX0_placeOfCircle (26, .iload_n 2, 1) (List.mem_of_getElem? (i := 17) rfl)
theorem dX0_placeOfCircle_27 : decode cX0_placeOfCircle 27 = .ok (.iadd, 1) := daX0_placeOfCircle (27, .iadd, 1) (List.mem_of_getElem? (i := 18) rfl)
theorem dX0_placeOfCircle_28 : decode cX0_placeOfCircle 28 = .ok (.istore_n 3, 1) := daX0_placeOfCircle (28, .istore_n 3, 1) (List.mem_of_getElem? (i := 19) rfl)
theorem dX0_placeOfCircle_29 : decode cX0_placeOfCircle 29 = .ok (.aload_n 0, 1) := daX0_placeOfCircle (29, .aload_n 0, 1) (List.mem_of_getElem? (i := 20) rfl)
theorem dX0_placeOfCircle_30 : decode cX0_placeOfCircle 30 = .ok (.getfield 40, 3) := daX0_placeOfCircle (30, .getfield 40, 3) (List.mem_of_getElem? (i := 21) rfl)
theorem dX0_placeOfCircle_33 : decode cX0_placeOfCircle 33 = .ok (.iload_n 3, 1) := daX0_placeOfCircle (33, .iload_n 3, 1) (List.mem_of_getElem? (i := 22) rfl)
theorem dX0_placeOfCircle_34 : decode cX0_placeOfCircle 34 = .ok (.iaload, 1) := daX0_placeOfCircle (34, .iaload, 1) (List.mem_of_getElem? (i := 23) rfl)
theorem dX0_placeOfCircle_35 : decode cX0_placeOfCircle 35 = .ok (.iconst 2, 1) := daX0_placeOfCircle (35, .iconst 2, 1) (List.mem_of_getElem? (i := 24) rfl)
theorem dX0_placeOfCircle_36 : decode cX0_placeOfCircle 36 = .ok (.if_icmp .ne 24, 3) := daX0_placeOfCircle (36, .if_icmp .ne 24, 3) (List.mem_of_getElem? (i := 25) rfl)
theorem dX0_placeOfCircle_39 : decode cX0_placeOfCircle 39 = .ok (.aload_n 0, 1) := daX0_placeOfCircle (39, .aload_n 0, 1) (List.mem_of_getElem? (i := 26) rfl)
theorem dX0_placeOfCircle_40 : decode cX0_placeOfCircle 40 = .ok (.aload_n 0, 1) := daX0_placeOfCircle (40, .aload_n 0, 1) (List.mem_of_getElem? (i := 27) rfl)
theorem dX0_placeOfCircle_41 : decode cX0_placeOfCircle 41 = .ok (.getfield 43, 3) := daX0_placeOfCircle (41, .getfield 43, 3) (List.mem_of_getElem? (i := 28) rfl)
theorem dX0_placeOfCircle_44 : decode cX0_placeOfCircle 44 = .ok (.iload_n 3, 1) := daX0_placeOfCircle (44, .iload_n 3, 1) (List.mem_of_getElem? (i := 29) rfl)
theorem dX0_placeOfCircle_45 : decode cX0_placeOfCircle 45 = .ok (.iaload, 1) := daX0_placeOfCircle (45, .iaload, 1) (List.mem_of_getElem? (i := 30) rfl)
theorem dX0_placeOfCircle_46 : decode cX0_placeOfCircle 46 = .ok (.iload_n 1, 1) := daX0_placeOfCircle (46, .iload_n 1, 1) (List.mem_of_getElem? (i := 31) rfl)
theorem dX0_placeOfCircle_47 : decode cX0_placeOfCircle 47 = .ok (.invokevirtual 81, 3) := daX0_placeOfCircle (47, .invokevirtual 81, 3) (List.mem_of_getElem? (i := 32) rfl)
theorem dX0_placeOfCircle_50 : decode cX0_placeOfCircle 50 = .ok (.ifCond .eq 10, 3) := daX0_placeOfCircle (50, .ifCond .eq 10, 3) (List.mem_of_getElem? (i := 33) rfl)
theorem dX0_placeOfCircle_53 : decode cX0_placeOfCircle 53 = .ok (.aload_n 0, 1) := daX0_placeOfCircle (53, .aload_n 0, 1) (List.mem_of_getElem? (i := 34) rfl)
theorem dX0_placeOfCircle_54 : decode cX0_placeOfCircle 54 = .ok (.getfield 49, 3) := daX0_placeOfCircle (54, .getfield 49, 3) (List.mem_of_getElem? (i := 35) rfl)
theorem dX0_placeOfCircle_57 : decode cX0_placeOfCircle 57 = .ok (.iload_n 3, 1) := daX0_placeOfCircle (57, .iload_n 3, 1) (List.mem_of_getElem? (i := 36) rfl)
theorem dX0_placeOfCircle_58 : decode cX0_placeOfCircle 58 = .ok (.iaload, 1) := daX0_placeOfCircle (58, .iaload, 1) (List.mem_of_getElem? (i := 37) rfl)
theorem dX0_placeOfCircle_59 : decode cX0_placeOfCircle 59 = .ok (.ireturn, 1) := daX0_placeOfCircle (59, .ireturn, 1) (List.mem_of_getElem? (i := 38) rfl)
theorem dX0_placeOfCircle_60 : decode cX0_placeOfCircle 60 = .ok (.iinc 2 1, 3) := daX0_placeOfCircle (60, .iinc 2 1, 3) (List.mem_of_getElem? (i := 39) rfl)
theorem dX0_placeOfCircle_63 : decode cX0_placeOfCircle 63 = .ok (.goto (-51), 3) := daX0_placeOfCircle (63, .goto (-51), 3) (List.mem_of_getElem? (i := 40) rfl)
theorem dX0_placeOfCircle_66 : decode cX0_placeOfCircle 66 = .ok (.iinc 1 1, 3) := daX0_placeOfCircle (66, .iinc 1 1, 3) (List.mem_of_getElem? (i := 41) rfl)
theorem dX0_placeOfCircle_69 : decode cX0_placeOfCircle 69 = .ok (.goto (-67), 3) := daX0_placeOfCircle (69, .goto (-67), 3) (List.mem_of_getElem? (i := 42) rfl)
theorem dX0_placeOfCircle_72 : decode cX0_placeOfCircle 72 = .ok (.iconst (-1), 1) := daX0_placeOfCircle (72, .iconst (-1), 1) (List.mem_of_getElem? (i := 43) rfl)
theorem dX0_placeOfCircle_73 : decode cX0_placeOfCircle 73 = .ok (.ireturn, 1) := daX0_placeOfCircle (73, .ireturn, 1) (List.mem_of_getElem? (i := 44) rfl)
def rmX0_placeOfCircle : Room := { frames := 2, cells := 0, slots := 0, locals := 43 }
theorem zdX0_placeOfCircle : yX0_placeOfCircle.cls = RX0 ∧ yX0_placeOfCircle.cls ≠ "java/lang/invoke/MethodHandle" ∧ yX0_placeOfCircle.cls ≠ "java/lang/invoke/VarHandle" ∧ (parseMethodDescriptor yX0_placeOfCircle.desc).map (fun d => d.parameters.length) = some 0 := by decide +kernel
theorem kiX0_placeOfCircle_X0 : ∀ w ∈ wsX00, w ∈ wsX0_placeOfCircle := fun _ h => (List.mem_cons_of_mem _ (List.mem_append_right _ h))
theorem kfX0_placeOfCircle_52 : Cond.fieldLink RX0 52 "ShapeJudge$Book" "shapeCount" "I" ∈ wsX0_placeOfCircle := (List.mem_of_getElem? (i := 1) rfl)
theorem kfX0_placeOfCircle_15 : Cond.fieldLink RX0 15 "ShapeJudge$Book" "partCount" "[I" ∈ wsX0_placeOfCircle := (List.mem_of_getElem? (i := 2) rfl)
theorem kfX0_placeOfCircle_40 : Cond.fieldLink RX0 40 "ShapeJudge$Book" "partTest" "[I" ∈ wsX0_placeOfCircle := (List.mem_of_getElem? (i := 3) rfl)
theorem kfX0_placeOfCircle_43 : Cond.fieldLink RX0 43 "ShapeJudge$Book" "partFirst" "[I" ∈ wsX0_placeOfCircle := (List.mem_of_getElem? (i := 4) rfl)
theorem kfX0_placeOfCircle_49 : Cond.fieldLink RX0 49 "ShapeJudge$Book" "partPlace" "[I" ∈ wsX0_placeOfCircle := (List.mem_of_getElem? (i := 5) rfl)
def t_X0_placeOfCircle_12 (m : Mem) (b : Nat) (i1 : Int32) (i2 : Int32) : Option ((Int32) ⊕ ((Int32) ⊕ (Unit))) :=
  ck (zin i1 6 = true) ((if (m (b + 2) (Int32.toNatClampNeg i1)) ≤ i2 then (some (.inr (.inr ()))) else (bn ((i1 * 6) + i2) fun x4 => ck (zin x4 36 = true) ((if (m (b + 10) (Int32.toNatClampNeg x4)) = 2 then (ck (zin x4 36 = true) ((s_X0_dependsOn m b (m (b + 11) (Int32.toNatClampNeg x4)) i1).bind fun r9 => (if r9 = 0 then (bn (i2 + 1) fun x10 => some (.inl x10)) else (ck (zin x4 36 = true) (some (.inr (.inl (m (b + 13) (Int32.toNatClampNeg x4))))))))) else (bn (i2 + 1) fun x6 => some (.inl x6)))))))
def l_X0_placeOfCircle_12 (m : Mem) (b : Nat) (i1 : Int32) (n : Nat) (i2 : Int32) : Option ((Int32) ⊕ (Unit)) := zlp n (fun a => t_X0_placeOfCircle_12 m b i1 a) i2
def t_X0_placeOfCircle_2 (m : Mem) (b : Nat) (i1 : Int32) : Option ((Int32) ⊕ (Int32)) :=
  (if (m b 0) ≤ i1 then (some (.inr (-1))) else ((zbS (l_X0_placeOfCircle_12 m b i1 FU 0) (fun r => some (.inr r)) (fun _ => bn (i1 + 1) fun x15 => some (.inl x15)))))
def l_X0_placeOfCircle_2 (m : Mem) (b : Nat) (n : Nat) (i1 : Int32) : Option (Int32) := zlp n (fun a => t_X0_placeOfCircle_2 m b a) i1
def s_X0_placeOfCircle (m : Mem) (b : Nat) : Option (Int32) :=
  l_X0_placeOfCircle_2 m b FU 0
set_option maxRecDepth 100000 in
set_option maxHeartbeats 4000000 in
theorem w_X0_placeOfCircle_12 {K : ZK} (C : zOK MX K cX0_placeOfCircle 4 (some .int) RX0 wsX0_placeOfCircle rmX0_placeOfCircle) {m : Mem} {b : Nat} {i1 : Int32} (hb : isb b) {o : (Int32) ⊕ (Unit)} (hret : ∀ r, o = .inl r → zRi MX K cX0_placeOfCircle m r) (hk : ∀ u, o = .inr u → zGo MX K m [(0, .ref ((zw K).2.1 b)), (1, .int i1)] 66 []) : ∀ (n : Nat) (i2 : Int32), l_X0_placeOfCircle_12 m b i1 n i2 = some o → zGo MX K m [(0, .ref ((zw K).2.1 b)), (1, .int i1), (2, .int i2)] 12 [] := by
  intro n
  induction n with
  | zero =>
    intro i2 hf
    cases hf
  | succ n ih =>
    intro i2 hf
    obtain ⟨z, hf, hz⟩ := zlp_el hf
    replace hf : t_X0_placeOfCircle_12 m b i1 i2 = some z := hf
    unfold t_X0_placeOfCircle_12 at hf
    refine z_iload_n C 2 dX0_placeOfCircle_12 rfl rfl ?_
    refine z_aload_n C 0 dX0_placeOfCircle_13 rfl rfl ?_
    refine z_getr C (t := b + 2) (isb_k0 hb) (isb_L0 hb) rfl 4 (Nat.le_of_ble_eq_true rfl) rfl kiX0_placeOfCircle_X0 kfX0_placeOfCircle_15 dX0_placeOfCircle_14 ?_
    refine z_iload_n C 1 dX0_placeOfCircle_17 rfl rfl ?_
    obtain ⟨hi3, hf⟩ := ck_el hf
    refine z_iald C (k := (b + 2)) (isb_k2 hb) (isb_L2 hb) hi3 dX0_placeOfCircle_18 ?_
    refine z_icmp_ge (tgt := 66) C dX0_placeOfCircle_19 (by decide) (fun c14 => ?_) (fun c14 => ?_)
    · replace hf := if_t c14 hf
      cases hf
      replace hz := zlz_r hz
      cases hz
      exact z_sub [0, 1] rfl (hk _ rfl)
    · replace hf := if_f c14 hf
      refine z_iload_n C 1 dX0_placeOfCircle_22 rfl rfl ?_
      refine z_bipush C (v := 6) dX0_placeOfCircle_23 rfl ?_
      refine z_imul C dX0_placeOfCircle_25 ?_
      refine z_iload_n C 2 dX0_placeOfCircle_26 rfl rfl ?_
      refine z_iadd C dX0_placeOfCircle_27 ?_
      refine z_topi (fun x4 e_x4 => ?_)
      replace hf := bn_to e_x4 hf
      refine z_istore_n C (lv2 := [(0, .ref ((zw K).2.1 b)), (1, .int i1), (2, .int i2), (3, .int x4)]) [1, 2, 3, 0] dX0_placeOfCircle_28 rfl (Nat.le_of_ble_eq_true rfl) rfl ?_
      refine z_aload_n C 0 dX0_placeOfCircle_29 rfl rfl ?_
      refine z_getr C (t := b + 10) (isb_k0 hb) (isb_L0 hb) rfl 12 (Nat.le_of_ble_eq_true rfl) rfl kiX0_placeOfCircle_X0 kfX0_placeOfCircle_40 dX0_placeOfCircle_30 ?_
      refine z_iload_n C 3 dX0_placeOfCircle_33 rfl rfl ?_
      obtain ⟨hi5, hf⟩ := ck_el hf
      refine z_iald C (k := (b + 10)) (isb_k10 hb) (isb_L10 hb) hi5 dX0_placeOfCircle_34 ?_
      refine z_iconst C (v := 2) dX0_placeOfCircle_35 rfl ?_
      refine z_icmp_ne (tgt := 60) C dX0_placeOfCircle_36 (by decide) (fun c13 => ?_) (fun c13 => ?_)
      · replace hf := if_f c13 hf
        obtain ⟨x6, e_x6⟩ : ∃ y : Int32, y = i2 + 1 := ⟨_, rfl⟩
        replace hf := bn_to e_x6 hf
        refine z_iinc C (lv2 := [(0, .ref ((zw K).2.1 b)), (1, .int i1), (2, .int x6), (3, .int x4)]) 2 [1, 2, 0, 3] dX0_placeOfCircle_60 rfl rfl (Nat.le_of_ble_eq_true rfl) e_x6 rfl ?_
        refine z_goto (tgt := 12) C dX0_placeOfCircle_63 (by decide) ?_
        cases hf
        exact z_sub [0, 1, 2] rfl (ih x6 hz)
      · replace hf := if_t c13 hf
        refine z_aload_n C 0 dX0_placeOfCircle_39 rfl rfl ?_
        refine z_aload_n C 0 dX0_placeOfCircle_40 rfl rfl ?_
        refine z_getr C (t := b + 11) (isb_k0 hb) (isb_L0 hb) rfl 13 (Nat.le_of_ble_eq_true rfl) rfl kiX0_placeOfCircle_X0 kfX0_placeOfCircle_43 dX0_placeOfCircle_41 ?_
        refine z_iload_n C 3 dX0_placeOfCircle_44 rfl rfl ?_
        obtain ⟨hi7, hf⟩ := ck_el hf
        refine z_iald C (k := (b + 11)) (isb_k11 hb) (isb_L11 hb) hi7 dX0_placeOfCircle_45 ?_
        refine z_iload_n C 1 dX0_placeOfCircle_46 rfl rfl ?_
        obtain ⟨r9, hc8, hf⟩ := zb_el hf
        refine z_cVi C (c_X0_dependsOn _ _ hb hc8) rfl gX0_placeOfCircle_X0_dependsOn rfl rfl zdX0_dependsOn rfl (isb_k0 hb) (isb_L0 hb) rfl rfl ⟨Nat.le_of_ble_eq_true rfl, Nat.le_of_ble_eq_true rfl⟩ (Nat.le_of_ble_eq_true rfl) dX0_placeOfCircle_47 rfl ?_
        refine z_if_eq (tgt := 60) C dX0_placeOfCircle_50 (by decide) (fun c12 => ?_) (fun c12 => ?_)
        · replace hf := if_t c12 hf
          obtain ⟨x10, e_x10⟩ : ∃ y : Int32, y = i2 + 1 := ⟨_, rfl⟩
          replace hf := bn_to e_x10 hf
          refine z_iinc C (lv2 := [(0, .ref ((zw K).2.1 b)), (1, .int i1), (2, .int x10), (3, .int x4)]) 2 [1, 2, 0, 3] dX0_placeOfCircle_60 rfl rfl (Nat.le_of_ble_eq_true rfl) e_x10 rfl ?_
          refine z_goto (tgt := 12) C dX0_placeOfCircle_63 (by decide) ?_
          cases hf
          exact z_sub [0, 1, 2] rfl (ih x10 hz)
        · replace hf := if_f c12 hf
          refine z_aload_n C 0 dX0_placeOfCircle_53 rfl rfl ?_
          refine z_getr C (t := b + 13) (isb_k0 hb) (isb_L0 hb) rfl 15 (Nat.le_of_ble_eq_true rfl) rfl kiX0_placeOfCircle_X0 kfX0_placeOfCircle_49 dX0_placeOfCircle_54 ?_
          refine z_iload_n C 3 dX0_placeOfCircle_57 rfl rfl ?_
          obtain ⟨hi11, hf⟩ := ck_el hf
          refine z_iald C (k := (b + 13)) (isb_k13 hb) (isb_L13 hb) hi11 dX0_placeOfCircle_58 ?_
          cases hf
          replace hz := zlz_r hz
          cases hz
          exact hret _ rfl _ _ dX0_placeOfCircle_59
set_option maxRecDepth 100000 in
set_option maxHeartbeats 4000000 in
theorem w_X0_placeOfCircle_2 {K : ZK} (C : zOK MX K cX0_placeOfCircle 4 (some .int) RX0 wsX0_placeOfCircle rmX0_placeOfCircle) {m : Mem} {b : Nat} (hb : isb b) {r9 : Int32} (hret : zRi MX K cX0_placeOfCircle m r9) : ∀ (n : Nat) (i1 : Int32), l_X0_placeOfCircle_2 m b n i1 = some r9 → zGo MX K m [(0, .ref ((zw K).2.1 b)), (1, .int i1)] 2 [] := by
  intro n
  induction n with
  | zero =>
    intro i1 hf
    cases hf
  | succ n ih =>
    intro i1 hf
    obtain ⟨z, hf, hz⟩ := zlp_el hf
    replace hf : t_X0_placeOfCircle_2 m b i1 = some z := hf
    unfold t_X0_placeOfCircle_2 at hf
    refine z_iload_n C 1 dX0_placeOfCircle_2 rfl rfl ?_
    refine z_aload_n C 0 dX0_placeOfCircle_3 rfl rfl ?_
    refine z_geti C (isb_k0 hb) (isb_L0 hb) rfl 0 (Nat.le_of_ble_eq_true rfl) rfl kiX0_placeOfCircle_X0 kfX0_placeOfCircle_52 dX0_placeOfCircle_4 ?_
    refine z_icmp_ge (tgt := 72) C dX0_placeOfCircle_7 (by decide) (fun c16 => ?_) (fun c16 => ?_)
    · replace hf := if_t c16 hf
      refine z_iconst C (v := (-1)) dX0_placeOfCircle_72 (by decide) ?_
      cases hf
      replace hz := zlz_r hz
      cases hz
      exact hret _ _ dX0_placeOfCircle_73
    · replace hf := if_f c16 hf
      refine z_iconst C (v := 0) dX0_placeOfCircle_10 rfl ?_
      refine z_istore_n C (lv2 := [(0, .ref ((zw K).2.1 b)), (1, .int i1), (2, .int 0)]) [1, 2, 0] dX0_placeOfCircle_11 rfl (Nat.le_of_ble_eq_true rfl) rfl ?_
      obtain ⟨r, hg, hf⟩ | ⟨u, hg, hf⟩ := zbS_el hf
      · cases hf
        replace hz := zlz_r hz
        cases hz
        refine z_sub [0, 1, 2] rfl (w_X0_placeOfCircle_12 C hb ?_ ?_ _ _ hg)
        · intro r2 e2
          cases e2
          exact hret
        · intro _ e2
          cases e2
      · refine z_sub [0, 1, 2] rfl (w_X0_placeOfCircle_12 C hb ?_ ?_ _ _ hg)
        · intro r2 e2
          cases e2
        · intro u2 e2
          cases e2
          clear hg
          obtain ⟨x15, e_x15⟩ : ∃ y : Int32, y = i1 + 1 := ⟨_, rfl⟩
          replace hf := bn_to e_x15 hf
          refine z_iinc C (lv2 := [(0, .ref ((zw K).2.1 b)), (1, .int x15)]) 1 [1, 0] dX0_placeOfCircle_66 rfl rfl (Nat.le_of_ble_eq_true rfl) e_x15 rfl ?_
          refine z_goto (tgt := 2) C dX0_placeOfCircle_69 (by decide) ?_
          cases hf
          exact z_sub [0, 1] rfl (ih x15 hz)
set_option maxRecDepth 100000 in
set_option maxHeartbeats 4000000 in
theorem c_X0_placeOfCircle (l : Launch) (w : ZW) {m : Mem} {b : Nat} {r9 : Int32} (hb : isb b) (hf : s_X0_placeOfCircle m b = some r9) : zCi MX l w yX0_placeOfCircle wsX0_placeOfCircle rmX0_placeOfCircle [.ref (w.2.1 b)] m m r9 := by
  refine z_met_i MX_ok (own := RX0) (by decide +kernel) rfl rfl (Nat.le_of_ble_eq_true rfl) ?_
  intro K C hKw hKl hret
  subst hKw
  subst hKl
  unfold s_X0_placeOfCircle at hf
  show zGo MX K m [(0, .ref ((zw K).2.1 b))] 0 []
  refine z_iconst C (v := 0) dX0_placeOfCircle_0 rfl ?_
  refine z_istore_n C (lv2 := [(0, .ref ((zw K).2.1 b)), (1, .int 0)]) [1, 0] dX0_placeOfCircle_1 rfl (Nat.le_of_ble_eq_true rfl) rfl ?_
  exact z_sub [0, 1] rfl (w_X0_placeOfCircle_2 C hb hret _ _ hf)
theorem dX0_tellPart_0 : decode cX0_tellPart 0 = .ok (.aload_n 0, 1) := by decide +kernel
theorem dX0_tellPart_1 : decode cX0_tellPart 1 = .ok (.getfield 40, 3) := by decide +kernel
theorem dX0_tellPart_4 : decode cX0_tellPart 4 = .ok (.aload_n 0, 1) := by decide +kernel
theorem dX0_tellPart_5 : decode cX0_tellPart 5 = .ok (.getfield 63, 3) := by decide +kernel
theorem dX0_tellPart_8 : decode cX0_tellPart 8 = .ok (.iload_n 1, 1) := by decide +kernel
theorem dX0_tellPart_9 : decode cX0_tellPart 9 = .ok (.iastore, 1) := by decide +kernel
theorem dX0_tellPart_10 : decode cX0_tellPart 10 = .ok (.aload_n 0, 1) := by decide +kernel
theorem dX0_tellPart_11 : decode cX0_tellPart 11 = .ok (.getfield 43, 3) := by decide +kernel
theorem dX0_tellPart_14 : decode cX0_tellPart 14 = .ok (.aload_n 0, 1) := by decide +kernel
theorem dX0_tellPart_15 : decode cX0_tellPart 15 = .ok (.getfield 63, 3) := by decide +kernel
theorem dX0_tellPart_18 : decode cX0_tellPart 18 = .ok (.iload_n 2, 1) := by decide +kernel
theorem dX0_tellPart_19 : decode cX0_tellPart 19 = .ok (.iastore, 1) := by decide +kernel
theorem dX0_tellPart_20 : decode cX0_tellPart 20 = .ok (.aload_n 0, 1) := by decide +kernel
theorem dX0_tellPart_21 : decode cX0_tellPart 21 = .ok (.getfield 46, 3) := by decide +kernel
theorem dX0_tellPart_24 : decode cX0_tellPart 24 = .ok (.aload_n 0, 1) := by decide +kernel
theorem dX0_tellPart_25 : decode cX0_tellPart 25 = .ok (.getfield 63, 3) := by decide +kernel
theorem dX0_tellPart_28 : decode cX0_tellPart 28 = .ok (.iload_n 3, 1) := by decide +kernel
theorem dX0_tellPart_29 : decode cX0_tellPart 29 = .ok (.iastore, 1) := by decide +kernel
theorem dX0_tellPart_30 : decode cX0_tellPart 30 = .ok (.aload_n 0, 1) := by decide +kernel
theorem dX0_tellPart_31 : decode cX0_tellPart 31 = .ok (.getfield 49, 3) := by decide +kernel
theorem dX0_tellPart_34 : decode cX0_tellPart 34 = .ok (.aload_n 0, 1) := by decide +kernel
theorem dX0_tellPart_35 : decode cX0_tellPart 35 = .ok (.getfield 63, 3) := by decide +kernel
theorem dX0_tellPart_38 : decode cX0_tellPart 38 = .ok (.iload 4, 2) := by decide +kernel
theorem dX0_tellPart_40 : decode cX0_tellPart 40 = .ok (.iastore, 1) := by decide +kernel
theorem dX0_tellPart_41 : decode cX0_tellPart 41 = .ok (.return_, 1) := by decide +kernel
def rmX0_tellPart : Room := { frames := 0, cells := 0, slots := 0, locals := 0 }
theorem zdX0_tellPart : yX0_tellPart.cls = RX0 ∧ yX0_tellPart.cls ≠ "java/lang/invoke/MethodHandle" ∧ yX0_tellPart.cls ≠ "java/lang/invoke/VarHandle" ∧ (parseMethodDescriptor yX0_tellPart.desc).map (fun d => d.parameters.length) = some 4 := by decide +kernel
theorem kiX0_tellPart_X0 : ∀ w ∈ wsX00, w ∈ wsX0_tellPart := fun _ h => (List.mem_cons_of_mem _ (List.mem_append_right _ h))
theorem kfX0_tellPart_40 : Cond.fieldLink RX0 40 "ShapeJudge$Book" "partTest" "[I" ∈ wsX0_tellPart := (List.mem_of_getElem? (i := 1) rfl)
theorem kfX0_tellPart_63 : Cond.fieldLink RX0 63 "ShapeJudge$Book" "lastSlot" "I" ∈ wsX0_tellPart := (List.mem_of_getElem? (i := 2) rfl)
theorem kfX0_tellPart_43 : Cond.fieldLink RX0 43 "ShapeJudge$Book" "partFirst" "[I" ∈ wsX0_tellPart := (List.mem_of_getElem? (i := 3) rfl)
theorem kfX0_tellPart_46 : Cond.fieldLink RX0 46 "ShapeJudge$Book" "partSecond" "[I" ∈ wsX0_tellPart := (List.mem_of_getElem? (i := 4) rfl)
theorem kfX0_tellPart_49 : Cond.fieldLink RX0 49 "ShapeJudge$Book" "partPlace" "[I" ∈ wsX0_tellPart := (List.mem_of_getElem? (i := 5) rfl)
def s_X0_tellPart (m : Mem) (b : Nat) (a1 : Int32) (a2 : Int32) (a3 : Int32) (a4 : Int32) : Option (Mem) :=
  ck (zin (m b 2) 36 = true) (bn (sto m (b + 10) (Int32.toNatClampNeg (m b 2)) a1) fun m2 => ck (zin (m2 b 2) 36 = true) (bn (sto m2 (b + 11) (Int32.toNatClampNeg (m2 b 2)) a2) fun m4 => ck (zin (m4 b 2) 36 = true) (bn (sto m4 (b + 12) (Int32.toNatClampNeg (m4 b 2)) a3) fun m6 => ck (zin (m6 b 2) 36 = true) (bn (sto m6 (b + 13) (Int32.toNatClampNeg (m6 b 2)) a4) fun m8 => some m8))))
set_option maxRecDepth 100000 in
set_option maxHeartbeats 4000000 in
theorem c_X0_tellPart (l : Launch) (w : ZW) {m : Mem} {b : Nat} {a1 : Int32} {a2 : Int32} {a3 : Int32} {a4 : Int32} {m9 : Mem} (hb : isb b) (hf : s_X0_tellPart m b a1 a2 a3 a4 = some m9) : zCv MX l w yX0_tellPart wsX0_tellPart rmX0_tellPart [.ref (w.2.1 b), .int a1, .int a2, .int a3, .int a4] m m9 := by
  refine z_met_v MX_ok (own := RX0) (by decide +kernel) rfl rfl (Nat.le_of_ble_eq_true rfl) ?_
  intro K C hKw hKl hret
  subst hKw
  subst hKl
  unfold s_X0_tellPart at hf
  show zGo MX K m [(0, .ref ((zw K).2.1 b)), (1, .int a1), (2, .int a2), (3, .int a3), (4, .int a4)] 0 []
  refine z_aload_n C 0 dX0_tellPart_0 rfl rfl ?_
  refine z_getr C (t := b + 10) (isb_k0 hb) (isb_L0 hb) rfl 12 (Nat.le_of_ble_eq_true rfl) rfl kiX0_tellPart_X0 kfX0_tellPart_40 dX0_tellPart_1 ?_
  refine z_aload_n C 0 dX0_tellPart_4 rfl rfl ?_
  refine z_geti C (isb_k0 hb) (isb_L0 hb) rfl 2 (Nat.le_of_ble_eq_true rfl) rfl kiX0_tellPart_X0 kfX0_tellPart_63 dX0_tellPart_5 ?_
  refine z_iload_n C 1 dX0_tellPart_8 rfl rfl ?_
  obtain ⟨hi1, hf⟩ := ck_el hf
  refine z_iast C (k := (b + 10)) (isb_k10 hb) (isb_L10 hb) hi1 dX0_tellPart_9 ?_
  refine z_nm (fun m2 e_m2 => ?_)
  replace hf := bn_to e_m2 hf
  refine z_aload_n C 0 dX0_tellPart_10 rfl rfl ?_
  refine z_getr C (t := b + 11) (isb_k0 hb) (isb_L0 hb) rfl 13 (Nat.le_of_ble_eq_true rfl) rfl kiX0_tellPart_X0 kfX0_tellPart_43 dX0_tellPart_11 ?_
  refine z_aload_n C 0 dX0_tellPart_14 rfl rfl ?_
  refine z_geti C (isb_k0 hb) (isb_L0 hb) rfl 2 (Nat.le_of_ble_eq_true rfl) rfl kiX0_tellPart_X0 kfX0_tellPart_63 dX0_tellPart_15 ?_
  refine z_iload_n C 2 dX0_tellPart_18 rfl rfl ?_
  obtain ⟨hi3, hf⟩ := ck_el hf
  refine z_iast C (k := (b + 11)) (isb_k11 hb) (isb_L11 hb) hi3 dX0_tellPart_19 ?_
  refine z_nm (fun m4 e_m4 => ?_)
  replace hf := bn_to e_m4 hf
  refine z_aload_n C 0 dX0_tellPart_20 rfl rfl ?_
  refine z_getr C (t := b + 12) (isb_k0 hb) (isb_L0 hb) rfl 14 (Nat.le_of_ble_eq_true rfl) rfl kiX0_tellPart_X0 kfX0_tellPart_46 dX0_tellPart_21 ?_
  refine z_aload_n C 0 dX0_tellPart_24 rfl rfl ?_
  refine z_geti C (isb_k0 hb) (isb_L0 hb) rfl 2 (Nat.le_of_ble_eq_true rfl) rfl kiX0_tellPart_X0 kfX0_tellPart_63 dX0_tellPart_25 ?_
  refine z_iload_n C 3 dX0_tellPart_28 rfl rfl ?_
  obtain ⟨hi5, hf⟩ := ck_el hf
  refine z_iast C (k := (b + 12)) (isb_k12 hb) (isb_L12 hb) hi5 dX0_tellPart_29 ?_
  refine z_nm (fun m6 e_m6 => ?_)
  replace hf := bn_to e_m6 hf
  refine z_aload_n C 0 dX0_tellPart_30 rfl rfl ?_
  refine z_getr C (t := b + 13) (isb_k0 hb) (isb_L0 hb) rfl 15 (Nat.le_of_ble_eq_true rfl) rfl kiX0_tellPart_X0 kfX0_tellPart_49 dX0_tellPart_31 ?_
  refine z_aload_n C 0 dX0_tellPart_34 rfl rfl ?_
  refine z_geti C (isb_k0 hb) (isb_L0 hb) rfl 2 (Nat.le_of_ble_eq_true rfl) rfl kiX0_tellPart_X0 kfX0_tellPart_63 dX0_tellPart_35 ?_
  refine z_iload C 4 dX0_tellPart_38 rfl ?_
  obtain ⟨hi7, hf⟩ := ck_el hf
  refine z_iast C (k := (b + 13)) (isb_k13 hb) (isb_L13 hb) hi7 dX0_tellPart_40 ?_
  refine z_nm (fun m8 e_m8 => ?_)
  replace hf := bn_to e_m8 hf
  cases hf
  exact hret _ _ dX0_tellPart_41
