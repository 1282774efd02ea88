theorem dX4_fail_0 : decode cX4_fail 0 = .ok (.aload_n 0, 1) := by decide +kernel
theorem dX4_fail_1 : decode cX4_fail 1 = .ok (.iload_n 1, 1) := by decide +kernel
theorem dX4_fail_2 : decode cX4_fail 2 = .ok (.putfield 45, 3) := by decide +kernel
theorem dX4_fail_5 : decode cX4_fail 5 = .ok (.aload_n 0, 1) := by decide +kernel
theorem dX4_fail_6 : decode cX4_fail 6 = .ok (.aload_n 0, 1) := by decide +kernel
theorem dX4_fail_7 : decode cX4_fail 7 = .ok (.getfield 14, 3) := by decide +kernel
theorem dX4_fail_10 : decode cX4_fail 10 = .ok (.getfield 67, 3) := by decide +kernel
theorem dX4_fail_13 : decode cX4_fail 13 = .ok (.putfield 48, 3) := by decide +kernel
theorem dX4_fail_16 : decode cX4_fail 16 = .ok (.return_, 1) := by decide +kernel
def rmX4_fail : Room := { frames := 0, cells := 0, slots := 0, locals := 0 }
theorem zdX4_fail : yX4_fail.cls = RX4 ∧ yX4_fail.cls ≠ "java/lang/invoke/MethodHandle" ∧ yX4_fail.cls ≠ "java/lang/invoke/VarHandle" ∧ (parseMethodDescriptor yX4_fail.desc).map (fun d => d.parameters.length) = some 1 := by decide +kernel
theorem kiX4_fail_X4 : ∀ w ∈ wsX40, w ∈ wsX4_fail := fun _ h => (List.mem_cons_of_mem _ (List.mem_append_left _ (List.mem_append_right _ h)))
theorem kfX4_fail_45 : Cond.fieldLink RX4 45 "ShapeJudge$TextReader" "faultKind" "I" ∈ wsX4_fail := (List.mem_of_getElem? (i := 1) rfl)
theorem kfX4_fail_14 : Cond.fieldLink RX4 14 "ShapeJudge$TextReader" "tokens" "LShapeJudge$Tokens;" ∈ wsX4_fail := (List.mem_of_getElem? (i := 2) rfl)
theorem kiX4_fail_X5 : ∀ w ∈ wsX50, w ∈ wsX4_fail := fun _ h => (List.mem_cons_of_mem _ (List.mem_append_right _ h))
theorem kfX4_fail_67 : Cond.fieldLink RX4 67 "ShapeJudge$Tokens" "place" "I" ∈ wsX4_fail := (List.mem_of_getElem? (i := 3) rfl)
theorem kfX4_fail_48 : Cond.fieldLink RX4 48 "ShapeJudge$TextReader" "faultPlace" "I" ∈ wsX4_fail := (List.mem_of_getElem? (i := 4) rfl)
def s_X4_fail (m : Mem) (a1 : Int32) : Option (Mem) :=
  bn (sto m 9 8 a1) fun m1 => bn (sto m1 9 9 (m1 10 3)) fun m2 => some m2
set_option maxRecDepth 100000 in
set_option maxHeartbeats 4000000 in
theorem c_X4_fail (l : Launch) (w : ZW) {m : Mem} {a1 : Int32} {m9 : Mem}  (hf : s_X4_fail m a1 = some m9) : zCv MX l w yX4_fail wsX4_fail rmX4_fail [.ref (w.2.1 9), .int a1] m m9 := by
  refine z_met_v MX_ok (own := RX4) (by decide +kernel) rfl rfl (Nat.le_of_ble_eq_true rfl) ?_
  intro K C hKw hKl hret
  subst hKw
  subst hKl
  unfold s_X4_fail at hf
  show zGo MX K m [(0, .ref ((zw K).2.1 9)), (1, .int a1)] 0 []
  refine z_aload_n C 0 dX4_fail_0 rfl rfl ?_
  refine z_iload_n C 1 dX4_fail_1 rfl rfl ?_
  refine z_puti C (Nat.le_of_ble_eq_true rfl) rfl rfl 8 (Nat.le_of_ble_eq_true rfl) rfl kiX4_fail_X4 kfX4_fail_45 tyX4 tyX4_ok nmX4 rfl rfl dX4_fail_2 ?_
  refine z_nm (fun m1 e_m1 => ?_)
  replace hf := bn_to e_m1 hf
  refine z_aload_n C 0 dX4_fail_5 rfl rfl ?_
  refine z_aload_n C 0 dX4_fail_6 rfl rfl ?_
  refine z_getr C (t := 10) (Nat.le_of_ble_eq_true rfl) rfl rfl 0 (Nat.le_of_ble_eq_true rfl) rfl kiX4_fail_X4 kfX4_fail_14 dX4_fail_7 ?_
  refine z_geti C (Nat.le_of_ble_eq_true rfl) rfl rfl 3 (Nat.le_of_ble_eq_true rfl) rfl kiX4_fail_X5 kfX4_fail_67 dX4_fail_10 ?_
  refine z_puti C (Nat.le_of_ble_eq_true rfl) rfl rfl 9 (Nat.le_of_ble_eq_true rfl) rfl kiX4_fail_X4 kfX4_fail_48 tyX4 tyX4_ok nmX4 rfl rfl dX4_fail_13 ?_
  refine z_nm (fun m2 e_m2 => ?_)
  replace hf := bn_to e_m2 hf
  cases hf
  exact hret _ _ dX4_fail_16
set_option maxRecDepth 20000 in
theorem ggX4_isNumberFrom_X4_fail : GoodIn wsX4_isNumberFrom wsX4_fail := goodIn_sub (List.forall_mem_cons.mpr ⟨(List.mem_of_getElem? (i := 9) rfl), (List.forall_mem_append.mpr ⟨(List.forall_mem_append.mpr ⟨(List.forall_mem_cons.mpr ⟨(List.mem_of_getElem? (i := 4) rfl), (List.forall_mem_cons.mpr ⟨(List.mem_of_getElem? (i := 1) rfl), (List.forall_mem_cons.mpr ⟨(List.mem_of_getElem? (i := 10) rfl), (List.forall_mem_cons.mpr ⟨(List.mem_of_getElem? (i := 11) rfl), (fun _ h => absurd h List.not_mem_nil)⟩)⟩)⟩)⟩), (fun _ h => (List.mem_cons_of_mem _ (List.mem_append_left _ (List.mem_append_right _ h))))⟩), (fun _ h => (List.mem_cons_of_mem _ (List.mem_append_right _ h)))⟩)⟩) (by decide +kernel)
set_option maxRecDepth 20000 in
theorem gX4_isNumberFrom_X4_fail : GoodIn wsX4_isNumberFrom (wsV RX4 57 RX4 yX4_fail wsX4_fail) := goodIn_app (goodIn_sub (List.forall_mem_cons.mpr ⟨(List.mem_of_getElem? (i := 5) rfl), (List.forall_mem_cons.mpr ⟨(List.mem_of_getElem? (i := 6) rfl), (List.forall_mem_cons.mpr ⟨(List.mem_of_getElem? (i := 7) rfl), (List.forall_mem_cons.mpr ⟨(List.mem_of_getElem? (i := 8) rfl), (fun _ h => absurd h List.not_mem_nil)⟩)⟩)⟩)⟩) (by decide +kernel)) ggX4_isNumberFrom_X4_fail
theorem dX4_isNumberFrom_0 : decode cX4_isNumberFrom 0 = .ok (.aload_n 0, 1) := by decide +kernel
theorem dX4_isNumberFrom_1 : decode cX4_isNumberFrom 1 = .ok (.getfield 14, 3) := by decide +kernel
theorem dX4_isNumberFrom_4 : decode cX4_isNumberFrom 4 = .ok (.getfield 54, 3) := by decide +kernel
theorem dX4_isNumberFrom_7 : decode cX4_isNumberFrom 7 = .ok (.iconst 3, 1) := by decide +kernel
theorem dX4_isNumberFrom_8 : decode cX4_isNumberFrom 8 = .ok (.if_icmp .eq 11, 3) := by decide +kernel
theorem dX4_isNumberFrom_11 : decode cX4_isNumberFrom 11 = .ok (.aload_n 0, 1) := by decide +kernel
theorem dX4_isNumberFrom_12 : decode cX4_isNumberFrom 12 = .ok (.iconst 2, 1) := by decide +kernel
theorem dX4_isNumberFrom_13 : decode cX4_isNumberFrom 13 = .ok (.invokevirtual 57, 3) := by decide +kernel
theorem dX4_isNumberFrom_16 : decode cX4_isNumberFrom 16 = .ok (.goto 30, 3) := by decide +kernel
theorem dX4_isNumberFrom_19 : decode cX4_isNumberFrom 19 = .ok (.aload_n 0, 1) := by decide +kernel
theorem dX4_isNumberFrom_20 : decode cX4_isNumberFrom 20 = .ok (.getfield 14, 3) := by decide +kernel
theorem dX4_isNumberFrom_23 : decode cX4_isNumberFrom 23 = .ok (.getfield 107, 3) := by decide +kernel
theorem dX4_isNumberFrom_26 : decode cX4_isNumberFrom 26 = .ok (.iload_n 1, 1) := by decide +kernel
theorem dX4_isNumberFrom_27 : decode cX4_isNumberFrom 27 = .ok (.if_icmp .lt 14, 3) := by decide +kernel
theorem dX4_isNumberFrom_30 : decode cX4_isNumberFrom 30 = .ok (.aload_n 0, 1) := by decide +kernel
theorem dX4_isNumberFrom_31 : decode cX4_isNumberFrom 31 = .ok (.getfield 14, 3) := by decide +kernel
theorem dX4_isNumberFrom_34 : decode cX4_isNumberFrom 34 = .ok (.getfield 107, 3) := by decide +kernel
theorem dX4_isNumberFrom_37 : decode cX4_isNumberFrom 37 = .ok (.iload_n 2, 1) := by decide +kernel
theorem dX4_isNumberFrom_38 : decode cX4_isNumberFrom 38 = .ok (.if_icmp .le 8, 3) := by decide +kernel
theorem dX4_isNumberFrom_41 : decode cX4_isNumberFrom 41 = .ok (.aload_n 0, 1) := by decide +kernel
theorem dX4_isNumberFrom_42 : decode cX4_isNumberFrom 42 = .ok (.iconst 3, 1) := by decide +kernel
theorem dX4_isNumberFrom_43 : decode cX4_isNumberFrom 43 = .ok (.invokevirtual 57, 3) := by decide +kernel
theorem dX4_isNumberFrom_46 : decode cX4_isNumberFrom 46 = .ok (.aload_n 0, 1) := by decide +kernel
theorem dX4_isNumberFrom_47 : decode cX4_isNumberFrom 47 = .ok (.getfield 45, 3) := by decide +kernel
theorem dX4_isNumberFrom_50 : decode cX4_isNumberFrom 50 = .ok (.ifCond .ne 7, 3) := by decide +kernel
theorem dX4_isNumberFrom_53 : decode cX4_isNumberFrom 53 = .ok (.iconst 1, 1) := by decide +kernel
theorem dX4_isNumberFrom_54 : decode cX4_isNumberFrom 54 = .ok (.goto 4, 3) := by decide +kernel
theorem dX4_isNumberFrom_57 : decode cX4_isNumberFrom 57 = .ok (.iconst 0, 1) := by decide +kernel
theorem dX4_isNumberFrom_58 : decode cX4_isNumberFrom 58 = .ok (.ireturn, 1) := by decide +kernel
def rmX4_isNumberFrom : Room := { frames := 1, cells := 0, slots := 0, locals := 21 }
theorem zdX4_isNumberFrom : yX4_isNumberFrom.cls = RX4 ∧ yX4_isNumberFrom.cls ≠ "java/lang/invoke/MethodHandle" ∧ yX4_isNumberFrom.cls ≠ "java/lang/invoke/VarHandle" ∧ (parseMethodDescriptor yX4_isNumberFrom.desc).map (fun d => d.parameters.length) = some 2 := by decide +kernel
theorem kiX4_isNumberFrom_X4 : ∀ w ∈ wsX40, w ∈ wsX4_isNumberFrom := fun _ h => (List.mem_cons_of_mem _ (List.mem_append_left _ (List.mem_append_right _ h)))
theorem kfX4_isNumberFrom_14 : Cond.fieldLink RX4 14 "ShapeJudge$TextReader" "tokens" "LShapeJudge$Tokens;" ∈ wsX4_isNumberFrom := (List.mem_of_getElem? (i := 1) rfl)
theorem kiX4_isNumberFrom_X5 : ∀ w ∈ wsX50, w ∈ wsX4_isNumberFrom := fun _ h => (List.mem_cons_of_mem _ (List.mem_append_right _ h))
theorem kfX4_isNumberFrom_54 : Cond.fieldLink RX4 54 "ShapeJudge$Tokens" "kind" "I" ∈ wsX4_isNumberFrom := (List.mem_of_getElem? (i := 2) rfl)
theorem kfX4_isNumberFrom_45 : Cond.fieldLink RX4 45 "ShapeJudge$TextReader" "faultKind" "I" ∈ wsX4_isNumberFrom := (List.mem_of_getElem? (i := 4) rfl)
theorem kfX4_isNumberFrom_107 : Cond.fieldLink RX4 107 "ShapeJudge$Tokens" "number" "I" ∈ wsX4_isNumberFrom := (List.mem_of_getElem? (i := 3) rfl)
def s_X4_isNumberFrom (m : Mem) (a1 : Int32) (a2 : Int32) : Option (Int32 × Mem) :=
  (((if (m 10 2) = 3 then ((if (m 10 4) < a1 then ((s_X4_fail m 3).bind fun m4 => some m4) else ((if (m 10 4) ≤ a2 then (some m) else ((s_X4_fail m 3).bind fun m6 => some m6))))) else ((s_X4_fail m 2).bind fun m10 => some m10)) : Option (Mem)).bind fun m1 => (if (m1 9 8) = 0 then (some (1, m1)) else (some (0, m1))))
set_option maxRecDepth 100000 in
set_option maxHeartbeats 4000000 in
theorem c_X4_isNumberFrom (l : Launch) (w : ZW) {m : Mem} {a1 : Int32} {a2 : Int32} {r9 : Int32} {m9 : Mem}  (hf : s_X4_isNumberFrom m a1 a2 = some (r9, m9)) : zCi MX l w yX4_isNumberFrom wsX4_isNumberFrom rmX4_isNumberFrom [.ref (w.2.1 9), .int a1, .int a2] m m9 r9 := by
  refine z_met_z MX_ok (own := RX4) (by decide +kernel) rfl rfl (Nat.le_of_ble_eq_true rfl) ?_
  intro K C hKw hKl hret
  subst hKw
  subst hKl
  unfold s_X4_isNumberFrom at hf
  show zGo MX K m [(0, .ref ((zw K).2.1 9)), (1, .int a1), (2, .int a2)] 0 []
  refine z_aload_n C 0 dX4_isNumberFrom_0 rfl rfl ?_
  refine z_getr C (t := 10) (Nat.le_of_ble_eq_true rfl) rfl rfl 0 (Nat.le_of_ble_eq_true rfl) rfl kiX4_isNumberFrom_X4 kfX4_isNumberFrom_14 dX4_isNumberFrom_1 ?_
  refine z_geti C (Nat.le_of_ble_eq_true rfl) rfl rfl 2 (Nat.le_of_ble_eq_true rfl) rfl kiX4_isNumberFrom_X5 kfX4_isNumberFrom_54 dX4_isNumberFrom_4 ?_
  refine z_iconst C (v := 3) dX4_isNumberFrom_7 rfl ?_
  obtain ⟨m1, hg, hf⟩ := zb_el hf
  have hj : zGo MX K m1 [(0, .ref ((zw K).2.1 9))] 46 [] := by
    refine z_aload_n C 0 dX4_isNumberFrom_46 rfl rfl ?_
    refine z_geti C (Nat.le_of_ble_eq_true rfl) rfl rfl 8 (Nat.le_of_ble_eq_true rfl) rfl kiX4_isNumberFrom_X4 kfX4_isNumberFrom_45 dX4_isNumberFrom_47 ?_
    refine z_if_ne (tgt := 57) C dX4_isNumberFrom_50 (by decide) (fun c2 => ?_) (fun c2 => ?_)
    · replace hf := if_f c2 hf
      refine z_iconst C (v := 0) dX4_isNumberFrom_57 rfl ?_
      cases hf
      exact hret _ _ dX4_isNumberFrom_58 (Or.inl rfl)
    · replace hf := if_t c2 hf
      refine z_iconst C (v := 1) dX4_isNumberFrom_53 rfl ?_
      refine z_goto (tgt := 58) C dX4_isNumberFrom_54 (by decide) ?_
      cases hf
      exact hret _ _ dX4_isNumberFrom_58 (Or.inr rfl)
  replace hf := hg
  clear hg
  refine z_icmp_eq (tgt := 19) C dX4_isNumberFrom_8 (by decide) (fun c11 => ?_) (fun c11 => ?_)
  · replace hf := if_t c11 hf
    refine z_aload_n C 0 dX4_isNumberFrom_19 rfl rfl ?_
    refine z_getr C (t := 10) (Nat.le_of_ble_eq_true rfl) rfl rfl 0 (Nat.le_of_ble_eq_true rfl) rfl kiX4_isNumberFrom_X4 kfX4_isNumberFrom_14 dX4_isNumberFrom_20 ?_
    refine z_geti C (Nat.le_of_ble_eq_true rfl) rfl rfl 4 (Nat.le_of_ble_eq_true rfl) rfl kiX4_isNumberFrom_X5 kfX4_isNumberFrom_107 dX4_isNumberFrom_23 ?_
    refine z_iload_n C 1 dX4_isNumberFrom_26 rfl rfl ?_
    refine z_icmp_lt (tgt := 41) C dX4_isNumberFrom_27 (by decide) (fun c8 => ?_) (fun c8 => ?_)
    · replace hf := if_t c8 hf
      refine z_aload_n C 0 dX4_isNumberFrom_41 rfl rfl ?_
      refine z_iconst C (v := 3) dX4_isNumberFrom_42 rfl ?_
      obtain ⟨m4, hc3, hf⟩ := zb_el hf
      refine z_cVv C (c_X4_fail _ _ hc3) rfl gX4_isNumberFrom_X4_fail rfl rfl zdX4_fail rfl (Nat.le_of_ble_eq_true rfl) rfl rfl rfl ⟨Nat.le_of_ble_eq_true rfl, Nat.le_of_ble_eq_true rfl⟩ (Nat.le_of_ble_eq_true rfl) dX4_isNumberFrom_43 rfl ?_
      cases hf
      exact z_sub [0] rfl hj
    · replace hf := if_f c8 hf
      refine z_aload_n C 0 dX4_isNumberFrom_30 rfl rfl ?_
      refine z_getr C (t := 10) (Nat.le_of_ble_eq_true rfl) rfl rfl 0 (Nat.le_of_ble_eq_true rfl) rfl kiX4_isNumberFrom_X4 kfX4_isNumberFrom_14 dX4_isNumberFrom_31 ?_
      refine z_geti C (Nat.le_of_ble_eq_true rfl) rfl rfl 4 (Nat.le_of_ble_eq_true rfl) rfl kiX4_isNumberFrom_X5 kfX4_isNumberFrom_107 dX4_isNumberFrom_34 ?_
      refine z_iload_n C 2 dX4_isNumberFrom_37 rfl rfl ?_
      refine z_icmp_le (tgt := 46) C dX4_isNumberFrom_38 (by decide) (fun c7 => ?_) (fun c7 => ?_)
      · replace hf := if_t c7 hf
        cases hf
        exact z_sub [0] rfl hj
      · replace hf := if_f c7 hf
        refine z_aload_n C 0 dX4_isNumberFrom_41 rfl rfl ?_
        refine z_iconst C (v := 3) dX4_isNumberFrom_42 rfl ?_
        obtain ⟨m6, hc5, hf⟩ := zb_el hf
        refine z_cVv C (c_X4_fail _ _ hc5) rfl gX4_isNumberFrom_X4_fail rfl rfl zdX4_fail rfl (Nat.le_of_ble_eq_true rfl) rfl rfl rfl ⟨Nat.le_of_ble_eq_true rfl, Nat.le_of_ble_eq_true rfl⟩ (Nat.le_of_ble_eq_true rfl) dX4_isNumberFrom_43 rfl ?_
        cases hf
        exact z_sub [0] rfl hj
  · replace hf := if_f c11 hf
    refine z_aload_n C 0 dX4_isNumberFrom_11 rfl rfl ?_
    refine z_iconst C (v := 2) dX4_isNumberFrom_12 rfl ?_
    obtain ⟨m10, hc9, hf⟩ := zb_el hf
    refine z_cVv C (c_X4_fail _ _ hc9) rfl gX4_isNumberFrom_X4_fail rfl rfl zdX4_fail rfl (Nat.le_of_ble_eq_true rfl) rfl rfl rfl ⟨Nat.le_of_ble_eq_true rfl, Nat.le_of_ble_eq_true rfl⟩ (Nat.le_of_ble_eq_true rfl) dX4_isNumberFrom_13 rfl ?_
    refine z_goto (tgt := 46) C dX4_isNumberFrom_16 (by decide) ?_
    cases hf
    exact z_sub [0] rfl hj
set_option maxRecDepth 20000 in
theorem ggX4_linkShapes_X0_linkReferences : GoodIn wsX4_linkShapes wsX0_linkReferences := goodIn_sub (List.forall_mem_cons.mpr ⟨(List.mem_of_getElem? (i := 8) rfl), (List.forall_mem_append.mpr ⟨(List.forall_mem_cons.mpr ⟨(List.mem_of_getElem? (i := 9) rfl), (List.forall_mem_cons.mpr ⟨(List.mem_of_getElem? (i := 10) rfl), (List.forall_mem_cons.mpr ⟨(List.mem_of_getElem? (i := 11) rfl), (List.forall_mem_cons.mpr ⟨(List.mem_of_getElem? (i := 12) rfl), (List.forall_mem_cons.mpr ⟨(List.mem_of_getElem? (i := 13) rfl), (List.forall_mem_cons.mpr ⟨(List.mem_of_getElem? (i := 14) rfl), (List.forall_mem_cons.mpr ⟨(List.mem_of_getElem? (i := 15) rfl), (List.forall_mem_cons.mpr ⟨(List.mem_of_getElem? (i := 16) rfl), (List.forall_mem_cons.mpr ⟨(List.mem_of_getElem? (i := 7) rfl), (List.forall_mem_cons.mpr ⟨(List.mem_of_getElem? (i := 17) rfl), (List.forall_mem_cons.mpr ⟨(List.mem_of_getElem? (i := 18) rfl), (List.forall_mem_cons.mpr ⟨(List.mem_of_getElem? (i := 19) rfl), (List.forall_mem_cons.mpr ⟨(List.mem_of_getElem? (i := 20) rfl), (List.forall_mem_cons.mpr ⟨(List.mem_of_getElem? (i := 21) rfl), (List.forall_mem_cons.mpr ⟨(List.mem_of_getElem? (i := 22) rfl), (List.forall_mem_cons.mpr ⟨(List.mem_of_getElem? (i := 23) rfl), (fun _ h => absurd h List.not_mem_nil)⟩)⟩)⟩)⟩)⟩)⟩)⟩)⟩)⟩)⟩)⟩)⟩)⟩)⟩)⟩)⟩), (fun _ h => (List.mem_cons_of_mem _ (List.mem_append_right _ h)))⟩)⟩) (by decide +kernel)
set_option maxRecDepth 20000 in
theorem gX4_linkShapes_X0_linkReferences : GoodIn wsX4_linkShapes (wsV RX4 159 RX0 yX0_linkReferences wsX0_linkReferences) := goodIn_app (goodIn_sub (List.forall_mem_cons.mpr ⟨(List.mem_of_getElem? (i := 4) rfl), (List.forall_mem_cons.mpr ⟨(List.mem_of_getElem? (i := 5) rfl), (List.forall_mem_cons.mpr ⟨(List.mem_of_getElem? (i := 6) rfl), (List.forall_mem_cons.mpr ⟨(List.mem_of_getElem? (i := 7) rfl), (fun _ h => absurd h List.not_mem_nil)⟩)⟩)⟩)⟩) (by decide +kernel)) ggX4_linkShapes_X0_linkReferences
set_option maxRecDepth 20000 in
theorem ggX4_linkShapes_X0_findReach : GoodIn wsX4_linkShapes wsX0_findReach := goodIn_sub (List.forall_mem_cons.mpr ⟨(List.mem_of_getElem? (i := 27) rfl), (List.forall_mem_append.mpr ⟨(List.forall_mem_cons.mpr ⟨(List.mem_of_getElem? (i := 9) rfl), (List.forall_mem_cons.mpr ⟨(List.mem_of_getElem? (i := 13) rfl), (fun _ h => absurd h List.not_mem_nil)⟩)⟩), (fun _ h => (List.mem_cons_of_mem _ (List.mem_append_right _ h)))⟩)⟩) (by decide +kernel)
set_option maxRecDepth 20000 in
theorem gX4_linkShapes_X0_findReach : GoodIn wsX4_linkShapes (wsV RX4 163 RX0 yX0_findReach wsX0_findReach) := goodIn_app (goodIn_sub (List.forall_mem_cons.mpr ⟨(List.mem_of_getElem? (i := 24) rfl), (List.forall_mem_cons.mpr ⟨(List.mem_of_getElem? (i := 25) rfl), (List.forall_mem_cons.mpr ⟨(List.mem_of_getElem? (i := 26) rfl), (List.forall_mem_cons.mpr ⟨(List.mem_of_getElem? (i := 7) rfl), (fun _ h => absurd h List.not_mem_nil)⟩)⟩)⟩)⟩) (by decide +kernel)) ggX4_linkShapes_X0_findReach
set_option maxRecDepth 20000 in
theorem ggX4_linkShapes_X0_placeOfCircle : GoodIn wsX4_linkShapes wsX0_placeOfCircle := goodIn_sub (List.forall_mem_cons.mpr ⟨(List.mem_of_getElem? (i := 31) rfl), (List.forall_mem_append.mpr ⟨(List.forall_mem_cons.mpr ⟨(List.mem_of_getElem? (i := 9) rfl), (List.forall_mem_cons.mpr ⟨(List.mem_of_getElem? (i := 10) rfl), (List.forall_mem_cons.mpr ⟨(List.mem_of_getElem? (i := 18) rfl), (List.forall_mem_cons.mpr ⟨(List.mem_of_getElem? (i := 11) rfl), (List.forall_mem_cons.mpr ⟨(List.mem_of_getElem? (i := 12) rfl), (List.forall_mem_cons.mpr ⟨(List.mem_of_getElem? (i := 32) rfl), (List.forall_mem_cons.mpr ⟨(List.mem_of_getElem? (i := 33) rfl), (List.forall_mem_cons.mpr ⟨(List.mem_of_getElem? (i := 34) rfl), (List.forall_mem_cons.mpr ⟨(List.mem_of_getElem? (i := 7) rfl), (List.forall_mem_cons.mpr ⟨(List.mem_of_getElem? (i := 35) rfl), (List.forall_mem_cons.mpr ⟨(List.mem_of_getElem? (i := 13) rfl), (List.forall_mem_cons.mpr ⟨(List.mem_of_getElem? (i := 36) rfl), (List.forall_mem_cons.mpr ⟨(List.mem_of_getElem? (i := 37) rfl), (List.forall_mem_cons.mpr ⟨(List.mem_of_getElem? (i := 38) rfl), (List.forall_mem_cons.mpr ⟨(List.mem_of_getElem? (i := 39) rfl), (fun _ h => absurd h List.not_mem_nil)⟩)⟩)⟩)⟩)⟩)⟩)⟩)⟩)⟩)⟩)⟩)⟩)⟩)⟩)⟩), (fun _ h => (List.mem_cons_of_mem _ (List.mem_append_right _ h)))⟩)⟩) (by decide +kernel)
set_option maxRecDepth 20000 in
theorem gX4_linkShapes_X0_placeOfCircle : GoodIn wsX4_linkShapes (wsV RX4 166 RX0 yX0_placeOfCircle wsX0_placeOfCircle) := goodIn_app (goodIn_sub (List.forall_mem_cons.mpr ⟨(List.mem_of_getElem? (i := 28) rfl), (List.forall_mem_cons.mpr ⟨(List.mem_of_getElem? (i := 29) rfl), (List.forall_mem_cons.mpr ⟨(List.mem_of_getElem? (i := 30) rfl), (List.forall_mem_cons.mpr ⟨(List.mem_of_getElem? (i := 7) rfl), (fun _ h => absurd h List.not_mem_nil)⟩)⟩)⟩)⟩) (by decide +kernel)) ggX4_linkShapes_X0_placeOfCircle
set_option maxRecDepth 20000 in
theorem ggX4_linkShapes_X0_findLevels : GoodIn wsX4_linkShapes wsX0_findLevels := goodIn_sub (List.forall_mem_cons.mpr ⟨(List.mem_of_getElem? (i := 43) rfl), (List.forall_mem_append.mpr ⟨(List.forall_mem_cons.mpr ⟨(List.mem_of_getElem? (i := 9) rfl), (List.forall_mem_cons.mpr ⟨(List.mem_of_getElem? (i := 44) rfl), (List.forall_mem_cons.mpr ⟨(List.mem_of_getElem? (i := 45) rfl), (List.forall_mem_cons.mpr ⟨(List.mem_of_getElem? (i := 46) rfl), (List.forall_mem_cons.mpr ⟨(List.mem_of_getElem? (i := 7) rfl), (List.forall_mem_cons.mpr ⟨(List.mem_of_getElem? (i := 47) rfl), (List.forall_mem_cons.mpr ⟨(List.mem_of_getElem? (i := 10) rfl), (List.forall_mem_cons.mpr ⟨(List.mem_of_getElem? (i := 11) rfl), (List.forall_mem_cons.mpr ⟨(List.mem_of_getElem? (i := 48) rfl), (List.forall_mem_cons.mpr ⟨(List.mem_of_getElem? (i := 18) rfl), (List.forall_mem_cons.mpr ⟨(List.mem_of_getElem? (i := 49) rfl), (List.forall_mem_cons.mpr ⟨(List.mem_of_getElem? (i := 50) rfl), (List.forall_mem_cons.mpr ⟨(List.mem_of_getElem? (i := 51) rfl), (List.forall_mem_cons.mpr ⟨(List.mem_of_getElem? (i := 52) rfl), (List.forall_mem_cons.mpr ⟨(List.mem_of_getElem? (i := 14) rfl), (List.forall_mem_cons.mpr ⟨(List.mem_of_getElem? (i := 15) rfl), (List.forall_mem_cons.mpr ⟨(List.mem_of_getElem? (i := 16) rfl), (List.forall_mem_cons.mpr ⟨(List.mem_of_getElem? (i := 17) rfl), (List.forall_mem_cons.mpr ⟨(List.mem_of_getElem? (i := 36) rfl), (List.forall_mem_cons.mpr ⟨(List.mem_of_getElem? (i := 37) rfl), (List.forall_mem_cons.mpr ⟨(List.mem_of_getElem? (i := 38) rfl), (List.forall_mem_cons.mpr ⟨(List.mem_of_getElem? (i := 39) rfl), (fun _ h => absurd h List.not_mem_nil)⟩)⟩)⟩)⟩)⟩)⟩)⟩)⟩)⟩)⟩)⟩)⟩)⟩)⟩)⟩)⟩)⟩)⟩)⟩)⟩)⟩)⟩), (fun _ h => (List.mem_cons_of_mem _ (List.mem_append_right _ h)))⟩)⟩) (by decide +kernel)
set_option maxRecDepth 20000 in
theorem gX4_linkShapes_X0_findLevels : GoodIn wsX4_linkShapes (wsV RX4 169 RX0 yX0_findLevels wsX0_findLevels) := goodIn_app (goodIn_sub (List.forall_mem_cons.mpr ⟨(List.mem_of_getElem? (i := 40) rfl), (List.forall_mem_cons.mpr ⟨(List.mem_of_getElem? (i := 41) rfl), (List.forall_mem_cons.mpr ⟨(List.mem_of_getElem? (i := 42) rfl), (List.forall_mem_cons.mpr ⟨(List.mem_of_getElem? (i := 7) rfl), (fun _ h => absurd h List.not_mem_nil)⟩)⟩)⟩)⟩) (by decide +kernel)) ggX4_linkShapes_X0_findLevels
theorem dX4_linkShapes_0 : decode cX4_linkShapes 0 = .ok (.aload_n 0, 1) := by decide +kernel
theorem dX4_linkShapes_1 : decode cX4_linkShapes 1 = .ok (.getfield 20, 3) := by decide +kernel
theorem dX4_linkShapes_4 : decode cX4_linkShapes 4 = .ok (.invokevirtual 159, 3) := by decide +kernel
theorem dX4_linkShapes_7 : decode cX4_linkShapes 7 = .ok (.istore_n 1, 1) := by decide +kernel
theorem dX4_linkShapes_8 : decode cX4_linkShapes 8 = .ok (.iload_n 1, 1) := by decide +kernel
theorem dX4_linkShapes_9 : decode cX4_linkShapes 9 = .ok (.ifCond .lt 15, 3) := by decide +kernel
theorem dX4_linkShapes_12 : decode cX4_linkShapes 12 = .ok (.aload_n 0, 1) := by decide +kernel
theorem dX4_linkShapes_13 : decode cX4_linkShapes 13 = .ok (.bipush 6, 2) := by decide +kernel
theorem dX4_linkShapes_15 : decode cX4_linkShapes 15 = .ok (.putfield 45, 3) := by decide +kernel
theorem dX4_linkShapes_18 : decode cX4_linkShapes 18 = .ok (.aload_n 0, 1) := by decide +kernel
theorem dX4_linkShapes_19 : decode cX4_linkShapes 19 = .ok (.iload_n 1, 1) := by decide +kernel
theorem dX4_linkShapes_20 : decode cX4_linkShapes 20 = .ok (.putfield 48, 3) := by decide +kernel
theorem dX4_linkShapes_23 : decode cX4_linkShapes 23 = .ok (.return_, 1) := by decide +kernel
theorem dX4_linkShapes_24 : decode cX4_linkShapes 24 = .ok (.aload_n 0, 1) := by decide +kernel
theorem dX4_linkShapes_25 : decode cX4_linkShapes 25 = .ok (.getfield 20, 3) := by decide +kernel
theorem dX4_linkShapes_28 : decode cX4_linkShapes 28 = .ok (.invokevirtual 163, 3) := by decide +kernel
theorem dX4_linkShapes_31 : decode cX4_linkShapes 31 = .ok (.aload_n 0, 1) := by decide +kernel
theorem dX4_linkShapes_32 : decode cX4_linkShapes 32 = .ok (.getfield 20, 3) := by decide +kernel
theorem dX4_linkShapes_35 : decode cX4_linkShapes 35 = .ok (.invokevirtual 166, 3) := by decide +kernel
theorem dX4_linkShapes_38 : decode cX4_linkShapes 38 = .ok (.istore_n 2, 1) := by decide +kernel
theorem dX4_linkShapes_39 : decode cX4_linkShapes 39 = .ok (.iload_n 2, 1) := by decide +kernel
theorem dX4_linkShapes_40 : decode cX4_linkShapes 40 = .ok (.ifCond .lt 15, 3) := by decide +kernel
theorem dX4_linkShapes_43 : decode cX4_linkShapes 43 = .ok (.aload_n 0, 1) := by decide +kernel
theorem dX4_linkShapes_44 : decode cX4_linkShapes 44 = .ok (.bipush 7, 2) := by decide +kernel
theorem dX4_linkShapes_46 : decode cX4_linkShapes 46 = .ok (.putfield 45, 3) := by decide +kernel
theorem dX4_linkShapes_49 : decode cX4_linkShapes 49 = .ok (.aload_n 0, 1) := by decide +kernel
theorem dX4_linkShapes_50 : decode cX4_linkShapes 50 = .ok (.iload_n 2, 1) := by decide +kernel
theorem dX4_linkShapes_51 : decode cX4_linkShapes 51 = .ok (.putfield 48, 3) := by decide +kernel
theorem dX4_linkShapes_54 : decode cX4_linkShapes 54 = .ok (.return_, 1) := by decide +kernel
theorem dX4_linkShapes_55 : decode cX4_linkShapes 55 = .ok (.aload_n 0, 1) := by decide +kernel
theorem dX4_linkShapes_56 : decode cX4_linkShapes 56 = .ok (.getfield 20, 3) := by decide +kernel
theorem dX4_linkShapes_59 : decode cX4_linkShapes 59 = .ok (.invokevirtual 169, 3) := by decide +kernel
theorem dX4_linkShapes_62 : decode cX4_linkShapes 62 = .ok (.return_, 1) := by decide +kernel
def rmX4_linkShapes : Room := { frames := 3, cells := 0, slots := 0, locals := 67 }
theorem zdX4_linkShapes : yX4_linkShapes.cls = RX4 ∧ yX4_linkShapes.cls ≠ "java/lang/invoke/MethodHandle" ∧ yX4_linkShapes.cls ≠ "java/lang/invoke/VarHandle" ∧ (parseMethodDescriptor yX4_linkShapes.desc).map (fun d => d.parameters.length) = some 0 := by decide +kernel
theorem kiX4_linkShapes_X4 : ∀ w ∈ wsX40, w ∈ wsX4_linkShapes := fun _ h => (List.mem_cons_of_mem _ (List.mem_append_left _ (List.mem_append_right _ h)))
theorem kfX4_linkShapes_20 : Cond.fieldLink RX4 20 "ShapeJudge$TextReader" "book" "LShapeJudge$Book;" ∈ wsX4_linkShapes := (List.mem_of_getElem? (i := 1) rfl)
theorem kfX4_linkShapes_45 : Cond.fieldLink RX4 45 "ShapeJudge$TextReader" "faultKind" "I" ∈ wsX4_linkShapes := (List.mem_of_getElem? (i := 2) rfl)
theorem kfX4_linkShapes_48 : Cond.fieldLink RX4 48 "ShapeJudge$TextReader" "faultPlace" "I" ∈ wsX4_linkShapes := (List.mem_of_getElem? (i := 3) rfl)
def s_X4_linkShapes (m : Mem)  : Option (Mem) :=
  zbk (m 9 1) fun b1 => zb2 (s_X0_linkReferences m b1) fun r3 m4 => (if r3 < 0 then (zbk (m4 9 1) fun b5 => (s_X0_findReach m4 b5).bind fun m7 => zbk (m7 9 1) fun b8 => (s_X0_placeOfCircle m7 b8).bind fun r10 => (if r10 < 0 then (zbk (m7 9 1) fun b11 => (s_X0_findLevels m7 b11).bind fun m13 => some m13) else (bn (sto m7 9 8 7) fun m14 => bn (sto m14 9 9 r10) fun m15 => some m15))) else (bn (sto m4 9 8 6) fun m17 => bn (sto m17 9 9 r3) fun m18 => some m18))
set_option maxRecDepth 100000 in
set_option maxHeartbeats 4000000 in
theorem c_X4_linkShapes (l : Launch) (w : ZW) {m : Mem}  {m9 : Mem}  (hf : s_X4_linkShapes m  = some m9) : zCv MX l w yX4_linkShapes wsX4_linkShapes rmX4_linkShapes [.ref (w.2.1 9)] m m9 := by
  refine z_met_v MX_ok (own := RX4) (by decide +kernel) rfl rfl (Nat.le_of_ble_eq_true rfl) ?_
  intro K C hKw hKl hret
  subst hKw
  subst hKl
  unfold s_X4_linkShapes at hf
  show zGo MX K m [(0, .ref ((zw K).2.1 9))] 0 []
  refine z_aload_n C 0 dX4_linkShapes_0 rfl rfl ?_
  obtain ⟨b1, hb1, e_b1, hf⟩ := zbk_el hf
  refine z_getb C (b := b1) (Nat.le_of_ble_eq_true rfl) rfl rfl 1 (Nat.le_of_ble_eq_true rfl) rfl kiX4_linkShapes_X4 kfX4_linkShapes_20 (isb_lt hb1) e_b1 dX4_linkShapes_1 ?_
  obtain ⟨r3, m4, hc2, hf⟩ := zb2_el hf
  refine z_cVi C (c_X0_linkReferences _ _ hb1 hc2) rfl gX4_linkShapes_X0_linkReferences rfl rfl zdX0_linkReferences rfl (isb_k0 hb1) (isb_L0 hb1) rfl rfl ⟨Nat.le_of_ble_eq_true rfl, Nat.le_of_ble_eq_true rfl⟩ (Nat.le_of_ble_eq_true rfl) dX4_linkShapes_4 rfl ?_
  refine z_istore_n C (lv2 := [(0, .ref ((zw K).2.1 9)), (1, .int r3)]) [1, 0] dX4_linkShapes_7 rfl (Nat.le_of_ble_eq_true rfl) rfl ?_
  refine z_iload_n C 1 dX4_linkShapes_8 rfl rfl ?_
  refine z_if_lt (tgt := 24) C dX4_linkShapes_9 (by decide) (fun c19 => ?_) (fun c19 => ?_)
  · replace hf := if_t c19 hf
    refine z_aload_n C 0 dX4_linkShapes_24 rfl rfl ?_
    obtain ⟨b5, hb5, e_b5, hf⟩ := zbk_el hf
    refine z_getb C (b := b5) (Nat.le_of_ble_eq_true rfl) rfl rfl 1 (Nat.le_of_ble_eq_true rfl) rfl kiX4_linkShapes_X4 kfX4_linkShapes_20 (isb_lt hb5) e_b5 dX4_linkShapes_25 ?_
    obtain ⟨m7, hc6, hf⟩ := zb_el hf
    refine z_cVv C (c_X0_findReach _ _ hb5 hc6) rfl gX4_linkShapes_X0_findReach rfl rfl zdX0_findReach rfl (isb_k0 hb5) (isb_L0 hb5) rfl rfl ⟨Nat.le_of_ble_eq_true rfl, Nat.le_of_ble_eq_true rfl⟩ (Nat.le_of_ble_eq_true rfl) dX4_linkShapes_28 rfl ?_
    refine z_aload_n C 0 dX4_linkShapes_31 rfl rfl ?_
    obtain ⟨b8, hb8, e_b8, hf⟩ := zbk_el hf
    refine z_getb C (b := b8) (Nat.le_of_ble_eq_true rfl) rfl rfl 1 (Nat.le_of_ble_eq_true rfl) rfl kiX4_linkShapes_X4 kfX4_linkShapes_20 (isb_lt hb8) e_b8 dX4_linkShapes_32 ?_
    obtain ⟨r10, hc9, hf⟩ := zb_el hf
    refine z_cVi C (c_X0_placeOfCircle _ _ hb8 hc9) rfl gX4_linkShapes_X0_placeOfCircle rfl rfl zdX0_placeOfCircle rfl (isb_k0 hb8) (isb_L0 hb8) rfl rfl ⟨Nat.le_of_ble_eq_true rfl, Nat.le_of_ble_eq_true rfl⟩ (Nat.le_of_ble_eq_true rfl) dX4_linkShapes_35 rfl ?_
    refine z_istore_n C (lv2 := [(0, .ref ((zw K).2.1 9)), (1, .int r3), (2, .int r10)]) [1, 2, 0] dX4_linkShapes_38 rfl (Nat.le_of_ble_eq_true rfl) rfl ?_
    refine z_iload_n C 2 dX4_linkShapes_39 rfl rfl ?_
    refine z_if_lt (tgt := 55) C dX4_linkShapes_40 (by decide) (fun c16 => ?_) (fun c16 => ?_)
    · replace hf := if_t c16 hf
      refine z_aload_n C 0 dX4_linkShapes_55 rfl rfl ?_
      obtain ⟨b11, hb11, e_b11, hf⟩ := zbk_el hf
      refine z_getb C (b := b11) (Nat.le_of_ble_eq_true rfl) rfl rfl 1 (Nat.le_of_ble_eq_true rfl) rfl kiX4_linkShapes_X4 kfX4_linkShapes_20 (isb_lt hb11) e_b11 dX4_linkShapes_56 ?_
      obtain ⟨m13, hc12, hf⟩ := zb_el hf
      refine z_cVv C (c_X0_findLevels _ _ hb11 hc12) rfl gX4_linkShapes_X0_findLevels rfl rfl zdX0_findLevels rfl (isb_k0 hb11) (isb_L0 hb11) rfl rfl ⟨Nat.le_of_ble_eq_true rfl, Nat.le_of_ble_eq_true rfl⟩ (Nat.le_of_ble_eq_true rfl) dX4_linkShapes_59 rfl ?_
      cases hf
      exact hret _ _ dX4_linkShapes_62
    · replace hf := if_f c16 hf
      refine z_aload_n C 0 dX4_linkShapes_43 rfl rfl ?_
      refine z_bipush C (v := 7) dX4_linkShapes_44 rfl ?_
      refine z_puti C (Nat.le_of_ble_eq_true rfl) rfl rfl 8 (Nat.le_of_ble_eq_true rfl) rfl kiX4_linkShapes_X4 kfX4_linkShapes_45 tyX4 tyX4_ok nmX4 rfl rfl dX4_linkShapes_46 ?_
      refine z_nm (fun m14 e_m14 => ?_)
      replace hf := bn_to e_m14 hf
      refine z_aload_n C 0 dX4_linkShapes_49 rfl rfl ?_
      refine z_iload_n C 2 dX4_linkShapes_50 rfl rfl ?_
      refine z_puti C (Nat.le_of_ble_eq_true rfl) rfl rfl 9 (Nat.le_of_ble_eq_true rfl) rfl kiX4_linkShapes_X4 kfX4_linkShapes_48 tyX4 tyX4_ok nmX4 rfl rfl dX4_linkShapes_51 ?_
      refine z_nm (fun m15 e_m15 => ?_)
      replace hf := bn_to e_m15 hf
      cases hf
      exact hret _ _ dX4_linkShapes_54
  · replace hf := if_f c19 hf
    refine z_aload_n C 0 dX4_linkShapes_12 rfl rfl ?_
    refine z_bipush C (v := 6) dX4_linkShapes_13 rfl ?_
    refine z_puti C (Nat.le_of_ble_eq_true rfl) rfl rfl 8 (Nat.le_of_ble_eq_true rfl) rfl kiX4_linkShapes_X4 kfX4_linkShapes_45 tyX4 tyX4_ok nmX4 rfl rfl dX4_linkShapes_15 ?_
    refine z_nm (fun m17 e_m17 => ?_)
    replace hf := bn_to e_m17 hf
    refine z_aload_n C 0 dX4_linkShapes_18 rfl rfl ?_
    refine z_iload_n C 1 dX4_linkShapes_19 rfl rfl ?_
    refine z_puti C (Nat.le_of_ble_eq_true rfl) rfl rfl 9 (Nat.le_of_ble_eq_true rfl) rfl kiX4_linkShapes_X4 kfX4_linkShapes_48 tyX4 tyX4_ok nmX4 rfl rfl dX4_linkShapes_20 ?_
    refine z_nm (fun m18 e_m18 => ?_)
    replace hf := bn_to e_m18 hf
    cases hf
    exact hret _ _ dX4_linkShapes_23
set_option maxRecDepth 20000 in
theorem ggX4_takeShapeWord_X4_fail : GoodIn wsX4_takeShapeWord wsX4_fail := goodIn_sub (List.forall_mem_cons.mpr ⟨(List.mem_of_getElem? (i := 11) rfl), (List.forall_mem_append.mpr ⟨(List.forall_mem_append.mpr ⟨(List.forall_mem_cons.mpr ⟨(List.mem_of_getElem? (i := 12) rfl), (List.forall_mem_cons.mpr ⟨(List.mem_of_getElem? (i := 1) rfl), (List.forall_mem_cons.mpr ⟨(List.mem_of_getElem? (i := 13) rfl), (List.forall_mem_cons.mpr ⟨(List.mem_of_getElem? (i := 14) rfl), (fun _ h => absurd h List.not_mem_nil)⟩)⟩)⟩)⟩), (fun _ h => (List.mem_cons_of_mem _ (List.mem_append_left _ (List.mem_append_left _ (List.mem_append_right _ h)))))⟩), (fun _ h => (List.mem_cons_of_mem _ (List.mem_append_left _ (List.mem_append_right _ h))))⟩)⟩) (by decide +kernel)
set_option maxRecDepth 20000 in
theorem gX4_takeShapeWord_X4_fail : GoodIn wsX4_takeShapeWord (wsV RX4 57 RX4 yX4_fail wsX4_fail) := goodIn_app (goodIn_sub (List.forall_mem_cons.mpr ⟨(List.mem_of_getElem? (i := 7) rfl), (List.forall_mem_cons.mpr ⟨(List.mem_of_getElem? (i := 8) rfl), (List.forall_mem_cons.mpr ⟨(List.mem_of_getElem? (i := 9) rfl), (List.forall_mem_cons.mpr ⟨(List.mem_of_getElem? (i := 10) rfl), (fun _ h => absurd h List.not_mem_nil)⟩)⟩)⟩)⟩) (by decide +kernel)) ggX4_takeShapeWord_X4_fail
set_option maxRecDepth 20000 in
theorem ggX4_takeShapeWord_X0_shapeOf : GoodIn wsX4_takeShapeWord wsX0_shapeOf := goodIn_sub (List.forall_mem_cons.mpr ⟨(List.mem_of_getElem? (i := 19) rfl), (List.forall_mem_append.mpr ⟨(List.forall_mem_cons.mpr ⟨(List.mem_of_getElem? (i := 20) rfl), (List.forall_mem_cons.mpr ⟨(List.mem_of_getElem? (i := 21) rfl), (fun _ h => absurd h List.not_mem_nil)⟩)⟩), (fun _ h => (List.mem_cons_of_mem _ (List.mem_append_right _ h)))⟩)⟩) (by decide +kernel)
set_option maxRecDepth 20000 in
theorem gX4_takeShapeWord_X0_shapeOf : GoodIn wsX4_takeShapeWord (wsV RX4 110 RX0 yX0_shapeOf wsX0_shapeOf) := goodIn_app (goodIn_sub (List.forall_mem_cons.mpr ⟨(List.mem_of_getElem? (i := 15) rfl), (List.forall_mem_cons.mpr ⟨(List.mem_of_getElem? (i := 16) rfl), (List.forall_mem_cons.mpr ⟨(List.mem_of_getElem? (i := 17) rfl), (List.forall_mem_cons.mpr ⟨(List.mem_of_getElem? (i := 18) rfl), (fun _ h => absurd h List.not_mem_nil)⟩)⟩)⟩)⟩) (by decide +kernel)) ggX4_takeShapeWord_X0_shapeOf
set_option maxRecDepth 20000 in
theorem ggX4_takeShapeWord_X0_openShape : GoodIn wsX4_takeShapeWord wsX0_openShape := goodIn_sub (List.forall_mem_cons.mpr ⟨(List.mem_of_getElem? (i := 25) rfl), (List.forall_mem_append.mpr ⟨(List.forall_mem_cons.mpr ⟨(List.mem_of_getElem? (i := 20) rfl), (List.forall_mem_cons.mpr ⟨(List.mem_of_getElem? (i := 21) rfl), (List.forall_mem_cons.mpr ⟨(List.mem_of_getElem? (i := 26) rfl), (List.forall_mem_cons.mpr ⟨(List.mem_of_getElem? (i := 27) rfl), (List.forall_mem_cons.mpr ⟨(List.mem_of_getElem? (i := 28) rfl), (List.forall_mem_cons.mpr ⟨(List.mem_of_getElem? (i := 29) rfl), (List.forall_mem_cons.mpr ⟨(List.mem_of_getElem? (i := 30) rfl), (List.forall_mem_cons.mpr ⟨(List.mem_of_getElem? (i := 31) rfl), (List.forall_mem_cons.mpr ⟨(List.mem_of_getElem? (i := 32) rfl), (fun _ h => absurd h List.not_mem_nil)⟩)⟩)⟩)⟩)⟩)⟩)⟩)⟩)⟩), (fun _ h => (List.mem_cons_of_mem _ (List.mem_append_right _ h)))⟩)⟩) (by decide +kernel)
set_option maxRecDepth 20000 in
theorem gX4_takeShapeWord_X0_openShape : GoodIn wsX4_takeShapeWord (wsV RX4 114 RX0 yX0_openShape wsX0_openShape) := goodIn_app (goodIn_sub (List.forall_mem_cons.mpr ⟨(List.mem_of_getElem? (i := 22) rfl), (List.forall_mem_cons.mpr ⟨(List.mem_of_getElem? (i := 23) rfl), (List.forall_mem_cons.mpr ⟨(List.mem_of_getElem? (i := 24) rfl), (List.forall_mem_cons.mpr ⟨(List.mem_of_getElem? (i := 18) rfl), (fun _ h => absurd h List.not_mem_nil)⟩)⟩)⟩)⟩) (by decide +kernel)) ggX4_takeShapeWord_X0_openShape
set_option maxRecDepth 100000 in
theorem daX4_takeShapeWord : ∀ q ∈ ([(0, .aload_n 0, 1), (1, .getfield 14, 3), (4, .getfield 54, 3), (7, .ifCond .ne 22, 3), (10, .aload_n 0, 1), (11, .getfield 20, 3), (14, .getfield 104, 3), (17, .ifCond .le 12, 3), (20, .aload_n 0, 1), (21, .bipush 14, 2), (23, .putfield 32, 3), (26, .goto 86, 3), (29, .aload_n 0, 1), (30, .getfield 14, 3), (33, .getfield 54, 3), (36, .iconst 2, 1), (37, .if_icmp .eq 11, 3), (40, .aload_n 0, 1), (41, .iconst 2, 1), (42, .invokevirtual 57, 3), (45, .goto 67, 3), (48, .aload_n 0, 1), (49, .getfield 20, 3), (52, .getfield 104, 3), (55, .bipush 6, 2), (57, .if_icmp .lt 11, 3), (60, .aload_n 0, 1), (61, .iconst 4, 1), (62, .invokevirtual 57, 3), (65, .goto 47, 3), (68, .aload_n 0, 1), (69, .getfield 20, 3), (72, .aload_n 0, 1), (73, .getfield 14, 3), (76, .getfield 107, 3), (79, .invokevirtual 110, 3), (82, .ifCond .lt 11, 3), (85, .aload_n 0, 1), (86, .iconst 5, 1), (87, .invokevirtual 57, 3), (90, .goto 22, 3), (93, .aload_n 0, 1), (94, .getfield 20, 3), (97, .aload_n 0, 1), (98, .getfield 14, 3), (101, .getfield 107, 3), (104, .invokevirtual 114, 3), (107, .aload_n 0, 1), (108, .iconst 1, 1), (109, .putfield 32, 3), (112, .return_, 1)] : List (Nat × Instr × Nat)), decode cX4_takeShapeWord q.1 = .ok q.2 := by decide +kernel
theorem dX4_takeShapeWord_0 : decode cX4_takeShapeWord 0 = .ok (.aload_n 0, 1) := daX4_takeShapeWord (0, .aload_n 0, 1) (List.mem_of_getElem? (i := 0) rfl)
theorem dX4_takeShapeWord_1 : decode cX4_takeShapeWord 1 = .ok (.getfield 14, 3) := daX4_takeShapeWord (1, .getfield 14, 3) (List.mem_of_getElem? (i := 1) rfl)
theorem dX4_takeShapeWord_4 : decode cX4_takeShapeWord 4 = .ok (.getfield 54, 3) := daX4_takeShapeWord (4, .getfield 54, 3) (List.mem_of_getElem? (i := 2) rfl)
theorem dX4_takeShapeWord_7 : decode cX4_takeShapeWord 7 = .ok (.ifCond .ne 22, 3) := daX4_takeShapeWord (7, .ifCond .ne 22, 3) (List.mem_of_getElem? (i := 3) rfl)
theorem dX4_takeShapeWord_10 : decode cX4_takeShapeWord 10 = .ok (.aload_n 0, 1) := daX4_takeShapeWord (10, .aload_n 0, 1) (List.mem_of_getElem? (i := 4) rfl)
theorem dX4_takeShapeWord_11 : decode cX4_takeShapeWord 11 = .ok (.getfield 20, 3) := daX4_takeShapeWord (11, .getfield 20, 3) (List.mem_of_getElem? (i := 5) rfl)
theorem dX4_takeShapeWord_14 : decode cX4_takeShapeWord 14 = .ok (.getfield 104, 3) := daX4_takeShapeWord (14, .getfield 104, 3) (List.mem_of_getElem? (i := 6) rfl)
theorem dX4_takeShapeWord_17 : decode cX4_takeShapeWord 17 = .ok (.ifCond .le 12, 3) := daX4_takeShapeWord (17, .ifCond .le 12, 3) (List.mem_of_getElem? (i := 7) rfl)
theorem dX4_takeShapeWord_20 : decode cX4_takeShapeWord 20 = .ok (.aload_n 0, 1) := daX4_takeShapeWord (20, .aload_n 0, 1) (List.mem_of_getElem? (i := 8) rfl)
theorem dX4_takeShapeWord_21 : decode cX4_takeShapeWord 21 = .ok (.bipush 14, 2) := daX4_takeShapeWord (21, .bipush 14, 2) (List.mem_of_getElem? (i := 9) rfl)
theorem dX4_takeShapeWord_23 : decode cX4_takeShapeWord 23 = .ok (.putfield 32, 3) := daX4_takeShapeWord (23, .putfield 32, 3) (List.mem_of_getElem? (i := 10) rfl)
theorem dX4_takeShapeWord_26 : decode cX4_takeShapeWord 26 = .ok (.goto 86, 3) := daX4_takeShapeWord (26, .goto 86, 3) (List.mem_of_getElem? (i := 11) rfl)
theorem dX4_takeShapeWord_29 : decode cX4_takeShapeWord 29 = .ok (.aload_n 0, 1) := daX4_takeShapeWord (29, .aload_n 0, 1) (List.mem_of_getElem? (i := 12) rfl)
theorem dX4_takeShapeWord_30 : decode cX4_takeShapeWord 30 = .ok (.getfield 14, 3) := daX4_takeShapeWord (30, .getfield 14, 3) (List.mem_of_getElem? (i := 13) rfl)
theorem dX4_takeShapeWord_33 : decode cX4_takeShapeWord 33 = .ok (.getfield 54, 3) := daX4_takeShapeWord (33, .getfield 54, 3) (List.mem_of_getElem? (i := 14) rfl)
theorem dX4_takeShapeWord_36 : decode cX4_takeShapeWord 36 = .ok (.iconst 2, 1) := daX4_takeShapeWord (36, .iconst 2, 1) (List.mem_of_getElem? (i := 15) rfl)
theorem dX4_takeShapeWord_37 : decode cX4_takeShapeWord 37 = .ok (.if_icmp .eq 11, 3) := daX4_takeShapeWord (37, .if_icmp .eq 11, 3) (List.mem_of_getElem? (i := 16) rfl)
theorem dX4_takeShapeWord_40 : decode cX4_takeShapeWord 40 = .ok (.aload_n 0, 1) := daX4_takeShapeWord (40, .aload_n 0, 1) (List.mem_of_getElem? (i := 17) rfl)
theorem dX4_takeShapeWord_41 : decode cX4_takeShapeWord 41 = .ok (.iconst 2, 1) := daX4_takeShapeWord (41, .iconst 2, 1) (List.mem_of_getElem? (i := 18) rfl)
theorem dX4_takeShapeWord_42 : decode cX4_takeShapeWord 42 = .ok (.invokevirtual 57, 3) := daX4_takeShapeWord (42, .invokevirtual 57, 3) (List.mem_of_getElem? (i := 19) rfl)
theorem dX4_takeShapeWord_45 : decode cX4_takeShapeWord 45 = .ok (.goto 67, 3) := daX4_takeShapeWord (45, .goto 67, 3) (List.mem_of_getElem? (i := 20) rfl)
theorem dX4_takeShapeWord_48 : decode cX4_takeShapeWord 48 = .ok (.aload_n 0, 1) := daX4_takeShapeWord (48, .aload_n 0, 1) (List.mem_of_getElem? (i := 21) rfl)
theorem dX4_takeShapeWord_49 : decode cX4_takeShapeWord 49 = .ok (.getfield 20, 3) := daX4_takeShapeWord (49, .getfield 20, 3) (List.mem_of_getElem? (i := 22) rfl)
theorem dX4_takeShapeWord_52 : decode cX4_takeShapeWord 52 = .ok (.getfield 104, 3) := daX4_takeShapeWord (52, .getfield 104, 3) (List.mem_of_getElem? (i := 23) rfl)
theorem dX4_takeShapeWord_55 : decode cX4_takeShapeWord 55 = .ok (.bipush 6, 2) := daX4_takeShapeWord (55, .bipush 6, 2) (List.mem_of_getElem? (i := 24) rfl)
theorem dX4_takeShapeWord_57 : decode cX4_takeShapeWord 57 = .ok (.if_icmp .lt 11, 3) := daX4_takeShapeWord (57, .if_icmp .lt 11, 3) (List.mem_of_getElem? (i := 25) rfl)
theorem dX4_takeShapeWord_60 : decode cX4_takeShapeWord 60 = .ok (.aload_n 0, 1) := daX4_takeShapeWord (60, .aload_n 0, 1) (List.mem_of_getElem? (i := 26) rfl)
theorem dX4_takeShapeWord_61 : decode cX4_takeShapeWord 61 = .ok (.iconst 4, 1) := daX4_takeShapeWord (61, .iconst 4, 1) (List.mem_of_getElem? (i := 27) rfl)
theorem dX4_takeShapeWord_62 : decode cX4_takeShapeWord 62 = .ok (.invokevirtual 57, 3) := daX4_takeShapeWord (62, .invokevirtual 57, 3) (List.mem_of_getElem? (i := 28) rfl)
theorem dX4_takeShapeWord_65 : decode cX4_takeShapeWord 65 = .ok (.goto 47, 3) := daX4_takeShapeWord (65, .goto 47, 3) (List.mem_of_getElem? (i := 29) rfl)
theorem dX4_takeShapeWord_68 : decode cX4_takeShapeWord 68 = .ok (.aload_n 0, 1) := daX4_takeShapeWord (68, .aload_n 0, 1) (List.mem_of_getElem? (i := 30) rfl)
theorem dX4_takeShapeWord_69 : decode cX4_takeShapeWord 69 = .ok (.getfield 20, 3) := daX4_takeShapeWord (69, .getfield 20, 3) (List.mem_of_getElem? (i := 31) rfl)
theorem dX4_takeShapeWord_72 : decode cX4_takeShapeWord 72 = .ok (.aload_n 0, 1) := daX4_takeShapeWord (72, .aload_n 0, 1) (List.mem_of_getElem? (i := 32) rfl)
theorem dX4_takeShapeWord_73 : decode cX4_takeShapeWord 73 = .ok (.getfield 14, 3) := daX4_takeShapeWord (73, .getfield 14, 3) (List.mem_of_getElem? (i := 33) rfl)
theorem dX4_takeShapeWord_76 : decode cX4_takeShapeWord 76 = .ok (.getfield 107, 3) := daX4_takeShapeWord (76, .getfield 107, 3) (List.mem_of_getElem? (i := 34) rfl)
theorem dX4_takeShapeWord_79 : decode cX4_takeShapeWord 79 = .ok (.invokevirtual 110, 3) := daX4_takeShapeWord (79, .invokevirtual 110, 3) (List.mem_of_getElem? (i := 35) rfl)
theorem dX4_takeShapeWord_82 : decode cX4_takeShapeWord 82 = .ok (.ifCond .lt 11, 3) := daX4_takeShapeWord (82, .ifCond .lt 11, 3) (List.mem_of_getElem? (i := 36) rfl)
theorem dX4_takeShapeWord_85 : decode cX4_takeShapeWord 85 = .ok (.aload_n 0, 1) := daX4_takeShapeWord (85, .aload_n 0, 1) (List.mem_of_getElem? (i := 37) rfl)
theorem dX4_takeShapeWord_86 : decode cX4_takeShapeWord 86 = .ok (.iconst 5, 1) := daX4_takeShapeWord (86, .iconst 5, 1) (List.mem_of_getElem? (i := 38) rfl)
theorem dX4_takeShapeWord_87 : decode cX4_takeShapeWord 87 = .ok (.invokevirtual 57, 3) := daX4_takeShapeWord (87, .invokevirtual 57, 3) (List.mem_of_getElem? (i := 39) rfl)
theorem dX4_takeShapeWord_90 : decode cX4_takeShapeWord 90 = .ok (.goto 22, 3) := daX4_takeShapeWord (90, .goto 22, 3) (List.mem_of_getElem? (i := 40) rfl)
theorem dX4_takeShapeWord_93 : decode cX4_takeShapeWord 93 = .ok (.aload_n 0, 1) := daX4_takeShapeWord (93, .aload_n 0, 1) (List.mem_of_getElem? (i := 41) rfl)
theorem dX4_takeShapeWord_94 : decode cX4_takeShapeWord 94 = .ok (.getfield 20, 3) := daX4_takeShapeWord (94, .getfield 20, 3) (List.mem_of_getElem? (i := 42) rfl)
theorem dX4_takeShapeWord_97 : decode cX4_takeShapeWord 97 = .ok (.aload_n 0, 1) := daX4_takeShapeWord (97, .aload_n 0, 1) (List.mem_of_getElem? (i := 43) rfl)
theorem dX4_takeShapeWord_98 : decode cX4_takeShapeWord 98 = .ok (.getfield 14, 3) := daX4_takeShapeWord (98, .getfield 14, 3) (List.mem_of_getElem? (i := 44) rfl)
theorem dX4_takeShapeWord_101 : decode cX4_takeShapeWord 101 = .ok (.getfield 107, 3) := daX4_takeShapeWord (101, .getfield 107, 3) (List.mem_of_getElem? (i := 45) rfl)
theorem dX4_takeShapeWord_104 : decode cX4_takeShapeWord 104 = .ok (.invokevirtual 114, 3) := daX4_takeShapeWord (104, .invokevirtual 114, 3) (List.mem_of_getElem? (i := 46) rfl)
theorem dX4_takeShapeWord_107 : decode cX4_takeShapeWord 107 = .ok (.aload_n 0, 1) := daX4_takeShapeWord (107, .aload_n 0, 1) (List.mem_of_getElem? (i := 47) rfl)
theorem dX4_takeShapeWord_108 : decode cX4_takeShapeWord 108 = .ok (.iconst 1, 1) := daX4_takeShapeWord (108, .iconst 1, 1) (List.mem_of_getElem? (i := 48) rfl)
theorem dX4_takeShapeWord_109 : decode cX4_takeShapeWord 109 = .ok (.putfield 32, 3) := daX4_takeShapeWord (109, .putfield 32, 3) (List.mem_of_getElem? (i := 49) rfl)
theorem dX4_takeShapeWord_112 : decode cX4_takeShapeWord 112 = .ok (.return_, 1) := daX4_takeShapeWord (112, .return_, 1) (List.mem_of_getElem? (i := 50) rfl)
def rmX4_takeShapeWord : Room := { frames := 1, cells := 0, slots := 0, locals := 22 }
theorem zdX4_takeShapeWord : yX4_takeShapeWord.cls = RX4 ∧ yX4_takeShapeWord.cls ≠ "java/lang/invoke/MethodHandle" ∧ yX4_takeShapeWord.cls ≠ "java/lang/invoke/VarHandle" ∧ (parseMethodDescriptor yX4_takeShapeWord.desc).map (fun d => d.parameters.length) = some 0 := by decide +kernel
theorem kiX4_takeShapeWord_X4 : ∀ w ∈ wsX40, w ∈ wsX4_takeShapeWord := fun _ h => (List.mem_cons_of_mem _ (List.mem_append_left _ (List.mem_append_left _ (List.mem_append_right _ h))))
theorem kfX4_takeShapeWord_14 : Cond.fieldLink RX4 14 "ShapeJudge$TextReader" "tokens" "LShapeJudge$Tokens;" ∈ wsX4_takeShapeWord := (List.mem_of_getElem? (i := 1) rfl)
theorem kiX4_takeShapeWord_X5 : ∀ w ∈ wsX50, w ∈ wsX4_takeShapeWord := fun _ h => (List.mem_cons_of_mem _ (List.mem_append_left _ (List.mem_append_right _ h)))
theorem kfX4_takeShapeWord_54 : Cond.fieldLink RX4 54 "ShapeJudge$Tokens" "kind" "I" ∈ wsX4_takeShapeWord := (List.mem_of_getElem? (i := 2) rfl)
theorem kfX4_takeShapeWord_20 : Cond.fieldLink RX4 20 "ShapeJudge$TextReader" "book" "LShapeJudge$Book;" ∈ wsX4_takeShapeWord := (List.mem_of_getElem? (i := 3) rfl)
theorem kiX4_takeShapeWord_X0 : ∀ w ∈ wsX00, w ∈ wsX4_takeShapeWord := fun _ h => (List.mem_cons_of_mem _ (List.mem_append_right _ h))
theorem kfX4_takeShapeWord_104 : Cond.fieldLink RX4 104 "ShapeJudge$Book" "shapeCount" "I" ∈ wsX4_takeShapeWord := (List.mem_of_getElem? (i := 4) rfl)
theorem kfX4_takeShapeWord_107 : Cond.fieldLink RX4 107 "ShapeJudge$Tokens" "number" "I" ∈ wsX4_takeShapeWord := (List.mem_of_getElem? (i := 6) rfl)
theorem kfX4_takeShapeWord_32 : Cond.fieldLink RX4 32 "ShapeJudge$TextReader" "state" "I" ∈ wsX4_takeShapeWord := (List.mem_of_getElem? (i := 5) rfl)
def s_X4_takeShapeWord (m : Mem)  : Option (Mem) :=
  (if (m 10 2) = 0 then (zbk (m 9 1) fun b18 => (if (m b18 0) ≤ 0 then ((if (m 10 2) = 2 then (zbk (m 9 1) fun b19 => (if (m b19 0) < 6 then (zbk (m 9 1) fun b20 => (s_X0_shapeOf m b20 (m 10 4)).bind fun r22 => (if r22 < 0 then (zbk (m 9 1) fun b23 => (s_X0_openShape m b23 (m 10 4)).bind fun m25 => bn (sto m25 9 2 1) fun m26 => some m26) else ((s_X4_fail m 5).bind fun m28 => some m28))) else ((s_X4_fail m 4).bind fun m31 => some m31))) else ((s_X4_fail m 2).bind fun m34 => some m34))) else (bn (sto m 9 2 14) fun m36 => some m36))) else ((if (m 10 2) = 2 then (zbk (m 9 1) fun b1 => (if (m b1 0) < 6 then (zbk (m 9 1) fun b2 => (s_X0_shapeOf m b2 (m 10 4)).bind fun r4 => (if r4 < 0 then (zbk (m 9 1) fun b5 => (s_X0_openShape m b5 (m 10 4)).bind fun m7 => bn (sto m7 9 2 1) fun m8 => some m8) else ((s_X4_fail m 5).bind fun m10 => some m10))) else ((s_X4_fail m 4).bind fun m13 => some m13))) else ((s_X4_fail m 2).bind fun m16 => some m16))))
set_option maxRecDepth 100000 in
set_option maxHeartbeats 4000000 in
theorem c_X4_takeShapeWord (l : Launch) (w : ZW) {m : Mem}  {m9 : Mem}  (hf : s_X4_takeShapeWord m  = some m9) : zCv MX l w yX4_takeShapeWord wsX4_takeShapeWord rmX4_takeShapeWord [.ref (w.2.1 9)] m m9 := by
  refine z_met_v MX_ok (own := RX4) (by decide +kernel) rfl rfl (Nat.le_of_ble_eq_true rfl) ?_
  intro K C hKw hKl hret
  subst hKw
  subst hKl
  unfold s_X4_takeShapeWord at hf
  show zGo MX K m [(0, .ref ((zw K).2.1 9))] 0 []
  refine z_aload_n C 0 dX4_takeShapeWord_0 rfl rfl ?_
  refine z_getr C (t := 10) (Nat.le_of_ble_eq_true rfl) rfl rfl 0 (Nat.le_of_ble_eq_true rfl) rfl kiX4_takeShapeWord_X4 kfX4_takeShapeWord_14 dX4_takeShapeWord_1 ?_
  refine z_geti C (Nat.le_of_ble_eq_true rfl) rfl rfl 2 (Nat.le_of_ble_eq_true rfl) rfl kiX4_takeShapeWord_X5 kfX4_takeShapeWord_54 dX4_takeShapeWord_4 ?_
  refine z_if_ne (tgt := 29) C dX4_takeShapeWord_7 (by decide) (fun c38 => ?_) (fun c38 => ?_)
  · replace hf := if_f c38 hf
    refine z_aload_n C 0 dX4_takeShapeWord_29 rfl rfl ?_
    refine z_getr C (t := 10) (Nat.le_of_ble_eq_true rfl) rfl rfl 0 (Nat.le_of_ble_eq_true rfl) rfl kiX4_takeShapeWord_X4 kfX4_takeShapeWord_14 dX4_takeShapeWord_30 ?_
    refine z_geti C (Nat.le_of_ble_eq_true rfl) rfl rfl 2 (Nat.le_of_ble_eq_true rfl) rfl kiX4_takeShapeWord_X5 kfX4_takeShapeWord_54 dX4_takeShapeWord_33 ?_
    refine z_iconst C (v := 2) dX4_takeShapeWord_36 rfl ?_
    refine z_icmp_eq (tgt := 48) C dX4_takeShapeWord_37 (by decide) (fun c17 => ?_) (fun c17 => ?_)
    · replace hf := if_t c17 hf
      refine z_aload_n C 0 dX4_takeShapeWord_48 rfl rfl ?_
      obtain ⟨b1, hb1, e_b1, hf⟩ := zbk_el hf
      refine z_getb C (b := b1) (Nat.le_of_ble_eq_true rfl) rfl rfl 1 (Nat.le_of_ble_eq_true rfl) rfl kiX4_takeShapeWord_X4 kfX4_takeShapeWord_20 (isb_lt hb1) e_b1 dX4_takeShapeWord_49 ?_
      refine z_geti C (isb_k0 hb1) (isb_L0 hb1) rfl 0 (Nat.le_of_ble_eq_true rfl) rfl kiX4_takeShapeWord_X0 kfX4_takeShapeWord_104 dX4_takeShapeWord_52 ?_
      refine z_bipush C (v := 6) dX4_takeShapeWord_55 rfl ?_
      refine z_icmp_lt (tgt := 68) C dX4_takeShapeWord_57 (by decide) (fun c14 => ?_) (fun c14 => ?_)
      · replace hf := if_t c14 hf
        refine z_aload_n C 0 dX4_takeShapeWord_68 rfl rfl ?_
        obtain ⟨b2, hb2, e_b2, hf⟩ := zbk_el hf
        refine z_getb C (b := b2) (Nat.le_of_ble_eq_true rfl) rfl rfl 1 (Nat.le_of_ble_eq_true rfl) rfl kiX4_takeShapeWord_X4 kfX4_takeShapeWord_20 (isb_lt hb2) e_b2 dX4_takeShapeWord_69 ?_
        refine z_aload_n C 0 dX4_takeShapeWord_72 rfl rfl ?_
        refine z_getr C (t := 10) (Nat.le_of_ble_eq_true rfl) rfl rfl 0 (Nat.le_of_ble_eq_true rfl) rfl kiX4_takeShapeWord_X4 kfX4_takeShapeWord_14 dX4_takeShapeWord_73 ?_
        refine z_geti C (Nat.le_of_ble_eq_true rfl) rfl rfl 4 (Nat.le_of_ble_eq_true rfl) rfl kiX4_takeShapeWord_X5 kfX4_takeShapeWord_107 dX4_takeShapeWord_76 ?_
        obtain ⟨r4, hc3, hf⟩ := zb_el hf
        refine z_cVi C (c_X0_shapeOf _ _ hb2 hc3) rfl gX4_takeShapeWord_X0_shapeOf rfl rfl zdX0_shapeOf rfl (isb_k0 hb2) (isb_L0 hb2) rfl rfl ⟨Nat.le_of_ble_eq_true rfl, Nat.le_of_ble_eq_true rfl⟩ (Nat.le_of_ble_eq_true rfl) dX4_takeShapeWord_79 rfl ?_
        refine z_if_lt (tgt := 93) C dX4_takeShapeWord_82 (by decide) (fun c11 => ?_) (fun c11 => ?_)
        · replace hf := if_t c11 hf
          refine z_aload_n C 0 dX4_takeShapeWord_93 rfl rfl ?_
          obtain ⟨b5, hb5, e_b5, hf⟩ := zbk_el hf
          refine z_getb C (b := b5) (Nat.le_of_ble_eq_true rfl) rfl rfl 1 (Nat.le_of_ble_eq_true rfl) rfl kiX4_takeShapeWord_X4 kfX4_takeShapeWord_20 (isb_lt hb5) e_b5 dX4_takeShapeWord_94 ?_
          refine z_aload_n C 0 dX4_takeShapeWord_97 rfl rfl ?_
          refine z_getr C (t := 10) (Nat.le_of_ble_eq_true rfl) rfl rfl 0 (Nat.le_of_ble_eq_true rfl) rfl kiX4_takeShapeWord_X4 kfX4_takeShapeWord_14 dX4_takeShapeWord_98 ?_
          refine z_geti C (Nat.le_of_ble_eq_true rfl) rfl rfl 4 (Nat.le_of_ble_eq_true rfl) rfl kiX4_takeShapeWord_X5 kfX4_takeShapeWord_107 dX4_takeShapeWord_101 ?_
          obtain ⟨m7, hc6, hf⟩ := zb_el hf
          refine z_cVv C (c_X0_openShape _ _ hb5 hc6) rfl gX4_takeShapeWord_X0_openShape rfl rfl zdX0_openShape rfl (isb_k0 hb5) (isb_L0 hb5) rfl rfl ⟨Nat.le_of_ble_eq_true rfl, Nat.le_of_ble_eq_true rfl⟩ (Nat.le_of_ble_eq_true rfl) dX4_takeShapeWord_104 rfl ?_
          refine z_aload_n C 0 dX4_takeShapeWord_107 rfl rfl ?_
          refine z_iconst C (v := 1) dX4_takeShapeWord_108 rfl ?_
          refine z_puti C (Nat.le_of_ble_eq_true rfl) rfl rfl 2 (Nat.le_of_ble_eq_true rfl) rfl kiX4_takeShapeWord_X4 kfX4_takeShapeWord_32 tyX4 tyX4_ok nmX4 rfl rfl dX4_takeShapeWord_109 ?_
          refine z_nm (fun m8 e_m8 => ?_)
          replace hf := bn_to e_m8 hf
          cases hf
          exact hret _ _ dX4_takeShapeWord_112
        · replace hf := if_f c11 hf
          refine z_aload_n C 0 dX4_takeShapeWord_85 rfl rfl ?_
          refine z_iconst C (v := 5) dX4_takeShapeWord_86 rfl ?_
          obtain ⟨m10, hc9, hf⟩ := zb_el hf
          refine z_cVv C (c_X4_fail _ _ hc9) rfl gX4_takeShapeWord_X4_fail rfl rfl zdX4_fail rfl (Nat.le_of_ble_eq_true rfl) rfl rfl rfl ⟨Nat.le_of_ble_eq_true rfl, Nat.le_of_ble_eq_true rfl⟩ (Nat.le_of_ble_eq_true rfl) dX4_takeShapeWord_87 rfl ?_
          refine z_goto (tgt := 112) C dX4_takeShapeWord_90 (by decide) ?_
          cases hf
          exact hret _ _ dX4_takeShapeWord_112
      · replace hf := if_f c14 hf
        refine z_aload_n C 0 dX4_takeShapeWord_60 rfl rfl ?_
        refine z_iconst C (v := 4) dX4_takeShapeWord_61 rfl ?_
        obtain ⟨m13, hc12, hf⟩ := zb_el hf
        refine z_cVv C (c_X4_fail _ _ hc12) rfl gX4_takeShapeWord_X4_fail rfl rfl zdX4_fail rfl (Nat.le_of_ble_eq_true rfl) rfl rfl rfl ⟨Nat.le_of_ble_eq_true rfl, Nat.le_of_ble_eq_true rfl⟩ (Nat.le_of_ble_eq_true rfl) dX4_takeShapeWord_62 rfl ?_
        refine z_goto (tgt := 112) C dX4_takeShapeWord_65 (by decide) ?_
        cases hf
        exact hret _ _ dX4_takeShapeWord_112
    · replace hf := if_f c17 hf
      refine z_aload_n C 0 dX4_takeShapeWord_40 rfl rfl ?_
      refine z_iconst C (v := 2) dX4_takeShapeWord_41 rfl ?_
      obtain ⟨m16, hc15, hf⟩ := zb_el hf
      refine z_cVv C (c_X4_fail _ _ hc15) rfl gX4_takeShapeWord_X4_fail rfl rfl zdX4_fail rfl (Nat.le_of_ble_eq_true rfl) rfl rfl rfl ⟨Nat.le_of_ble_eq_true rfl, Nat.le_of_ble_eq_true rfl⟩ (Nat.le_of_ble_eq_true rfl) dX4_takeShapeWord_42 rfl ?_
      refine z_goto (tgt := 112) C dX4_takeShapeWord_45 (by decide) ?_
      cases hf
      exact hret _ _ dX4_takeShapeWord_112
  · replace hf := if_t c38 hf
    refine z_aload_n C 0 dX4_takeShapeWord_10 rfl rfl ?_
    obtain ⟨b18, hb18, e_b18, hf⟩ := zbk_el hf
    refine z_getb C (b := b18) (Nat.le_of_ble_eq_true rfl) rfl rfl 1 (Nat.le_of_ble_eq_true rfl) rfl kiX4_takeShapeWord_X4 kfX4_takeShapeWord_20 (isb_lt hb18) e_b18 dX4_takeShapeWord_11 ?_
    refine z_geti C (isb_k0 hb18) (isb_L0 hb18) rfl 0 (Nat.le_of_ble_eq_true rfl) rfl kiX4_takeShapeWord_X0 kfX4_takeShapeWord_104 dX4_takeShapeWord_14 ?_
    refine z_if_le (tgt := 29) C dX4_takeShapeWord_17 (by decide) (fun c37 => ?_) (fun c37 => ?_)
    · replace hf := if_t c37 hf
      refine z_aload_n C 0 dX4_takeShapeWord_29 rfl rfl ?_
      refine z_getr C (t := 10) (Nat.le_of_ble_eq_true rfl) rfl rfl 0 (Nat.le_of_ble_eq_true rfl) rfl kiX4_takeShapeWord_X4 kfX4_takeShapeWord_14 dX4_takeShapeWord_30 ?_
      refine z_geti C (Nat.le_of_ble_eq_true rfl) rfl rfl 2 (Nat.le_of_ble_eq_true rfl) rfl kiX4_takeShapeWord_X5 kfX4_takeShapeWord_54 dX4_takeShapeWord_33 ?_
      refine z_iconst C (v := 2) dX4_takeShapeWord_36 rfl ?_
      refine z_icmp_eq (tgt := 48) C dX4_takeShapeWord_37 (by decide) (fun c35 => ?_) (fun c35 => ?_)
      · replace hf := if_t c35 hf
        refine z_aload_n C 0 dX4_takeShapeWord_48 rfl rfl ?_
        obtain ⟨b19, hb19, e_b19, hf⟩ := zbk_el hf
        refine z_getb C (b := b19) (Nat.le_of_ble_eq_true rfl) rfl rfl 1 (Nat.le_of_ble_eq_true rfl) rfl kiX4_takeShapeWord_X4 kfX4_takeShapeWord_20 (isb_lt hb19) e_b19 dX4_takeShapeWord_49 ?_
        refine z_geti C (isb_k0 hb19) (isb_L0 hb19) rfl 0 (Nat.le_of_ble_eq_true rfl) rfl kiX4_takeShapeWord_X0 kfX4_takeShapeWord_104 dX4_takeShapeWord_52 ?_
        refine z_bipush C (v := 6) dX4_takeShapeWord_55 rfl ?_
        refine z_icmp_lt (tgt := 68) C dX4_takeShapeWord_57 (by decide) (fun c32 => ?_) (fun c32 => ?_)
        · replace hf := if_t c32 hf
          refine z_aload_n C 0 dX4_takeShapeWord_68 rfl rfl ?_
          obtain ⟨b20, hb20, e_b20, hf⟩ := zbk_el hf
          refine z_getb C (b := b20) (Nat.le_of_ble_eq_true rfl) rfl rfl 1 (Nat.le_of_ble_eq_true rfl) rfl kiX4_takeShapeWord_X4 kfX4_takeShapeWord_20 (isb_lt hb20) e_b20 dX4_takeShapeWord_69 ?_
          refine z_aload_n C 0 dX4_takeShapeWord_72 rfl rfl ?_
          refine z_getr C (t := 10) (Nat.le_of_ble_eq_true rfl) rfl rfl 0 (Nat.le_of_ble_eq_true rfl) rfl kiX4_takeShapeWord_X4 kfX4_takeShapeWord_14 dX4_takeShapeWord_73 ?_
          refine z_geti C (Nat.le_of_ble_eq_true rfl) rfl rfl 4 (Nat.le_of_ble_eq_true rfl) rfl kiX4_takeShapeWord_X5 kfX4_takeShapeWord_107 dX4_takeShapeWord_76 ?_
          obtain ⟨r22, hc21, hf⟩ := zb_el hf
          refine z_cVi C (c_X0_shapeOf _ _ hb20 hc21) rfl gX4_takeShapeWord_X0_shapeOf rfl rfl zdX0_shapeOf rfl (isb_k0 hb20) (isb_L0 hb20) rfl rfl ⟨Nat.le_of_ble_eq_true rfl, Nat.le_of_ble_eq_true rfl⟩ (Nat.le_of_ble_eq_true rfl) dX4_takeShapeWord_79 rfl ?_
          refine z_if_lt (tgt := 93) C dX4_takeShapeWord_82 (by decide) (fun c29 => ?_) (fun c29 => ?_)
          · replace hf := if_t c29 hf
            refine z_aload_n C 0 dX4_takeShapeWord_93 rfl rfl ?_
            obtain ⟨b23, hb23, e_b23, hf⟩ := zbk_el hf
            refine z_getb C (b := b23) (Nat.le_of_ble_eq_true rfl) rfl rfl 1 (Nat.le_of_ble_eq_true rfl) rfl kiX4_takeShapeWord_X4 kfX4_takeShapeWord_20 (isb_lt hb23) e_b23 dX4_takeShapeWord_94 ?_
            refine z_aload_n C 0 dX4_takeShapeWord_97 rfl rfl ?_
            refine z_getr C (t := 10) (Nat.le_of_ble_eq_true rfl) rfl rfl 0 (Nat.le_of_ble_eq_true rfl) rfl kiX4_takeShapeWord_X4 kfX4_takeShapeWord_14 dX4_takeShapeWord_98 ?_
            refine z_geti C (Nat.le_of_ble_eq_true rfl) rfl rfl 4 (Nat.le_of_ble_eq_true rfl) rfl kiX4_takeShapeWord_X5 kfX4_takeShapeWord_107 dX4_takeShapeWord_101 ?_
            obtain ⟨m25, hc24, hf⟩ := zb_el hf
            refine z_cVv C (c_X0_openShape _ _ hb23 hc24) rfl gX4_takeShapeWord_X0_openShape rfl rfl zdX0_openShape rfl (isb_k0 hb23) (isb_L0 hb23) rfl rfl ⟨Nat.le_of_ble_eq_true rfl, Nat.le_of_ble_eq_true rfl⟩ (Nat.le_of_ble_eq_true rfl) dX4_takeShapeWord_104 rfl ?_
            refine z_aload_n C 0 dX4_takeShapeWord_107 rfl rfl ?_
            refine z_iconst C (v := 1) dX4_takeShapeWord_108 rfl ?_
            refine z_puti C (Nat.le_of_ble_eq_true rfl) rfl rfl 2 (Nat.le_of_ble_eq_true rfl) rfl kiX4_takeShapeWord_X4 kfX4_takeShapeWord_32 tyX4 tyX4_ok nmX4 rfl rfl dX4_takeShapeWord_109 ?_
            refine z_nm (fun m26 e_m26 => ?_)
            replace hf := bn_to e_m26 hf
            cases hf
            exact hret _ _ dX4_takeShapeWord_112
          · replace hf := if_f c29 hf
            refine z_aload_n C 0 dX4_takeShapeWord_85 rfl rfl ?_
            refine z_iconst C (v := 5) dX4_takeShapeWord_86 rfl ?_
            obtain ⟨m28, hc27, hf⟩ := zb_el hf
            refine z_cVv C (c_X4_fail _ _ hc27) rfl gX4_takeShapeWord_X4_fail rfl rfl zdX4_fail rfl (Nat.le_of_ble_eq_true rfl) rfl rfl rfl ⟨Nat.le_of_ble_eq_true rfl, Nat.le_of_ble_eq_true rfl⟩ (Nat.le_of_ble_eq_true rfl) dX4_takeShapeWord_87 rfl ?_
            refine z_goto (tgt := 112) C dX4_takeShapeWord_90 (by decide) ?_
            cases hf
            exact hret _ _ dX4_takeShapeWord_112
        · replace hf := if_f c32 hf
          refine z_aload_n C 0 dX4_takeShapeWord_60 rfl rfl ?_
          refine z_iconst C (v := 4) dX4_takeShapeWord_61 rfl ?_
          obtain ⟨m31, hc30, hf⟩ := zb_el hf
          refine z_cVv C (c_X4_fail _ _ hc30) rfl gX4_takeShapeWord_X4_fail rfl rfl zdX4_fail rfl (Nat.le_of_ble_eq_true rfl) rfl rfl rfl ⟨Nat.le_of_ble_eq_true rfl, Nat.le_of_ble_eq_true rfl⟩ (Nat.le_of_ble_eq_true rfl) dX4_takeShapeWord_62 rfl ?_
          refine z_goto (tgt := 112) C dX4_takeShapeWord_65 (by decide) ?_
          cases hf
          exact hret _ _ dX4_takeShapeWord_112
      · replace hf := if_f c35 hf
        refine z_aload_n C 0 dX4_takeShapeWord_40 rfl rfl ?_
        refine z_iconst C (v := 2) dX4_takeShapeWord_41 rfl ?_
        obtain ⟨m34, hc33, hf⟩ := zb_el hf
        refine z_cVv C (c_X4_fail _ _ hc33) rfl gX4_takeShapeWord_X4_fail rfl rfl zdX4_fail rfl (Nat.le_of_ble_eq_true rfl) rfl rfl rfl ⟨Nat.le_of_ble_eq_true rfl, Nat.le_of_ble_eq_true rfl⟩ (Nat.le_of_ble_eq_true rfl) dX4_takeShapeWord_42 rfl ?_
        refine z_goto (tgt := 112) C dX4_takeShapeWord_45 (by decide) ?_
        cases hf
        exact hret _ _ dX4_takeShapeWord_112
    · replace hf := if_f c37 hf
      refine z_aload_n C 0 dX4_takeShapeWord_20 rfl rfl ?_
      refine z_bipush C (v := 14) dX4_takeShapeWord_21 rfl ?_
      refine z_puti C (Nat.le_of_ble_eq_true rfl) rfl rfl 2 (Nat.le_of_ble_eq_true rfl) rfl kiX4_takeShapeWord_X4 kfX4_takeShapeWord_32 tyX4 tyX4_ok nmX4 rfl rfl dX4_takeShapeWord_23 ?_
      refine z_nm (fun m36 e_m36 => ?_)
      replace hf := bn_to e_m36 hf
      refine z_goto (tgt := 112) C dX4_takeShapeWord_26 (by decide) ?_
      cases hf
      exact hret _ _ dX4_takeShapeWord_112
set_option maxRecDepth 20000 in
theorem ggX4_takeSign_X4_fail : GoodIn wsX4_takeSign wsX4_fail := goodIn_sub (List.forall_mem_cons.mpr ⟨(List.mem_of_getElem? (i := 8) rfl), (List.forall_mem_append.mpr ⟨(List.forall_mem_append.mpr ⟨(List.forall_mem_cons.mpr ⟨(List.mem_of_getElem? (i := 9) rfl), (List.forall_mem_cons.mpr ⟨(List.mem_of_getElem? (i := 1) rfl), (List.forall_mem_cons.mpr ⟨(List.mem_of_getElem? (i := 10) rfl), (List.forall_mem_cons.mpr ⟨(List.mem_of_getElem? (i := 11) rfl), (fun _ h => absurd h List.not_mem_nil)⟩)⟩)⟩)⟩), (fun _ h => (List.mem_cons_of_mem _ (List.mem_append_left _ (List.mem_append_right _ h))))⟩), (fun _ h => (List.mem_cons_of_mem _ (List.mem_append_right _ h)))⟩)⟩) (by decide +kernel)
set_option maxRecDepth 20000 in
theorem gX4_takeSign_X4_fail : GoodIn wsX4_takeSign (wsV RX4 57 RX4 yX4_fail wsX4_fail) := goodIn_app (goodIn_sub (List.forall_mem_cons.mpr ⟨(List.mem_of_getElem? (i := 4) rfl), (List.forall_mem_cons.mpr ⟨(List.mem_of_getElem? (i := 5) rfl), (List.forall_mem_cons.mpr ⟨(List.mem_of_getElem? (i := 6) rfl), (List.forall_mem_cons.mpr ⟨(List.mem_of_getElem? (i := 7) rfl), (fun _ h => absurd h List.not_mem_nil)⟩)⟩)⟩)⟩) (by decide +kernel)) ggX4_takeSign_X4_fail
theorem dX4_takeSign_0 : decode cX4_takeSign 0 = .ok (.aload_n 0, 1) := by decide +kernel
theorem dX4_takeSign_1 : decode cX4_takeSign 1 = .ok (.getfield 14, 3) := by decide +kernel
theorem dX4_takeSign_4 : decode cX4_takeSign 4 = .ok (.getfield 54, 3) := by decide +kernel
theorem dX4_takeSign_7 : decode cX4_takeSign 7 = .ok (.iload_n 1, 1) := by decide +kernel
theorem dX4_takeSign_8 : decode cX4_takeSign 8 = .ok (.if_icmp .ne 11, 3) := by decide +kernel
theorem dX4_takeSign_11 : decode cX4_takeSign 11 = .ok (.aload_n 0, 1) := by decide +kernel
theorem dX4_takeSign_12 : decode cX4_takeSign 12 = .ok (.iload_n 2, 1) := by decide +kernel
theorem dX4_takeSign_13 : decode cX4_takeSign 13 = .ok (.putfield 32, 3) := by decide +kernel
theorem dX4_takeSign_16 : decode cX4_takeSign 16 = .ok (.goto 8, 3) := by decide +kernel
theorem dX4_takeSign_19 : decode cX4_takeSign 19 = .ok (.aload_n 0, 1) := by decide +kernel
theorem dX4_takeSign_20 : decode cX4_takeSign 20 = .ok (.iconst 2, 1) := by decide +kernel
theorem dX4_takeSign_21 : decode cX4_takeSign 21 = .ok (.invokevirtual 57, 3) := by decide +kernel
theorem dX4_takeSign_24 : decode cX4_takeSign 24 = .ok (.return_, 1) := by decide +kernel
def rmX4_takeSign : Room := { frames := 1, cells := 0, slots := 0, locals := 21 }
theorem zdX4_takeSign : yX4_takeSign.cls = RX4 ∧ yX4_takeSign.cls ≠ "java/lang/invoke/MethodHandle" ∧ yX4_takeSign.cls ≠ "java/lang/invoke/VarHandle" ∧ (parseMethodDescriptor yX4_takeSign.desc).map (fun d => d.parameters.length) = some 2 := by decide +kernel
theorem kiX4_takeSign_X4 : ∀ w ∈ wsX40, w ∈ wsX4_takeSign := fun _ h => (List.mem_cons_of_mem _ (List.mem_append_left _ (List.mem_append_right _ h)))
theorem kfX4_takeSign_14 : Cond.fieldLink RX4 14 "ShapeJudge$TextReader" "tokens" "LShapeJudge$Tokens;" ∈ wsX4_takeSign := (List.mem_of_getElem? (i := 1) rfl)
theorem kiX4_takeSign_X5 : ∀ w ∈ wsX50, w ∈ wsX4_takeSign := fun _ h => (List.mem_cons_of_mem _ (List.mem_append_right _ h))
theorem kfX4_takeSign_54 : Cond.fieldLink RX4 54 "ShapeJudge$Tokens" "kind" "I" ∈ wsX4_takeSign := (List.mem_of_getElem? (i := 2) rfl)
theorem kfX4_takeSign_32 : Cond.fieldLink RX4 32 "ShapeJudge$TextReader" "state" "I" ∈ wsX4_takeSign := (List.mem_of_getElem? (i := 3) rfl)
def s_X4_takeSign (m : Mem) (a1 : Int32) (a2 : Int32) : Option (Mem) :=
  (if (m 10 2) = a1 then (bn (sto m 9 2 a2) fun m3 => some m3) else ((s_X4_fail m 2).bind fun m2 => some m2))
set_option maxRecDepth 100000 in
set_option maxHeartbeats 4000000 in
theorem c_X4_takeSign (l : Launch) (w : ZW) {m : Mem} {a1 : Int32} {a2 : Int32} {m9 : Mem}  (hf : s_X4_takeSign m a1 a2 = some m9) : zCv MX l w yX4_takeSign wsX4_takeSign rmX4_takeSign [.ref (w.2.1 9), .int a1, .int a2] m m9 := by
  refine z_met_v MX_ok (own := RX4) (by decide +kernel) rfl rfl (Nat.le_of_ble_eq_true rfl) ?_
  intro K C hKw hKl hret
  subst hKw
  subst hKl
  unfold s_X4_takeSign at hf
  show zGo MX K m [(0, .ref ((zw K).2.1 9)), (1, .int a1), (2, .int a2)] 0 []
  refine z_aload_n C 0 dX4_takeSign_0 rfl rfl ?_
  refine z_getr C (t := 10) (Nat.le_of_ble_eq_true rfl) rfl rfl 0 (Nat.le_of_ble_eq_true rfl) rfl kiX4_takeSign_X4 kfX4_takeSign_14 dX4_takeSign_1 ?_
  refine z_geti C (Nat.le_of_ble_eq_true rfl) rfl rfl 2 (Nat.le_of_ble_eq_true rfl) rfl kiX4_takeSign_X5 kfX4_takeSign_54 dX4_takeSign_4 ?_
  refine z_iload_n C 1 dX4_takeSign_7 rfl rfl ?_
  refine z_icmp_ne (tgt := 19) C dX4_takeSign_8 (by decide) (fun c4 => ?_) (fun c4 => ?_)
  · replace hf := if_f c4 hf
    refine z_aload_n C 0 dX4_takeSign_19 rfl rfl ?_
    refine z_iconst C (v := 2) dX4_takeSign_20 rfl ?_
    obtain ⟨m2, hc1, hf⟩ := zb_el hf
    refine z_cVv C (c_X4_fail _ _ hc1) rfl gX4_takeSign_X4_fail rfl rfl zdX4_fail rfl (Nat.le_of_ble_eq_true rfl) rfl rfl rfl ⟨Nat.le_of_ble_eq_true rfl, Nat.le_of_ble_eq_true rfl⟩ (Nat.le_of_ble_eq_true rfl) dX4_takeSign_21 rfl ?_
    cases hf
    exact hret _ _ dX4_takeSign_24
  · replace hf := if_t c4 hf
    refine z_aload_n C 0 dX4_takeSign_11 rfl rfl ?_
    refine z_iload_n C 2 dX4_takeSign_12 rfl rfl ?_
    refine z_puti C (Nat.le_of_ble_eq_true rfl) rfl rfl 2 (Nat.le_of_ble_eq_true rfl) rfl kiX4_takeSign_X4 kfX4_takeSign_32 tyX4 tyX4_ok nmX4 rfl rfl dX4_takeSign_13 ?_
    refine z_nm (fun m3 e_m3 => ?_)
    replace hf := bn_to e_m3 hf
    refine z_goto (tgt := 24) C dX4_takeSign_16 (by decide) ?_
    cases hf
    exact hret _ _ dX4_takeSign_24
set_option maxRecDepth 20000 in
theorem ggX4_takeOpening_X4_fail : GoodIn wsX4_takeOpening wsX4_fail := goodIn_sub (List.forall_mem_cons.mpr ⟨(List.mem_of_getElem? (i := 7) rfl), (List.forall_mem_append.mpr ⟨(List.forall_mem_append.mpr ⟨(List.forall_mem_cons.mpr ⟨(List.mem_of_getElem? (i := 8) rfl), (List.forall_mem_cons.mpr ⟨(List.mem_of_getElem? (i := 9) rfl), (List.forall_mem_cons.mpr ⟨(List.mem_of_getElem? (i := 10) rfl), (List.forall_mem_cons.mpr ⟨(List.mem_of_getElem? (i := 11) rfl), (fun _ h => absurd h List.not_mem_nil)⟩)⟩)⟩)⟩), (fun _ h => (List.mem_cons_of_mem _ (List.mem_append_left _ (List.mem_append_right _ h))))⟩), (fun _ h => (List.mem_cons_of_mem _ (List.mem_append_right _ h)))⟩)⟩) (by decide +kernel)
set_option maxRecDepth 20000 in
theorem gX4_takeOpening_X4_fail : GoodIn wsX4_takeOpening (wsV RX4 57 RX4 yX4_fail wsX4_fail) := goodIn_app (goodIn_sub (List.forall_mem_cons.mpr ⟨(List.mem_of_getElem? (i := 3) rfl), (List.forall_mem_cons.mpr ⟨(List.mem_of_getElem? (i := 4) rfl), (List.forall_mem_cons.mpr ⟨(List.mem_of_getElem? (i := 5) rfl), (List.forall_mem_cons.mpr ⟨(List.mem_of_getElem? (i := 6) rfl), (fun _ h => absurd h List.not_mem_nil)⟩)⟩)⟩)⟩) (by decide +kernel)) ggX4_takeOpening_X4_fail
theorem dX4_takeOpening_0 : decode cX4_takeOpening 0 = .ok (.aload_n 0, 1) := by decide +kernel
theorem dX4_takeOpening_1 : decode cX4_takeOpening 1 = .ok (.getfield 36, 3) := by decide +kernel
theorem dX4_takeOpening_4 : decode cX4_takeOpening 4 = .ok (.bipush 6, 2) := by decide +kernel
theorem dX4_takeOpening_6 : decode cX4_takeOpening 6 = .ok (.if_icmp .lt 11, 3) := by decide +kernel
theorem dX4_takeOpening_9 : decode cX4_takeOpening 9 = .ok (.aload_n 0, 1) := by decide +kernel
theorem dX4_takeOpening_10 : decode cX4_takeOpening 10 = .ok (.iconst 4, 1) := by decide +kernel
theorem dX4_takeOpening_11 : decode cX4_takeOpening 11 = .ok (.invokevirtual 57, 3) := by decide +kernel
theorem dX4_takeOpening_14 : decode cX4_takeOpening 14 = .ok (.goto 18, 3) := by decide +kernel
theorem dX4_takeOpening_17 : decode cX4_takeOpening 17 = .ok (.aload_n 0, 1) := by decide +kernel
theorem dX4_takeOpening_18 : decode cX4_takeOpening 18 = .ok (.dup, 1) := by decide +kernel
theorem dX4_takeOpening_19 : decode cX4_takeOpening 19 = .ok (.getfield 36, 3) := by decide +kernel
theorem dX4_takeOpening_22 : decode cX4_takeOpening 22 = .ok (.iconst 1, 1) := by decide +kernel
theorem dX4_takeOpening_23 : decode cX4_takeOpening 23 = .ok (.iadd, 1) := by decide +kernel
theorem dX4_takeOpening_24 : decode cX4_takeOpening 24 = .ok (.putfield 36, 3) := by decide +kernel
theorem dX4_takeOpening_27 : decode cX4_takeOpening 27 = .ok (.aload_n 0, 1) := by decide +kernel
theorem dX4_takeOpening_28 : decode cX4_takeOpening 28 = .ok (.iconst 3, 1) := by decide +kernel
theorem dX4_takeOpening_29 : decode cX4_takeOpening 29 = .ok (.putfield 32, 3) := by decide +kernel
theorem dX4_takeOpening_32 : decode cX4_takeOpening 32 = .ok (.return_, 1) := by decide +kernel
def rmX4_takeOpening : Room := { frames := 1, cells := 0, slots := 0, locals := 21 }
theorem zdX4_takeOpening : yX4_takeOpening.cls = RX4 ∧ yX4_takeOpening.cls ≠ "java/lang/invoke/MethodHandle" ∧ yX4_takeOpening.cls ≠ "java/lang/invoke/VarHandle" ∧ (parseMethodDescriptor yX4_takeOpening.desc).map (fun d => d.parameters.length) = some 0 := by decide +kernel
theorem kiX4_takeOpening_X4 : ∀ w ∈ wsX40, w ∈ wsX4_takeOpening := fun _ h => (List.mem_cons_of_mem _ (List.mem_append_left _ (List.mem_append_right _ h)))
theorem kfX4_takeOpening_36 : Cond.fieldLink RX4 36 "ShapeJudge$TextReader" "depth" "I" ∈ wsX4_takeOpening := (List.mem_of_getElem? (i := 1) rfl)
theorem kfX4_takeOpening_32 : Cond.fieldLink RX4 32 "ShapeJudge$TextReader" "state" "I" ∈ wsX4_takeOpening := (List.mem_of_getElem? (i := 2) rfl)
def s_X4_takeOpening (m : Mem)  : Option (Mem) :=
  (if (m 9 3) < 6 then (bn (sto m 9 3 ((m 9 3) + 1)) fun m1 => bn (sto m1 9 2 3) fun m2 => some m2) else ((s_X4_fail m 4).bind fun m4 => some m4))
set_option maxRecDepth 100000 in
set_option maxHeartbeats 4000000 in
theorem c_X4_takeOpening (l : Launch) (w : ZW) {m : Mem}  {m9 : Mem}  (hf : s_X4_takeOpening m  = some m9) : zCv MX l w yX4_takeOpening wsX4_takeOpening rmX4_takeOpening [.ref (w.2.1 9)] m m9 := by
  refine z_met_v MX_ok (own := RX4) (by decide +kernel) rfl rfl (Nat.le_of_ble_eq_true rfl) ?_
  intro K C hKw hKl hret
  subst hKw
  subst hKl
  unfold s_X4_takeOpening at hf
  show zGo MX K m [(0, .ref ((zw K).2.1 9))] 0 []
  refine z_aload_n C 0 dX4_takeOpening_0 rfl rfl ?_
  refine z_geti C (Nat.le_of_ble_eq_true rfl) rfl rfl 3 (Nat.le_of_ble_eq_true rfl) rfl kiX4_takeOpening_X4 kfX4_takeOpening_36 dX4_takeOpening_1 ?_
  refine z_bipush C (v := 6) dX4_takeOpening_4 rfl ?_
  refine z_icmp_lt (tgt := 17) C dX4_takeOpening_6 (by decide) (fun c5 => ?_) (fun c5 => ?_)
  · replace hf := if_t c5 hf
    refine z_aload_n C 0 dX4_takeOpening_17 rfl rfl ?_
    refine z_dup_a C dX4_takeOpening_18 ?_
    refine z_geti C (Nat.le_of_ble_eq_true rfl) rfl rfl 3 (Nat.le_of_ble_eq_true rfl) rfl kiX4_takeOpening_X4 kfX4_takeOpening_36 dX4_takeOpening_19 ?_
    refine z_iconst C (v := 1) dX4_takeOpening_22 rfl ?_
    refine z_iadd C dX4_takeOpening_23 ?_
    refine z_puti C (Nat.le_of_ble_eq_true rfl) rfl rfl 3 (Nat.le_of_ble_eq_true rfl) rfl kiX4_takeOpening_X4 kfX4_takeOpening_36 tyX4 tyX4_ok nmX4 rfl rfl dX4_takeOpening_24 ?_
    refine z_nm (fun m1 e_m1 => ?_)
    replace hf := bn_to e_m1 hf
    refine z_aload_n C 0 dX4_takeOpening_27 rfl rfl ?_
    refine z_iconst C (v := 3) dX4_takeOpening_28 rfl ?_
    refine z_puti C (Nat.le_of_ble_eq_true rfl) rfl rfl 2 (Nat.le_of_ble_eq_true rfl) rfl kiX4_takeOpening_X4 kfX4_takeOpening_32 tyX4 tyX4_ok nmX4 rfl rfl dX4_takeOpening_29 ?_
    refine z_nm (fun m2 e_m2 => ?_)
    replace hf := bn_to e_m2 hf
    cases hf
    exact hret _ _ dX4_takeOpening_32
  · replace hf := if_f c5 hf
    refine z_aload_n C 0 dX4_takeOpening_9 rfl rfl ?_
    refine z_iconst C (v := 4) dX4_takeOpening_10 rfl ?_
    obtain ⟨m4, hc3, hf⟩ := zb_el hf
    refine z_cVv C (c_X4_fail _ _ hc3) rfl gX4_takeOpening_X4_fail rfl rfl zdX4_fail rfl (Nat.le_of_ble_eq_true rfl) rfl rfl rfl ⟨Nat.le_of_ble_eq_true rfl, Nat.le_of_ble_eq_true rfl⟩ (Nat.le_of_ble_eq_true rfl) dX4_takeOpening_11 rfl ?_
    refine z_goto (tgt := 32) C dX4_takeOpening_14 (by decide) ?_
    cases hf
    exact hret _ _ dX4_takeOpening_32
set_option maxRecDepth 20000 in
theorem ggX4_takeOne_X4_takeOpening : GoodIn wsX4_takeOne wsX4_takeOpening := goodIn_sub (List.forall_mem_cons.mpr ⟨(List.mem_of_getElem? (i := 10) rfl), (List.forall_mem_append.mpr ⟨(List.forall_mem_append.mpr ⟨(List.forall_mem_cons.mpr ⟨(List.mem_of_getElem? (i := 11) rfl), (List.forall_mem_cons.mpr ⟨(List.mem_of_getElem? (i := 5) rfl), (List.forall_mem_cons.mpr ⟨(List.mem_of_getElem? (i := 12) rfl), (List.forall_mem_cons.mpr ⟨(List.mem_of_getElem? (i := 13) rfl), (List.forall_mem_cons.mpr ⟨(List.mem_of_getElem? (i := 14) rfl), (List.forall_mem_cons.mpr ⟨(List.mem_of_getElem? (i := 9) rfl), (List.forall_mem_cons.mpr ⟨(List.mem_of_getElem? (i := 15) rfl), (List.forall_mem_cons.mpr ⟨(List.mem_of_getElem? (i := 16) rfl), (List.forall_mem_cons.mpr ⟨(List.mem_of_getElem? (i := 1) rfl), (List.forall_mem_cons.mpr ⟨(List.mem_of_getElem? (i := 17) rfl), (List.forall_mem_cons.mpr ⟨(List.mem_of_getElem? (i := 18) rfl), (fun _ h => absurd h List.not_mem_nil)⟩)⟩)⟩)⟩)⟩)⟩)⟩)⟩)⟩)⟩)⟩), (fun _ h => (List.mem_cons_of_mem _ (List.mem_append_left _ (List.mem_append_left _ (List.mem_append_right _ h)))))⟩), (fun _ h => (List.mem_cons_of_mem _ (List.mem_append_left _ (List.mem_append_right _ h))))⟩)⟩) (by decide +kernel)
set_option maxRecDepth 20000 in
theorem gX4_takeOne_X4_takeOpening : GoodIn wsX4_takeOne (wsV RX4 123 RX4 yX4_takeOpening wsX4_takeOpening) := goodIn_app (goodIn_sub (List.forall_mem_cons.mpr ⟨(List.mem_of_getElem? (i := 6) rfl), (List.forall_mem_cons.mpr ⟨(List.mem_of_getElem? (i := 7) rfl), (List.forall_mem_cons.mpr ⟨(List.mem_of_getElem? (i := 8) rfl), (List.forall_mem_cons.mpr ⟨(List.mem_of_getElem? (i := 9) rfl), (fun _ h => absurd h List.not_mem_nil)⟩)⟩)⟩)⟩) (by decide +kernel)) ggX4_takeOne_X4_takeOpening
set_option maxRecDepth 20000 in
theorem ggX4_takeOne_X4_fail : GoodIn wsX4_takeOne wsX4_fail := goodIn_sub (List.forall_mem_cons.mpr ⟨(List.mem_of_getElem? (i := 15) rfl), (List.forall_mem_append.mpr ⟨(List.forall_mem_append.mpr ⟨(List.forall_mem_cons.mpr ⟨(List.mem_of_getElem? (i := 16) rfl), (List.forall_mem_cons.mpr ⟨(List.mem_of_getElem? (i := 1) rfl), (List.forall_mem_cons.mpr ⟨(List.mem_of_getElem? (i := 17) rfl), (List.forall_mem_cons.mpr ⟨(List.mem_of_getElem? (i := 18) rfl), (fun _ h => absurd h List.not_mem_nil)⟩)⟩)⟩)⟩), (fun _ h => (List.mem_cons_of_mem _ (List.mem_append_left _ (List.mem_append_left _ (List.mem_append_right _ h)))))⟩), (fun _ h => (List.mem_cons_of_mem _ (List.mem_append_left _ (List.mem_append_right _ h))))⟩)⟩) (by decide +kernel)
set_option maxRecDepth 20000 in
theorem gX4_takeOne_X4_fail : GoodIn wsX4_takeOne (wsV RX4 57 RX4 yX4_fail wsX4_fail) := goodIn_app (goodIn_sub (List.forall_mem_cons.mpr ⟨(List.mem_of_getElem? (i := 12) rfl), (List.forall_mem_cons.mpr ⟨(List.mem_of_getElem? (i := 13) rfl), (List.forall_mem_cons.mpr ⟨(List.mem_of_getElem? (i := 14) rfl), (List.forall_mem_cons.mpr ⟨(List.mem_of_getElem? (i := 9) rfl), (fun _ h => absurd h List.not_mem_nil)⟩)⟩)⟩)⟩) (by decide +kernel)) ggX4_takeOne_X4_fail
set_option maxRecDepth 20000 in
theorem ggX4_takeOne_X0_hasRoomForPart : GoodIn wsX4_takeOne wsX0_hasRoomForPart := goodIn_sub (List.forall_mem_cons.mpr ⟨(List.mem_of_getElem? (i := 23) rfl), (List.forall_mem_append.mpr ⟨(List.forall_mem_cons.mpr ⟨(List.mem_of_getElem? (i := 24) rfl), (List.forall_mem_cons.mpr ⟨(List.mem_of_getElem? (i := 25) rfl), (List.forall_mem_cons.mpr ⟨(List.mem_of_getElem? (i := 26) rfl), (List.forall_mem_cons.mpr ⟨(List.mem_of_getElem? (i := 27) rfl), (List.forall_mem_cons.mpr ⟨(List.mem_of_getElem? (i := 28) rfl), (List.forall_mem_cons.mpr ⟨(List.mem_of_getElem? (i := 22) rfl), (List.forall_mem_cons.mpr ⟨(List.mem_of_getElem? (i := 29) rfl), (fun _ h => absurd h List.not_mem_nil)⟩)⟩)⟩)⟩)⟩)⟩)⟩), (fun _ h => (List.mem_cons_of_mem _ (List.mem_append_right _ h)))⟩)⟩) (by decide +kernel)
set_option maxRecDepth 20000 in
theorem gX4_takeOne_X0_hasRoomForPart : GoodIn wsX4_takeOne (wsV RX4 126 RX0 yX0_hasRoomForPart wsX0_hasRoomForPart) := goodIn_app (goodIn_sub (List.forall_mem_cons.mpr ⟨(List.mem_of_getElem? (i := 19) rfl), (List.forall_mem_cons.mpr ⟨(List.mem_of_getElem? (i := 20) rfl), (List.forall_mem_cons.mpr ⟨(List.mem_of_getElem? (i := 21) rfl), (List.forall_mem_cons.mpr ⟨(List.mem_of_getElem? (i := 22) rfl), (fun _ h => absurd h List.not_mem_nil)⟩)⟩)⟩)⟩) (by decide +kernel)) ggX4_takeOne_X0_hasRoomForPart
set_option maxRecDepth 20000 in
theorem ggX4_takeOne_X0_addPart : GoodIn wsX4_takeOne wsX0_addPart := goodIn_sub (List.forall_mem_cons.mpr ⟨(List.mem_of_getElem? (i := 33) rfl), (List.forall_mem_append.mpr ⟨(List.forall_mem_cons.mpr ⟨(List.mem_of_getElem? (i := 24) rfl), (List.forall_mem_cons.mpr ⟨(List.mem_of_getElem? (i := 25) rfl), (List.forall_mem_cons.mpr ⟨(List.mem_of_getElem? (i := 34) rfl), (List.forall_mem_cons.mpr ⟨(List.mem_of_getElem? (i := 35) rfl), (List.forall_mem_cons.mpr ⟨(List.mem_of_getElem? (i := 36) rfl), (List.forall_mem_cons.mpr ⟨(List.mem_of_getElem? (i := 37) rfl), (List.forall_mem_cons.mpr ⟨(List.mem_of_getElem? (i := 20) rfl), (List.forall_mem_cons.mpr ⟨(List.mem_of_getElem? (i := 21) rfl), (List.forall_mem_cons.mpr ⟨(List.mem_of_getElem? (i := 22) rfl), (List.forall_mem_cons.mpr ⟨(List.mem_of_getElem? (i := 23) rfl), (List.forall_mem_cons.mpr ⟨(List.mem_of_getElem? (i := 26) rfl), (List.forall_mem_cons.mpr ⟨(List.mem_of_getElem? (i := 27) rfl), (List.forall_mem_cons.mpr ⟨(List.mem_of_getElem? (i := 28) rfl), (List.forall_mem_cons.mpr ⟨(List.mem_of_getElem? (i := 29) rfl), (List.forall_mem_cons.mpr ⟨(List.mem_of_getElem? (i := 38) rfl), (List.forall_mem_cons.mpr ⟨(List.mem_of_getElem? (i := 39) rfl), (List.forall_mem_cons.mpr ⟨(List.mem_of_getElem? (i := 40) rfl), (List.forall_mem_cons.mpr ⟨(List.mem_of_getElem? (i := 41) rfl), (List.forall_mem_cons.mpr ⟨(List.mem_of_getElem? (i := 42) rfl), (List.forall_mem_cons.mpr ⟨(List.mem_of_getElem? (i := 43) rfl), (List.forall_mem_cons.mpr ⟨(List.mem_of_getElem? (i := 44) rfl), (fun _ h => absurd h List.not_mem_nil)⟩)⟩)⟩)⟩)⟩)⟩)⟩)⟩)⟩)⟩)⟩)⟩)⟩)⟩)⟩)⟩)⟩)⟩)⟩)⟩)⟩), (fun _ h => (List.mem_cons_of_mem _ (List.mem_append_right _ h)))⟩)⟩) (by decide +kernel)
set_option maxRecDepth 20000 in
theorem gX4_takeOne_X0_addPart : GoodIn wsX4_takeOne (wsV RX4 130 RX0 yX0_addPart wsX0_addPart) := goodIn_app (goodIn_sub (List.forall_mem_cons.mpr ⟨(List.mem_of_getElem? (i := 30) rfl), (List.forall_mem_cons.mpr ⟨(List.mem_of_getElem? (i := 31) rfl), (List.forall_mem_cons.mpr ⟨(List.mem_of_getElem? (i := 32) rfl), (List.forall_mem_cons.mpr ⟨(List.mem_of_getElem? (i := 22) rfl), (fun _ h => absurd h List.not_mem_nil)⟩)⟩)⟩)⟩) (by decide +kernel)) ggX4_takeOne_X0_addPart
set_option maxRecDepth 100000 in
theorem daX4_takeOne : ∀ q ∈ ([(0, .aload_n 0, 1), (1, .getfield 14, 3), (4, .getfield 54, 3), (7, .bipush 40, 2), (9, .if_icmp .ne 10, 3), (12, .aload_n 0, 1), (13, .invokevirtual 123, 3), (16, .goto 89, 3), (19, .aload_n 0, 1), (20, .getfield 14, 3), (23, .getfield 54, 3), (26, .iconst 3, 1), (27, .if_icmp .eq 11, 3), (30, .aload_n 0, 1), (31, .iconst 2, 1), (32, .invokevirtual 57, 3), (35, .goto 70, 3), (38, .aload_n 0, 1), (39, .getfield 14, 3), (42, .getfield 107, 3), (45, .ifCond .lt 15, 3), (48, .aload_n 0, 1), (49, .getfield 14, 3), (52, .getfield 107, 3), (55, .bipush 10, 2), (57, .if_icmp .lt 11, 3), (60, .aload_n 0, 1), (61, .iconst 3, 1), (62, .invokevirtual 57, 3), (65, .goto 40, 3), (68, .aload_n 0, 1), (69, .getfield 20, 3), (72, .invokevirtual 126, 3), (75, .ifCond .ne 11, 3), (78, .aload_n 0, 1), (79, .iconst 4, 1), (80, .invokevirtual 57, 3), (83, .goto 22, 3), (86, .aload_n 0, 1), (87, .getfield 20, 3), (90, .aload_n 0, 1), (91, .getfield 14, 3), (94, .getfield 107, 3), (97, .invokevirtual 130, 3), (100, .aload_n 0, 1), (101, .iconst 4, 1), (102, .putfield 32, 3), (105, .return_, 1)] : List (Nat × Instr × Nat)), decode cX4_takeOne q.1 = .ok q.2 := by decide +kernel
theorem dX4_takeOne_0 : decode cX4_takeOne 0 = .ok (.aload_n 0, 1) := daX4_takeOne (0, .aload_n 0, 1) (List.mem_of_getElem? (i := 0) rfl)
theorem dX4_takeOne_1 : decode cX4_takeOne 1 = .ok (.getfield 14, 3) := daX4_takeOne (1, .getfield 14, 3) (List.mem_of_getElem? (i := 1) rfl)
theorem dX4_takeOne_4 : decode cX4_takeOne 4 = .ok (.getfield 54, 3) := daX4_takeOne (4, .getfield 54, 3) (List.mem_of_getElem? (i := 2) rfl)
theorem dX4_takeOne_7 : decode cX4_takeOne 7 = .ok (.bipush 40, 2) := daX4_takeOne (7, .bipush 40, 2) (List.mem_of_getElem? (i := 3) rfl)
theorem dX4_takeOne_9 : decode cX4_takeOne 9 = .ok (.if_icmp .ne 10, 3) := daX4_takeOne (9, .if_icmp .ne 10, 3) (List.mem_of_getElem? (i := 4) rfl)
theorem dX4_takeOne_12 : decode cX4_takeOne 12 = .ok (.aload_n 0, 1) := daX4_takeOne (12, .aload_n 0, 1) (List.mem_of_getElem? (i := 5) rfl)
theorem dX4_takeOne_13 : decode cX4_takeOne 13 = .ok (.invokevirtual 123, 3) := daX4_takeOne (13, .invokevirtual 123, 3) (List.mem_of_getElem? (i := 6) rfl)
theorem dX4_takeOne_16 : decode cX4_takeOne 16 = .ok (.goto 89, 3) := daX4_takeOne (16, .goto 89, 3) (List.mem_of_getElem? (i := 7) rfl)
theorem dX4_takeOne_19 : decode cX4_takeOne 19 = .ok (.aload_n 0, 1) := daX4_takeOne (19, .aload_n 0, 1) (List.mem_of_getElem? (i := 8) rfl)
theorem dX4_takeOne_20 : decode cX4_takeOne 20 = .ok (.getfield 14, 3) := daX4_takeOne (20, .getfield 14, 3) (List.mem_of_getElem? (i := 9) rfl)
theorem dX4_takeOne_23 : decode cX4_takeOne 23 = .ok (.getfield 54, 3) := daX4_takeOne (23, .getfield 54, 3) (List.mem_of_getElem? (i := 10) rfl)
theorem dX4_takeOne_26 : decode cX4_takeOne 26 = .ok (.iconst 3, 1) := daX4_takeOne (26, .iconst 3, 1) (List.mem_of_getElem? (i := 11) rfl)
theorem dX4_takeOne_27 : decode cX4_takeOne 27 = .ok (.if_icmp .eq 11, 3) := daX4_takeOne (27, .if_icmp .eq 11, 3) (List.mem_of_getElem? (i := 12) rfl)
theorem dX4_takeOne_30 : decode cX4_takeOne 30 = .ok (.aload_n 0, 1) := daX4_takeOne (30, .aload_n 0, 1) (List.mem_of_getElem? (i := 13) rfl)
theorem dX4_takeOne_31 : decode cX4_takeOne 31 = .ok (.iconst 2, 1) := daX4_takeOne (31, .iconst 2, 1) (List.mem_of_getElem? (i := 14) rfl)
theorem dX4_takeOne_32 : decode cX4_takeOne 32 = .ok (.invokevirtual 57, 3) := daX4_takeOne (32, .invokevirtual 57, 3) (List.mem_of_getElem? (i := 15) rfl)
theorem dX4_takeOne_35 : decode cX4_takeOne 35 = .ok (.goto 70, 3) := daX4_takeOne (35, .goto 70, 3) (List.mem_of_getElem? (i := 16) rfl)
theorem dX4_takeOne_38 : decode cX4_takeOne 38 = .ok (.aload_n 0, 1) := daX4_takeOne (38, .aload_n 0, 1) (List.mem_of_getElem? (i := 17) rfl)
theorem dX4_takeOne_39 : decode cX4_takeOne 39 = .ok (.getfield 14, 3) := daX4_takeOne (39, .getfield 14, 3) (List.mem_of_getElem? (i := 18) rfl)
theorem dX4_takeOne_42 : decode cX4_takeOne 42 = .ok (.getfield 107, 3) := daX4_takeOne (42, .getfield 107, 3) (List.mem_of_getElem? (i := 19) rfl)
theorem dX4_takeOne_45 : decode cX4_takeOne 45 = .ok (.ifCond .lt 15, 3) := daX4_takeOne (45, .ifCond .lt 15, 3) (List.mem_of_getElem? (i := 20) rfl)
theorem dX4_takeOne_48 : decode cX4_takeOne 48 = .ok (.aload_n 0, 1) := daX4_takeOne (48, .aload_n 0, 1) (List.mem_of_getElem? (i := 21) rfl)
theorem dX4_takeOne_49 : decode cX4_takeOne 49 = .ok (.getfield 14, 3) := daX4_takeOne (49, .getfield 14, 3) (List.mem_of_getElem? (i := 22) rfl)
theorem dX4_takeOne_52 : decode cX4_takeOne 52 = .ok (.getfield 107, 3) := daX4_takeOne (52, .getfield 107, 3) (List.mem_of_getElem? (i := 23) rfl)
theorem dX4_takeOne_55 : decode cX4_takeOne 55 = .ok (.bipush 10, 2) := daX4_takeOne (55, .bipush 10, 2) (List.mem_of_getElem? (i := 24) rfl)
theorem dX4_takeOne_57 : decode cX4_takeOne 57 = .ok (.if_icmp .lt 11, 3) := daX4_takeOne (57, .if_icmp .lt 11, 3) (List.mem_of_getElem? (i := 25) rfl)
theorem dX4_takeOne_60 : decode cX4_takeOne 60 = .ok (.aload_n 0, 1) := daX4_takeOne (60, .aload_n 0, 1) (List.mem_of_getElem? (i := 26) rfl)
theorem dX4_takeOne_61 : decode cX4_takeOne 61 = .ok (.iconst 3, 1) := daX4_takeOne (61, .iconst 3, 1) (List.mem_of_getElem? (i := 27) rfl)
theorem dX4_takeOne_62 : decode cX4_takeOne 62 = .ok (.invokevirtual 57, 3) := daX4_takeOne (62, .invokevirtual 57, 3) (List.mem_of_getElem? (i := 28) rfl)
theorem dX4_takeOne_65 : decode cX4_takeOne 65 = .ok (.goto 40, 3) := daX4_takeOne (65, .goto 40, 3) (List.mem_of_getElem? (i := 29) rfl)
theorem dX4_takeOne_68 : decode cX4_takeOne 68 = .ok (.aload_n 0, 1) := daX4_takeOne (68, .aload_n 0, 1) (List.mem_of_getElem? (i := 30) rfl)
theorem dX4_takeOne_69 : decode cX4_takeOne 69 = .ok (.getfield 20, 3) := daX4_takeOne (69, .getfield 20, 3) (List.mem_of_getElem? (i := 31) rfl)
theorem dX4_takeOne_72 : decode cX4_takeOne 72 = .ok (.invokevirtual 126, 3) := daX4_takeOne (72, .invokevirtual 126, 3) (List.mem_of_getElem? (i := 32) rfl)
theorem dX4_takeOne_75 : decode cX4_takeOne 75 = .ok (.ifCond .ne 11, 3) := daX4_takeOne (75, .ifCond .ne 11, 3) (List.mem_of_getElem? (i := 33) rfl)
theorem dX4_takeOne_78 : decode cX4_takeOne 78 = .ok (.aload_n 0, 1) := daX4_takeOne (78, .aload_n 0, 1) (List.mem_of_getElem? (i := 34) rfl)
theorem dX4_takeOne_79 : decode cX4_takeOne 79 = .ok (.iconst 4, 1) := daX4_takeOne (79, .iconst 4, 1) (List.mem_of_getElem? (i := 35) rfl)
theorem dX4_takeOne_80 : decode cX4_takeOne 80 = .ok (.invokevirtual 57, 3) := daX4_takeOne (80, .invokevirtual 57, 3) (List.mem_of_getElem? (i := 36) rfl)
theorem dX4_takeOne_83 : decode cX4_takeOne 83 = .ok (.goto 22, 3) := daX4_takeOne (83, .goto 22, 3) (List.mem_of_getElem? (i := 37) rfl)
theorem dX4_takeOne_86 : decode cX4_takeOne 86 = .ok (.aload_n 0, 1) := daX4_takeOne (86, .aload_n 0, 1) (List.mem_of_getElem? (i := 38) rfl)
theorem dX4_takeOne_87 : decode cX4_takeOne 87 = .ok (.getfield 20, 3) := daX4_takeOne (87, .getfield 20, 3) (List.mem_of_getElem? (i := 39) rfl)
theorem dX4_takeOne_90 : decode cX4_takeOne 90 = .ok (.aload_n 0, 1) := daX4_takeOne (90, .aload_n 0, 1) (List.mem_of_getElem? (i := 40) rfl)
theorem dX4_takeOne_91 : decode cX4_takeOne 91 = .ok (.getfield 14, 3) := daX4_takeOne (91, .getfield 14, 3) (List.mem_of_getElem? (i := 41) rfl)
theorem dX4_takeOne_94 : decode cX4_takeOne 94 = .ok (.getfield 107, 3) := daX4_takeOne (94, .getfield 107, 3) (List.mem_of_getElem? (i := 42) rfl)
theorem dX4_takeOne_97 : decode cX4_takeOne 97 = .ok (.invokevirtual 130, 3) := daX4_takeOne (97, .invokevirtual 130, 3) (List.mem_of_getElem? (i := 43) rfl)
theorem dX4_takeOne_100 : decode cX4_takeOne 100 = .ok (.aload_n 0, 1) := daX4_takeOne (100, .aload_n 0, 1) (List.mem_of_getElem? (i := 44) rfl)
theorem dX4_takeOne_101 : decode cX4_takeOne 101 = .ok (.iconst 4, 1) := daX4_takeOne (101, .iconst 4, 1) (List.mem_of_getElem? (i := 45) rfl)
theorem dX4_takeOne_102 : decode cX4_takeOne 102 = .ok (.putfield 32, 3) := daX4_takeOne (102, .putfield 32, 3) (List.mem_of_getElem? (i := 46) rfl)
theorem dX4_takeOne_105 : decode cX4_takeOne 105 = .ok (.return_, 1) := daX4_takeOne (105, .return_, 1) (List.mem_of_getElem? (i := 47) rfl)
def rmX4_takeOne : Room := { frames := 3, cells := 0, slots := 0, locals := 66 }
theorem zdX4_takeOne : yX4_takeOne.cls = RX4 ∧ yX4_takeOne.cls ≠ "java/lang/invoke/MethodHandle" ∧ yX4_takeOne.cls ≠ "java/lang/invoke/VarHandle" ∧ (parseMethodDescriptor yX4_takeOne.desc).map (fun d => d.parameters.length) = some 0 := by decide +kernel
theorem kiX4_takeOne_X4 : ∀ w ∈ wsX40, w ∈ wsX4_takeOne := fun _ h => (List.mem_cons_of_mem _ (List.mem_append_left _ (List.mem_append_left _ (List.mem_append_right _ h))))
theorem kfX4_takeOne_14 : Cond.fieldLink RX4 14 "ShapeJudge$TextReader" "tokens" "LShapeJudge$Tokens;" ∈ wsX4_takeOne := (List.mem_of_getElem? (i := 1) rfl)
theorem kiX4_takeOne_X5 : ∀ w ∈ wsX50, w ∈ wsX4_takeOne := fun _ h => (List.mem_cons_of_mem _ (List.mem_append_left _ (List.mem_append_right _ h)))
theorem kfX4_takeOne_54 : Cond.fieldLink RX4 54 "ShapeJudge$Tokens" "kind" "I" ∈ wsX4_takeOne := (List.mem_of_getElem? (i := 2) rfl)
theorem kfX4_takeOne_107 : Cond.fieldLink RX4 107 "ShapeJudge$Tokens" "number" "I" ∈ wsX4_takeOne := (List.mem_of_getElem? (i := 3) rfl)
theorem kfX4_takeOne_20 : Cond.fieldLink RX4 20 "ShapeJudge$TextReader" "book" "LShapeJudge$Book;" ∈ wsX4_takeOne := (List.mem_of_getElem? (i := 4) rfl)
theorem kfX4_takeOne_32 : Cond.fieldLink RX4 32 "ShapeJudge$TextReader" "state" "I" ∈ wsX4_takeOne := (List.mem_of_getElem? (i := 5) rfl)
def s_X4_takeOne (m : Mem)  : Option (Mem) :=
  (if (m 10 2) = 40 then ((s_X4_takeOpening m).bind fun m21 => some m21) else ((if (m 10 2) = 3 then ((if (m 10 4) < 0 then ((s_X4_fail m 3).bind fun m2 => some m2) else ((if (m 10 4) < 10 then (zbk (m 9 1) fun b3 => (s_X0_hasRoomForPart m b3).bind fun r5 => (if r5 = 0 then ((s_X4_fail m 4).bind fun m11 => some m11) else (zbk (m 9 1) fun b6 => (s_X0_addPart m b6 (m 10 4)).bind fun m8 => bn (sto m8 9 2 4) fun m9 => some m9))) else ((s_X4_fail m 3).bind fun m14 => some m14))))) else ((s_X4_fail m 2).bind fun m18 => some m18))))
set_option maxRecDepth 100000 in
set_option maxHeartbeats 4000000 in
theorem c_X4_takeOne (l : Launch) (w : ZW) {m : Mem}  {m9 : Mem}  (hf : s_X4_takeOne m  = some m9) : zCv MX l w yX4_takeOne wsX4_takeOne rmX4_takeOne [.ref (w.2.1 9)] m m9 := by
  refine z_met_v MX_ok (own := RX4) (by decide +kernel) rfl rfl (Nat.le_of_ble_eq_true rfl) ?_
  intro K C hKw hKl hret
  subst hKw
  subst hKl
  unfold s_X4_takeOne at hf
  show zGo MX K m [(0, .ref ((zw K).2.1 9))] 0 []
  refine z_aload_n C 0 dX4_takeOne_0 rfl rfl ?_
  refine z_getr C (t := 10) (Nat.le_of_ble_eq_true rfl) rfl rfl 0 (Nat.le_of_ble_eq_true rfl) rfl kiX4_takeOne_X4 kfX4_takeOne_14 dX4_takeOne_1 ?_
  refine z_geti C (Nat.le_of_ble_eq_true rfl) rfl rfl 2 (Nat.le_of_ble_eq_true rfl) rfl kiX4_takeOne_X5 kfX4_takeOne_54 dX4_takeOne_4 ?_
  refine z_bipush C (v := 40) dX4_takeOne_7 rfl ?_
  refine z_icmp_ne (tgt := 19) C dX4_takeOne_9 (by decide) (fun c22 => ?_) (fun c22 => ?_)
  · replace hf := if_f c22 hf
    refine z_aload_n C 0 dX4_takeOne_19 rfl rfl ?_
    refine z_getr C (t := 10) (Nat.le_of_ble_eq_true rfl) rfl rfl 0 (Nat.le_of_ble_eq_true rfl) rfl kiX4_takeOne_X4 kfX4_takeOne_14 dX4_takeOne_20 ?_
    refine z_geti C (Nat.le_of_ble_eq_true rfl) rfl rfl 2 (Nat.le_of_ble_eq_true rfl) rfl kiX4_takeOne_X5 kfX4_takeOne_54 dX4_takeOne_23 ?_
    refine z_iconst C (v := 3) dX4_takeOne_26 rfl ?_
    refine z_icmp_eq (tgt := 38) C dX4_takeOne_27 (by decide) (fun c19 => ?_) (fun c19 => ?_)
    · replace hf := if_t c19 hf
      refine z_aload_n C 0 dX4_takeOne_38 rfl rfl ?_
      refine z_getr C (t := 10) (Nat.le_of_ble_eq_true rfl) rfl rfl 0 (Nat.le_of_ble_eq_true rfl) rfl kiX4_takeOne_X4 kfX4_takeOne_14 dX4_takeOne_39 ?_
      refine z_geti C (Nat.le_of_ble_eq_true rfl) rfl rfl 4 (Nat.le_of_ble_eq_true rfl) rfl kiX4_takeOne_X5 kfX4_takeOne_107 dX4_takeOne_42 ?_
      refine z_if_lt (tgt := 60) C dX4_takeOne_45 (by decide) (fun c16 => ?_) (fun c16 => ?_)
      · replace hf := if_t c16 hf
        refine z_aload_n C 0 dX4_takeOne_60 rfl rfl ?_
        refine z_iconst C (v := 3) dX4_takeOne_61 rfl ?_
        obtain ⟨m2, hc1, hf⟩ := zb_el hf
        refine z_cVv C (c_X4_fail _ _ hc1) rfl gX4_takeOne_X4_fail rfl rfl zdX4_fail rfl (Nat.le_of_ble_eq_true rfl) rfl rfl rfl ⟨Nat.le_of_ble_eq_true rfl, Nat.le_of_ble_eq_true rfl⟩ (Nat.le_of_ble_eq_true rfl) dX4_takeOne_62 rfl ?_
        refine z_goto (tgt := 105) C dX4_takeOne_65 (by decide) ?_
        cases hf
        exact hret _ _ dX4_takeOne_105
      · replace hf := if_f c16 hf
        refine z_aload_n C 0 dX4_takeOne_48 rfl rfl ?_
        refine z_getr C (t := 10) (Nat.le_of_ble_eq_true rfl) rfl rfl 0 (Nat.le_of_ble_eq_true rfl) rfl kiX4_takeOne_X4 kfX4_takeOne_14 dX4_takeOne_49 ?_
        refine z_geti C (Nat.le_of_ble_eq_true rfl) rfl rfl 4 (Nat.le_of_ble_eq_true rfl) rfl kiX4_takeOne_X5 kfX4_takeOne_107 dX4_takeOne_52 ?_
        refine z_bipush C (v := 10) dX4_takeOne_55 rfl ?_
        refine z_icmp_lt (tgt := 68) C dX4_takeOne_57 (by decide) (fun c15 => ?_) (fun c15 => ?_)
        · replace hf := if_t c15 hf
          refine z_aload_n C 0 dX4_takeOne_68 rfl rfl ?_
          obtain ⟨b3, hb3, e_b3, hf⟩ := zbk_el hf
          refine z_getb C (b := b3) (Nat.le_of_ble_eq_true rfl) rfl rfl 1 (Nat.le_of_ble_eq_true rfl) rfl kiX4_takeOne_X4 kfX4_takeOne_20 (isb_lt hb3) e_b3 dX4_takeOne_69 ?_
          obtain ⟨r5, hc4, hf⟩ := zb_el hf
          refine z_cVi C (c_X0_hasRoomForPart _ _ hb3 hc4) rfl gX4_takeOne_X0_hasRoomForPart rfl rfl zdX0_hasRoomForPart rfl (isb_k0 hb3) (isb_L0 hb3) rfl rfl ⟨Nat.le_of_ble_eq_true rfl, Nat.le_of_ble_eq_true rfl⟩ (Nat.le_of_ble_eq_true rfl) dX4_takeOne_72 rfl ?_
          refine z_if_ne (tgt := 86) C dX4_takeOne_75 (by decide) (fun c12 => ?_) (fun c12 => ?_)
          · replace hf := if_f c12 hf
            refine z_aload_n C 0 dX4_takeOne_86 rfl rfl ?_
            obtain ⟨b6, hb6, e_b6, hf⟩ := zbk_el hf
            refine z_getb C (b := b6) (Nat.le_of_ble_eq_true rfl) rfl rfl 1 (Nat.le_of_ble_eq_true rfl) rfl kiX4_takeOne_X4 kfX4_takeOne_20 (isb_lt hb6) e_b6 dX4_takeOne_87 ?_
            refine z_aload_n C 0 dX4_takeOne_90 rfl rfl ?_
            refine z_getr C (t := 10) (Nat.le_of_ble_eq_true rfl) rfl rfl 0 (Nat.le_of_ble_eq_true rfl) rfl kiX4_takeOne_X4 kfX4_takeOne_14 dX4_takeOne_91 ?_
            refine z_geti C (Nat.le_of_ble_eq_true rfl) rfl rfl 4 (Nat.le_of_ble_eq_true rfl) rfl kiX4_takeOne_X5 kfX4_takeOne_107 dX4_takeOne_94 ?_
            obtain ⟨m8, hc7, hf⟩ := zb_el hf
            refine z_cVv C (c_X0_addPart _ _ hb6 hc7) rfl gX4_takeOne_X0_addPart rfl rfl zdX0_addPart rfl (isb_k0 hb6) (isb_L0 hb6) rfl rfl ⟨Nat.le_of_ble_eq_true rfl, Nat.le_of_ble_eq_true rfl⟩ (Nat.le_of_ble_eq_true rfl) dX4_takeOne_97 rfl ?_
            refine z_aload_n C 0 dX4_takeOne_100 rfl rfl ?_
            refine z_iconst C (v := 4) dX4_takeOne_101 rfl ?_
            refine z_puti C (Nat.le_of_ble_eq_true rfl) rfl rfl 2 (Nat.le_of_ble_eq_true rfl) rfl kiX4_takeOne_X4 kfX4_takeOne_32 tyX4 tyX4_ok nmX4 rfl rfl dX4_takeOne_102 ?_
            refine z_nm (fun m9 e_m9 => ?_)
            replace hf := bn_to e_m9 hf
            cases hf
            exact hret _ _ dX4_takeOne_105
          · replace hf := if_t c12 hf
            refine z_aload_n C 0 dX4_takeOne_78 rfl rfl ?_
            refine z_iconst C (v := 4) dX4_takeOne_79 rfl ?_
            obtain ⟨m11, hc10, hf⟩ := zb_el hf
            refine z_cVv C (c_X4_fail _ _ hc10) rfl gX4_takeOne_X4_fail rfl rfl zdX4_fail rfl (Nat.le_of_ble_eq_true rfl) rfl rfl rfl ⟨Nat.le_of_ble_eq_true rfl, Nat.le_of_ble_eq_true rfl⟩ (Nat.le_of_ble_eq_true rfl) dX4_takeOne_80 rfl ?_
            refine z_goto (tgt := 105) C dX4_takeOne_83 (by decide) ?_
            cases hf
            exact hret _ _ dX4_takeOne_105
        · replace hf := if_f c15 hf
          refine z_aload_n C 0 dX4_takeOne_60 rfl rfl ?_
          refine z_iconst C (v := 3) dX4_takeOne_61 rfl ?_
          obtain ⟨m14, hc13, hf⟩ := zb_el hf
          refine z_cVv C (c_X4_fail _ _ hc13) rfl gX4_takeOne_X4_fail rfl rfl zdX4_fail rfl (Nat.le_of_ble_eq_true rfl) rfl rfl rfl ⟨Nat.le_of_ble_eq_true rfl, Nat.le_of_ble_eq_true rfl⟩ (Nat.le_of_ble_eq_true rfl) dX4_takeOne_62 rfl ?_
          refine z_goto (tgt := 105) C dX4_takeOne_65 (by decide) ?_
          cases hf
          exact hret _ _ dX4_takeOne_105
    · replace hf := if_f c19 hf
      refine z_aload_n C 0 dX4_takeOne_30 rfl rfl ?_
      refine z_iconst C (v := 2) dX4_takeOne_31 rfl ?_
      obtain ⟨m18, hc17, hf⟩ := zb_el hf
      refine z_cVv C (c_X4_fail _ _ hc17) rfl gX4_takeOne_X4_fail rfl rfl zdX4_fail rfl (Nat.le_of_ble_eq_true rfl) rfl rfl rfl ⟨Nat.le_of_ble_eq_true rfl, Nat.le_of_ble_eq_true rfl⟩ (Nat.le_of_ble_eq_true rfl) dX4_takeOne_32 rfl ?_
      refine z_goto (tgt := 105) C dX4_takeOne_35 (by decide) ?_
      cases hf
      exact hret _ _ dX4_takeOne_105
  · replace hf := if_t c22 hf
    refine z_aload_n C 0 dX4_takeOne_12 rfl rfl ?_
    obtain ⟨m21, hc20, hf⟩ := zb_el hf
    refine z_cVv C (c_X4_takeOpening _ _ hc20) rfl gX4_takeOne_X4_takeOpening rfl rfl zdX4_takeOpening rfl (Nat.le_of_ble_eq_true rfl) rfl rfl rfl ⟨Nat.le_of_ble_eq_true rfl, Nat.le_of_ble_eq_true rfl⟩ (Nat.le_of_ble_eq_true rfl) dX4_takeOne_13 rfl ?_
    refine z_goto (tgt := 105) C dX4_takeOne_16 (by decide) ?_
    cases hf
    exact hret _ _ dX4_takeOne_105
set_option maxRecDepth 20000 in
theorem ggX4_takeShapeEnd_X0_closeShape : GoodIn wsX4_takeShapeEnd wsX0_closeShape := goodIn_sub (List.forall_mem_cons.mpr ⟨(List.mem_of_getElem? (i := 9) rfl), (List.forall_mem_append.mpr ⟨(List.forall_mem_cons.mpr ⟨(List.mem_of_getElem? (i := 10) rfl), (List.forall_mem_cons.mpr ⟨(List.mem_of_getElem? (i := 11) rfl), (List.forall_mem_cons.mpr ⟨(List.mem_of_getElem? (i := 12) rfl), (List.forall_mem_cons.mpr ⟨(List.mem_of_getElem? (i := 13) rfl), (List.forall_mem_cons.mpr ⟨(List.mem_of_getElem? (i := 14) rfl), (List.forall_mem_cons.mpr ⟨(List.mem_of_getElem? (i := 8) rfl), (List.forall_mem_cons.mpr ⟨(List.mem_of_getElem? (i := 15) rfl), (fun _ h => absurd h List.not_mem_nil)⟩)⟩)⟩)⟩)⟩)⟩)⟩), (fun _ h => (List.mem_cons_of_mem _ (List.mem_append_right _ h)))⟩)⟩) (by decide +kernel)
set_option maxRecDepth 20000 in
theorem gX4_takeShapeEnd_X0_closeShape : GoodIn wsX4_takeShapeEnd (wsV RX4 120 RX0 yX0_closeShape wsX0_closeShape) := goodIn_app (goodIn_sub (List.forall_mem_cons.mpr ⟨(List.mem_of_getElem? (i := 5) rfl), (List.forall_mem_cons.mpr ⟨(List.mem_of_getElem? (i := 6) rfl), (List.forall_mem_cons.mpr ⟨(List.mem_of_getElem? (i := 7) rfl), (List.forall_mem_cons.mpr ⟨(List.mem_of_getElem? (i := 8) rfl), (fun _ h => absurd h List.not_mem_nil)⟩)⟩)⟩)⟩) (by decide +kernel)) ggX4_takeShapeEnd_X0_closeShape
set_option maxRecDepth 20000 in
theorem ggX4_takeShapeEnd_X4_takeSign : GoodIn wsX4_takeShapeEnd wsX4_takeSign := goodIn_sub (List.forall_mem_cons.mpr ⟨(List.mem_of_getElem? (i := 20) rfl), (List.forall_mem_append.mpr ⟨(List.forall_mem_append.mpr ⟨(List.forall_mem_cons.mpr ⟨(List.mem_of_getElem? (i := 1) rfl), (List.forall_mem_cons.mpr ⟨(List.mem_of_getElem? (i := 2) rfl), (List.forall_mem_cons.mpr ⟨(List.mem_of_getElem? (i := 4) rfl), (List.forall_mem_cons.mpr ⟨(List.mem_of_getElem? (i := 21) rfl), (List.forall_mem_cons.mpr ⟨(List.mem_of_getElem? (i := 22) rfl), (List.forall_mem_cons.mpr ⟨(List.mem_of_getElem? (i := 23) rfl), (List.forall_mem_cons.mpr ⟨(List.mem_of_getElem? (i := 19) rfl), (List.forall_mem_cons.mpr ⟨(List.mem_of_getElem? (i := 24) rfl), (List.forall_mem_cons.mpr ⟨(List.mem_of_getElem? (i := 25) rfl), (List.forall_mem_cons.mpr ⟨(List.mem_of_getElem? (i := 26) rfl), (List.forall_mem_cons.mpr ⟨(List.mem_of_getElem? (i := 27) rfl), (fun _ h => absurd h List.not_mem_nil)⟩)⟩)⟩)⟩)⟩)⟩)⟩)⟩)⟩)⟩)⟩), (fun _ h => (List.mem_cons_of_mem _ (List.mem_append_left _ (List.mem_append_left _ (List.mem_append_right _ h)))))⟩), (fun _ h => (List.mem_cons_of_mem _ (List.mem_append_left _ (List.mem_append_right _ h))))⟩)⟩) (by decide +kernel)
set_option maxRecDepth 20000 in
theorem gX4_takeShapeEnd_X4_takeSign : GoodIn wsX4_takeShapeEnd (wsV RX4 73 RX4 yX4_takeSign wsX4_takeSign) := goodIn_app (goodIn_sub (List.forall_mem_cons.mpr ⟨(List.mem_of_getElem? (i := 16) rfl), (List.forall_mem_cons.mpr ⟨(List.mem_of_getElem? (i := 17) rfl), (List.forall_mem_cons.mpr ⟨(List.mem_of_getElem? (i := 18) rfl), (List.forall_mem_cons.mpr ⟨(List.mem_of_getElem? (i := 19) rfl), (fun _ h => absurd h List.not_mem_nil)⟩)⟩)⟩)⟩) (by decide +kernel)) ggX4_takeShapeEnd_X4_takeSign
theorem dX4_takeShapeEnd_0 : decode cX4_takeShapeEnd 0 = .ok (.aload_n 0, 1) := by decide +kernel
theorem dX4_takeShapeEnd_1 : decode cX4_takeShapeEnd 1 = .ok (.getfield 14, 3) := by decide +kernel
theorem dX4_takeShapeEnd_4 : decode cX4_takeShapeEnd 4 = .ok (.getfield 54, 3) := by decide +kernel
theorem dX4_takeShapeEnd_7 : decode cX4_takeShapeEnd 7 = .ok (.iconst 4, 1) := by decide +kernel
theorem dX4_takeShapeEnd_8 : decode cX4_takeShapeEnd 8 = .ok (.if_icmp .ne 19, 3) := by decide +kernel
theorem dX4_takeShapeEnd_11 : decode cX4_takeShapeEnd 11 = .ok (.aload_n 0, 1) := by decide +kernel
theorem dX4_takeShapeEnd_12 : decode cX4_takeShapeEnd 12 = .ok (.getfield 20, 3) := by decide +kernel
theorem dX4_takeShapeEnd_15 : decode cX4_takeShapeEnd 15 = .ok (.invokevirtual 120, 3) := by decide +kernel
theorem dX4_takeShapeEnd_18 : decode cX4_takeShapeEnd 18 = .ok (.aload_n 0, 1) := by decide +kernel
theorem dX4_takeShapeEnd_19 : decode cX4_takeShapeEnd 19 = .ok (.bipush 13, 2) := by decide +kernel
theorem dX4_takeShapeEnd_21 : decode cX4_takeShapeEnd 21 = .ok (.putfield 32, 3) := by decide +kernel
theorem dX4_takeShapeEnd_24 : decode cX4_takeShapeEnd 24 = .ok (.goto 10, 3) := by decide +kernel
theorem dX4_takeShapeEnd_27 : decode cX4_takeShapeEnd 27 = .ok (.aload_n 0, 1) := by decide +kernel
theorem dX4_takeShapeEnd_28 : decode cX4_takeShapeEnd 28 = .ok (.bipush 59, 2) := by decide +kernel
theorem dX4_takeShapeEnd_30 : decode cX4_takeShapeEnd 30 = .ok (.iconst 0, 1) := by decide +kernel
theorem dX4_takeShapeEnd_31 : decode cX4_takeShapeEnd 31 = .ok (.invokevirtual 73, 3) := by decide +kernel
theorem dX4_takeShapeEnd_34 : decode cX4_takeShapeEnd 34 = .ok (.return_, 1) := by decide +kernel
def rmX4_takeShapeEnd : Room := { frames := 2, cells := 0, slots := 0, locals := 43 }
theorem zdX4_takeShapeEnd : yX4_takeShapeEnd.cls = RX4 ∧ yX4_takeShapeEnd.cls ≠ "java/lang/invoke/MethodHandle" ∧ yX4_takeShapeEnd.cls ≠ "java/lang/invoke/VarHandle" ∧ (parseMethodDescriptor yX4_takeShapeEnd.desc).map (fun d => d.parameters.length) = some 0 := by decide +kernel
theorem kiX4_takeShapeEnd_X4 : ∀ w ∈ wsX40, w ∈ wsX4_takeShapeEnd := fun _ h => (List.mem_cons_of_mem _ (List.mem_append_left _ (List.mem_append_left _ (List.mem_append_right _ h))))
theorem kfX4_takeShapeEnd_14 : Cond.fieldLink RX4 14 "ShapeJudge$TextReader" "tokens" "LShapeJudge$Tokens;" ∈ wsX4_takeShapeEnd := (List.mem_of_getElem? (i := 1) rfl)
theorem kiX4_takeShapeEnd_X5 : ∀ w ∈ wsX50, w ∈ wsX4_takeShapeEnd := fun _ h => (List.mem_cons_of_mem _ (List.mem_append_left _ (List.mem_append_right _ h)))
theorem kfX4_takeShapeEnd_54 : Cond.fieldLink RX4 54 "ShapeJudge$Tokens" "kind" "I" ∈ wsX4_takeShapeEnd := (List.mem_of_getElem? (i := 2) rfl)
theorem kfX4_takeShapeEnd_20 : Cond.fieldLink RX4 20 "ShapeJudge$TextReader" "book" "LShapeJudge$Book;" ∈ wsX4_takeShapeEnd := (List.mem_of_getElem? (i := 3) rfl)
theorem kfX4_takeShapeEnd_32 : Cond.fieldLink RX4 32 "ShapeJudge$TextReader" "state" "I" ∈ wsX4_takeShapeEnd := (List.mem_of_getElem? (i := 4) rfl)
def s_X4_takeShapeEnd (m : Mem)  : Option (Mem) :=
  (if (m 10 2) = 4 then (zbk (m 9 1) fun b3 => (s_X0_closeShape m b3).bind fun m5 => bn (sto m5 9 2 13) fun m6 => some m6) else ((s_X4_takeSign m 59 0).bind fun m2 => some m2))
set_option maxRecDepth 100000 in
set_option maxHeartbeats 4000000 in
theorem c_X4_takeShapeEnd (l : Launch) (w : ZW) {m : Mem}  {m9 : Mem}  (hf : s_X4_takeShapeEnd m  = some m9) : zCv MX l w yX4_takeShapeEnd wsX4_takeShapeEnd rmX4_takeShapeEnd [.ref (w.2.1 9)] m m9 := by
  refine z_met_v MX_ok (own := RX4) (by decide +kernel) rfl rfl (Nat.le_of_ble_eq_true rfl) ?_
  intro K C hKw hKl hret
  subst hKw
  subst hKl
  unfold s_X4_takeShapeEnd at hf
  show zGo MX K m [(0, .ref ((zw K).2.1 9))] 0 []
  refine z_aload_n C 0 dX4_takeShapeEnd_0 rfl rfl ?_
  refine z_getr C (t := 10) (Nat.le_of_ble_eq_true rfl) rfl rfl 0 (Nat.le_of_ble_eq_true rfl) rfl kiX4_takeShapeEnd_X4 kfX4_takeShapeEnd_14 dX4_takeShapeEnd_1 ?_
  refine z_geti C (Nat.le_of_ble_eq_true rfl) rfl rfl 2 (Nat.le_of_ble_eq_true rfl) rfl kiX4_takeShapeEnd_X5 kfX4_takeShapeEnd_54 dX4_takeShapeEnd_4 ?_
  refine z_iconst C (v := 4) dX4_takeShapeEnd_7 rfl ?_
  refine z_icmp_ne (tgt := 27) C dX4_takeShapeEnd_8 (by decide) (fun c7 => ?_) (fun c7 => ?_)
  · replace hf := if_f c7 hf
    refine z_aload_n C 0 dX4_takeShapeEnd_27 rfl rfl ?_
    refine z_bipush C (v := 59) dX4_takeShapeEnd_28 rfl ?_
    refine z_iconst C (v := 0) dX4_takeShapeEnd_30 rfl ?_
    obtain ⟨m2, hc1, hf⟩ := zb_el hf
    refine z_cVv C (c_X4_takeSign _ _ hc1) rfl gX4_takeShapeEnd_X4_takeSign rfl rfl zdX4_takeSign rfl (Nat.le_of_ble_eq_true rfl) rfl rfl rfl ⟨Nat.le_of_ble_eq_true rfl, Nat.le_of_ble_eq_true rfl⟩ (Nat.le_of_ble_eq_true rfl) dX4_takeShapeEnd_31 rfl ?_
    cases hf
    exact hret _ _ dX4_takeShapeEnd_34
  · replace hf := if_t c7 hf
    refine z_aload_n C 0 dX4_takeShapeEnd_11 rfl rfl ?_
    obtain ⟨b3, hb3, e_b3, hf⟩ := zbk_el hf
    refine z_getb C (b := b3) (Nat.le_of_ble_eq_true rfl) rfl rfl 1 (Nat.le_of_ble_eq_true rfl) rfl kiX4_takeShapeEnd_X4 kfX4_takeShapeEnd_20 (isb_lt hb3) e_b3 dX4_takeShapeEnd_12 ?_
    obtain ⟨m5, hc4, hf⟩ := zb_el hf
    refine z_cVv C (c_X0_closeShape _ _ hb3 hc4) rfl gX4_takeShapeEnd_X0_closeShape rfl rfl zdX0_closeShape rfl (isb_k0 hb3) (isb_L0 hb3) rfl rfl ⟨Nat.le_of_ble_eq_true rfl, Nat.le_of_ble_eq_true rfl⟩ (Nat.le_of_ble_eq_true rfl) dX4_takeShapeEnd_15 rfl ?_
    refine z_aload_n C 0 dX4_takeShapeEnd_18 rfl rfl ?_
    refine z_bipush C (v := 13) dX4_takeShapeEnd_19 rfl ?_
    refine z_puti C (Nat.le_of_ble_eq_true rfl) rfl rfl 2 (Nat.le_of_ble_eq_true rfl) rfl kiX4_takeShapeEnd_X4 kfX4_takeShapeEnd_32 tyX4 tyX4_ok nmX4 rfl rfl dX4_takeShapeEnd_21 ?_
    refine z_nm (fun m6 e_m6 => ?_)
    replace hf := bn_to e_m6 hf
    refine z_goto (tgt := 34) C dX4_takeShapeEnd_24 (by decide) ?_
    cases hf
    exact hret _ _ dX4_takeShapeEnd_34
set_option maxRecDepth 20000 in
theorem ggX4_takeBody_X4_takeOne : GoodIn wsX4_takeBody wsX4_takeOne := goodIn_sub (List.forall_mem_cons.mpr ⟨(List.mem_of_getElem? (i := 7) rfl), (List.forall_mem_append.mpr ⟨(List.forall_mem_append.mpr ⟨(List.forall_mem_append.mpr ⟨(List.forall_mem_append.mpr ⟨(show ∀ w ∈ wsX4_takeOne_r1, w ∈ wsX4_takeBody from (List.forall_mem_cons.mpr ⟨(List.mem_of_getElem? (i := 1) rfl), (List.forall_mem_cons.mpr ⟨(List.mem_of_getElem? (i := 2) rfl), (List.forall_mem_cons.mpr ⟨(List.mem_of_getElem? (i := 8) rfl), (List.forall_mem_cons.mpr ⟨(List.mem_of_getElem? (i := 9) rfl), (List.forall_mem_cons.mpr ⟨(List.mem_of_getElem? (i := 10) rfl), (List.forall_mem_cons.mpr ⟨(List.mem_of_getElem? (i := 11) rfl), (List.forall_mem_cons.mpr ⟨(List.mem_of_getElem? (i := 12) rfl), (List.forall_mem_cons.mpr ⟨(List.mem_of_getElem? (i := 13) rfl), (List.forall_mem_cons.mpr ⟨(List.mem_of_getElem? (i := 6) rfl), (List.forall_mem_cons.mpr ⟨(List.mem_of_getElem? (i := 14) rfl), (List.forall_mem_cons.mpr ⟨(List.mem_of_getElem? (i := 15) rfl), (List.forall_mem_cons.mpr ⟨(List.mem_of_getElem? (i := 16) rfl), (List.forall_mem_cons.mpr ⟨(List.mem_of_getElem? (i := 17) rfl), (List.forall_mem_cons.mpr ⟨(List.mem_of_getElem? (i := 18) rfl), (List.forall_mem_cons.mpr ⟨(List.mem_of_getElem? (i := 19) rfl), (List.forall_mem_cons.mpr ⟨(List.mem_of_getElem? (i := 20) rfl), (List.forall_mem_cons.mpr ⟨(List.mem_of_getElem? (i := 21) rfl), (List.forall_mem_cons.mpr ⟨(List.mem_of_getElem? (i := 22) rfl), (List.forall_mem_cons.mpr ⟨(List.mem_of_getElem? (i := 23) rfl), (List.forall_mem_cons.mpr ⟨(List.mem_of_getElem? (i := 24) rfl), (List.forall_mem_cons.mpr ⟨(List.mem_of_getElem? (i := 25) rfl), (List.forall_mem_cons.mpr ⟨(List.mem_of_getElem? (i := 26) rfl), (List.forall_mem_cons.mpr ⟨(List.mem_of_getElem? (i := 27) rfl), (List.forall_mem_cons.mpr ⟨(List.mem_of_getElem? (i := 28) rfl), (fun _ h => absurd h List.not_mem_nil)⟩)⟩)⟩)⟩)⟩)⟩)⟩)⟩)⟩)⟩)⟩)⟩)⟩)⟩)⟩)⟩)⟩)⟩)⟩)⟩)⟩)⟩)⟩)⟩)), (show ∀ w ∈ wsX4_takeOne_r2, w ∈ wsX4_takeBody from (List.forall_mem_cons.mpr ⟨(List.mem_of_getElem? (i := 29) rfl), (List.forall_mem_cons.mpr ⟨(List.mem_of_getElem? (i := 30) rfl), (List.forall_mem_cons.mpr ⟨(List.mem_of_getElem? (i := 31) rfl), (List.forall_mem_cons.mpr ⟨(List.mem_of_getElem? (i := 32) rfl), (List.forall_mem_cons.mpr ⟨(List.mem_of_getElem? (i := 33) rfl), (List.forall_mem_cons.mpr ⟨(List.mem_of_getElem? (i := 34) rfl), (List.forall_mem_cons.mpr ⟨(List.mem_of_getElem? (i := 35) rfl), (List.forall_mem_cons.mpr ⟨(List.mem_of_getElem? (i := 36) rfl), (List.forall_mem_cons.mpr ⟨(List.mem_of_getElem? (i := 37) rfl), (List.forall_mem_cons.mpr ⟨(List.mem_of_getElem? (i := 38) rfl), (List.forall_mem_cons.mpr ⟨(List.mem_of_getElem? (i := 39) rfl), (List.forall_mem_cons.mpr ⟨(List.mem_of_getElem? (i := 40) rfl), (List.forall_mem_cons.mpr ⟨(List.mem_of_getElem? (i := 41) rfl), (List.forall_mem_cons.mpr ⟨(List.mem_of_getElem? (i := 42) rfl), (List.forall_mem_cons.mpr ⟨(List.mem_of_getElem? (i := 43) rfl), (List.forall_mem_cons.mpr ⟨(List.mem_of_getElem? (i := 44) rfl), (List.forall_mem_cons.mpr ⟨(List.mem_of_getElem? (i := 45) rfl), (List.forall_mem_cons.mpr ⟨(List.mem_of_getElem? (i := 46) rfl), (List.forall_mem_cons.mpr ⟨(List.mem_of_getElem? (i := 47) rfl), (List.forall_mem_cons.mpr ⟨(List.mem_of_getElem? (i := 48) rfl), (fun _ h => absurd h List.not_mem_nil)⟩)⟩)⟩)⟩)⟩)⟩)⟩)⟩)⟩)⟩)⟩)⟩)⟩)⟩)⟩)⟩)⟩)⟩)⟩)⟩))⟩), (fun _ h => (List.mem_cons_of_mem _ (List.mem_append_left _ (List.mem_append_left _ (List.mem_append_right _ h)))))⟩), (fun _ h => (List.mem_cons_of_mem _ (List.mem_append_left _ (List.mem_append_right _ h))))⟩), (fun _ h => (List.mem_cons_of_mem _ (List.mem_append_right _ h)))⟩)⟩) (by decide +kernel)
set_option maxRecDepth 20000 in
theorem gX4_takeBody_X4_takeOne : GoodIn wsX4_takeBody (wsV RX4 80 RX4 yX4_takeOne wsX4_takeOne) := goodIn_app (goodIn_sub (List.forall_mem_cons.mpr ⟨(List.mem_of_getElem? (i := 3) rfl), (List.forall_mem_cons.mpr ⟨(List.mem_of_getElem? (i := 4) rfl), (List.forall_mem_cons.mpr ⟨(List.mem_of_getElem? (i := 5) rfl), (List.forall_mem_cons.mpr ⟨(List.mem_of_getElem? (i := 6) rfl), (fun _ h => absurd h List.not_mem_nil)⟩)⟩)⟩)⟩) (by decide +kernel)) ggX4_takeBody_X4_takeOne
set_option maxRecDepth 20000 in
theorem ggX4_takeBody_X4_takeShapeEnd : GoodIn wsX4_takeBody wsX4_takeShapeEnd := goodIn_sub (List.forall_mem_cons.mpr ⟨(List.mem_of_getElem? (i := 52) rfl), (List.forall_mem_append.mpr ⟨(List.forall_mem_append.mpr ⟨(List.forall_mem_append.mpr ⟨(List.forall_mem_append.mpr ⟨(show ∀ w ∈ wsX4_takeShapeEnd_r1, w ∈ wsX4_takeBody from (List.forall_mem_cons.mpr ⟨(List.mem_of_getElem? (i := 1) rfl), (List.forall_mem_cons.mpr ⟨(List.mem_of_getElem? (i := 2) rfl), (List.forall_mem_cons.mpr ⟨(List.mem_of_getElem? (i := 9) rfl), (List.forall_mem_cons.mpr ⟨(List.mem_of_getElem? (i := 10) rfl), (List.forall_mem_cons.mpr ⟨(List.mem_of_getElem? (i := 53) rfl), (List.forall_mem_cons.mpr ⟨(List.mem_of_getElem? (i := 54) rfl), (List.forall_mem_cons.mpr ⟨(List.mem_of_getElem? (i := 55) rfl), (List.forall_mem_cons.mpr ⟨(List.mem_of_getElem? (i := 26) rfl), (List.forall_mem_cons.mpr ⟨(List.mem_of_getElem? (i := 56) rfl), (List.forall_mem_cons.mpr ⟨(List.mem_of_getElem? (i := 28) rfl), (List.forall_mem_cons.mpr ⟨(List.mem_of_getElem? (i := 57) rfl), (List.forall_mem_cons.mpr ⟨(List.mem_of_getElem? (i := 30) rfl), (List.forall_mem_cons.mpr ⟨(List.mem_of_getElem? (i := 31) rfl), (List.forall_mem_cons.mpr ⟨(List.mem_of_getElem? (i := 32) rfl), (List.forall_mem_cons.mpr ⟨(List.mem_of_getElem? (i := 33) rfl), (List.forall_mem_cons.mpr ⟨(List.mem_of_getElem? (i := 58) rfl), (List.forall_mem_cons.mpr ⟨(List.mem_of_getElem? (i := 59) rfl), (List.forall_mem_cons.mpr ⟨(List.mem_of_getElem? (i := 60) rfl), (List.forall_mem_cons.mpr ⟨(List.mem_of_getElem? (i := 6) rfl), (List.forall_mem_cons.mpr ⟨(List.mem_of_getElem? (i := 61) rfl), (List.forall_mem_cons.mpr ⟨(List.mem_of_getElem? (i := 16) rfl), (List.forall_mem_cons.mpr ⟨(List.mem_of_getElem? (i := 17) rfl), (List.forall_mem_cons.mpr ⟨(List.mem_of_getElem? (i := 18) rfl), (List.forall_mem_cons.mpr ⟨(List.mem_of_getElem? (i := 19) rfl), (fun _ h => absurd h List.not_mem_nil)⟩)⟩)⟩)⟩)⟩)⟩)⟩)⟩)⟩)⟩)⟩)⟩)⟩)⟩)⟩)⟩)⟩)⟩)⟩)⟩)⟩)⟩)⟩)⟩)), (show ∀ w ∈ wsX4_takeShapeEnd_r2, w ∈ wsX4_takeBody from (List.forall_mem_cons.mpr ⟨(List.mem_of_getElem? (i := 20) rfl), (List.forall_mem_cons.mpr ⟨(List.mem_of_getElem? (i := 21) rfl), (List.forall_mem_cons.mpr ⟨(List.mem_of_getElem? (i := 22) rfl), (fun _ h => absurd h List.not_mem_nil)⟩)⟩)⟩))⟩), (fun _ h => (List.mem_cons_of_mem _ (List.mem_append_left _ (List.mem_append_left _ (List.mem_append_right _ h)))))⟩), (fun _ h => (List.mem_cons_of_mem _ (List.mem_append_left _ (List.mem_append_right _ h))))⟩), (fun _ h => (List.mem_cons_of_mem _ (List.mem_append_right _ h)))⟩)⟩) (by decide +kernel)
set_option maxRecDepth 20000 in
theorem gX4_takeBody_X4_takeShapeEnd : GoodIn wsX4_takeBody (wsV RX4 117 RX4 yX4_takeShapeEnd wsX4_takeShapeEnd) := goodIn_app (goodIn_sub (List.forall_mem_cons.mpr ⟨(List.mem_of_getElem? (i := 49) rfl), (List.forall_mem_cons.mpr ⟨(List.mem_of_getElem? (i := 50) rfl), (List.forall_mem_cons.mpr ⟨(List.mem_of_getElem? (i := 51) rfl), (List.forall_mem_cons.mpr ⟨(List.mem_of_getElem? (i := 6) rfl), (fun _ h => absurd h List.not_mem_nil)⟩)⟩)⟩)⟩) (by decide +kernel)) ggX4_takeBody_X4_takeShapeEnd
theorem dX4_takeBody_0 : decode cX4_takeBody 0 = .ok (.aload_n 0, 1) := by decide +kernel
theorem dX4_takeBody_1 : decode cX4_takeBody 1 = .ok (.getfield 14, 3) := by decide +kernel
theorem dX4_takeBody_4 : decode cX4_takeBody 4 = .ok (.getfield 54, 3) := by decide +kernel
theorem dX4_takeBody_7 : decode cX4_takeBody 7 = .ok (.bipush 40, 2) := by decide +kernel
theorem dX4_takeBody_9 : decode cX4_takeBody 9 = .ok (.if_icmp .eq 14, 3) := by decide +kernel
theorem dX4_takeBody_12 : decode cX4_takeBody 12 = .ok (.aload_n 0, 1) := by decide +kernel
theorem dX4_takeBody_13 : decode cX4_takeBody 13 = .ok (.getfield 14, 3) := by decide +kernel
theorem dX4_takeBody_16 : decode cX4_takeBody 16 = .ok (.getfield 54, 3) := by decide +kernel
theorem dX4_takeBody_19 : decode cX4_takeBody 19 = .ok (.iconst 3, 1) := by decide +kernel
theorem dX4_takeBody_20 : decode cX4_takeBody 20 = .ok (.if_icmp .ne 10, 3) := by decide +kernel
theorem dX4_takeBody_23 : decode cX4_takeBody 23 = .ok (.aload_n 0, 1) := by decide +kernel
theorem dX4_takeBody_24 : decode cX4_takeBody 24 = .ok (.invokevirtual 80, 3) := by decide +kernel
theorem dX4_takeBody_27 : decode cX4_takeBody 27 = .ok (.goto 7, 3) := by decide +kernel
theorem dX4_takeBody_30 : decode cX4_takeBody 30 = .ok (.aload_n 0, 1) := by decide +kernel
theorem dX4_takeBody_31 : decode cX4_takeBody 31 = .ok (.invokevirtual 117, 3) := by decide +kernel
theorem dX4_takeBody_34 : decode cX4_takeBody 34 = .ok (.return_, 1) := by decide +kernel
def rmX4_takeBody : Room := { frames := 4, cells := 0, slots := 0, locals := 86 }
theorem zdX4_takeBody : yX4_takeBody.cls = RX4 ∧ yX4_takeBody.cls ≠ "java/lang/invoke/MethodHandle" ∧ yX4_takeBody.cls ≠ "java/lang/invoke/VarHandle" ∧ (parseMethodDescriptor yX4_takeBody.desc).map (fun d => d.parameters.length) = some 0 := by decide +kernel
theorem kiX4_takeBody_X4 : ∀ w ∈ wsX40, w ∈ wsX4_takeBody := fun _ h => (List.mem_cons_of_mem _ (List.mem_append_left _ (List.mem_append_left _ (List.mem_append_right _ h))))
theorem kfX4_takeBody_14 : Cond.fieldLink RX4 14 "ShapeJudge$TextReader" "tokens" "LShapeJudge$Tokens;" ∈ wsX4_takeBody := (List.mem_of_getElem? (i := 1) rfl)
theorem kiX4_takeBody_X5 : ∀ w ∈ wsX50, w ∈ wsX4_takeBody := fun _ h => (List.mem_cons_of_mem _ (List.mem_append_left _ (List.mem_append_right _ h)))
theorem kfX4_takeBody_54 : Cond.fieldLink RX4 54 "ShapeJudge$Tokens" "kind" "I" ∈ wsX4_takeBody := (List.mem_of_getElem? (i := 2) rfl)
def s_X4_takeBody (m : Mem)  : Option (Mem) :=
  (if (m 10 2) = 40 then ((s_X4_takeOne m).bind fun m2 => some m2) else ((if (m 10 2) = 3 then ((s_X4_takeOne m).bind fun m6 => some m6) else ((s_X4_takeShapeEnd m).bind fun m4 => some m4))))
set_option maxRecDepth 100000 in
set_option maxHeartbeats 4000000 in
theorem c_X4_takeBody (l : Launch) (w : ZW) {m : Mem}  {m9 : Mem}  (hf : s_X4_takeBody m  = some m9) : zCv MX l w yX4_takeBody wsX4_takeBody rmX4_takeBody [.ref (w.2.1 9)] m m9 := by
  refine z_met_v MX_ok (own := RX4) (by decide +kernel) rfl rfl (Nat.le_of_ble_eq_true rfl) ?_
  intro K C hKw hKl hret
  subst hKw
  subst hKl
  unfold s_X4_takeBody at hf
  show zGo MX K m [(0, .ref ((zw K).2.1 9))] 0 []
  refine z_aload_n C 0 dX4_takeBody_0 rfl rfl ?_
  refine z_getr C (t := 10) (Nat.le_of_ble_eq_true rfl) rfl rfl 0 (Nat.le_of_ble_eq_true rfl) rfl kiX4_takeBody_X4 kfX4_takeBody_14 dX4_takeBody_1 ?_
  refine z_geti C (Nat.le_of_ble_eq_true rfl) rfl rfl 2 (Nat.le_of_ble_eq_true rfl) rfl kiX4_takeBody_X5 kfX4_takeBody_54 dX4_takeBody_4 ?_
  refine z_bipush C (v := 40) dX4_takeBody_7 rfl ?_
  refine z_icmp_eq (tgt := 23) C dX4_takeBody_9 (by decide) (fun c8 => ?_) (fun c8 => ?_)
  · replace hf := if_t c8 hf
    refine z_aload_n C 0 dX4_takeBody_23 rfl rfl ?_
    obtain ⟨m2, hc1, hf⟩ := zb_el hf
    refine z_cVv C (c_X4_takeOne _ _ hc1) rfl gX4_takeBody_X4_takeOne rfl rfl zdX4_takeOne rfl (Nat.le_of_ble_eq_true rfl) rfl rfl rfl ⟨Nat.le_of_ble_eq_true rfl, Nat.le_of_ble_eq_true rfl⟩ (Nat.le_of_ble_eq_true rfl) dX4_takeBody_24 rfl ?_
    refine z_goto (tgt := 34) C dX4_takeBody_27 (by decide) ?_
    cases hf
    exact hret _ _ dX4_takeBody_34
  · replace hf := if_f c8 hf
    refine z_aload_n C 0 dX4_takeBody_12 rfl rfl ?_
    refine z_getr C (t := 10) (Nat.le_of_ble_eq_true rfl) rfl rfl 0 (Nat.le_of_ble_eq_true rfl) rfl kiX4_takeBody_X4 kfX4_takeBody_14 dX4_takeBody_13 ?_
    refine z_geti C (Nat.le_of_ble_eq_true rfl) rfl rfl 2 (Nat.le_of_ble_eq_true rfl) rfl kiX4_takeBody_X5 kfX4_takeBody_54 dX4_takeBody_16 ?_
    refine z_iconst C (v := 3) dX4_takeBody_19 rfl ?_
    refine z_icmp_ne (tgt := 30) C dX4_takeBody_20 (by decide) (fun c7 => ?_) (fun c7 => ?_)
    · replace hf := if_f c7 hf
      refine z_aload_n C 0 dX4_takeBody_30 rfl rfl ?_
      obtain ⟨m4, hc3, hf⟩ := zb_el hf
      refine z_cVv C (c_X4_takeShapeEnd _ _ hc3) rfl gX4_takeBody_X4_takeShapeEnd rfl rfl zdX4_takeShapeEnd rfl (Nat.le_of_ble_eq_true rfl) rfl rfl rfl ⟨Nat.le_of_ble_eq_true rfl, Nat.le_of_ble_eq_true rfl⟩ (Nat.le_of_ble_eq_true rfl) dX4_takeBody_31 rfl ?_
      cases hf
      exact hret _ _ dX4_takeBody_34
    · replace hf := if_t c7 hf
      refine z_aload_n C 0 dX4_takeBody_23 rfl rfl ?_
      obtain ⟨m6, hc5, hf⟩ := zb_el hf
      refine z_cVv C (c_X4_takeOne _ _ hc5) rfl gX4_takeBody_X4_takeOne rfl rfl zdX4_takeOne rfl (Nat.le_of_ble_eq_true rfl) rfl rfl rfl ⟨Nat.le_of_ble_eq_true rfl, Nat.le_of_ble_eq_true rfl⟩ (Nat.le_of_ble_eq_true rfl) dX4_takeBody_24 rfl ?_
      refine z_goto (tgt := 34) C dX4_takeBody_27 (by decide) ?_
      cases hf
      exact hret _ _ dX4_takeBody_34
set_option maxRecDepth 20000 in
theorem ggX4_takeTest_X0_tellPart : GoodIn wsX4_takeTest wsX0_tellPart := goodIn_sub (List.forall_mem_cons.mpr ⟨(List.mem_of_getElem? (i := 12) rfl), (List.forall_mem_append.mpr ⟨(List.forall_mem_cons.mpr ⟨(List.mem_of_getElem? (i := 13) rfl), (List.forall_mem_cons.mpr ⟨(List.mem_of_getElem? (i := 14) rfl), (List.forall_mem_cons.mpr ⟨(List.mem_of_getElem? (i := 15) rfl), (List.forall_mem_cons.mpr ⟨(List.mem_of_getElem? (i := 16) rfl), (List.forall_mem_cons.mpr ⟨(List.mem_of_getElem? (i := 17) rfl), (fun _ h => absurd h List.not_mem_nil)⟩)⟩)⟩)⟩)⟩), (fun _ h => (List.mem_cons_of_mem _ (List.mem_append_right _ h)))⟩)⟩) (by decide +kernel)
set_option maxRecDepth 20000 in
theorem gX4_takeTest_X0_tellPart : GoodIn wsX4_takeTest (wsV RX4 133 RX0 yX0_tellPart wsX0_tellPart) := goodIn_app (goodIn_sub (List.forall_mem_cons.mpr ⟨(List.mem_of_getElem? (i := 8) rfl), (List.forall_mem_cons.mpr ⟨(List.mem_of_getElem? (i := 9) rfl), (List.forall_mem_cons.mpr ⟨(List.mem_of_getElem? (i := 10) rfl), (List.forall_mem_cons.mpr ⟨(List.mem_of_getElem? (i := 11) rfl), (fun _ h => absurd h List.not_mem_nil)⟩)⟩)⟩)⟩) (by decide +kernel)) ggX4_takeTest_X0_tellPart
set_option maxRecDepth 20000 in
theorem ggX4_takeTest_X4_fail : GoodIn wsX4_takeTest wsX4_fail := goodIn_sub (List.forall_mem_cons.mpr ⟨(List.mem_of_getElem? (i := 22) rfl), (List.forall_mem_append.mpr ⟨(List.forall_mem_append.mpr ⟨(List.forall_mem_cons.mpr ⟨(List.mem_of_getElem? (i := 23) rfl), (List.forall_mem_cons.mpr ⟨(List.mem_of_getElem? (i := 1) rfl), (List.forall_mem_cons.mpr ⟨(List.mem_of_getElem? (i := 24) rfl), (List.forall_mem_cons.mpr ⟨(List.mem_of_getElem? (i := 25) rfl), (fun _ h => absurd h List.not_mem_nil)⟩)⟩)⟩)⟩), (fun _ h => (List.mem_cons_of_mem _ (List.mem_append_left _ (List.mem_append_left _ (List.mem_append_right _ h)))))⟩), (fun _ h => (List.mem_cons_of_mem _ (List.mem_append_left _ (List.mem_append_right _ h))))⟩)⟩) (by decide +kernel)
set_option maxRecDepth 20000 in
theorem gX4_takeTest_X4_fail : GoodIn wsX4_takeTest (wsV RX4 57 RX4 yX4_fail wsX4_fail) := goodIn_app (goodIn_sub (List.forall_mem_cons.mpr ⟨(List.mem_of_getElem? (i := 18) rfl), (List.forall_mem_cons.mpr ⟨(List.mem_of_getElem? (i := 19) rfl), (List.forall_mem_cons.mpr ⟨(List.mem_of_getElem? (i := 20) rfl), (List.forall_mem_cons.mpr ⟨(List.mem_of_getElem? (i := 21) rfl), (fun _ h => absurd h List.not_mem_nil)⟩)⟩)⟩)⟩) (by decide +kernel)) ggX4_takeTest_X4_fail
set_option maxRecDepth 100000 in
theorem daX4_takeTest : ∀ q ∈ ([(0, .aload_n 0, 1), (1, .getfield 14, 3), (4, .getfield 54, 3), (7, .bipush 46, 2), (9, .if_icmp .ne 23, 3), (12, .aload_n 0, 1), (13, .getfield 20, 3), (16, .iconst 0, 1), (17, .iconst 0, 1), (18, .iconst 0, 1), (19, .iconst 0, 1), (20, .invokevirtual 133, 3), (23, .aload_n 0, 1), (24, .bipush 8, 2), (26, .putfield 32, 3), (29, .goto 92, 3), (32, .aload_n 0, 1), (33, .getfield 14, 3), (36, .getfield 54, 3), (39, .bipush 64, 2), (41, .if_icmp .eq 15, 3), (44, .aload_n 0, 1), (45, .getfield 14, 3), (48, .getfield 54, 3), (51, .bipush 33, 2), (53, .if_icmp .ne 32, 3), (56, .aload_n 0, 1), (57, .aload_n 0, 1), (58, .getfield 14, 3), (61, .getfield 54, 3), (64, .bipush 64, 2), (66, .if_icmp .ne 7, 3), (69, .iconst 1, 1), (70, .goto 4, 3), (73, .iconst 2, 1), (74, .putfield 137, 3), (77, .aload_n 0, 1), (78, .iconst 5, 1), (79, .putfield 32, 3), (82, .goto 39, 3), (85, .aload_n 0, 1), (86, .getfield 14, 3), (89, .getfield 54, 3), (92, .iconst 3, 1), (93, .if_icmp .ne 23, 3), (96, .aload_n 0, 1), (97, .aload_n 0, 1), (98, .getfield 14, 3), (101, .getfield 107, 3), (104, .putfield 140, 3), (107, .aload_n 0, 1), (108, .bipush 6, 2), (110, .putfield 32, 3), (113, .goto 8, 3), (116, .aload_n 0, 1), (117, .iconst 2, 1), (118, .invokevirtual 57, 3), (121, .return_, 1)] : List (Nat × Instr × Nat)), decode cX4_takeTest q.1 = .ok q.2 := by decide +kernel
theorem dX4_takeTest_0 : decode cX4_takeTest 0 = .ok (.aload_n 0, 1) := daX4_takeTest (0, .aload_n 0, 1) (List.mem_of_getElem? (i := 0) rfl)
theorem dX4_takeTest_1 : decode cX4_takeTest 1 = .ok (.getfield 14, 3) := daX4_takeTest (1, .getfield 14, 3) (List.mem_of_getElem? (i := 1) rfl)
theorem dX4_takeTest_4 : decode cX4_takeTest 4 = .ok (.getfield 54, 3) := daX4_takeTest (4, .getfield 54, 3) (List.mem_of_getElem? (i := 2) rfl)
theorem dX4_takeTest_7 : decode cX4_takeTest 7 = .ok (.bipush 46, 2) := daX4_takeTest (7, .bipush 46, 2) (List.mem_of_getElem? (i := 3) rfl)
theorem dX4_takeTest_9 : decode cX4_takeTest 9 = .ok (.if_icmp .ne 23, 3) := daX4_takeTest (9, .if_icmp .ne 23, 3) (List.mem_of_getElem? (i := 4) rfl)
theorem dX4_takeTest_12 : decode cX4_takeTest 12 = .ok (.aload_n 0, 1) := daX4_takeTest (12, .aload_n 0, 1) (List.mem_of_getElem? (i := 5) rfl)
theorem dX4_takeTest_13 : decode cX4_takeTest 13 = .ok (.getfield 20, 3) := daX4_takeTest (13, .getfield 20, 3) (List.mem_of_getElem? (i := 6) rfl)
theorem dX4_takeTest_16 : decode cX4_takeTest 16 = .ok (.iconst 0, 1) := daX4_takeTest (16, .iconst 0, 1) (List.mem_of_getElem? (i := 7) rfl)
theorem dX4_takeTest_17 : decode cX4_takeTest 17 = .ok (.iconst 0, 1) := daX4_takeTest (17, .iconst 0, 1) (List.mem_of_getElem? (i := 8) rfl)
theorem dX4_takeTest_18 : decode cX4_takeTest 18 = .ok (.iconst 0, 1) := daX4_takeTest (18, .iconst 0, 1) (List.mem_of_getElem? (i := 9) rfl)
theorem dX4_takeTest_19 : decode cX4_takeTest 19 = .ok (.iconst 0, 1) := daX4_takeTest (19, .iconst 0, 1) (List.mem_of_getElem? (i := 10) rfl)
theorem dX4_takeTest_20 : decode cX4_takeTest 20 = .ok (.invokevirtual 133, 3) := daX4_takeTest (20, .invokevirtual 133, 3) (List.mem_of_getElem? (i := 11) rfl)
theorem dX4_takeTest_23 : decode cX4_takeTest 23 = .ok (.aload_n 0, 1) := daX4_takeTest (23, .aload_n 0, 1) (List.mem_of_getElem? (i := 12) rfl)
theorem dX4_takeTest_24 : decode cX4_takeTest 24 = .ok (.bipush 8, 2) := daX4_takeTest (24, .bipush 8, 2) (List.mem_of_getElem? (i := 13) rfl)
theorem dX4_takeTest_26 : decode cX4_takeTest 26 = .ok (.putfield 32, 3) := daX4_takeTest (26, .putfield 32, 3) (List.mem_of_getElem? (i := 14) rfl)
theorem dX4_takeTest_29 : decode cX4_takeTest 29 = .ok (.goto 92, 3) := daX4_takeTest (29, .goto 92, 3) (List.mem_of_getElem? (i := 15) rfl)
theorem dX4_takeTest_32 : decode cX4_takeTest 32 = .ok (.aload_n 0, 1) := daX4_takeTest (32, .aload_n 0, 1) (List.mem_of_getElem? (i := 16) rfl)
theorem dX4_takeTest_33 : decode cX4_takeTest 33 = .ok (.getfield 14, 3) := daX4_takeTest (33, .getfield 14, 3) (List.mem_of_getElem? (i := 17) rfl)
theorem dX4_takeTest_36 : decode cX4_takeTest 36 = .ok (.getfield 54, 3) := daX4_takeTest (36, .getfield 54, 3) (List.mem_of_getElem? (i := 18) rfl)
theorem dX4_takeTest_39 : decode cX4_takeTest 39 = .ok (.bipush 64, 2) := daX4_takeTest (39, .bipush 64, 2) (List.mem_of_getElem? (i := 19) rfl)
theorem dX4_takeTest_41 : decode cX4_takeTest 41 = .ok (.if_icmp .eq 15, 3) := daX4_takeTest (41, .if_icmp .eq 15, 3) (List.mem_of_getElem? (i := 20) rfl)
theorem dX4_takeTest_44 : decode cX4_takeTest 44 = .ok (.aload_n 0, 1) := daX4_takeTest (44, .aload_n 0, 1) (List.mem_of_getElem? (i := 21) rfl)
theorem dX4_takeTest_45 : decode cX4_takeTest 45 = .ok (.getfield 14, 3) := daX4_takeTest (45, .getfield 14, 3) (List.mem_of_getElem? (i := 22) rfl)
theorem dX4_takeTest_48 : decode cX4_takeTest 48 = .ok (.getfield 54, 3) := daX4_takeTest (48, .getfield 54, 3) (List.mem_of_getElem? (i := 23) rfl)
theorem dX4_takeTest_51 : decode cX4_takeTest 51 = .ok (.bipush 33, 2) := daX4_takeTest (51, .bipush 33, 2) (List.mem_of_getElem? (i := 24) rfl)
theorem dX4_takeTest_53 : decode cX4_takeTest 53 = .ok (.if_icmp .ne 32, 3) := daX4_takeTest (53, .if_icmp .ne 32, 3) (List.mem_of_getElem? (i := 25) rfl)
theorem dX4_takeTest_56 : decode cX4_takeTest 56 = .ok (.aload_n 0, 1) := daX4_takeTest (56, .aload_n 0, 1) (List.mem_of_getElem? (i := 26) rfl)
theorem dX4_takeTest_57 : decode cX4_takeTest 57 = .ok (.aload_n 0, 1) := daX4_takeTest (57, .aload_n 0, 1) (List.mem_of_getElem? (i := 27) rfl)
theorem dX4_takeTest_58 : decode cX4_takeTest 58 = .ok (.getfield 14, 3) := daX4_takeTest (58, .getfield 14, 3) (List.mem_of_getElem? (i := 28) rfl)
theorem dX4_takeTest_61 : decode cX4_takeTest 61 = .ok (.getfield 54, 3) := daX4_takeTest (61, .getfield 54, 3) (List.mem_of_getElem? (i := 29) rfl)
theorem dX4_takeTest_64 : decode cX4_takeTest 64 = .ok (.bipush 64, 2) := daX4_takeTest (64, .bipush 64, 2) (List.mem_of_getElem? (i := 30) rfl)
theorem dX4_takeTest_66 : decode cX4_takeTest 66 = .ok (.if_icmp .ne 7, 3) := daX4_takeTest (66, .if_icmp .ne 7, 3) (List.mem_of_getElem? (i := 31) rfl)
theorem dX4_takeTest_69 : decode cX4_takeTest 69 = .ok (.iconst 1, 1) := daX4_takeTest (69, .iconst 1, 1) (List.mem_of_getElem? (i := 32) rfl)
theorem dX4_takeTest_70 : decode cX4_takeTest 70 = .ok (.goto 4, 3) := daX4_takeTest (70, .goto 4, 3) (List.mem_of_getElem? (i := 33) rfl)
theorem dX4_takeTest_73 : decode cX4_takeTest 73 = .ok (.iconst 2, 1) := daX4_takeTest (73, .iconst 2, 1) (List.mem_of_getElem? (i := 34) rfl)
theorem dX4_takeTest_74 : decode cX4_takeTest 74 = .ok (.putfield 137, 3) := daX4_takeTest (74, .putfield 137, 3) (List.mem_of_getElem? (i := 35) rfl)
theorem dX4_takeTest_77 : decode cX4_takeTest 77 = .ok (.aload_n 0, 1) := daX4_takeTest (77, .aload_n 0, 1) (List.mem_of_getElem? (i := 36) rfl)
theorem dX4_takeTest_78 : decode cX4_takeTest 78 = .ok (.iconst 5, 1) := daX4_takeTest (78, .iconst 5, 1) (List.mem_of_getElem? (i := 37) rfl)
theorem dX4_takeTest_79 : decode cX4_takeTest 79 = .ok (.putfield 32, 3) := daX4_takeTest (79, .putfield 32, 3) (List.mem_of_getElem? (i := 38) rfl)
theorem dX4_takeTest_82 : decode cX4_takeTest 82 = .ok (.goto 39, 3) := daX4_takeTest (82, .goto 39, 3) (List.mem_of_getElem? (i := 39) rfl)
theorem dX4_takeTest_85 : decode cX4_takeTest 85 = .ok (.aload_n 0, 1) := daX4_takeTest (85, .aload_n 0, 1) (List.mem_of_getElem? (i := 40) rfl)
theorem dX4_takeTest_86 : decode cX4_takeTest 86 = .ok (.getfield 14, 3) := daX4_takeTest (86, .getfield 14, 3) (List.mem_of_getElem? (i := 41) rfl)
theorem dX4_takeTest_89 : decode cX4_takeTest 89 = .ok (.getfield 54, 3) := daX4_takeTest (89, .getfield 54, 3) (List.mem_of_getElem? (i := 42) rfl)
theorem dX4_takeTest_92 : decode cX4_takeTest 92 = .ok (.iconst 3, 1) := daX4_takeTest (92, .iconst 3, 1) (List.mem_of_getElem? (i := 43) rfl)
theorem dX4_takeTest_93 : decode cX4_takeTest 93 = .ok (.if_icmp .ne 23, 3) := daX4_takeTest (93, .if_icmp .ne 23, 3) (List.mem_of_getElem? (i := 44) rfl)
theorem dX4_takeTest_96 : decode cX4_takeTest 96 = .ok (.aload_n 0, 1) := daX4_takeTest (96, .aload_n 0, 1) (List.mem_of_getElem? (i := 45) rfl)
theorem dX4_takeTest_97 : decode cX4_takeTest 97 = .ok (.aload_n 0, 1) := daX4_takeTest (97, .aload_n 0, 1) (List.mem_of_getElem? (i := 46) rfl)
theorem dX4_takeTest_98 : decode cX4_takeTest 98 = .ok (.getfield 14, 3) := daX4_takeTest (98, .getfield 14, 3) (List.mem_of_getElem? (i := 47) rfl)
theorem dX4_takeTest_101 : decode cX4_takeTest 101 = .ok (.getfield 107, 3) := daX4_takeTest (101, .getfield 107, 3) (List.mem_of_getElem? (i := 48) rfl)
theorem dX4_takeTest_104 : decode cX4_takeTest 104 = .ok (.putfield 140, 3) := daX4_takeTest (104, .putfield 140, 3) (List.mem_of_getElem? (i := 49) rfl)
theorem dX4_takeTest_107 : decode cX4_takeTest 107 = .ok (.aload_n 0, 1) := daX4_takeTest (107, .aload_n 0, 1) (List.mem_of_getElem? (i := 50) rfl)
theorem dX4_takeTest_108 : decode cX4_takeTest 108 = .ok (.bipush 6, 2) := daX4_takeTest (108, .bipush 6, 2) (List.mem_of_getElem? (i := 51) rfl)
theorem dX4_takeTest_110 : decode cX4_takeTest 110 = .ok (.putfield 32, 3) := daX4_takeTest (110, .putfield 32, 3) (List.mem_of_getElem? (i := 52) rfl)
theorem dX4_takeTest_113 : decode cX4_takeTest 113 = .ok (.goto 8, 3) := daX4_takeTest (113, .goto 8, 3) (List.mem_of_getElem? (i := 53) rfl)
theorem dX4_takeTest_116 : decode cX4_takeTest 116 = .ok (.aload_n 0, 1) := daX4_takeTest (116, .aload_n 0, 1) (List.mem_of_getElem? (i := 54) rfl)
theorem dX4_takeTest_117 : decode cX4_takeTest 117 = .ok (.iconst 2, 1) := daX4_takeTest (117, .iconst 2, 1) (List.mem_of_getElem? (i := 55) rfl)
theorem dX4_takeTest_118 : decode cX4_takeTest 118 = .ok (.invokevirtual 57, 3) := daX4_takeTest (118, .invokevirtual 57, 3) (List.mem_of_getElem? (i := 56) rfl)
theorem dX4_takeTest_121 : decode cX4_takeTest 121 = .ok (.return_, 1) := daX4_takeTest (121, .return_, 1) (List.mem_of_getElem? (i := 57) rfl)
def rmX4_takeTest : Room := { frames := 1, cells := 0, slots := 0, locals := 24 }
theorem zdX4_takeTest : yX4_takeTest.cls = RX4 ∧ yX4_takeTest.cls ≠ "java/lang/invoke/MethodHandle" ∧ yX4_takeTest.cls ≠ "java/lang/invoke/VarHandle" ∧ (parseMethodDescriptor yX4_takeTest.desc).map (fun d => d.parameters.length) = some 0 := by decide +kernel
theorem kiX4_takeTest_X4 : ∀ w ∈ wsX40, w ∈ wsX4_takeTest := fun _ h => (List.mem_cons_of_mem _ (List.mem_append_left _ (List.mem_append_left _ (List.mem_append_right _ h))))
theorem kfX4_takeTest_14 : Cond.fieldLink RX4 14 "ShapeJudge$TextReader" "tokens" "LShapeJudge$Tokens;" ∈ wsX4_takeTest := (List.mem_of_getElem? (i := 1) rfl)
theorem kiX4_takeTest_X5 : ∀ w ∈ wsX50, w ∈ wsX4_takeTest := fun _ h => (List.mem_cons_of_mem _ (List.mem_append_left _ (List.mem_append_right _ h)))
theorem kfX4_takeTest_54 : Cond.fieldLink RX4 54 "ShapeJudge$Tokens" "kind" "I" ∈ wsX4_takeTest := (List.mem_of_getElem? (i := 2) rfl)
theorem kfX4_takeTest_137 : Cond.fieldLink RX4 137 "ShapeJudge$TextReader" "test" "I" ∈ wsX4_takeTest := (List.mem_of_getElem? (i := 5) rfl)
theorem kfX4_takeTest_32 : Cond.fieldLink RX4 32 "ShapeJudge$TextReader" "state" "I" ∈ wsX4_takeTest := (List.mem_of_getElem? (i := 4) rfl)
theorem kfX4_takeTest_107 : Cond.fieldLink RX4 107 "ShapeJudge$Tokens" "number" "I" ∈ wsX4_takeTest := (List.mem_of_getElem? (i := 6) rfl)
theorem kfX4_takeTest_140 : Cond.fieldLink RX4 140 "ShapeJudge$TextReader" "firstNumber" "I" ∈ wsX4_takeTest := (List.mem_of_getElem? (i := 7) rfl)
theorem kfX4_takeTest_20 : Cond.fieldLink RX4 20 "ShapeJudge$TextReader" "book" "LShapeJudge$Book;" ∈ wsX4_takeTest := (List.mem_of_getElem? (i := 3) rfl)
def s_X4_takeTest (m : Mem)  : Option (Mem) :=
  (if (m 10 2) = 46 then (zbk (m 9 1) fun b18 => (s_X0_tellPart m b18 0 0 0 0).bind fun m20 => bn (sto m20 9 2 8) fun m21 => some m21) else ((if (m 10 2) = 64 then ((if (m 10 2) = 64 then (bn (sto m 9 6 1) fun m3 => bn (sto m3 9 2 5) fun m4 => some m4) else (bn (sto m 9 6 2) fun m1 => bn (sto m1 9 2 5) fun m2 => some m2))) else ((if (m 10 2) = 33 then ((if (m 10 2) = 64 then (bn (sto m 9 6 1) fun m13 => bn (sto m13 9 2 5) fun m14 => some m14) else (bn (sto m 9 6 2) fun m11 => bn (sto m11 9 2 5) fun m12 => some m12))) else ((if (m 10 2) = 3 then (bn (sto m 9 7 (m 10 4)) fun m8 => bn (sto m8 9 2 6) fun m9 => some m9) else ((s_X4_fail m 2).bind fun m7 => some m7))))))))
set_option maxRecDepth 100000 in
set_option maxHeartbeats 4000000 in
theorem c_X4_takeTest (l : Launch) (w : ZW) {m : Mem}  {m9 : Mem}  (hf : s_X4_takeTest m  = some m9) : zCv MX l w yX4_takeTest wsX4_takeTest rmX4_takeTest [.ref (w.2.1 9)] m m9 := by
  refine z_met_v MX_ok (own := RX4) (by decide +kernel) rfl rfl (Nat.le_of_ble_eq_true rfl) ?_
  intro K C hKw hKl hret
  subst hKw
  subst hKl
  unfold s_X4_takeTest at hf
  show zGo MX K m [(0, .ref ((zw K).2.1 9))] 0 []
  refine z_aload_n C 0 dX4_takeTest_0 rfl rfl ?_
  refine z_getr C (t := 10) (Nat.le_of_ble_eq_true rfl) rfl rfl 0 (Nat.le_of_ble_eq_true rfl) rfl kiX4_takeTest_X4 kfX4_takeTest_14 dX4_takeTest_1 ?_
  refine z_geti C (Nat.le_of_ble_eq_true rfl) rfl rfl 2 (Nat.le_of_ble_eq_true rfl) rfl kiX4_takeTest_X5 kfX4_takeTest_54 dX4_takeTest_4 ?_
  refine z_bipush C (v := 46) dX4_takeTest_7 rfl ?_
  refine z_icmp_ne (tgt := 32) C dX4_takeTest_9 (by decide) (fun c22 => ?_) (fun c22 => ?_)
  · replace hf := if_f c22 hf
    refine z_aload_n C 0 dX4_takeTest_32 rfl rfl ?_
    refine z_getr C (t := 10) (Nat.le_of_ble_eq_true rfl) rfl rfl 0 (Nat.le_of_ble_eq_true rfl) rfl kiX4_takeTest_X4 kfX4_takeTest_14 dX4_takeTest_33 ?_
    refine z_geti C (Nat.le_of_ble_eq_true rfl) rfl rfl 2 (Nat.le_of_ble_eq_true rfl) rfl kiX4_takeTest_X5 kfX4_takeTest_54 dX4_takeTest_36 ?_
    refine z_bipush C (v := 64) dX4_takeTest_39 rfl ?_
    refine z_icmp_eq (tgt := 56) C dX4_takeTest_41 (by decide) (fun c17 => ?_) (fun c17 => ?_)
    · replace hf := if_t c17 hf
      refine z_aload_n C 0 dX4_takeTest_56 rfl rfl ?_
      refine z_aload_n C 0 dX4_takeTest_57 rfl rfl ?_
      refine z_getr C (t := 10) (Nat.le_of_ble_eq_true rfl) rfl rfl 0 (Nat.le_of_ble_eq_true rfl) rfl kiX4_takeTest_X4 kfX4_takeTest_14 dX4_takeTest_58 ?_
      refine z_geti C (Nat.le_of_ble_eq_true rfl) rfl rfl 2 (Nat.le_of_ble_eq_true rfl) rfl kiX4_takeTest_X5 kfX4_takeTest_54 dX4_takeTest_61 ?_
      refine z_bipush C (v := 64) dX4_takeTest_64 rfl ?_
      refine z_icmp_ne (tgt := 73) C dX4_takeTest_66 (by decide) (fun c5 => ?_) (fun c5 => ?_)
      · replace hf := if_f c5 hf
        refine z_iconst C (v := 2) dX4_takeTest_73 rfl ?_
        refine z_puti C (Nat.le_of_ble_eq_true rfl) rfl rfl 6 (Nat.le_of_ble_eq_true rfl) rfl kiX4_takeTest_X4 kfX4_takeTest_137 tyX4 tyX4_ok nmX4 rfl rfl dX4_takeTest_74 ?_
        refine z_nm (fun m1 e_m1 => ?_)
        replace hf := bn_to e_m1 hf
        refine z_aload_n C 0 dX4_takeTest_77 rfl rfl ?_
        refine z_iconst C (v := 5) dX4_takeTest_78 rfl ?_
        refine z_puti C (Nat.le_of_ble_eq_true rfl) rfl rfl 2 (Nat.le_of_ble_eq_true rfl) rfl kiX4_takeTest_X4 kfX4_takeTest_32 tyX4 tyX4_ok nmX4 rfl rfl dX4_takeTest_79 ?_
        refine z_nm (fun m2 e_m2 => ?_)
        replace hf := bn_to e_m2 hf
        refine z_goto (tgt := 121) C dX4_takeTest_82 (by decide) ?_
        cases hf
        exact hret _ _ dX4_takeTest_121
      · replace hf := if_t c5 hf
        refine z_iconst C (v := 1) dX4_takeTest_69 rfl ?_
        refine z_goto (tgt := 74) C dX4_takeTest_70 (by decide) ?_
        refine z_puti C (Nat.le_of_ble_eq_true rfl) rfl rfl 6 (Nat.le_of_ble_eq_true rfl) rfl kiX4_takeTest_X4 kfX4_takeTest_137 tyX4 tyX4_ok nmX4 rfl rfl dX4_takeTest_74 ?_
        refine z_nm (fun m3 e_m3 => ?_)
        replace hf := bn_to e_m3 hf
        refine z_aload_n C 0 dX4_takeTest_77 rfl rfl ?_
        refine z_iconst C (v := 5) dX4_takeTest_78 rfl ?_
        refine z_puti C (Nat.le_of_ble_eq_true rfl) rfl rfl 2 (Nat.le_of_ble_eq_true rfl) rfl kiX4_takeTest_X4 kfX4_takeTest_32 tyX4 tyX4_ok nmX4 rfl rfl dX4_takeTest_79 ?_
        refine z_nm (fun m4 e_m4 => ?_)
        replace hf := bn_to e_m4 hf
        refine z_goto (tgt := 121) C dX4_takeTest_82 (by decide) ?_
        cases hf
        exact hret _ _ dX4_takeTest_121
    · replace hf := if_f c17 hf
      refine z_aload_n C 0 dX4_takeTest_44 rfl rfl ?_
      refine z_getr C (t := 10) (Nat.le_of_ble_eq_true rfl) rfl rfl 0 (Nat.le_of_ble_eq_true rfl) rfl kiX4_takeTest_X4 kfX4_takeTest_14 dX4_takeTest_45 ?_
      refine z_geti C (Nat.le_of_ble_eq_true rfl) rfl rfl 2 (Nat.le_of_ble_eq_true rfl) rfl kiX4_takeTest_X5 kfX4_takeTest_54 dX4_takeTest_48 ?_
      refine z_bipush C (v := 33) dX4_takeTest_51 rfl ?_
      refine z_icmp_ne (tgt := 85) C dX4_takeTest_53 (by decide) (fun c16 => ?_) (fun c16 => ?_)
      · replace hf := if_f c16 hf
        refine z_aload_n C 0 dX4_takeTest_85 rfl rfl ?_
        refine z_getr C (t := 10) (Nat.le_of_ble_eq_true rfl) rfl rfl 0 (Nat.le_of_ble_eq_true rfl) rfl kiX4_takeTest_X4 kfX4_takeTest_14 dX4_takeTest_86 ?_
        refine z_geti C (Nat.le_of_ble_eq_true rfl) rfl rfl 2 (Nat.le_of_ble_eq_true rfl) rfl kiX4_takeTest_X5 kfX4_takeTest_54 dX4_takeTest_89 ?_
        refine z_iconst C (v := 3) dX4_takeTest_92 rfl ?_
        refine z_icmp_ne (tgt := 116) C dX4_takeTest_93 (by decide) (fun c10 => ?_) (fun c10 => ?_)
        · replace hf := if_f c10 hf
          refine z_aload_n C 0 dX4_takeTest_116 rfl rfl ?_
          refine z_iconst C (v := 2) dX4_takeTest_117 rfl ?_
          obtain ⟨m7, hc6, hf⟩ := zb_el hf
          refine z_cVv C (c_X4_fail _ _ hc6) rfl gX4_takeTest_X4_fail rfl rfl zdX4_fail rfl (Nat.le_of_ble_eq_true rfl) rfl rfl rfl ⟨Nat.le_of_ble_eq_true rfl, Nat.le_of_ble_eq_true rfl⟩ (Nat.le_of_ble_eq_true rfl) dX4_takeTest_118 rfl ?_
          cases hf
          exact hret _ _ dX4_takeTest_121
        · replace hf := if_t c10 hf
          refine z_aload_n C 0 dX4_takeTest_96 rfl rfl ?_
          refine z_aload_n C 0 dX4_takeTest_97 rfl rfl ?_
          refine z_getr C (t := 10) (Nat.le_of_ble_eq_true rfl) rfl rfl 0 (Nat.le_of_ble_eq_true rfl) rfl kiX4_takeTest_X4 kfX4_takeTest_14 dX4_takeTest_98 ?_
          refine z_geti C (Nat.le_of_ble_eq_true rfl) rfl rfl 4 (Nat.le_of_ble_eq_true rfl) rfl kiX4_takeTest_X5 kfX4_takeTest_107 dX4_takeTest_101 ?_
          refine z_puti C (Nat.le_of_ble_eq_true rfl) rfl rfl 7 (Nat.le_of_ble_eq_true rfl) rfl kiX4_takeTest_X4 kfX4_takeTest_140 tyX4 tyX4_ok nmX4 rfl rfl dX4_takeTest_104 ?_
          refine z_nm (fun m8 e_m8 => ?_)
          replace hf := bn_to e_m8 hf
          refine z_aload_n C 0 dX4_takeTest_107 rfl rfl ?_
          refine z_bipush C (v := 6) dX4_takeTest_108 rfl ?_
          refine z_puti C (Nat.le_of_ble_eq_true rfl) rfl rfl 2 (Nat.le_of_ble_eq_true rfl) rfl kiX4_takeTest_X4 kfX4_takeTest_32 tyX4 tyX4_ok nmX4 rfl rfl dX4_takeTest_110 ?_
          refine z_nm (fun m9 e_m9 => ?_)
          replace hf := bn_to e_m9 hf
          refine z_goto (tgt := 121) C dX4_takeTest_113 (by decide) ?_
          cases hf
          exact hret _ _ dX4_takeTest_121
      · replace hf := if_t c16 hf
        refine z_aload_n C 0 dX4_takeTest_56 rfl rfl ?_
        refine z_aload_n C 0 dX4_takeTest_57 rfl rfl ?_
        refine z_getr C (t := 10) (Nat.le_of_ble_eq_true rfl) rfl rfl 0 (Nat.le_of_ble_eq_true rfl) rfl kiX4_takeTest_X4 kfX4_takeTest_14 dX4_takeTest_58 ?_
        refine z_geti C (Nat.le_of_ble_eq_true rfl) rfl rfl 2 (Nat.le_of_ble_eq_true rfl) rfl kiX4_takeTest_X5 kfX4_takeTest_54 dX4_takeTest_61 ?_
        refine z_bipush C (v := 64) dX4_takeTest_64 rfl ?_
        refine z_icmp_ne (tgt := 73) C dX4_takeTest_66 (by decide) (fun c15 => ?_) (fun c15 => ?_)
        · replace hf := if_f c15 hf
          refine z_iconst C (v := 2) dX4_takeTest_73 rfl ?_
          refine z_puti C (Nat.le_of_ble_eq_true rfl) rfl rfl 6 (Nat.le_of_ble_eq_true rfl) rfl kiX4_takeTest_X4 kfX4_takeTest_137 tyX4 tyX4_ok nmX4 rfl rfl dX4_takeTest_74 ?_
          refine z_nm (fun m11 e_m11 => ?_)
          replace hf := bn_to e_m11 hf
          refine z_aload_n C 0 dX4_takeTest_77 rfl rfl ?_
          refine z_iconst C (v := 5) dX4_takeTest_78 rfl ?_
          refine z_puti C (Nat.le_of_ble_eq_true rfl) rfl rfl 2 (Nat.le_of_ble_eq_true rfl) rfl kiX4_takeTest_X4 kfX4_takeTest_32 tyX4 tyX4_ok nmX4 rfl rfl dX4_takeTest_79 ?_
          refine z_nm (fun m12 e_m12 => ?_)
          replace hf := bn_to e_m12 hf
          refine z_goto (tgt := 121) C dX4_takeTest_82 (by decide) ?_
          cases hf
          exact hret _ _ dX4_takeTest_121
        · replace hf := if_t c15 hf
          refine z_iconst C (v := 1) dX4_takeTest_69 rfl ?_
          refine z_goto (tgt := 74) C dX4_takeTest_70 (by decide) ?_
          refine z_puti C (Nat.le_of_ble_eq_true rfl) rfl rfl 6 (Nat.le_of_ble_eq_true rfl) rfl kiX4_takeTest_X4 kfX4_takeTest_137 tyX4 tyX4_ok nmX4 rfl rfl dX4_takeTest_74 ?_
          refine z_nm (fun m13 e_m13 => ?_)
          replace hf := bn_to e_m13 hf
          refine z_aload_n C 0 dX4_takeTest_77 rfl rfl ?_
          refine z_iconst C (v := 5) dX4_takeTest_78 rfl ?_
          refine z_puti C (Nat.le_of_ble_eq_true rfl) rfl rfl 2 (Nat.le_of_ble_eq_true rfl) rfl kiX4_takeTest_X4 kfX4_takeTest_32 tyX4 tyX4_ok nmX4 rfl rfl dX4_takeTest_79 ?_
          refine z_nm (fun m14 e_m14 => ?_)
          replace hf := bn_to e_m14 hf
          refine z_goto (tgt := 121) C dX4_takeTest_82 (by decide) ?_
          cases hf
          exact hret _ _ dX4_takeTest_121
  · replace hf := if_t c22 hf
    refine z_aload_n C 0 dX4_takeTest_12 rfl rfl ?_
    obtain ⟨b18, hb18, e_b18, hf⟩ := zbk_el hf
    refine z_getb C (b := b18) (Nat.le_of_ble_eq_true rfl) rfl rfl 1 (Nat.le_of_ble_eq_true rfl) rfl kiX4_takeTest_X4 kfX4_takeTest_20 (isb_lt hb18) e_b18 dX4_takeTest_13 ?_
    refine z_iconst C (v := 0) dX4_takeTest_16 rfl ?_
    refine z_iconst C (v := 0) dX4_takeTest_17 rfl ?_
    refine z_iconst C (v := 0) dX4_takeTest_18 rfl ?_
    refine z_iconst C (v := 0) dX4_takeTest_19 rfl ?_
    obtain ⟨m20, hc19, hf⟩ := zb_el hf
    refine z_cVv C (c_X0_tellPart _ _ hb18 hc19) rfl gX4_takeTest_X0_tellPart rfl rfl zdX0_tellPart rfl (isb_k0 hb18) (isb_L0 hb18) rfl rfl ⟨Nat.le_of_ble_eq_true rfl, Nat.le_of_ble_eq_true rfl⟩ (Nat.le_of_ble_eq_true rfl) dX4_takeTest_20 rfl ?_
    refine z_aload_n C 0 dX4_takeTest_23 rfl rfl ?_
    refine z_bipush C (v := 8) dX4_takeTest_24 rfl ?_
    refine z_puti C (Nat.le_of_ble_eq_true rfl) rfl rfl 2 (Nat.le_of_ble_eq_true rfl) rfl kiX4_takeTest_X4 kfX4_takeTest_32 tyX4 tyX4_ok nmX4 rfl rfl dX4_takeTest_26 ?_
    refine z_nm (fun m21 e_m21 => ?_)
    replace hf := bn_to e_m21 hf
    refine z_goto (tgt := 121) C dX4_takeTest_29 (by decide) ?_
    cases hf
    exact hret _ _ dX4_takeTest_121
set_option maxRecDepth 20000 in
theorem ggX4_takeReference_X0_tellPart : GoodIn wsX4_takeReference wsX0_tellPart := goodIn_sub (List.forall_mem_cons.mpr ⟨(List.mem_of_getElem? (i := 12) rfl), (List.forall_mem_append.mpr ⟨(List.forall_mem_cons.mpr ⟨(List.mem_of_getElem? (i := 13) rfl), (List.forall_mem_cons.mpr ⟨(List.mem_of_getElem? (i := 14) rfl), (List.forall_mem_cons.mpr ⟨(List.mem_of_getElem? (i := 15) rfl), (List.forall_mem_cons.mpr ⟨(List.mem_of_getElem? (i := 16) rfl), (List.forall_mem_cons.mpr ⟨(List.mem_of_getElem? (i := 17) rfl), (fun _ h => absurd h List.not_mem_nil)⟩)⟩)⟩)⟩)⟩), (fun _ h => (List.mem_cons_of_mem _ (List.mem_append_right _ h)))⟩)⟩) (by decide +kernel)
set_option maxRecDepth 20000 in
theorem gX4_takeReference_X0_tellPart : GoodIn wsX4_takeReference (wsV RX4 133 RX0 yX0_tellPart wsX0_tellPart) := goodIn_app (goodIn_sub (List.forall_mem_cons.mpr ⟨(List.mem_of_getElem? (i := 8) rfl), (List.forall_mem_cons.mpr ⟨(List.mem_of_getElem? (i := 9) rfl), (List.forall_mem_cons.mpr ⟨(List.mem_of_getElem? (i := 10) rfl), (List.forall_mem_cons.mpr ⟨(List.mem_of_getElem? (i := 11) rfl), (fun _ h => absurd h List.not_mem_nil)⟩)⟩)⟩)⟩) (by decide +kernel)) ggX4_takeReference_X0_tellPart
set_option maxRecDepth 20000 in
theorem ggX4_takeReference_X4_fail : GoodIn wsX4_takeReference wsX4_fail := goodIn_sub (List.forall_mem_cons.mpr ⟨(List.mem_of_getElem? (i := 22) rfl), (List.forall_mem_append.mpr ⟨(List.forall_mem_append.mpr ⟨(List.forall_mem_cons.mpr ⟨(List.mem_of_getElem? (i := 23) rfl), (List.forall_mem_cons.mpr ⟨(List.mem_of_getElem? (i := 1) rfl), (List.forall_mem_cons.mpr ⟨(List.mem_of_getElem? (i := 6) rfl), (List.forall_mem_cons.mpr ⟨(List.mem_of_getElem? (i := 24) rfl), (fun _ h => absurd h List.not_mem_nil)⟩)⟩)⟩)⟩), (fun _ h => (List.mem_cons_of_mem _ (List.mem_append_left _ (List.mem_append_left _ (List.mem_append_right _ h)))))⟩), (fun _ h => (List.mem_cons_of_mem _ (List.mem_append_left _ (List.mem_append_right _ h))))⟩)⟩) (by decide +kernel)
set_option maxRecDepth 20000 in
theorem gX4_takeReference_X4_fail : GoodIn wsX4_takeReference (wsV RX4 57 RX4 yX4_fail wsX4_fail) := goodIn_app (goodIn_sub (List.forall_mem_cons.mpr ⟨(List.mem_of_getElem? (i := 18) rfl), (List.forall_mem_cons.mpr ⟨(List.mem_of_getElem? (i := 19) rfl), (List.forall_mem_cons.mpr ⟨(List.mem_of_getElem? (i := 20) rfl), (List.forall_mem_cons.mpr ⟨(List.mem_of_getElem? (i := 21) rfl), (fun _ h => absurd h List.not_mem_nil)⟩)⟩)⟩)⟩) (by decide +kernel)) ggX4_takeReference_X4_fail
theorem dX4_takeReference_0 : decode cX4_takeReference 0 = .ok (.aload_n 0, 1) := by decide +kernel
theorem dX4_takeReference_1 : decode cX4_takeReference 1 = .ok (.getfield 14, 3) := by decide +kernel
theorem dX4_takeReference_4 : decode cX4_takeReference 4 = .ok (.getfield 54, 3) := by decide +kernel
theorem dX4_takeReference_7 : decode cX4_takeReference 7 = .ok (.iconst 2, 1) := by decide +kernel
theorem dX4_takeReference_8 : decode cX4_takeReference 8 = .ok (.if_icmp .ne 38, 3) := by decide +kernel
theorem dX4_takeReference_11 : decode cX4_takeReference 11 = .ok (.aload_n 0, 1) := by decide +kernel
theorem dX4_takeReference_12 : decode cX4_takeReference 12 = .ok (.getfield 20, 3) := by decide +kernel
theorem dX4_takeReference_15 : decode cX4_takeReference 15 = .ok (.aload_n 0, 1) := by decide +kernel
theorem dX4_takeReference_16 : decode cX4_takeReference 16 = .ok (.getfield 137, 3) := by decide +kernel
theorem dX4_takeReference_19 : decode cX4_takeReference 19 = .ok (.aload_n 0, 1) := by decide +kernel
theorem dX4_takeReference_20 : decode cX4_takeReference 20 = .ok (.getfield 14, 3) := by decide +kernel
theorem dX4_takeReference_23 : decode cX4_takeReference 23 = .ok (.getfield 107, 3) := by decide +kernel
theorem dX4_takeReference_26 : decode cX4_takeReference 26 = .ok (.iconst 0, 1) := by decide +kernel
theorem dX4_takeReference_27 : decode cX4_takeReference 27 = .ok (.aload_n 0, 1) := by decide +kernel
theorem dX4_takeReference_28 : decode cX4_takeReference 28 = .ok (.getfield 14, 3) := by decide +kernel
theorem dX4_takeReference_31 : decode cX4_takeReference 31 = .ok (.getfield 67, 3) := by decide +kernel
theorem dX4_takeReference_34 : decode cX4_takeReference 34 = .ok (.invokevirtual 133, 3) := by decide +kernel
theorem dX4_takeReference_37 : decode cX4_takeReference 37 = .ok (.aload_n 0, 1) := by decide +kernel
theorem dX4_takeReference_38 : decode cX4_takeReference 38 = .ok (.bipush 8, 2) := by decide +kernel
theorem dX4_takeReference_40 : decode cX4_takeReference 40 = .ok (.putfield 32, 3) := by decide +kernel
theorem dX4_takeReference_43 : decode cX4_takeReference 43 = .ok (.goto 8, 3) := by decide +kernel
theorem dX4_takeReference_46 : decode cX4_takeReference 46 = .ok (.aload_n 0, 1) := by decide +kernel
theorem dX4_takeReference_47 : decode cX4_takeReference 47 = .ok (.iconst 2, 1) := by decide +kernel
theorem dX4_takeReference_48 : decode cX4_takeReference 48 = .ok (.invokevirtual 57, 3) := by decide +kernel
theorem dX4_takeReference_51 : decode cX4_takeReference 51 = .ok (.return_, 1) := by decide +kernel
def rmX4_takeReference : Room := { frames := 1, cells := 0, slots := 0, locals := 24 }
theorem zdX4_takeReference : yX4_takeReference.cls = RX4 ∧ yX4_takeReference.cls ≠ "java/lang/invoke/MethodHandle" ∧ yX4_takeReference.cls ≠ "java/lang/invoke/VarHandle" ∧ (parseMethodDescriptor yX4_takeReference.desc).map (fun d => d.parameters.length) = some 0 := by decide +kernel
theorem kiX4_takeReference_X4 : ∀ w ∈ wsX40, w ∈ wsX4_takeReference := fun _ h => (List.mem_cons_of_mem _ (List.mem_append_left _ (List.mem_append_left _ (List.mem_append_right _ h))))
theorem kfX4_takeReference_14 : Cond.fieldLink RX4 14 "ShapeJudge$TextReader" "tokens" "LShapeJudge$Tokens;" ∈ wsX4_takeReference := (List.mem_of_getElem? (i := 1) rfl)
theorem kiX4_takeReference_X5 : ∀ w ∈ wsX50, w ∈ wsX4_takeReference := fun _ h => (List.mem_cons_of_mem _ (List.mem_append_left _ (List.mem_append_right _ h)))
theorem kfX4_takeReference_54 : Cond.fieldLink RX4 54 "ShapeJudge$Tokens" "kind" "I" ∈ wsX4_takeReference := (List.mem_of_getElem? (i := 2) rfl)
theorem kfX4_takeReference_20 : Cond.fieldLink RX4 20 "ShapeJudge$TextReader" "book" "LShapeJudge$Book;" ∈ wsX4_takeReference := (List.mem_of_getElem? (i := 3) rfl)
theorem kfX4_takeReference_137 : Cond.fieldLink RX4 137 "ShapeJudge$TextReader" "test" "I" ∈ wsX4_takeReference := (List.mem_of_getElem? (i := 4) rfl)
theorem kfX4_takeReference_107 : Cond.fieldLink RX4 107 "ShapeJudge$Tokens" "number" "I" ∈ wsX4_takeReference := (List.mem_of_getElem? (i := 5) rfl)
theorem kfX4_takeReference_67 : Cond.fieldLink RX4 67 "ShapeJudge$Tokens" "place" "I" ∈ wsX4_takeReference := (List.mem_of_getElem? (i := 6) rfl)
theorem kfX4_takeReference_32 : Cond.fieldLink RX4 32 "ShapeJudge$TextReader" "state" "I" ∈ wsX4_takeReference := (List.mem_of_getElem? (i := 7) rfl)
def s_X4_takeReference (m : Mem)  : Option (Mem) :=
  (if (m 10 2) = 2 then (zbk (m 9 1) fun b3 => (s_X0_tellPart m b3 (m 9 6) (m 10 4) 0 (m 10 3)).bind fun m5 => bn (sto m5 9 2 8) fun m6 => some m6) else ((s_X4_fail m 2).bind fun m2 => some m2))
set_option maxRecDepth 100000 in
set_option maxHeartbeats 4000000 in
theorem c_X4_takeReference (l : Launch) (w : ZW) {m : Mem}  {m9 : Mem}  (hf : s_X4_takeReference m  = some m9) : zCv MX l w yX4_takeReference wsX4_takeReference rmX4_takeReference [.ref (w.2.1 9)] m m9 := by
  refine z_met_v MX_ok (own := RX4) (by decide +kernel) rfl rfl (Nat.le_of_ble_eq_true rfl) ?_
  intro K C hKw hKl hret
  subst hKw
  subst hKl
  unfold s_X4_takeReference at hf
  show zGo MX K m [(0, .ref ((zw K).2.1 9))] 0 []
  refine z_aload_n C 0 dX4_takeReference_0 rfl rfl ?_
  refine z_getr C (t := 10) (Nat.le_of_ble_eq_true rfl) rfl rfl 0 (Nat.le_of_ble_eq_true rfl) rfl kiX4_takeReference_X4 kfX4_takeReference_14 dX4_takeReference_1 ?_
  refine z_geti C (Nat.le_of_ble_eq_true rfl) rfl rfl 2 (Nat.le_of_ble_eq_true rfl) rfl kiX4_takeReference_X5 kfX4_takeReference_54 dX4_takeReference_4 ?_
  refine z_iconst C (v := 2) dX4_takeReference_7 rfl ?_
  refine z_icmp_ne (tgt := 46) C dX4_takeReference_8 (by decide) (fun c7 => ?_) (fun c7 => ?_)
  · replace hf := if_f c7 hf
    refine z_aload_n C 0 dX4_takeReference_46 rfl rfl ?_
    refine z_iconst C (v := 2) dX4_takeReference_47 rfl ?_
    obtain ⟨m2, hc1, hf⟩ := zb_el hf
    refine z_cVv C (c_X4_fail _ _ hc1) rfl gX4_takeReference_X4_fail rfl rfl zdX4_fail rfl (Nat.le_of_ble_eq_true rfl) rfl rfl rfl ⟨Nat.le_of_ble_eq_true rfl, Nat.le_of_ble_eq_true rfl⟩ (Nat.le_of_ble_eq_true rfl) dX4_takeReference_48 rfl ?_
    cases hf
    exact hret _ _ dX4_takeReference_51
  · replace hf := if_t c7 hf
    refine z_aload_n C 0 dX4_takeReference_11 rfl rfl ?_
    obtain ⟨b3, hb3, e_b3, hf⟩ := zbk_el hf
    refine z_getb C (b := b3) (Nat.le_of_ble_eq_true rfl) rfl rfl 1 (Nat.le_of_ble_eq_true rfl) rfl kiX4_takeReference_X4 kfX4_takeReference_20 (isb_lt hb3) e_b3 dX4_takeReference_12 ?_
    refine z_aload_n C 0 dX4_takeReference_15 rfl rfl ?_
    refine z_geti C (Nat.le_of_ble_eq_true rfl) rfl rfl 6 (Nat.le_of_ble_eq_true rfl) rfl kiX4_takeReference_X4 kfX4_takeReference_137 dX4_takeReference_16 ?_
    refine z_aload_n C 0 dX4_takeReference_19 rfl rfl ?_
    refine z_getr C (t := 10) (Nat.le_of_ble_eq_true rfl) rfl rfl 0 (Nat.le_of_ble_eq_true rfl) rfl kiX4_takeReference_X4 kfX4_takeReference_14 dX4_takeReference_20 ?_
    refine z_geti C (Nat.le_of_ble_eq_true rfl) rfl rfl 4 (Nat.le_of_ble_eq_true rfl) rfl kiX4_takeReference_X5 kfX4_takeReference_107 dX4_takeReference_23 ?_
    refine z_iconst C (v := 0) dX4_takeReference_26 rfl ?_
    refine z_aload_n C 0 dX4_takeReference_27 rfl rfl ?_
    refine z_getr C (t := 10) (Nat.le_of_ble_eq_true rfl) rfl rfl 0 (Nat.le_of_ble_eq_true rfl) rfl kiX4_takeReference_X4 kfX4_takeReference_14 dX4_takeReference_28 ?_
    refine z_geti C (Nat.le_of_ble_eq_true rfl) rfl rfl 3 (Nat.le_of_ble_eq_true rfl) rfl kiX4_takeReference_X5 kfX4_takeReference_67 dX4_takeReference_31 ?_
    obtain ⟨m5, hc4, hf⟩ := zb_el hf
    refine z_cVv C (c_X0_tellPart _ _ hb3 hc4) rfl gX4_takeReference_X0_tellPart rfl rfl zdX0_tellPart rfl (isb_k0 hb3) (isb_L0 hb3) rfl rfl ⟨Nat.le_of_ble_eq_true rfl, Nat.le_of_ble_eq_true rfl⟩ (Nat.le_of_ble_eq_true rfl) dX4_takeReference_34 rfl ?_
    refine z_aload_n C 0 dX4_takeReference_37 rfl rfl ?_
    refine z_bipush C (v := 8) dX4_takeReference_38 rfl ?_
    refine z_puti C (Nat.le_of_ble_eq_true rfl) rfl rfl 2 (Nat.le_of_ble_eq_true rfl) rfl kiX4_takeReference_X4 kfX4_takeReference_32 tyX4 tyX4_ok nmX4 rfl rfl dX4_takeReference_40 ?_
    refine z_nm (fun m6 e_m6 => ?_)
    replace hf := bn_to e_m6 hf
    refine z_goto (tgt := 51) C dX4_takeReference_43 (by decide) ?_
    cases hf
    exact hret _ _ dX4_takeReference_51
set_option maxRecDepth 20000 in
theorem ggX4_takeLastNumber_X4_isNumberFrom : GoodIn wsX4_takeLastNumber wsX4_isNumberFrom := goodIn_sub (List.forall_mem_cons.mpr ⟨(List.mem_of_getElem? (i := 11) rfl), (List.forall_mem_append.mpr ⟨(List.forall_mem_append.mpr ⟨(List.forall_mem_cons.mpr ⟨(List.mem_of_getElem? (i := 4) rfl), (List.forall_mem_cons.mpr ⟨(List.mem_of_getElem? (i := 12) rfl), (List.forall_mem_cons.mpr ⟨(List.mem_of_getElem? (i := 5) rfl), (List.forall_mem_cons.mpr ⟨(List.mem_of_getElem? (i := 13) rfl), (List.forall_mem_cons.mpr ⟨(List.mem_of_getElem? (i := 14) rfl), (List.forall_mem_cons.mpr ⟨(List.mem_of_getElem? (i := 15) rfl), (List.forall_mem_cons.mpr ⟨(List.mem_of_getElem? (i := 16) rfl), (List.forall_mem_cons.mpr ⟨(List.mem_of_getElem? (i := 10) rfl), (List.forall_mem_cons.mpr ⟨(List.mem_of_getElem? (i := 17) rfl), (List.forall_mem_cons.mpr ⟨(List.mem_of_getElem? (i := 18) rfl), (List.forall_mem_cons.mpr ⟨(List.mem_of_getElem? (i := 19) rfl), (fun _ h => absurd h List.not_mem_nil)⟩)⟩)⟩)⟩)⟩)⟩)⟩)⟩)⟩)⟩)⟩), (fun _ h => (List.mem_cons_of_mem _ (List.mem_append_left _ (List.mem_append_left _ (List.mem_append_right _ h)))))⟩), (fun _ h => (List.mem_cons_of_mem _ (List.mem_append_left _ (List.mem_append_right _ h))))⟩)⟩) (by decide +kernel)
set_option maxRecDepth 20000 in
theorem gX4_takeLastNumber_X4_isNumberFrom : GoodIn wsX4_takeLastNumber (wsV RX4 146 RX4 yX4_isNumberFrom wsX4_isNumberFrom) := goodIn_app (goodIn_sub (List.forall_mem_cons.mpr ⟨(List.mem_of_getElem? (i := 7) rfl), (List.forall_mem_cons.mpr ⟨(List.mem_of_getElem? (i := 8) rfl), (List.forall_mem_cons.mpr ⟨(List.mem_of_getElem? (i := 9) rfl), (List.forall_mem_cons.mpr ⟨(List.mem_of_getElem? (i := 10) rfl), (fun _ h => absurd h List.not_mem_nil)⟩)⟩)⟩)⟩) (by decide +kernel)) ggX4_takeLastNumber_X4_isNumberFrom
set_option maxRecDepth 20000 in
theorem ggX4_takeLastNumber_X0_tellPart : GoodIn wsX4_takeLastNumber wsX0_tellPart := goodIn_sub (List.forall_mem_cons.mpr ⟨(List.mem_of_getElem? (i := 24) rfl), (List.forall_mem_append.mpr ⟨(List.forall_mem_cons.mpr ⟨(List.mem_of_getElem? (i := 25) rfl), (List.forall_mem_cons.mpr ⟨(List.mem_of_getElem? (i := 26) rfl), (List.forall_mem_cons.mpr ⟨(List.mem_of_getElem? (i := 27) rfl), (List.forall_mem_cons.mpr ⟨(List.mem_of_getElem? (i := 28) rfl), (List.forall_mem_cons.mpr ⟨(List.mem_of_getElem? (i := 29) rfl), (fun _ h => absurd h List.not_mem_nil)⟩)⟩)⟩)⟩)⟩), (fun _ h => (List.mem_cons_of_mem _ (List.mem_append_right _ h)))⟩)⟩) (by decide +kernel)
set_option maxRecDepth 20000 in
theorem gX4_takeLastNumber_X0_tellPart : GoodIn wsX4_takeLastNumber (wsV RX4 133 RX0 yX0_tellPart wsX0_tellPart) := goodIn_app (goodIn_sub (List.forall_mem_cons.mpr ⟨(List.mem_of_getElem? (i := 20) rfl), (List.forall_mem_cons.mpr ⟨(List.mem_of_getElem? (i := 21) rfl), (List.forall_mem_cons.mpr ⟨(List.mem_of_getElem? (i := 22) rfl), (List.forall_mem_cons.mpr ⟨(List.mem_of_getElem? (i := 23) rfl), (fun _ h => absurd h List.not_mem_nil)⟩)⟩)⟩)⟩) (by decide +kernel)) ggX4_takeLastNumber_X0_tellPart
theorem dX4_takeLastNumber_0 : decode cX4_takeLastNumber 0 = .ok (.aload_n 0, 1) := by decide +kernel
theorem dX4_takeLastNumber_1 : decode cX4_takeLastNumber 1 = .ok (.aload_n 0, 1) := by decide +kernel
theorem dX4_takeLastNumber_2 : decode cX4_takeLastNumber 2 = .ok (.getfield 140, 3) := by decide +kernel
theorem dX4_takeLastNumber_5 : decode cX4_takeLastNumber 5 = .ok (.ldc 145, 2) := by decide +kernel
theorem dX4_takeLastNumber_7 : decode cX4_takeLastNumber 7 = .ok (.invokevirtual 146, 3) := by decide +kernel
theorem dX4_takeLastNumber_10 : decode cX4_takeLastNumber 10 = .ok (.ifCond .eq 29, 3) := by decide +kernel
theorem dX4_takeLastNumber_13 : decode cX4_takeLastNumber 13 = .ok (.aload_n 0, 1) := by decide +kernel
theorem dX4_takeLastNumber_14 : decode cX4_takeLastNumber 14 = .ok (.getfield 20, 3) := by decide +kernel
theorem dX4_takeLastNumber_17 : decode cX4_takeLastNumber 17 = .ok (.iconst 3, 1) := by decide +kernel
theorem dX4_takeLastNumber_18 : decode cX4_takeLastNumber 18 = .ok (.aload_n 0, 1) := by decide +kernel
theorem dX4_takeLastNumber_19 : decode cX4_takeLastNumber 19 = .ok (.getfield 140, 3) := by decide +kernel
theorem dX4_takeLastNumber_22 : decode cX4_takeLastNumber 22 = .ok (.aload_n 0, 1) := by decide +kernel
theorem dX4_takeLastNumber_23 : decode cX4_takeLastNumber 23 = .ok (.getfield 14, 3) := by decide +kernel
theorem dX4_takeLastNumber_26 : decode cX4_takeLastNumber 26 = .ok (.getfield 107, 3) := by decide +kernel
theorem dX4_takeLastNumber_29 : decode cX4_takeLastNumber 29 = .ok (.iconst 0, 1) := by decide +kernel
theorem dX4_takeLastNumber_30 : decode cX4_takeLastNumber 30 = .ok (.invokevirtual 133, 3) := by decide +kernel
theorem dX4_takeLastNumber_33 : decode cX4_takeLastNumber 33 = .ok (.aload_n 0, 1) := by decide +kernel
theorem dX4_takeLastNumber_34 : decode cX4_takeLastNumber 34 = .ok (.bipush 8, 2) := by decide +kernel
theorem dX4_takeLastNumber_36 : decode cX4_takeLastNumber 36 = .ok (.putfield 32, 3) := by decide +kernel
theorem dX4_takeLastNumber_39 : decode cX4_takeLastNumber 39 = .ok (.return_, 1) := by decide +kernel
def rmX4_takeLastNumber : Room := { frames := 2, cells := 0, slots := 0, locals := 43 }
theorem zdX4_takeLastNumber : yX4_takeLastNumber.cls = RX4 ∧ yX4_takeLastNumber.cls ≠ "java/lang/invoke/MethodHandle" ∧ yX4_takeLastNumber.cls ≠ "java/lang/invoke/VarHandle" ∧ (parseMethodDescriptor yX4_takeLastNumber.desc).map (fun d => d.parameters.length) = some 0 := by decide +kernel
theorem kiX4_takeLastNumber_X4 : ∀ w ∈ wsX40, w ∈ wsX4_takeLastNumber := fun _ h => (List.mem_cons_of_mem _ (List.mem_append_left _ (List.mem_append_left _ (List.mem_append_right _ h))))
theorem kfX4_takeLastNumber_140 : Cond.fieldLink RX4 140 "ShapeJudge$TextReader" "firstNumber" "I" ∈ wsX4_takeLastNumber := (List.mem_of_getElem? (i := 1) rfl)
theorem kcX4_takeLastNumber_145 : Cond.constant RX4 145 (2147483647) ∈ wsX4_takeLastNumber := (List.mem_of_getElem? (i := 2) rfl)
theorem kfX4_takeLastNumber_20 : Cond.fieldLink RX4 20 "ShapeJudge$TextReader" "book" "LShapeJudge$Book;" ∈ wsX4_takeLastNumber := (List.mem_of_getElem? (i := 3) rfl)
theorem kfX4_takeLastNumber_14 : Cond.fieldLink RX4 14 "ShapeJudge$TextReader" "tokens" "LShapeJudge$Tokens;" ∈ wsX4_takeLastNumber := (List.mem_of_getElem? (i := 4) rfl)
theorem kiX4_takeLastNumber_X5 : ∀ w ∈ wsX50, w ∈ wsX4_takeLastNumber := fun _ h => (List.mem_cons_of_mem _ (List.mem_append_left _ (List.mem_append_right _ h)))
theorem kfX4_takeLastNumber_107 : Cond.fieldLink RX4 107 "ShapeJudge$Tokens" "number" "I" ∈ wsX4_takeLastNumber := (List.mem_of_getElem? (i := 5) rfl)
theorem kfX4_takeLastNumber_32 : Cond.fieldLink RX4 32 "ShapeJudge$TextReader" "state" "I" ∈ wsX4_takeLastNumber := (List.mem_of_getElem? (i := 6) rfl)
def s_X4_takeLastNumber (m : Mem)  : Option (Mem) :=
  zb2 (s_X4_isNumberFrom m (m 9 7) 2147483647) fun r2 m3 => (if r2 = 0 then (some m3) else (zbk (m3 9 1) fun b4 => (s_X0_tellPart m3 b4 3 (m3 9 7) (m3 10 4) 0).bind fun m6 => bn (sto m6 9 2 8) fun m7 => some m7))
set_option maxRecDepth 100000 in
set_option maxHeartbeats 4000000 in
theorem c_X4_takeLastNumber (l : Launch) (w : ZW) {m : Mem}  {m9 : Mem}  (hf : s_X4_takeLastNumber m  = some m9) : zCv MX l w yX4_takeLastNumber wsX4_takeLastNumber rmX4_takeLastNumber [.ref (w.2.1 9)] m m9 := by
  refine z_met_v MX_ok (own := RX4) (by decide +kernel) rfl rfl (Nat.le_of_ble_eq_true rfl) ?_
  intro K C hKw hKl hret
  subst hKw
  subst hKl
  unfold s_X4_takeLastNumber at hf
  show zGo MX K m [(0, .ref ((zw K).2.1 9))] 0 []
  refine z_aload_n C 0 dX4_takeLastNumber_0 rfl rfl ?_
  refine z_aload_n C 0 dX4_takeLastNumber_1 rfl rfl ?_
  refine z_geti C (Nat.le_of_ble_eq_true rfl) rfl rfl 7 (Nat.le_of_ble_eq_true rfl) rfl kiX4_takeLastNumber_X4 kfX4_takeLastNumber_140 dX4_takeLastNumber_2 ?_
  refine z_ldc C (v := 2147483647) dX4_takeLastNumber_5 kcX4_takeLastNumber_145 ?_
  obtain ⟨r2, m3, hc1, hf⟩ := zb2_el hf
  refine z_cVi C (c_X4_isNumberFrom _ _ hc1) rfl gX4_takeLastNumber_X4_isNumberFrom rfl rfl zdX4_isNumberFrom rfl (Nat.le_of_ble_eq_true rfl) rfl rfl rfl ⟨Nat.le_of_ble_eq_true rfl, Nat.le_of_ble_eq_true rfl⟩ (Nat.le_of_ble_eq_true rfl) dX4_takeLastNumber_7 rfl ?_
  refine z_if_eq (tgt := 39) C dX4_takeLastNumber_10 (by decide) (fun c8 => ?_) (fun c8 => ?_)
  · replace hf := if_t c8 hf
    cases hf
    exact hret _ _ dX4_takeLastNumber_39
  · replace hf := if_f c8 hf
    refine z_aload_n C 0 dX4_takeLastNumber_13 rfl rfl ?_
    obtain ⟨b4, hb4, e_b4, hf⟩ := zbk_el hf
    refine z_getb C (b := b4) (Nat.le_of_ble_eq_true rfl) rfl rfl 1 (Nat.le_of_ble_eq_true rfl) rfl kiX4_takeLastNumber_X4 kfX4_takeLastNumber_20 (isb_lt hb4) e_b4 dX4_takeLastNumber_14 ?_
    refine z_iconst C (v := 3) dX4_takeLastNumber_17 rfl ?_
    refine z_aload_n C 0 dX4_takeLastNumber_18 rfl rfl ?_
    refine z_geti C (Nat.le_of_ble_eq_true rfl) rfl rfl 7 (Nat.le_of_ble_eq_true rfl) rfl kiX4_takeLastNumber_X4 kfX4_takeLastNumber_140 dX4_takeLastNumber_19 ?_
    refine z_aload_n C 0 dX4_takeLastNumber_22 rfl rfl ?_
    refine z_getr C (t := 10) (Nat.le_of_ble_eq_true rfl) rfl rfl 0 (Nat.le_of_ble_eq_true rfl) rfl kiX4_takeLastNumber_X4 kfX4_takeLastNumber_14 dX4_takeLastNumber_23 ?_
    refine z_geti C (Nat.le_of_ble_eq_true rfl) rfl rfl 4 (Nat.le_of_ble_eq_true rfl) rfl kiX4_takeLastNumber_X5 kfX4_takeLastNumber_107 dX4_takeLastNumber_26 ?_
    refine z_iconst C (v := 0) dX4_takeLastNumber_29 rfl ?_
    obtain ⟨m6, hc5, hf⟩ := zb_el hf
    refine z_cVv C (c_X0_tellPart _ _ hb4 hc5) rfl gX4_takeLastNumber_X0_tellPart rfl rfl zdX0_tellPart rfl (isb_k0 hb4) (isb_L0 hb4) rfl rfl ⟨Nat.le_of_ble_eq_true rfl, Nat.le_of_ble_eq_true rfl⟩ (Nat.le_of_ble_eq_true rfl) dX4_takeLastNumber_30 rfl ?_
    refine z_aload_n C 0 dX4_takeLastNumber_33 rfl rfl ?_
    refine z_bipush C (v := 8) dX4_takeLastNumber_34 rfl ?_
    refine z_puti C (Nat.le_of_ble_eq_true rfl) rfl rfl 2 (Nat.le_of_ble_eq_true rfl) rfl kiX4_takeLastNumber_X4 kfX4_takeLastNumber_32 tyX4 tyX4_ok nmX4 rfl rfl dX4_takeLastNumber_36 ?_
    refine z_nm (fun m7 e_m7 => ?_)
    replace hf := bn_to e_m7 hf
    cases hf
    exact hret _ _ dX4_takeLastNumber_39
set_option maxRecDepth 20000 in
theorem ggX4_settleComma_X0_addStep : GoodIn wsX4_settleComma wsX0_addStep := goodIn_sub (List.forall_mem_cons.mpr ⟨(List.mem_of_getElem? (i := 8) rfl), (List.forall_mem_append.mpr ⟨(List.forall_mem_cons.mpr ⟨(List.mem_of_getElem? (i := 9) rfl), (List.forall_mem_cons.mpr ⟨(List.mem_of_getElem? (i := 10) rfl), (List.forall_mem_cons.mpr ⟨(List.mem_of_getElem? (i := 11) rfl), (List.forall_mem_cons.mpr ⟨(List.mem_of_getElem? (i := 12) rfl), (List.forall_mem_cons.mpr ⟨(List.mem_of_getElem? (i := 13) rfl), (List.forall_mem_cons.mpr ⟨(List.mem_of_getElem? (i := 14) rfl), (List.forall_mem_cons.mpr ⟨(List.mem_of_getElem? (i := 15) rfl), (List.forall_mem_cons.mpr ⟨(List.mem_of_getElem? (i := 7) rfl), (List.forall_mem_cons.mpr ⟨(List.mem_of_getElem? (i := 16) rfl), (fun _ h => absurd h List.not_mem_nil)⟩)⟩)⟩)⟩)⟩)⟩)⟩)⟩)⟩), (fun _ h => (List.mem_cons_of_mem _ (List.mem_append_right _ h)))⟩)⟩) (by decide +kernel)
set_option maxRecDepth 20000 in
theorem gX4_settleComma_X0_addStep : GoodIn wsX4_settleComma (wsV RX4 150 RX0 yX0_addStep wsX0_addStep) := goodIn_app (goodIn_sub (List.forall_mem_cons.mpr ⟨(List.mem_of_getElem? (i := 4) rfl), (List.forall_mem_cons.mpr ⟨(List.mem_of_getElem? (i := 5) rfl), (List.forall_mem_cons.mpr ⟨(List.mem_of_getElem? (i := 6) rfl), (List.forall_mem_cons.mpr ⟨(List.mem_of_getElem? (i := 7) rfl), (fun _ h => absurd h List.not_mem_nil)⟩)⟩)⟩)⟩) (by decide +kernel)) ggX4_settleComma_X0_addStep
theorem dX4_settleComma_0 : decode cX4_settleComma 0 = .ok (.aload_n 0, 1) := by decide +kernel
theorem dX4_settleComma_1 : decode cX4_settleComma 1 = .ok (.getfield 39, 3) := by decide +kernel
theorem dX4_settleComma_4 : decode cX4_settleComma 4 = .ok (.aload_n 0, 1) := by decide +kernel
theorem dX4_settleComma_5 : decode cX4_settleComma 5 = .ok (.getfield 36, 3) := by decide +kernel
theorem dX4_settleComma_8 : decode cX4_settleComma 8 = .ok (.ishr, 1) := by decide +kernel
theorem dX4_settleComma_9 : decode cX4_settleComma 9 = .ok (.iconst 1, 1) := by decide +kernel
theorem dX4_settleComma_10 : decode cX4_settleComma 10 = .ok (.iand, 1) := by decide +kernel
theorem dX4_settleComma_11 : decode cX4_settleComma 11 = .ok (.ifCond .eq 29, 3) := by decide +kernel
theorem dX4_settleComma_14 : decode cX4_settleComma 14 = .ok (.aload_n 0, 1) := by decide +kernel
theorem dX4_settleComma_15 : decode cX4_settleComma 15 = .ok (.getfield 20, 3) := by decide +kernel
theorem dX4_settleComma_18 : decode cX4_settleComma 18 = .ok (.iconst 2, 1) := by decide +kernel
theorem dX4_settleComma_19 : decode cX4_settleComma 19 = .ok (.iconst 0, 1) := by decide +kernel
theorem dX4_settleComma_20 : decode cX4_settleComma 20 = .ok (.invokevirtual 150, 3) := by decide +kernel
theorem dX4_settleComma_23 : decode cX4_settleComma 23 = .ok (.aload_n 0, 1) := by decide +kernel
theorem dX4_settleComma_24 : decode cX4_settleComma 24 = .ok (.dup, 1) := by decide +kernel
theorem dX4_settleComma_25 : decode cX4_settleComma 25 = .ok (.getfield 39, 3) := by decide +kernel
theorem dX4_settleComma_28 : decode cX4_settleComma 28 = .ok (.iconst 1, 1) := by decide +kernel
theorem dX4_settleComma_29 : decode cX4_settleComma 29 = .ok (.aload_n 0, 1) := by decide +kernel
theorem dX4_settleComma_30 : decode cX4_settleComma 30 = .ok (.getfield 36, 3) := by decide +kernel
theorem dX4_settleComma_33 : decode cX4_settleComma 33 = .ok (.ishl, 1) := by decide +kernel
theorem dX4_settleComma_34 : decode cX4_settleComma 34 = .ok (.iconst (-1), 1) := by decide +kernel
theorem dX4_settleComma_35 : decode cX4_settleComma 35 = .ok (.ixor, 1) := by decide +kernel
theorem dX4_settleComma_36 : decode cX4_settleComma 36 = .ok (.iand, 1) := by decide +kernel
theorem dX4_settleComma_37 : decode cX4_settleComma 37 = .ok (.putfield 39, 3) := by decide +kernel
theorem dX4_settleComma_40 : decode cX4_settleComma 40 = .ok (.return_, 1) := by decide +kernel
def rmX4_settleComma : Room := { frames := 2, cells := 0, slots := 0, locals := 43 }
theorem zdX4_settleComma : yX4_settleComma.cls = RX4 ∧ yX4_settleComma.cls ≠ "java/lang/invoke/MethodHandle" ∧ yX4_settleComma.cls ≠ "java/lang/invoke/VarHandle" ∧ (parseMethodDescriptor yX4_settleComma.desc).map (fun d => d.parameters.length) = some 0 := by decide +kernel
theorem kiX4_settleComma_X4 : ∀ w ∈ wsX40, w ∈ wsX4_settleComma := fun _ h => (List.mem_cons_of_mem _ (List.mem_append_left _ (List.mem_append_right _ h)))
theorem kfX4_settleComma_39 : Cond.fieldLink RX4 39 "ShapeJudge$TextReader" "commas" "I" ∈ wsX4_settleComma := (List.mem_of_getElem? (i := 1) rfl)
theorem kfX4_settleComma_36 : Cond.fieldLink RX4 36 "ShapeJudge$TextReader" "depth" "I" ∈ wsX4_settleComma := (List.mem_of_getElem? (i := 2) rfl)
theorem kfX4_settleComma_20 : Cond.fieldLink RX4 20 "ShapeJudge$TextReader" "book" "LShapeJudge$Book;" ∈ wsX4_settleComma := (List.mem_of_getElem? (i := 3) rfl)
def s_X4_settleComma (m : Mem)  : Option (Mem) :=
  (if (((m 9 4) >>> ((m 9 3) &&& 31)) &&& 1) = 0 then (some m) else (zbk (m 9 1) fun b1 => (s_X0_addStep m b1 2 0).bind fun m3 => bn (sto m3 9 4 ((m3 9 4) &&& (((1 : Int32) <<< ((m3 9 3) &&& 31)) ^^^ (-1)))) fun m4 => some m4))
set_option maxRecDepth 100000 in
set_option maxHeartbeats 4000000 in
theorem c_X4_settleComma (l : Launch) (w : ZW) {m : Mem}  {m9 : Mem}  (hf : s_X4_settleComma m  = some m9) : zCv MX l w yX4_settleComma wsX4_settleComma rmX4_settleComma [.ref (w.2.1 9)] m m9 := by
  refine z_met_v MX_ok (own := RX4) (by decide +kernel) rfl rfl (Nat.le_of_ble_eq_true rfl) ?_
  intro K C hKw hKl hret
  subst hKw
  subst hKl
  unfold s_X4_settleComma at hf
  show zGo MX K m [(0, .ref ((zw K).2.1 9))] 0 []
  refine z_aload_n C 0 dX4_settleComma_0 rfl rfl ?_
  refine z_geti C (Nat.le_of_ble_eq_true rfl) rfl rfl 4 (Nat.le_of_ble_eq_true rfl) rfl kiX4_settleComma_X4 kfX4_settleComma_39 dX4_settleComma_1 ?_
  refine z_aload_n C 0 dX4_settleComma_4 rfl rfl ?_
  refine z_geti C (Nat.le_of_ble_eq_true rfl) rfl rfl 3 (Nat.le_of_ble_eq_true rfl) rfl kiX4_settleComma_X4 kfX4_settleComma_36 dX4_settleComma_5 ?_
  refine z_ishr C dX4_settleComma_8 ?_
  refine z_iconst C (v := 1) dX4_settleComma_9 rfl ?_
  refine z_iand C dX4_settleComma_10 ?_
  refine z_if_eq (tgt := 40) C dX4_settleComma_11 (by decide) (fun c5 => ?_) (fun c5 => ?_)
  · replace hf := if_t c5 hf
    cases hf
    exact hret _ _ dX4_settleComma_40
  · replace hf := if_f c5 hf
    refine z_aload_n C 0 dX4_settleComma_14 rfl rfl ?_
    obtain ⟨b1, hb1, e_b1, hf⟩ := zbk_el hf
    refine z_getb C (b := b1) (Nat.le_of_ble_eq_true rfl) rfl rfl 1 (Nat.le_of_ble_eq_true rfl) rfl kiX4_settleComma_X4 kfX4_settleComma_20 (isb_lt hb1) e_b1 dX4_settleComma_15 ?_
    refine z_iconst C (v := 2) dX4_settleComma_18 rfl ?_
    refine z_iconst C (v := 0) dX4_settleComma_19 rfl ?_
    obtain ⟨m3, hc2, hf⟩ := zb_el hf
    refine z_cVv C (c_X0_addStep _ _ hb1 hc2) rfl gX4_settleComma_X0_addStep rfl rfl zdX0_addStep rfl (isb_k0 hb1) (isb_L0 hb1) rfl rfl ⟨Nat.le_of_ble_eq_true rfl, Nat.le_of_ble_eq_true rfl⟩ (Nat.le_of_ble_eq_true rfl) dX4_settleComma_20 rfl ?_
    refine z_aload_n C 0 dX4_settleComma_23 rfl rfl ?_
    refine z_dup_a C dX4_settleComma_24 ?_
    refine z_geti C (Nat.le_of_ble_eq_true rfl) rfl rfl 4 (Nat.le_of_ble_eq_true rfl) rfl kiX4_settleComma_X4 kfX4_settleComma_39 dX4_settleComma_25 ?_
    refine z_iconst C (v := 1) dX4_settleComma_28 rfl ?_
    refine z_aload_n C 0 dX4_settleComma_29 rfl rfl ?_
    refine z_geti C (Nat.le_of_ble_eq_true rfl) rfl rfl 3 (Nat.le_of_ble_eq_true rfl) rfl kiX4_settleComma_X4 kfX4_settleComma_36 dX4_settleComma_30 ?_
    refine z_ishl C dX4_settleComma_33 ?_
    refine z_iconst C (v := (-1)) dX4_settleComma_34 (by decide) ?_
    refine z_ixor C dX4_settleComma_35 ?_
    refine z_iand C dX4_settleComma_36 ?_
    refine z_puti C (Nat.le_of_ble_eq_true rfl) rfl rfl 4 (Nat.le_of_ble_eq_true rfl) rfl kiX4_settleComma_X4 kfX4_settleComma_39 tyX4 tyX4_ok nmX4 rfl rfl dX4_settleComma_37 ?_
    refine z_nm (fun m4 e_m4 => ?_)
    replace hf := bn_to e_m4 hf
    cases hf
    exact hret _ _ dX4_settleComma_40
set_option maxRecDepth 20000 in
theorem ggX4_settleBar_X0_addStep : GoodIn wsX4_settleBar wsX0_addStep := goodIn_sub (List.forall_mem_cons.mpr ⟨(List.mem_of_getElem? (i := 8) rfl), (List.forall_mem_append.mpr ⟨(List.forall_mem_cons.mpr ⟨(List.mem_of_getElem? (i := 9) rfl), (List.forall_mem_cons.mpr ⟨(List.mem_of_getElem? (i := 10) rfl), (List.forall_mem_cons.mpr ⟨(List.mem_of_getElem? (i := 11) rfl), (List.forall_mem_cons.mpr ⟨(List.mem_of_getElem? (i := 12) rfl), (List.forall_mem_cons.mpr ⟨(List.mem_of_getElem? (i := 13) rfl), (List.forall_mem_cons.mpr ⟨(List.mem_of_getElem? (i := 14) rfl), (List.forall_mem_cons.mpr ⟨(List.mem_of_getElem? (i := 15) rfl), (List.forall_mem_cons.mpr ⟨(List.mem_of_getElem? (i := 7) rfl), (List.forall_mem_cons.mpr ⟨(List.mem_of_getElem? (i := 16) rfl), (fun _ h => absurd h List.not_mem_nil)⟩)⟩)⟩)⟩)⟩)⟩)⟩)⟩)⟩), (fun _ h => (List.mem_cons_of_mem _ (List.mem_append_right _ h)))⟩)⟩) (by decide +kernel)
set_option maxRecDepth 20000 in
theorem gX4_settleBar_X0_addStep : GoodIn wsX4_settleBar (wsV RX4 150 RX0 yX0_addStep wsX0_addStep) := goodIn_app (goodIn_sub (List.forall_mem_cons.mpr ⟨(List.mem_of_getElem? (i := 4) rfl), (List.forall_mem_cons.mpr ⟨(List.mem_of_getElem? (i := 5) rfl), (List.forall_mem_cons.mpr ⟨(List.mem_of_getElem? (i := 6) rfl), (List.forall_mem_cons.mpr ⟨(List.mem_of_getElem? (i := 7) rfl), (fun _ h => absurd h List.not_mem_nil)⟩)⟩)⟩)⟩) (by decide +kernel)) ggX4_settleBar_X0_addStep
theorem dX4_settleBar_0 : decode cX4_settleBar 0 = .ok (.aload_n 0, 1) := by decide +kernel
theorem dX4_settleBar_1 : decode cX4_settleBar 1 = .ok (.getfield 42, 3) := by decide +kernel
theorem dX4_settleBar_4 : decode cX4_settleBar 4 = .ok (.aload_n 0, 1) := by decide +kernel
theorem dX4_settleBar_5 : decode cX4_settleBar 5 = .ok (.getfield 36, 3) := by decide +kernel
theorem dX4_settleBar_8 : decode cX4_settleBar 8 = .ok (.ishr, 1) := by decide +kernel
theorem dX4_settleBar_9 : decode cX4_settleBar 9 = .ok (.iconst 1, 1) := by decide +kernel
theorem dX4_settleBar_10 : decode cX4_settleBar 10 = .ok (.iand, 1) := by decide +kernel
theorem dX4_settleBar_11 : decode cX4_settleBar 11 = .ok (.ifCond .eq 29, 3) := by decide +kernel
theorem dX4_settleBar_14 : decode cX4_settleBar 14 = .ok (.aload_n 0, 1) := by decide +kernel
theorem dX4_settleBar_15 : decode cX4_settleBar 15 = .ok (.getfield 20, 3) := by decide +kernel
theorem dX4_settleBar_18 : decode cX4_settleBar 18 = .ok (.iconst 3, 1) := by decide +kernel
theorem dX4_settleBar_19 : decode cX4_settleBar 19 = .ok (.iconst 0, 1) := by decide +kernel
theorem dX4_settleBar_20 : decode cX4_settleBar 20 = .ok (.invokevirtual 150, 3) := by decide +kernel
theorem dX4_settleBar_23 : decode cX4_settleBar 23 = .ok (.aload_n 0, 1) := by decide +kernel
theorem dX4_settleBar_24 : decode cX4_settleBar 24 = .ok (.dup, 1) := by decide +kernel
theorem dX4_settleBar_25 : decode cX4_settleBar 25 = .ok (.getfield 42, 3) := by decide +kernel
theorem dX4_settleBar_28 : decode cX4_settleBar 28 = .ok (.iconst 1, 1) := by decide +kernel
theorem dX4_settleBar_29 : decode cX4_settleBar 29 = .ok (.aload_n 0, 1) := by decide +kernel
theorem dX4_settleBar_30 : decode cX4_settleBar 30 = .ok (.getfield 36, 3) := by decide +kernel
theorem dX4_settleBar_33 : decode cX4_settleBar 33 = .ok (.ishl, 1) := by decide +kernel
theorem dX4_settleBar_34 : decode cX4_settleBar 34 = .ok (.iconst (-1), 1) := by decide +kernel
theorem dX4_settleBar_35 : decode cX4_settleBar 35 = .ok (.ixor, 1) := by decide +kernel
theorem dX4_settleBar_36 : decode cX4_settleBar 36 = .ok (.iand, 1) := by decide +kernel
theorem dX4_settleBar_37 : decode cX4_settleBar 37 = .ok (.putfield 42, 3) := by decide +kernel
theorem dX4_settleBar_40 : decode cX4_settleBar 40 = .ok (.return_, 1) := by decide +kernel
def rmX4_settleBar : Room := { frames := 2, cells := 0, slots := 0, locals := 43 }
theorem zdX4_settleBar : yX4_settleBar.cls = RX4 ∧ yX4_settleBar.cls ≠ "java/lang/invoke/MethodHandle" ∧ yX4_settleBar.cls ≠ "java/lang/invoke/VarHandle" ∧ (parseMethodDescriptor yX4_settleBar.desc).map (fun d => d.parameters.length) = some 0 := by decide +kernel
theorem kiX4_settleBar_X4 : ∀ w ∈ wsX40, w ∈ wsX4_settleBar := fun _ h => (List.mem_cons_of_mem _ (List.mem_append_left _ (List.mem_append_right _ h)))
theorem kfX4_settleBar_42 : Cond.fieldLink RX4 42 "ShapeJudge$TextReader" "bars" "I" ∈ wsX4_settleBar := (List.mem_of_getElem? (i := 1) rfl)
theorem kfX4_settleBar_36 : Cond.fieldLink RX4 36 "ShapeJudge$TextReader" "depth" "I" ∈ wsX4_settleBar := (List.mem_of_getElem? (i := 2) rfl)
theorem kfX4_settleBar_20 : Cond.fieldLink RX4 20 "ShapeJudge$TextReader" "book" "LShapeJudge$Book;" ∈ wsX4_settleBar := (List.mem_of_getElem? (i := 3) rfl)
def s_X4_settleBar (m : Mem)  : Option (Mem) :=
  (if (((m 9 5) >>> ((m 9 3) &&& 31)) &&& 1) = 0 then (some m) else (zbk (m 9 1) fun b1 => (s_X0_addStep m b1 3 0).bind fun m3 => bn (sto m3 9 5 ((m3 9 5) &&& (((1 : Int32) <<< ((m3 9 3) &&& 31)) ^^^ (-1)))) fun m4 => some m4))
set_option maxRecDepth 100000 in
set_option maxHeartbeats 4000000 in
theorem c_X4_settleBar (l : Launch) (w : ZW) {m : Mem}  {m9 : Mem}  (hf : s_X4_settleBar m  = some m9) : zCv MX l w yX4_settleBar wsX4_settleBar rmX4_settleBar [.ref (w.2.1 9)] m m9 := by
  refine z_met_v MX_ok (own := RX4) (by decide +kernel) rfl rfl (Nat.le_of_ble_eq_true rfl) ?_
  intro K C hKw hKl hret
  subst hKw
  subst hKl
  unfold s_X4_settleBar at hf
  show zGo MX K m [(0, .ref ((zw K).2.1 9))] 0 []
  refine z_aload_n C 0 dX4_settleBar_0 rfl rfl ?_
  refine z_geti C (Nat.le_of_ble_eq_true rfl) rfl rfl 5 (Nat.le_of_ble_eq_true rfl) rfl kiX4_settleBar_X4 kfX4_settleBar_42 dX4_settleBar_1 ?_
  refine z_aload_n C 0 dX4_settleBar_4 rfl rfl ?_
  refine z_geti C (Nat.le_of_ble_eq_true rfl) rfl rfl 3 (Nat.le_of_ble_eq_true rfl) rfl kiX4_settleBar_X4 kfX4_settleBar_36 dX4_settleBar_5 ?_
  refine z_ishr C dX4_settleBar_8 ?_
  refine z_iconst C (v := 1) dX4_settleBar_9 rfl ?_
  refine z_iand C dX4_settleBar_10 ?_
  refine z_if_eq (tgt := 40) C dX4_settleBar_11 (by decide) (fun c5 => ?_) (fun c5 => ?_)
  · replace hf := if_t c5 hf
    cases hf
    exact hret _ _ dX4_settleBar_40
  · replace hf := if_f c5 hf
    refine z_aload_n C 0 dX4_settleBar_14 rfl rfl ?_
    obtain ⟨b1, hb1, e_b1, hf⟩ := zbk_el hf
    refine z_getb C (b := b1) (Nat.le_of_ble_eq_true rfl) rfl rfl 1 (Nat.le_of_ble_eq_true rfl) rfl kiX4_settleBar_X4 kfX4_settleBar_20 (isb_lt hb1) e_b1 dX4_settleBar_15 ?_
    refine z_iconst C (v := 3) dX4_settleBar_18 rfl ?_
    refine z_iconst C (v := 0) dX4_settleBar_19 rfl ?_
    obtain ⟨m3, hc2, hf⟩ := zb_el hf
    refine z_cVv C (c_X0_addStep _ _ hb1 hc2) rfl gX4_settleBar_X0_addStep rfl rfl zdX0_addStep rfl (isb_k0 hb1) (isb_L0 hb1) rfl rfl ⟨Nat.le_of_ble_eq_true rfl, Nat.le_of_ble_eq_true rfl⟩ (Nat.le_of_ble_eq_true rfl) dX4_settleBar_20 rfl ?_
    refine z_aload_n C 0 dX4_settleBar_23 rfl rfl ?_
    refine z_dup_a C dX4_settleBar_24 ?_
    refine z_geti C (Nat.le_of_ble_eq_true rfl) rfl rfl 5 (Nat.le_of_ble_eq_true rfl) rfl kiX4_settleBar_X4 kfX4_settleBar_42 dX4_settleBar_25 ?_
    refine z_iconst C (v := 1) dX4_settleBar_28 rfl ?_
    refine z_aload_n C 0 dX4_settleBar_29 rfl rfl ?_
    refine z_geti C (Nat.le_of_ble_eq_true rfl) rfl rfl 3 (Nat.le_of_ble_eq_true rfl) rfl kiX4_settleBar_X4 kfX4_settleBar_36 dX4_settleBar_30 ?_
    refine z_ishl C dX4_settleBar_33 ?_
    refine z_iconst C (v := (-1)) dX4_settleBar_34 (by decide) ?_
    refine z_ixor C dX4_settleBar_35 ?_
    refine z_iand C dX4_settleBar_36 ?_
    refine z_puti C (Nat.le_of_ble_eq_true rfl) rfl rfl 5 (Nat.le_of_ble_eq_true rfl) rfl kiX4_settleBar_X4 kfX4_settleBar_42 tyX4 tyX4_ok nmX4 rfl rfl dX4_settleBar_37 ?_
    refine z_nm (fun m4 e_m4 => ?_)
    replace hf := bn_to e_m4 hf
    cases hf
    exact hret _ _ dX4_settleBar_40
set_option maxRecDepth 20000 in
theorem ggX4_takeBehindItem_X4_fail : GoodIn wsX4_takeBehindItem wsX4_fail := goodIn_sub (List.forall_mem_cons.mpr ⟨(List.mem_of_getElem? (i := 11) rfl), (List.forall_mem_append.mpr ⟨(List.forall_mem_append.mpr ⟨(List.forall_mem_cons.mpr ⟨(List.mem_of_getElem? (i := 12) rfl), (List.forall_mem_cons.mpr ⟨(List.mem_of_getElem? (i := 1) rfl), (List.forall_mem_cons.mpr ⟨(List.mem_of_getElem? (i := 13) rfl), (List.forall_mem_cons.mpr ⟨(List.mem_of_getElem? (i := 14) rfl), (fun _ h => absurd h List.not_mem_nil)⟩)⟩)⟩)⟩), (fun _ h => (List.mem_cons_of_mem _ (List.mem_append_left _ (List.mem_append_left _ (List.mem_append_right _ h)))))⟩), (fun _ h => (List.mem_cons_of_mem _ (List.mem_append_left _ (List.mem_append_right _ h))))⟩)⟩) (by decide +kernel)
set_option maxRecDepth 20000 in
theorem gX4_takeBehindItem_X4_fail : GoodIn wsX4_takeBehindItem (wsV RX4 57 RX4 yX4_fail wsX4_fail) := goodIn_app (goodIn_sub (List.forall_mem_cons.mpr ⟨(List.mem_of_getElem? (i := 7) rfl), (List.forall_mem_cons.mpr ⟨(List.mem_of_getElem? (i := 8) rfl), (List.forall_mem_cons.mpr ⟨(List.mem_of_getElem? (i := 9) rfl), (List.forall_mem_cons.mpr ⟨(List.mem_of_getElem? (i := 10) rfl), (fun _ h => absurd h List.not_mem_nil)⟩)⟩)⟩)⟩) (by decide +kernel)) ggX4_takeBehindItem_X4_fail
set_option maxRecDepth 20000 in
theorem ggX4_takeBehindItem_X4_settleComma : GoodIn wsX4_takeBehindItem wsX4_settleComma := goodIn_sub (List.forall_mem_cons.mpr ⟨(List.mem_of_getElem? (i := 18) rfl), (List.forall_mem_append.mpr ⟨(List.forall_mem_append.mpr ⟨(List.forall_mem_cons.mpr ⟨(List.mem_of_getElem? (i := 4) rfl), (List.forall_mem_cons.mpr ⟨(List.mem_of_getElem? (i := 3) rfl), (List.forall_mem_cons.mpr ⟨(List.mem_of_getElem? (i := 19) rfl), (List.forall_mem_cons.mpr ⟨(List.mem_of_getElem? (i := 20) rfl), (List.forall_mem_cons.mpr ⟨(List.mem_of_getElem? (i := 21) rfl), (List.forall_mem_cons.mpr ⟨(List.mem_of_getElem? (i := 22) rfl), (List.forall_mem_cons.mpr ⟨(List.mem_of_getElem? (i := 23) rfl), (List.forall_mem_cons.mpr ⟨(List.mem_of_getElem? (i := 24) rfl), (List.forall_mem_cons.mpr ⟨(List.mem_of_getElem? (i := 25) rfl), (List.forall_mem_cons.mpr ⟨(List.mem_of_getElem? (i := 26) rfl), (List.forall_mem_cons.mpr ⟨(List.mem_of_getElem? (i := 27) rfl), (List.forall_mem_cons.mpr ⟨(List.mem_of_getElem? (i := 28) rfl), (List.forall_mem_cons.mpr ⟨(List.mem_of_getElem? (i := 29) rfl), (List.forall_mem_cons.mpr ⟨(List.mem_of_getElem? (i := 30) rfl), (List.forall_mem_cons.mpr ⟨(List.mem_of_getElem? (i := 31) rfl), (List.forall_mem_cons.mpr ⟨(List.mem_of_getElem? (i := 32) rfl), (fun _ h => absurd h List.not_mem_nil)⟩)⟩)⟩)⟩)⟩)⟩)⟩)⟩)⟩)⟩)⟩)⟩)⟩)⟩)⟩)⟩), (fun _ h => (List.mem_cons_of_mem _ (List.mem_append_left _ (List.mem_append_left _ (List.mem_append_right _ h)))))⟩), (fun _ h => (List.mem_cons_of_mem _ (List.mem_append_right _ h)))⟩)⟩) (by decide +kernel)
set_option maxRecDepth 20000 in
theorem gX4_takeBehindItem_X4_settleComma : GoodIn wsX4_takeBehindItem (wsV RX4 153 RX4 yX4_settleComma wsX4_settleComma) := goodIn_app (goodIn_sub (List.forall_mem_cons.mpr ⟨(List.mem_of_getElem? (i := 15) rfl), (List.forall_mem_cons.mpr ⟨(List.mem_of_getElem? (i := 16) rfl), (List.forall_mem_cons.mpr ⟨(List.mem_of_getElem? (i := 17) rfl), (List.forall_mem_cons.mpr ⟨(List.mem_of_getElem? (i := 10) rfl), (fun _ h => absurd h List.not_mem_nil)⟩)⟩)⟩)⟩) (by decide +kernel)) ggX4_takeBehindItem_X4_settleComma
set_option maxRecDepth 20000 in
theorem ggX4_takeBehindItem_X4_settleBar : GoodIn wsX4_takeBehindItem wsX4_settleBar := goodIn_sub (List.forall_mem_cons.mpr ⟨(List.mem_of_getElem? (i := 36) rfl), (List.forall_mem_append.mpr ⟨(List.forall_mem_append.mpr ⟨(List.forall_mem_cons.mpr ⟨(List.mem_of_getElem? (i := 6) rfl), (List.forall_mem_cons.mpr ⟨(List.mem_of_getElem? (i := 3) rfl), (List.forall_mem_cons.mpr ⟨(List.mem_of_getElem? (i := 19) rfl), (List.forall_mem_cons.mpr ⟨(List.mem_of_getElem? (i := 20) rfl), (List.forall_mem_cons.mpr ⟨(List.mem_of_getElem? (i := 21) rfl), (List.forall_mem_cons.mpr ⟨(List.mem_of_getElem? (i := 22) rfl), (List.forall_mem_cons.mpr ⟨(List.mem_of_getElem? (i := 23) rfl), (List.forall_mem_cons.mpr ⟨(List.mem_of_getElem? (i := 24) rfl), (List.forall_mem_cons.mpr ⟨(List.mem_of_getElem? (i := 25) rfl), (List.forall_mem_cons.mpr ⟨(List.mem_of_getElem? (i := 26) rfl), (List.forall_mem_cons.mpr ⟨(List.mem_of_getElem? (i := 27) rfl), (List.forall_mem_cons.mpr ⟨(List.mem_of_getElem? (i := 28) rfl), (List.forall_mem_cons.mpr ⟨(List.mem_of_getElem? (i := 29) rfl), (List.forall_mem_cons.mpr ⟨(List.mem_of_getElem? (i := 30) rfl), (List.forall_mem_cons.mpr ⟨(List.mem_of_getElem? (i := 31) rfl), (List.forall_mem_cons.mpr ⟨(List.mem_of_getElem? (i := 32) rfl), (fun _ h => absurd h List.not_mem_nil)⟩)⟩)⟩)⟩)⟩)⟩)⟩)⟩)⟩)⟩)⟩)⟩)⟩)⟩)⟩)⟩), (fun _ h => (List.mem_cons_of_mem _ (List.mem_append_left _ (List.mem_append_left _ (List.mem_append_right _ h)))))⟩), (fun _ h => (List.mem_cons_of_mem _ (List.mem_append_right _ h)))⟩)⟩) (by decide +kernel)
set_option maxRecDepth 20000 in
theorem gX4_takeBehindItem_X4_settleBar : GoodIn wsX4_takeBehindItem (wsV RX4 156 RX4 yX4_settleBar wsX4_settleBar) := goodIn_app (goodIn_sub (List.forall_mem_cons.mpr ⟨(List.mem_of_getElem? (i := 33) rfl), (List.forall_mem_cons.mpr ⟨(List.mem_of_getElem? (i := 34) rfl), (List.forall_mem_cons.mpr ⟨(List.mem_of_getElem? (i := 35) rfl), (List.forall_mem_cons.mpr ⟨(List.mem_of_getElem? (i := 10) rfl), (fun _ h => absurd h List.not_mem_nil)⟩)⟩)⟩)⟩) (by decide +kernel)) ggX4_takeBehindItem_X4_settleBar
set_option maxRecDepth 20000 in
theorem ggX4_takeBehindItem_X4_takeShapeEnd : GoodIn wsX4_takeBehindItem wsX4_takeShapeEnd := goodIn_sub (List.forall_mem_cons.mpr ⟨(List.mem_of_getElem? (i := 40) rfl), (List.forall_mem_append.mpr ⟨(List.forall_mem_append.mpr ⟨(List.forall_mem_append.mpr ⟨(List.forall_mem_append.mpr ⟨(show ∀ w ∈ wsX4_takeShapeEnd_r1, w ∈ wsX4_takeBehindItem from (List.forall_mem_cons.mpr ⟨(List.mem_of_getElem? (i := 1) rfl), (List.forall_mem_cons.mpr ⟨(List.mem_of_getElem? (i := 2) rfl), (List.forall_mem_cons.mpr ⟨(List.mem_of_getElem? (i := 19) rfl), (List.forall_mem_cons.mpr ⟨(List.mem_of_getElem? (i := 5) rfl), (List.forall_mem_cons.mpr ⟨(List.mem_of_getElem? (i := 41) rfl), (List.forall_mem_cons.mpr ⟨(List.mem_of_getElem? (i := 42) rfl), (List.forall_mem_cons.mpr ⟨(List.mem_of_getElem? (i := 43) rfl), (List.forall_mem_cons.mpr ⟨(List.mem_of_getElem? (i := 23) rfl), (List.forall_mem_cons.mpr ⟨(List.mem_of_getElem? (i := 44) rfl), (List.forall_mem_cons.mpr ⟨(List.mem_of_getElem? (i := 27) rfl), (List.forall_mem_cons.mpr ⟨(List.mem_of_getElem? (i := 45) rfl), (List.forall_mem_cons.mpr ⟨(List.mem_of_getElem? (i := 29) rfl), (List.forall_mem_cons.mpr ⟨(List.mem_of_getElem? (i := 30) rfl), (List.forall_mem_cons.mpr ⟨(List.mem_of_getElem? (i := 31) rfl), (List.forall_mem_cons.mpr ⟨(List.mem_of_getElem? (i := 32) rfl), (List.forall_mem_cons.mpr ⟨(List.mem_of_getElem? (i := 46) rfl), (List.forall_mem_cons.mpr ⟨(List.mem_of_getElem? (i := 47) rfl), (List.forall_mem_cons.mpr ⟨(List.mem_of_getElem? (i := 48) rfl), (List.forall_mem_cons.mpr ⟨(List.mem_of_getElem? (i := 10) rfl), (List.forall_mem_cons.mpr ⟨(List.mem_of_getElem? (i := 49) rfl), (List.forall_mem_cons.mpr ⟨(List.mem_of_getElem? (i := 7) rfl), (List.forall_mem_cons.mpr ⟨(List.mem_of_getElem? (i := 8) rfl), (List.forall_mem_cons.mpr ⟨(List.mem_of_getElem? (i := 9) rfl), (List.forall_mem_cons.mpr ⟨(List.mem_of_getElem? (i := 11) rfl), (fun _ h => absurd h List.not_mem_nil)⟩)⟩)⟩)⟩)⟩)⟩)⟩)⟩)⟩)⟩)⟩)⟩)⟩)⟩)⟩)⟩)⟩)⟩)⟩)⟩)⟩)⟩)⟩)⟩)), (show ∀ w ∈ wsX4_takeShapeEnd_r2, w ∈ wsX4_takeBehindItem from (List.forall_mem_cons.mpr ⟨(List.mem_of_getElem? (i := 12) rfl), (List.forall_mem_cons.mpr ⟨(List.mem_of_getElem? (i := 13) rfl), (List.forall_mem_cons.mpr ⟨(List.mem_of_getElem? (i := 14) rfl), (fun _ h => absurd h List.not_mem_nil)⟩)⟩)⟩))⟩), (fun _ h => (List.mem_cons_of_mem _ (List.mem_append_left _ (List.mem_append_left _ (List.mem_append_right _ h)))))⟩), (fun _ h => (List.mem_cons_of_mem _ (List.mem_append_left _ (List.mem_append_right _ h))))⟩), (fun _ h => (List.mem_cons_of_mem _ (List.mem_append_right _ h)))⟩)⟩) (by decide +kernel)
set_option maxRecDepth 20000 in
theorem gX4_takeBehindItem_X4_takeShapeEnd : GoodIn wsX4_takeBehindItem (wsV RX4 117 RX4 yX4_takeShapeEnd wsX4_takeShapeEnd) := goodIn_app (goodIn_sub (List.forall_mem_cons.mpr ⟨(List.mem_of_getElem? (i := 37) rfl), (List.forall_mem_cons.mpr ⟨(List.mem_of_getElem? (i := 38) rfl), (List.forall_mem_cons.mpr ⟨(List.mem_of_getElem? (i := 39) rfl), (List.forall_mem_cons.mpr ⟨(List.mem_of_getElem? (i := 10) rfl), (fun _ h => absurd h List.not_mem_nil)⟩)⟩)⟩)⟩) (by decide +kernel)) ggX4_takeBehindItem_X4_takeShapeEnd
set_option maxRecDepth 100000 in
theorem daX4_takeBehindItem : ∀ q ∈ ([(0, .aload_n 0, 1), (1, .getfield 14, 3), (4, .getfield 54, 3), (7, .istore_n 1, 1), (8, .aload_n 0, 1), (9, .getfield 36, 3), (12, .ifCond .le 17, 3), (15, .iload_n 1, 1), (16, .bipush 41, 2), (18, .if_icmp .ne 7, 3), (21, .iconst 1, 1), (22, .goto 23, 3), (25, .iconst 0, 1), (26, .goto 19, 3), (29, .iload_n 1, 1), (30, .bipush 59, 2), (32, .if_icmp .eq 8, 3), (35, .iload_n 1, 1), (36, .iconst 4, 1), (37, .if_icmp .ne 7, 3), (40, .iconst 1, 1), (41, .goto 4, 3), (44, .iconst 0, 1), (45, .istore_n 2, 1), (46, .iload_n 1, 1), (47, .bipush 44, 2), (49, .if_icmp .eq 19, 3), (52, .iload_n 1, 1), (53, .bipush 124, 2), (55, .if_icmp .eq 13, 3), (58, .iload_n 2, 1), (59, .ifCond .ne 9, 3), (62, .aload_n 0, 1), (63, .iconst 2, 1), (64, .invokevirtual 57, 3), (67, .return_, 1), (68, .aload_n 0, 1), (69, .invokevirtual 153, 3), (72, .iload_n 1, 1), (73, .bipush 44, 2), (75, .if_icmp .ne 24, 3), (78, .aload_n 0, 1), (79, .dup, 1), (80, .getfield 39, 3), (83, .iconst 1, 1), (84, .aload_n 0, 1), (85, .getfield 36, 3), (88, .ishl, 1), (89, .ior, 1), (90, .putfield 39, 3), (93, .aload_n 0, 1), (94, .iconst 3, 1), (95, .putfield 32, 3), (98, .return_, 1), (99, .aload_n 0, 1), (100, .invokevirtual 156, 3), (103, .iload_n 1, 1), (104, .bipush 124, 2), (106, .if_icmp .ne 26, 3), (109, .aload_n 0, 1), (110, .dup, 1), (111, .getfield 42, 3), (114, .iconst 1, 1), (115, .aload_n 0, 1), (116, .getfield 36, 3), (119, .ishl, 1), (120, .ior, 1), (121, .putfield 42, 3), (124, .aload_n 0, 1), (125, .iconst 3, 1), (126, .putfield 32, 3), (129, .goto 32, 3), (132, .iload_n 1, 1), (133, .bipush 41, 2), (135, .if_icmp .ne 22, 3), (138, .aload_n 0, 1), (139, .dup, 1), (140, .getfield 36, 3), (143, .iconst 1, 1), (144, .isub, 1), (145, .putfield 36, 3), (148, .aload_n 0, 1), (149, .bipush 8, 2), (151, .putfield 32, 3), (154, .goto 7, 3), (157, .aload_n 0, 1), (158, .invokevirtual 117, 3), (161, .return_, 1)] : List (Nat × Instr × Nat)), decode cX4_takeBehindItem q.1 = .ok q.2 := by decide +kernel
theorem dX4_takeBehindItem_0 : decode cX4_takeBehindItem 0 = .ok (.aload_n 0, 1) := daX4_takeBehindItem (0, .aload_n 0, 1) (List.mem_of_getElem? (i := 0) rfl)
theorem dX4_takeBehindItem_1 : decode cX4_takeBehindItem 1 = .ok (.getfield 14, 3) := daX4_takeBehindItem (1, .getfield 14, 3) (List.mem_of_getElem? (i := 1) rfl)
theorem dX4_takeBehindItem_4 : decode cX4_takeBehindItem 4 = .ok (.getfield 54, 3) := daX4_takeBehindItem (4, .getfield 54, 3) (List.mem_of_getElem? (i := 2) rfl)
theorem dX4_takeBehindItem_7 : decode cX4_takeBehindItem 7 = .ok (.istore_n 1, 1) := daX4_takeBehindItem (7, .istore_n 1, 1) (List.mem_of_getElem? (i := 3) rfl)
theorem dX4_takeBehindItem_8 : decode cX4_takeBehindItem 8 = .ok (.aload_n 0, 1) := daX4_takeBehindItem (8, .aload_n 0, 1) (List.mem_of_getElem? (i := 4) rfl)
theorem dX4_takeBehindItem_9 : decode cX4_takeBehindItem 9 = .ok (.getfield 36, 3) := daX4_takeBehindItem (9, .getfield 36, 3) (List.mem_of_getElem? (i := 5) rfl)
theorem dX4_takeBehindItem_12 : decode cX4_takeBehindItem 12 = .ok (.ifCond .le 17, 3) := daX4_takeBehindItem (12, .ifCond .le 17, 3) (List.mem_of_getElem? (i := 6) rfl)
theorem dX4_takeBehindItem_15 : decode cX4_takeBehindItem 15 = .ok (.iload_n 1, 1) := daX4_takeBehindItem (15, .iload_n 1, 1) (List.mem_of_getElem? (i := 7) rfl)
theorem dX4_takeBehindItem_16 : decode cX4_takeBehindItem 16 = .ok (.bipush 41, 2) := daX4_takeBehindItem (16, .bipush 41, 2) (List.mem_of_getElem? (i := 8) rfl)
theorem dX4_takeBehindItem_18 : decode cX4_takeBehindItem 18 = .ok (.if_icmp .ne 7, 3) := daX4_takeBehindItem (18, .if_icmp .ne 7, 3) (List.mem_of_getElem? (i := 9) rfl)
theorem dX4_takeBehindItem_21 : decode cX4_takeBehindItem 21 = .ok (.iconst 1, 1) := daX4_takeBehindItem (21, .iconst 1, 1) (List.mem_of_getElem? (i := 10) rfl)
theorem dX4_takeBehindItem_22 : decode cX4_takeBehindItem 22 = .ok (.goto 23, 3) := daX4_takeBehindItem (22, .goto 23, 3) (List.mem_of_getElem? (i := 11) rfl)
theorem dX4_takeBehindItem_25 : decode cX4_takeBehindItem 25 = .ok (.iconst 0, 1) := daX4_takeBehindItem (25, .iconst 0, 1) (List.mem_of_getElem? (i := 12) rfl)
theorem dX4_takeBehindItem_26 : decode cX4_takeBehindItem 26 = .ok (.goto 19, 3) := daX4_takeBehindItem (26, .goto 19, 3) (List.mem_of_getElem? (i := 13) rfl)
theorem dX4_takeBehindItem_29 : decode cX4_takeBehindItem 29 = .ok (.iload_n 1, 1) := daX4_takeBehindItem (29, .iload_n 1, 1) (List.mem_of_getElem? (i := 14) rfl)
theorem dX4_takeBehindItem_30 : decode cX4_takeBehindItem 30 = .ok (.bipush 59, 2) := daX4_takeBehindItem (30, .bipush 59, 2) (List.mem_of_getElem? (i := 15) rfl)
theorem dX4_takeBehindItem_32 : decode cX4_takeBehindItem 32 = .ok (.if_icmp .eq 8, 3) := daX4_takeBehindItem (32, .if_icmp .eq 8, 3) (List.mem_of_getElem? (i := 16) rfl)
theorem dX4_takeBehindItem_35 : decode cX4_takeBehindItem 35 = .ok (.iload_n 1, 1) := daX4_takeBehindItem (35, .iload_n 1, 1) (List.mem_of_getElem? (i := 17) rfl)
theorem dX4_takeBehindItem_36 : decode cX4_takeBehindItem 36 = .ok (.iconst 4, 1) := daX4_takeBehindItem (36, .iconst 4, 1) (List.mem_of_getElem? (i := 18) rfl)
theorem dX4_takeBehindItem_37 : decode cX4_takeBehindItem 37 = .ok (.if_icmp .ne 7, 3) := daX4_takeBehindItem (37, .if_icmp .ne 7, 3) (List.mem_of_getElem? (i := 19) rfl)
theorem dX4_takeBehindItem_40 : decode cX4_takeBehindItem 40 = .ok (.iconst 1, 1) := daX4_takeBehindItem (40, .iconst 1, 1) (List.mem_of_getElem? (i := 20) rfl)
theorem dX4_takeBehindItem_41 : decode cX4_takeBehindItem 41 = .ok (.goto 4, 3) := daX4_takeBehindItem (41, .goto 4, 3) (List.mem_of_getElem? (i := 21) rfl)
theorem dX4_takeBehindItem_44 : decode cX4_takeBehindItem 44 = .ok (.iconst 0, 1) := daX4_takeBehindItem (44, .iconst 0, 1) (List.mem_of_getElem? (i := 22) rfl)
theorem dX4_takeBehindItem_45 : decode cX4_takeBehindItem 45 = .ok (.istore_n 2, 1) := daX4_takeBehindItem (45, .istore_n 2, 1) (List.mem_of_getElem? (i := 23) rfl)
theorem dX4_takeBehindItem_46 : decode cX4_takeBehindItem 46 = .ok (.iload_n 1, 1) := daX4_takeBehindItem (46, .iload_n 1, 1) (List.mem_of_getElem? (i := 24) rfl)
theorem dX4_takeBehindItem_47 : decode cX4_takeBehindItem 47 = .ok (.bipush 44, 2) := daX4_takeBehindItem (47, .bipush 44, 2) (List.mem_of_getElem? (i := 25) rfl)
theorem dX4_takeBehindItem_49 : decode cX4_takeBehindItem 49 = .ok (.if_icmp .eq 19, 3) := daX4_takeBehindItem (49, .if_icmp .eq 19, 3) (List.mem_of_getElem? (i := 26) rfl)
theorem dX4_takeBehindItem_52 : decode cX4_takeBehindItem 52 = .ok (.iload_n 1, 1) := daX4_takeBehindItem (52, .iload_n 1, 1) (List.mem_of_getElem? (i := 27) rfl)
theorem dX4_takeBehindItem_53 : decode cX4_takeBehindItem 53 = .ok (.bipush 124, 2) := daX4_takeBehindItem (53, .bipush 124, 2) (List.mem_of_getElem? (i := 28) rfl)
theorem dX4_takeBehindItem_55 : decode cX4_takeBehindItem 55 = .ok (.if_icmp .eq 13, 3) := daX4_takeBehindItem (55, .if_icmp .eq 13, 3) (List.mem_of_getElem? (i := 29) rfl)
theorem dX4_takeBehindItem_58 : decode cX4_takeBehindItem 58 = .ok (.iload_n 2, 1) := daX4_takeBehindItem (58, .iload_n 2, 1) (List.mem_of_getElem? (i := 30) rfl)
theorem dX4_takeBehindItem_59 : decode cX4_takeBehindItem 59 = .ok (.ifCond .ne 9, 3) := daX4_takeBehindItem (59, .ifCond .ne 9, 3) (List.mem_of_getElem? (i := 31) rfl)
theorem dX4_takeBehindItem_62 : decode cX4_takeBehindItem 62 = .ok (.aload_n 0, 1) := daX4_takeBehindItem (62, .aload_n 0, 1) (List.mem_of_getElem? (i := 32) rfl)
theorem dX4_takeBehindItem_63 : decode cX4_takeBehindItem 63 = .ok (.iconst 2, 1) := daX4_takeBehindItem (63, .iconst 2, 1) (List.mem_of_getElem? (i := 33) rfl)
theorem dX4_takeBehindItem_64 : decode cX4_takeBehindItem 64 = .ok (.invokevirtual 57, 3) := daX4_takeBehindItem (64, .invokevirtual 57, 3) (List.mem_of_getElem? (i := 34) rfl)
theorem dX4_takeBehindItem_67 : decode cX4_takeBehindItem 67 = .ok (.return_, 1) := daX4_takeBehindItem (67, .return_, 1) (List.mem_of_getElem? (i := 35) rfl)
theorem dX4_takeBehindItem_68 : decode cX4_takeBehindItem 68 = .ok (.aload_n 0, 1) := daX4_takeBehindItem (68, .aload_n 0, 1) (List.mem_of_getElem? (i := 36) rfl)
theorem dX4_takeBehindItem_69 : decode cX4_takeBehindItem 69 = .ok (.invokevirtual 153, 3) := daX4_takeBehindItem (69, .invokevirtual 153, 3) (List.mem_of_getElem? (i := 37) rfl)
theorem dX4_takeBehindItem_72 : decode cX4_takeBehindItem 72 = .ok (.iload_n 1, 1) := daX4_takeBehindItem (72, .iload_n 1, 1) (List.mem_of_getElem? (i := 38) rfl)
theorem dX4_takeBehindItem_73 : decode cX4_takeBehindItem 73 = .ok (.bipush 44, 2) := daX4_takeBehindItem (73, .bipush 44, 2) (List.mem_of_getElem? (i := 39) rfl)
theorem dX4_takeBehindItem_75 : decode cX4_takeBehindItem 75 = .ok (.if_icmp .ne 24, 3) := daX4_takeBehindItem (75, .if_icmp .ne 24, 3) (List.mem_of_getElem? (i := 40) rfl)
theorem dX4_takeBehindItem_78 : decode cX4_takeBehindItem 78 = .ok (.aload_n 0, 1) := daX4_takeBehindItem (78, .aload_n 0, 1) (List.mem_of_getElem? (i := 41) rfl)
theorem dX4_takeBehindItem_79 : decode cX4_takeBehindItem 79 = .ok (.dup, 1) := daX4_takeBehindItem (79, .dup, 1) (List.mem_of_getElem? (i := 42) rfl)
theorem dX4_takeBehindItem_80 : decode cX4_takeBehindItem 80 = .ok (.getfield 39, 3) := daX4_takeBehindItem (80, .getfield 39, 3) (List.mem_of_getElem? (i := 43) rfl)
theorem dX4_takeBehindItem_83 : decode cX4_takeBehindItem 83 = .ok (.iconst 1, 1) := daX4_takeBehindItem (83, .iconst 1, 1) (List.mem_of_getElem? (i := 44) rfl)
theorem dX4_takeBehindItem_84 : decode cX4_takeBehindItem 84 = .ok (.aload_n 0, 1) := daX4_takeBehindItem (84, .aload_n 0, 1) (List.mem_of_getElem? (i := 45) rfl)
theorem dX4_takeBehindItem_85 : decode cX4_takeBehindItem 85 = .ok (.getfield 36, 3) := daX4_takeBehindItem (85, .getfield 36, 3) (List.mem_of_getElem? (i := 46) rfl)
theorem dX4_takeBehindItem_88 : decode cX4_takeBehindItem 88 = .ok (.ishl, 1) := daX4_takeBehindItem (88, .ishl, 1) (List.mem_of_getElem? (i := 47) rfl)
theorem dX4_takeBehindItem_89 : decode cX4_takeBehindItem 89 = .ok (.ior, 1) := daX4_takeBehindItem (89, .ior, 1) (List.mem_of_getElem? (i := 48) rfl)
theorem dX4_takeBehindItem_90 : decode cX4_takeBehindItem 90 = .ok (.putfield 39, 3) := daX4_takeBehindItem (90, .putfield 39, 3) (List.mem_of_getElem? (i := 49) rfl)
theorem dX4_takeBehindItem_93 : decode cX4_takeBehindItem 93 = .ok (.aload_n 0, 1) := daX4_takeBehindItem (93, .aload_n 0, 1) (List.mem_of_getElem? (i := 50) rfl)
theorem dX4_takeBehindItem_94 : decode cX4_takeBehindItem 94 = .ok (.iconst 3, 1) := daX4_takeBehindItem (94, .iconst 3, 1) (List.mem_of_getElem? (i := 51) rfl)
theorem dX4_takeBehindItem_95 : decode cX4_takeBehindItem 95 = .ok (.putfield 32, 3) := daX4_takeBehindItem (95, .putfield 32, 3) (List.mem_of_getElem? (i := 52) rfl)
theorem dX4_takeBehindItem_98 : decode cX4_takeBehindItem 98 = .ok (.return_, 1) := daX4_takeBehindItem (98, .return_, 1) (List.mem_of_getElem? (i := 53) rfl)
theorem dX4_takeBehindItem_99 : decode cX4_takeBehindItem 99 = .ok (.aload_n 0, 1) := daX4_takeBehindItem (99, .aload_n 0, 1) (List.mem_of_getElem? (i := 54) rfl)
theorem dX4_takeBehindItem_100 : decode cX4_takeBehindItem 100 = .ok (.invokevirtual 156, 3) := daX4_takeBehindItem (100, .invokevirtual 156, 3) (List.mem_of_getElem? (i := 55) rfl)
theorem dX4_takeBehindItem_103 : decode cX4_takeBehindItem 103 = .ok (.iload_n 1, 1) := daX4_takeBehindItem (103, .iload_n 1, 1) (List.mem_of_getElem? (i := 56) rfl)
theorem dX4_takeBehindItem_104 : decode cX4_takeBehindItem 104 = .ok (.bipush 124, 2) := daX4_takeBehindItem (104, .bipush 124, 2) (List.mem_of_getElem? (i := 57) rfl)
theorem dX4_takeBehindItem_106 : decode cX4_takeBehindItem 106 = .ok (.if_icmp .ne 26, 3) := daX4_takeBehindItem (106, .if_icmp .ne 26, 3) (List.mem_of_getElem? (i := 58) rfl)
theorem dX4_takeBehindItem_109 : decode cX4_takeBehindItem 109 = .ok (.aload_n 0, 1) := daX4_takeBehindItem (109, .aload_n 0, 1) (List.mem_of_getElem? (i := 59) rfl)
theorem dX4_takeBehindItem_110 : decode cX4_takeBehindItem 110 = .ok (.dup, 1) := daX4_takeBehindItem (110, .dup, 1) (List.mem_of_getElem? (i := 60) rfl)
theorem dX4_takeBehindItem_111 : decode cX4_takeBehindItem 111 = .ok (.getfield 42, 3) := daX4_takeBehindItem (111, .getfield 42, 3) (List.mem_of_getElem? (i := 61) rfl)
theorem dX4_takeBehindItem_114 : decode cX4_takeBehindItem 114 = .ok (.iconst 1, 1) := daX4_takeBehindItem (114, .iconst 1, 1) (List.mem_of_getElem? (i := 62) rfl)
theorem dX4_takeBehindItem_115 : decode cX4_takeBehindItem 115 = .ok (.aload_n 0, 1) := daX4_takeBehindItem (115, .aload_n 0, 1) (List.mem_of_getElem? (i := 63) rfl)
theorem dX4_takeBehindItem_116 : decode cX4_takeBehindItem 116 = .ok (.getfield 36, 3) := daX4_takeBehindItem (116, .getfield 36, 3) (List.mem_of_getElem? (i := 64) rfl)
theorem dX4_takeBehindItem_119 : decode cX4_takeBehindItem 119 = .ok (.ishl, 1) := daX4_takeBehindItem (119, .ishl, 1) (List.mem_of_getElem? (i := 65) rfl)
theorem dX4_takeBehindItem_120 : decode cX4_takeBehindItem 120 = .ok (.ior, 1) := daX4_takeBehindItem (120, .ior, 1) (List.mem_of_getElem? (i := 66) rfl)
theorem dX4_takeBehindItem_121 : decode cX4_takeBehindItem 121 = .ok (.putfield 42, 3) := daX4_takeBehindItem (121, .putfield 42, 3) (List.mem_of_getElem? (i := 67) rfl)
theorem dX4_takeBehindItem_124 : decode cX4_takeBehindItem 124 = .ok (.aload_n 0, 1) := daX4_takeBehindItem (124, .aload_n 0, 1) (List.mem_of_getElem? (i := 68) rfl)
theorem dX4_takeBehindItem_125 : decode cX4_takeBehindItem 125 = .ok (.iconst 3, 1) := daX4_takeBehindItem (125, .iconst 3, 1) (List.mem_of_getElem? (i := 69) rfl)
theorem dX4_takeBehindItem_126 : decode cX4_takeBehindItem 126 = .ok (.putfield 32, 3) := daX4_takeBehindItem (126, .putfield 32, 3) (List.mem_of_getElem? (i := 70) rfl)
theorem dX4_takeBehindItem_129 : decode cX4_takeBehindItem 129 = .ok (.goto 32, 3) := daX4_takeBehindItem (129, .goto 32, 3) (List.mem_of_getElem? (i := 71) rfl)
theorem dX4_takeBehindItem_132 : decode cX4_takeBehindItem 132 = .ok (.iload_n 1, 1) := daX4_takeBehindItem (132, .iload_n 1, 1) (List.mem_of_getElem? (i := 72) rfl)
theorem dX4_takeBehindItem_133 : decode cX4_takeBehindItem 133 = .ok (.bipush 41, 2) := daX4_takeBehindItem (133, .bipush 41, 2) (List.mem_of_getElem? (i := 73) rfl)
theorem dX4_takeBehindItem_135 : decode cX4_takeBehindItem 135 = .ok (.if_icmp .ne 22, 3) := daX4_takeBehindItem (135, .if_icmp .ne 22, 3) (List.mem_of_getElem? (i := 74) rfl)
theorem dX4_takeBehindItem_138 : decode cX4_takeBehindItem 138 = .ok (.aload_n 0, 1) := daX4_takeBehindItem (138, .aload_n 0, 1) (List.mem_of_getElem? (i := 75) rfl)
theorem dX4_takeBehindItem_139 : decode cX4_takeBehindItem 139 = .ok (.dup, 1) := daX4_takeBehindItem (139, .dup, 1) (List.mem_of_getElem? (i := 76) rfl)
theorem dX4_takeBehindItem_140 : decode cX4_takeBehindItem 140 = .ok (.getfield 36, 3) := daX4_takeBehindItem (140, .getfield 36, 3) (List.mem_of_getElem? (i := 77) rfl)
theorem dX4_takeBehindItem_143 : decode cX4_takeBehindItem 143 = .ok (.iconst 1, 1) := daX4_takeBehindItem (143, .iconst 1, 1) (List.mem_of_getElem? (i := 78) rfl)
theorem dX4_takeBehindItem_144 : decode cX4_takeBehindItem 144 = .ok (.isub, 1) := daX4_takeBehindItem (144, .isub, 1) (List.mem_of_getElem? (i := 79) rfl)
theorem dX4_takeBehindItem_145 : decode cX4_takeBehindItem 145 = .ok (.putfield 36, 3) := daX4_takeBehindItem (145, .putfield 36, 3) (List.mem_of_getElem? (i := 80) rfl)
theorem dX4_takeBehindItem_148 : decode cX4_takeBehindItem 148 = .ok (.aload_n 0, 1) := daX4_takeBehindItem (148, .aload_n 0, 1) (List.mem_of_getElem? (i := 81) rfl)
theorem dX4_takeBehindItem_149 : decode cX4_takeBehindItem 149 = .ok (.bipush 8, 2) := daX4_takeBehindItem (149, .bipush 8, 2) (List.mem_of_getElem? (i := 82) rfl)
theorem dX4_takeBehindItem_151 : decode cX4_takeBehindItem 151 = .ok (.putfield 32, 3) := daX4_takeBehindItem (151, .putfield 32, 3) (List.mem_of_getElem? (i := 83) rfl)
theorem dX4_takeBehindItem_154 : decode cX4_takeBehindItem 154 = .ok (.goto 7, 3) := daX4_takeBehindItem (154, .goto 7, 3) (List.mem_of_getElem? (i := 84) rfl)
theorem dX4_takeBehindItem_157 : decode cX4_takeBehindItem 157 = .ok (.aload_n 0, 1) := daX4_takeBehindItem (157, .aload_n 0, 1) (List.mem_of_getElem? (i := 85) rfl)
theorem dX4_takeBehindItem_158 : decode cX4_takeBehindItem 158 = .ok (.invokevirtual 117, 3) := daX4_takeBehindItem (158, .invokevirtual 117, 3) (List.mem_of_getElem? (i := 86) rfl)
theorem dX4_takeBehindItem_161 : decode cX4_takeBehindItem 161 = .ok (.return_, 1) := daX4_takeBehindItem (161, .return_, 1) (List.mem_of_getElem? (i := 87) rfl)
def rmX4_takeBehindItem : Room := { frames := 3, cells := 0, slots := 0, locals := 63 }
theorem zdX4_takeBehindItem : yX4_takeBehindItem.cls = RX4 ∧ yX4_takeBehindItem.cls ≠ "java/lang/invoke/MethodHandle" ∧ yX4_takeBehindItem.cls ≠ "java/lang/invoke/VarHandle" ∧ (parseMethodDescriptor yX4_takeBehindItem.desc).map (fun d => d.parameters.length) = some 0 := by decide +kernel
theorem kiX4_takeBehindItem_X4 : ∀ w ∈ wsX40, w ∈ wsX4_takeBehindItem := fun _ h => (List.mem_cons_of_mem _ (List.mem_append_left _ (List.mem_append_left _ (List.mem_append_right _ h))))
theorem kfX4_takeBehindItem_14 : Cond.fieldLink RX4 14 "ShapeJudge$TextReader" "tokens" "LShapeJudge$Tokens;" ∈ wsX4_takeBehindItem := (List.mem_of_getElem? (i := 1) rfl)
theorem kiX4_takeBehindItem_X5 : ∀ w ∈ wsX50, w ∈ wsX4_takeBehindItem := fun _ h => (List.mem_cons_of_mem _ (List.mem_append_left _ (List.mem_append_right _ h)))
theorem kfX4_takeBehindItem_54 : Cond.fieldLink RX4 54 "ShapeJudge$Tokens" "kind" "I" ∈ wsX4_takeBehindItem := (List.mem_of_getElem? (i := 2) rfl)
theorem kfX4_takeBehindItem_36 : Cond.fieldLink RX4 36 "ShapeJudge$TextReader" "depth" "I" ∈ wsX4_takeBehindItem := (List.mem_of_getElem? (i := 3) rfl)
theorem kfX4_takeBehindItem_32 : Cond.fieldLink RX4 32 "ShapeJudge$TextReader" "state" "I" ∈ wsX4_takeBehindItem := (List.mem_of_getElem? (i := 5) rfl)
theorem kfX4_takeBehindItem_42 : Cond.fieldLink RX4 42 "ShapeJudge$TextReader" "bars" "I" ∈ wsX4_takeBehindItem := (List.mem_of_getElem? (i := 6) rfl)
theorem kfX4_takeBehindItem_39 : Cond.fieldLink RX4 39 "ShapeJudge$TextReader" "commas" "I" ∈ wsX4_takeBehindItem := (List.mem_of_getElem? (i := 4) rfl)
def s_X4_takeBehindItem (m : Mem)  : Option (Mem) :=
  bn (m 10 2) fun x1 => (((if (m 9 3) ≤ 0 then ((if x1 = 59 then (some 1) else ((if x1 = 4 then (some 1) else (some 0))))) else ((if x1 = 41 then (some 1) else (some 0)))) : Option (Int32)).bind fun y2 => (if x1 = 44 then ((s_X4_settleComma m).bind fun m4 => (if x1 = 44 then (bn (sto m4 9 4 ((m4 9 4) ||| ((1 : Int32) <<< ((m4 9 3) &&& 31)))) fun m15 => bn (sto m15 9 2 3) fun m16 => some m16) else ((s_X4_settleBar m4).bind fun m6 => (if x1 = 124 then (bn (sto m6 9 5 ((m6 9 5) ||| ((1 : Int32) <<< ((m6 9 3) &&& 31)))) fun m12 => bn (sto m12 9 2 3) fun m13 => some m13) else ((if x1 = 41 then (bn (sto m6 9 3 ((m6 9 3) - 1)) fun m9 => bn (sto m9 9 2 8) fun m10 => some m10) else ((s_X4_takeShapeEnd m6).bind fun m8 => some m8))))))) else ((if x1 = 124 then ((s_X4_settleComma m).bind fun m19 => (if x1 = 44 then (bn (sto m19 9 4 ((m19 9 4) ||| ((1 : Int32) <<< ((m19 9 3) &&& 31)))) fun m30 => bn (sto m30 9 2 3) fun m31 => some m31) else ((s_X4_settleBar m19).bind fun m21 => (if x1 = 124 then (bn (sto m21 9 5 ((m21 9 5) ||| ((1 : Int32) <<< ((m21 9 3) &&& 31)))) fun m27 => bn (sto m27 9 2 3) fun m28 => some m28) else ((if x1 = 41 then (bn (sto m21 9 3 ((m21 9 3) - 1)) fun m24 => bn (sto m24 9 2 8) fun m25 => some m25) else ((s_X4_takeShapeEnd m21).bind fun m23 => some m23))))))) else ((if y2 = 0 then ((s_X4_fail m 2).bind fun m49 => some m49) else ((s_X4_settleComma m).bind fun m34 => (if x1 = 44 then (bn (sto m34 9 4 ((m34 9 4) ||| ((1 : Int32) <<< ((m34 9 3) &&& 31)))) fun m45 => bn (sto m45 9 2 3) fun m46 => some m46) else ((s_X4_settleBar m34).bind fun m36 => (if x1 = 124 then (bn (sto m36 9 5 ((m36 9 5) ||| ((1 : Int32) <<< ((m36 9 3) &&& 31)))) fun m42 => bn (sto m42 9 2 3) fun m43 => some m43) else ((if x1 = 41 then (bn (sto m36 9 3 ((m36 9 3) - 1)) fun m39 => bn (sto m39 9 2 8) fun m40 => some m40) else ((s_X4_takeShapeEnd m36).bind fun m38 => some m38)))))))))))))
set_option maxRecDepth 100000 in
set_option maxHeartbeats 4000000 in
theorem c_X4_takeBehindItem (l : Launch) (w : ZW) {m : Mem}  {m9 : Mem}  (hf : s_X4_takeBehindItem m  = some m9) : zCv MX l w yX4_takeBehindItem wsX4_takeBehindItem rmX4_takeBehindItem [.ref (w.2.1 9)] m m9 := by
  refine z_met_v MX_ok (own := RX4) (by decide +kernel) rfl rfl (Nat.le_of_ble_eq_true rfl) ?_
  intro K C hKw hKl hret
  subst hKw
  subst hKl
  unfold s_X4_takeBehindItem at hf
  show zGo MX K m [(0, .ref ((zw K).2.1 9))] 0 []
  refine z_aload_n C 0 dX4_takeBehindItem_0 rfl rfl ?_
  refine z_getr C (t := 10) (Nat.le_of_ble_eq_true rfl) rfl rfl 0 (Nat.le_of_ble_eq_true rfl) rfl kiX4_takeBehindItem_X4 kfX4_takeBehindItem_14 dX4_takeBehindItem_1 ?_
  refine z_geti C (Nat.le_of_ble_eq_true rfl) rfl rfl 2 (Nat.le_of_ble_eq_true rfl) rfl kiX4_takeBehindItem_X5 kfX4_takeBehindItem_54 dX4_takeBehindItem_4 ?_
  refine z_topi (fun x1 e_x1 => ?_)
  replace hf := bn_to e_x1 hf
  refine z_istore_n C (lv2 := [(0, .ref ((zw K).2.1 9)), (1, .int x1)]) [1, 0] dX4_takeBehindItem_7 rfl (Nat.le_of_ble_eq_true rfl) rfl ?_
  refine z_aload_n C 0 dX4_takeBehindItem_8 rfl rfl ?_
  refine z_geti C (Nat.le_of_ble_eq_true rfl) rfl rfl 3 (Nat.le_of_ble_eq_true rfl) rfl kiX4_takeBehindItem_X4 kfX4_takeBehindItem_36 dX4_takeBehindItem_9 ?_
  obtain ⟨y2, hg, hf⟩ := zb_el hf
  have hj : zGo MX K m [(0, .ref ((zw K).2.1 9)), (1, .int x1)] 45 [.int y2] := by
    refine z_istore_n C (lv2 := [(0, .ref ((zw K).2.1 9)), (1, .int x1), (2, .int y2)]) [1, 2, 0] dX4_takeBehindItem_45 rfl (Nat.le_of_ble_eq_true rfl) rfl ?_
    refine z_iload_n C 1 dX4_takeBehindItem_46 rfl rfl ?_
    refine z_bipush C (v := 44) dX4_takeBehindItem_47 rfl ?_
    refine z_icmp_eq (tgt := 68) C dX4_takeBehindItem_49 (by decide) (fun c52 => ?_) (fun c52 => ?_)
    · replace hf := if_t c52 hf
      refine z_aload_n C 0 dX4_takeBehindItem_68 rfl rfl ?_
      obtain ⟨m4, hc3, hf⟩ := zb_el hf
      refine z_cVv C (c_X4_settleComma _ _ hc3) rfl gX4_takeBehindItem_X4_settleComma rfl rfl zdX4_settleComma rfl (Nat.le_of_ble_eq_true rfl) rfl rfl rfl ⟨Nat.le_of_ble_eq_true rfl, Nat.le_of_ble_eq_true rfl⟩ (Nat.le_of_ble_eq_true rfl) dX4_takeBehindItem_69 rfl ?_
      refine z_iload_n C 1 dX4_takeBehindItem_72 rfl rfl ?_
      refine z_bipush C (v := 44) dX4_takeBehindItem_73 rfl ?_
      refine z_icmp_ne (tgt := 99) C dX4_takeBehindItem_75 (by decide) (fun c17 => ?_) (fun c17 => ?_)
      · replace hf := if_f c17 hf
        refine z_aload_n C 0 dX4_takeBehindItem_99 rfl rfl ?_
        obtain ⟨m6, hc5, hf⟩ := zb_el hf
        refine z_cVv C (c_X4_settleBar _ _ hc5) rfl gX4_takeBehindItem_X4_settleBar rfl rfl zdX4_settleBar rfl (Nat.le_of_ble_eq_true rfl) rfl rfl rfl ⟨Nat.le_of_ble_eq_true rfl, Nat.le_of_ble_eq_true rfl⟩ (Nat.le_of_ble_eq_true rfl) dX4_takeBehindItem_100 rfl ?_
        refine z_iload_n C 1 dX4_takeBehindItem_103 rfl rfl ?_
        refine z_bipush C (v := 124) dX4_takeBehindItem_104 rfl ?_
        refine z_icmp_ne (tgt := 132) C dX4_takeBehindItem_106 (by decide) (fun c14 => ?_) (fun c14 => ?_)
        · replace hf := if_f c14 hf
          refine z_iload_n C 1 dX4_takeBehindItem_132 rfl rfl ?_
          refine z_bipush C (v := 41) dX4_takeBehindItem_133 rfl ?_
          refine z_icmp_ne (tgt := 157) C dX4_takeBehindItem_135 (by decide) (fun c11 => ?_) (fun c11 => ?_)
          · replace hf := if_f c11 hf
            refine z_aload_n C 0 dX4_takeBehindItem_157 rfl rfl ?_
            obtain ⟨m8, hc7, hf⟩ := zb_el hf
            refine z_cVv C (c_X4_takeShapeEnd _ _ hc7) rfl gX4_takeBehindItem_X4_takeShapeEnd rfl rfl zdX4_takeShapeEnd rfl (Nat.le_of_ble_eq_true rfl) rfl rfl rfl ⟨Nat.le_of_ble_eq_true rfl, Nat.le_of_ble_eq_true rfl⟩ (Nat.le_of_ble_eq_true rfl) dX4_takeBehindItem_158 rfl ?_
            cases hf
            exact hret _ _ dX4_takeBehindItem_161
          · replace hf := if_t c11 hf
            refine z_aload_n C 0 dX4_takeBehindItem_138 rfl rfl ?_
            refine z_dup_a C dX4_takeBehindItem_139 ?_
            refine z_geti C (Nat.le_of_ble_eq_true rfl) rfl rfl 3 (Nat.le_of_ble_eq_true rfl) rfl kiX4_takeBehindItem_X4 kfX4_takeBehindItem_36 dX4_takeBehindItem_140 ?_
            refine z_iconst C (v := 1) dX4_takeBehindItem_143 rfl ?_
            refine z_isub C dX4_takeBehindItem_144 ?_
            refine z_puti C (Nat.le_of_ble_eq_true rfl) rfl rfl 3 (Nat.le_of_ble_eq_true rfl) rfl kiX4_takeBehindItem_X4 kfX4_takeBehindItem_36 tyX4 tyX4_ok nmX4 rfl rfl dX4_takeBehindItem_145 ?_
            refine z_nm (fun m9 e_m9 => ?_)
            replace hf := bn_to e_m9 hf
            refine z_aload_n C 0 dX4_takeBehindItem_148 rfl rfl ?_
            refine z_bipush C (v := 8) dX4_takeBehindItem_149 rfl ?_
            refine z_puti C (Nat.le_of_ble_eq_true rfl) rfl rfl 2 (Nat.le_of_ble_eq_true rfl) rfl kiX4_takeBehindItem_X4 kfX4_takeBehindItem_32 tyX4 tyX4_ok nmX4 rfl rfl dX4_takeBehindItem_151 ?_
            refine z_nm (fun m10 e_m10 => ?_)
            replace hf := bn_to e_m10 hf
            refine z_goto (tgt := 161) C dX4_takeBehindItem_154 (by decide) ?_
            cases hf
            exact hret _ _ dX4_takeBehindItem_161
        · replace hf := if_t c14 hf
          refine z_aload_n C 0 dX4_takeBehindItem_109 rfl rfl ?_
          refine z_dup_a C dX4_takeBehindItem_110 ?_
          refine z_geti C (Nat.le_of_ble_eq_true rfl) rfl rfl 5 (Nat.le_of_ble_eq_true rfl) rfl kiX4_takeBehindItem_X4 kfX4_takeBehindItem_42 dX4_takeBehindItem_111 ?_
          refine z_iconst C (v := 1) dX4_takeBehindItem_114 rfl ?_
          refine z_aload_n C 0 dX4_takeBehindItem_115 rfl rfl ?_
          refine z_geti C (Nat.le_of_ble_eq_true rfl) rfl rfl 3 (Nat.le_of_ble_eq_true rfl) rfl kiX4_takeBehindItem_X4 kfX4_takeBehindItem_36 dX4_takeBehindItem_116 ?_
          refine z_ishl C dX4_takeBehindItem_119 ?_
          refine z_ior C dX4_takeBehindItem_120 ?_
          refine z_puti C (Nat.le_of_ble_eq_true rfl) rfl rfl 5 (Nat.le_of_ble_eq_true rfl) rfl kiX4_takeBehindItem_X4 kfX4_takeBehindItem_42 tyX4 tyX4_ok nmX4 rfl rfl dX4_takeBehindItem_121 ?_
          refine z_nm (fun m12 e_m12 => ?_)
          replace hf := bn_to e_m12 hf
          refine z_aload_n C 0 dX4_takeBehindItem_124 rfl rfl ?_
          refine z_iconst C (v := 3) dX4_takeBehindItem_125 rfl ?_
          refine z_puti C (Nat.le_of_ble_eq_true rfl) rfl rfl 2 (Nat.le_of_ble_eq_true rfl) rfl kiX4_takeBehindItem_X4 kfX4_takeBehindItem_32 tyX4 tyX4_ok nmX4 rfl rfl dX4_takeBehindItem_126 ?_
          refine z_nm (fun m13 e_m13 => ?_)
          replace hf := bn_to e_m13 hf
          refine z_goto (tgt := 161) C dX4_takeBehindItem_129 (by decide) ?_
          cases hf
          exact hret _ _ dX4_takeBehindItem_161
      · replace hf := if_t c17 hf
        refine z_aload_n C 0 dX4_takeBehindItem_78 rfl rfl ?_
        refine z_dup_a C dX4_takeBehindItem_79 ?_
        refine z_geti C (Nat.le_of_ble_eq_true rfl) rfl rfl 4 (Nat.le_of_ble_eq_true rfl) rfl kiX4_takeBehindItem_X4 kfX4_takeBehindItem_39 dX4_takeBehindItem_80 ?_
        refine z_iconst C (v := 1) dX4_takeBehindItem_83 rfl ?_
        refine z_aload_n C 0 dX4_takeBehindItem_84 rfl rfl ?_
        refine z_geti C (Nat.le_of_ble_eq_true rfl) rfl rfl 3 (Nat.le_of_ble_eq_true rfl) rfl kiX4_takeBehindItem_X4 kfX4_takeBehindItem_36 dX4_takeBehindItem_85 ?_
        refine z_ishl C dX4_takeBehindItem_88 ?_
        refine z_ior C dX4_takeBehindItem_89 ?_
        refine z_puti C (Nat.le_of_ble_eq_true rfl) rfl rfl 4 (Nat.le_of_ble_eq_true rfl) rfl kiX4_takeBehindItem_X4 kfX4_takeBehindItem_39 tyX4 tyX4_ok nmX4 rfl rfl dX4_takeBehindItem_90 ?_
        refine z_nm (fun m15 e_m15 => ?_)
        replace hf := bn_to e_m15 hf
        refine z_aload_n C 0 dX4_takeBehindItem_93 rfl rfl ?_
        refine z_iconst C (v := 3) dX4_takeBehindItem_94 rfl ?_
        refine z_puti C (Nat.le_of_ble_eq_true rfl) rfl rfl 2 (Nat.le_of_ble_eq_true rfl) rfl kiX4_takeBehindItem_X4 kfX4_takeBehindItem_32 tyX4 tyX4_ok nmX4 rfl rfl dX4_takeBehindItem_95 ?_
        refine z_nm (fun m16 e_m16 => ?_)
        replace hf := bn_to e_m16 hf
        cases hf
        exact hret _ _ dX4_takeBehindItem_98
    · replace hf := if_f c52 hf
      refine z_iload_n C 1 dX4_takeBehindItem_52 rfl rfl ?_
      refine z_bipush C (v := 124) dX4_takeBehindItem_53 rfl ?_
      refine z_icmp_eq (tgt := 68) C dX4_takeBehindItem_55 (by decide) (fun c51 => ?_) (fun c51 => ?_)
      · replace hf := if_t c51 hf
        refine z_aload_n C 0 dX4_takeBehindItem_68 rfl rfl ?_
        obtain ⟨m19, hc18, hf⟩ := zb_el hf
        refine z_cVv C (c_X4_settleComma _ _ hc18) rfl gX4_takeBehindItem_X4_settleComma rfl rfl zdX4_settleComma rfl (Nat.le_of_ble_eq_true rfl) rfl rfl rfl ⟨Nat.le_of_ble_eq_true rfl, Nat.le_of_ble_eq_true rfl⟩ (Nat.le_of_ble_eq_true rfl) dX4_takeBehindItem_69 rfl ?_
        refine z_iload_n C 1 dX4_takeBehindItem_72 rfl rfl ?_
        refine z_bipush C (v := 44) dX4_takeBehindItem_73 rfl ?_
        refine z_icmp_ne (tgt := 99) C dX4_takeBehindItem_75 (by decide) (fun c32 => ?_) (fun c32 => ?_)
        · replace hf := if_f c32 hf
          refine z_aload_n C 0 dX4_takeBehindItem_99 rfl rfl ?_
          obtain ⟨m21, hc20, hf⟩ := zb_el hf
          refine z_cVv C (c_X4_settleBar _ _ hc20) rfl gX4_takeBehindItem_X4_settleBar rfl rfl zdX4_settleBar rfl (Nat.le_of_ble_eq_true rfl) rfl rfl rfl ⟨Nat.le_of_ble_eq_true rfl, Nat.le_of_ble_eq_true rfl⟩ (Nat.le_of_ble_eq_true rfl) dX4_takeBehindItem_100 rfl ?_
          refine z_iload_n C 1 dX4_takeBehindItem_103 rfl rfl ?_
          refine z_bipush C (v := 124) dX4_takeBehindItem_104 rfl ?_
          refine z_icmp_ne (tgt := 132) C dX4_takeBehindItem_106 (by decide) (fun c29 => ?_) (fun c29 => ?_)
          · replace hf := if_f c29 hf
            refine z_iload_n C 1 dX4_takeBehindItem_132 rfl rfl ?_
            refine z_bipush C (v := 41) dX4_takeBehindItem_133 rfl ?_
            refine z_icmp_ne (tgt := 157) C dX4_takeBehindItem_135 (by decide) (fun c26 => ?_) (fun c26 => ?_)
            · replace hf := if_f c26 hf
              refine z_aload_n C 0 dX4_takeBehindItem_157 rfl rfl ?_
              obtain ⟨m23, hc22, hf⟩ := zb_el hf
              refine z_cVv C (c_X4_takeShapeEnd _ _ hc22) rfl gX4_takeBehindItem_X4_takeShapeEnd rfl rfl zdX4_takeShapeEnd rfl (Nat.le_of_ble_eq_true rfl) rfl rfl rfl ⟨Nat.le_of_ble_eq_true rfl, Nat.le_of_ble_eq_true rfl⟩ (Nat.le_of_ble_eq_true rfl) dX4_takeBehindItem_158 rfl ?_
              cases hf
              exact hret _ _ dX4_takeBehindItem_161
            · replace hf := if_t c26 hf
              refine z_aload_n C 0 dX4_takeBehindItem_138 rfl rfl ?_
              refine z_dup_a C dX4_takeBehindItem_139 ?_
              refine z_geti C (Nat.le_of_ble_eq_true rfl) rfl rfl 3 (Nat.le_of_ble_eq_true rfl) rfl kiX4_takeBehindItem_X4 kfX4_takeBehindItem_36 dX4_takeBehindItem_140 ?_
              refine z_iconst C (v := 1) dX4_takeBehindItem_143 rfl ?_
              refine z_isub C dX4_takeBehindItem_144 ?_
              refine z_puti C (Nat.le_of_ble_eq_true rfl) rfl rfl 3 (Nat.le_of_ble_eq_true rfl) rfl kiX4_takeBehindItem_X4 kfX4_takeBehindItem_36 tyX4 tyX4_ok nmX4 rfl rfl dX4_takeBehindItem_145 ?_
              refine z_nm (fun m24 e_m24 => ?_)
              replace hf := bn_to e_m24 hf
              refine z_aload_n C 0 dX4_takeBehindItem_148 rfl rfl ?_
              refine z_bipush C (v := 8) dX4_takeBehindItem_149 rfl ?_
              refine z_puti C (Nat.le_of_ble_eq_true rfl) rfl rfl 2 (Nat.le_of_ble_eq_true rfl) rfl kiX4_takeBehindItem_X4 kfX4_takeBehindItem_32 tyX4 tyX4_ok nmX4 rfl rfl dX4_takeBehindItem_151 ?_
              refine z_nm (fun m25 e_m25 => ?_)
              replace hf := bn_to e_m25 hf
              refine z_goto (tgt := 161) C dX4_takeBehindItem_154 (by decide) ?_
              cases hf
              exact hret _ _ dX4_takeBehindItem_161
          · replace hf := if_t c29 hf
            refine z_aload_n C 0 dX4_takeBehindItem_109 rfl rfl ?_
            refine z_dup_a C dX4_takeBehindItem_110 ?_
            refine z_geti C (Nat.le_of_ble_eq_true rfl) rfl rfl 5 (Nat.le_of_ble_eq_true rfl) rfl kiX4_takeBehindItem_X4 kfX4_takeBehindItem_42 dX4_takeBehindItem_111 ?_
            refine z_iconst C (v := 1) dX4_takeBehindItem_114 rfl ?_
            refine z_aload_n C 0 dX4_takeBehindItem_115 rfl rfl ?_
            refine z_geti C (Nat.le_of_ble_eq_true rfl) rfl rfl 3 (Nat.le_of_ble_eq_true rfl) rfl kiX4_takeBehindItem_X4 kfX4_takeBehindItem_36 dX4_takeBehindItem_116 ?_
            refine z_ishl C dX4_takeBehindItem_119 ?_
            refine z_ior C dX4_takeBehindItem_120 ?_
            refine z_puti C (Nat.le_of_ble_eq_true rfl) rfl rfl 5 (Nat.le_of_ble_eq_true rfl) rfl kiX4_takeBehindItem_X4 kfX4_takeBehindItem_42 tyX4 tyX4_ok nmX4 rfl rfl dX4_takeBehindItem_121 ?_
            refine z_nm (fun m27 e_m27 => ?_)
            replace hf := bn_to e_m27 hf
            refine z_aload_n C 0 dX4_takeBehindItem_124 rfl rfl ?_
            refine z_iconst C (v := 3) dX4_takeBehindItem_125 rfl ?_
            refine z_puti C (Nat.le_of_ble_eq_true rfl) rfl rfl 2 (Nat.le_of_ble_eq_true rfl) rfl kiX4_takeBehindItem_X4 kfX4_takeBehindItem_32 tyX4 tyX4_ok nmX4 rfl rfl dX4_takeBehindItem_126 ?_
            refine z_nm (fun m28 e_m28 => ?_)
            replace hf := bn_to e_m28 hf
            refine z_goto (tgt := 161) C dX4_takeBehindItem_129 (by decide) ?_
            cases hf
            exact hret _ _ dX4_takeBehindItem_161
        · replace hf := if_t c32 hf
          refine z_aload_n C 0 dX4_takeBehindItem_78 rfl rfl ?_
          refine z_dup_a C dX4_takeBehindItem_79 ?_
          refine z_geti C (Nat.le_of_ble_eq_true rfl) rfl rfl 4 (Nat.le_of_ble_eq_true rfl) rfl kiX4_takeBehindItem_X4 kfX4_takeBehindItem_39 dX4_takeBehindItem_80 ?_
          refine z_iconst C (v := 1) dX4_takeBehindItem_83 rfl ?_
          refine z_aload_n C 0 dX4_takeBehindItem_84 rfl rfl ?_
          refine z_geti C (Nat.le_of_ble_eq_true rfl) rfl rfl 3 (Nat.le_of_ble_eq_true rfl) rfl kiX4_takeBehindItem_X4 kfX4_takeBehindItem_36 dX4_takeBehindItem_85 ?_
          refine z_ishl C dX4_takeBehindItem_88 ?_
          refine z_ior C dX4_takeBehindItem_89 ?_
          refine z_puti C (Nat.le_of_ble_eq_true rfl) rfl rfl 4 (Nat.le_of_ble_eq_true rfl) rfl kiX4_takeBehindItem_X4 kfX4_takeBehindItem_39 tyX4 tyX4_ok nmX4 rfl rfl dX4_takeBehindItem_90 ?_
          refine z_nm (fun m30 e_m30 => ?_)
          replace hf := bn_to e_m30 hf
          refine z_aload_n C 0 dX4_takeBehindItem_93 rfl rfl ?_
          refine z_iconst C (v := 3) dX4_takeBehindItem_94 rfl ?_
          refine z_puti C (Nat.le_of_ble_eq_true rfl) rfl rfl 2 (Nat.le_of_ble_eq_true rfl) rfl kiX4_takeBehindItem_X4 kfX4_takeBehindItem_32 tyX4 tyX4_ok nmX4 rfl rfl dX4_takeBehindItem_95 ?_
          refine z_nm (fun m31 e_m31 => ?_)
          replace hf := bn_to e_m31 hf
          cases hf
          exact hret _ _ dX4_takeBehindItem_98
      · replace hf := if_f c51 hf
        refine z_iload_n C 2 dX4_takeBehindItem_58 rfl rfl ?_
        refine z_if_ne (tgt := 68) C dX4_takeBehindItem_59 (by decide) (fun c50 => ?_) (fun c50 => ?_)
        · replace hf := if_f c50 hf
          refine z_aload_n C 0 dX4_takeBehindItem_68 rfl rfl ?_
          obtain ⟨m34, hc33, hf⟩ := zb_el hf
          refine z_cVv C (c_X4_settleComma _ _ hc33) rfl gX4_takeBehindItem_X4_settleComma rfl rfl zdX4_settleComma rfl (Nat.le_of_ble_eq_true rfl) rfl rfl rfl ⟨Nat.le_of_ble_eq_true rfl, Nat.le_of_ble_eq_true rfl⟩ (Nat.le_of_ble_eq_true rfl) dX4_takeBehindItem_69 rfl ?_
          refine z_iload_n C 1 dX4_takeBehindItem_72 rfl rfl ?_
          refine z_bipush C (v := 44) dX4_takeBehindItem_73 rfl ?_
          refine z_icmp_ne (tgt := 99) C dX4_takeBehindItem_75 (by decide) (fun c47 => ?_) (fun c47 => ?_)
          · replace hf := if_f c47 hf
            refine z_aload_n C 0 dX4_takeBehindItem_99 rfl rfl ?_
            obtain ⟨m36, hc35, hf⟩ := zb_el hf
            refine z_cVv C (c_X4_settleBar _ _ hc35) rfl gX4_takeBehindItem_X4_settleBar rfl rfl zdX4_settleBar rfl (Nat.le_of_ble_eq_true rfl) rfl rfl rfl ⟨Nat.le_of_ble_eq_true rfl, Nat.le_of_ble_eq_true rfl⟩ (Nat.le_of_ble_eq_true rfl) dX4_takeBehindItem_100 rfl ?_
            refine z_iload_n C 1 dX4_takeBehindItem_103 rfl rfl ?_
            refine z_bipush C (v := 124) dX4_takeBehindItem_104 rfl ?_
            refine z_icmp_ne (tgt := 132) C dX4_takeBehindItem_106 (by decide) (fun c44 => ?_) (fun c44 => ?_)
            · replace hf := if_f c44 hf
              refine z_iload_n C 1 dX4_takeBehindItem_132 rfl rfl ?_
              refine z_bipush C (v := 41) dX4_takeBehindItem_133 rfl ?_
              refine z_icmp_ne (tgt := 157) C dX4_takeBehindItem_135 (by decide) (fun c41 => ?_) (fun c41 => ?_)
              · replace hf := if_f c41 hf
                refine z_aload_n C 0 dX4_takeBehindItem_157 rfl rfl ?_
                obtain ⟨m38, hc37, hf⟩ := zb_el hf
                refine z_cVv C (c_X4_takeShapeEnd _ _ hc37) rfl gX4_takeBehindItem_X4_takeShapeEnd rfl rfl zdX4_takeShapeEnd rfl (Nat.le_of_ble_eq_true rfl) rfl rfl rfl ⟨Nat.le_of_ble_eq_true rfl, Nat.le_of_ble_eq_true rfl⟩ (Nat.le_of_ble_eq_true rfl) dX4_takeBehindItem_158 rfl ?_
                cases hf
                exact hret _ _ dX4_takeBehindItem_161
              · replace hf := if_t c41 hf
                refine z_aload_n C 0 dX4_takeBehindItem_138 rfl rfl ?_
                refine z_dup_a C dX4_takeBehindItem_139 ?_
                refine z_geti C (Nat.le_of_ble_eq_true rfl) rfl rfl 3 (Nat.le_of_ble_eq_true rfl) rfl kiX4_takeBehindItem_X4 kfX4_takeBehindItem_36 dX4_takeBehindItem_140 ?_
                refine z_iconst C (v := 1) dX4_takeBehindItem_143 rfl ?_
                refine z_isub C dX4_takeBehindItem_144 ?_
                refine z_puti C (Nat.le_of_ble_eq_true rfl) rfl rfl 3 (Nat.le_of_ble_eq_true rfl) rfl kiX4_takeBehindItem_X4 kfX4_takeBehindItem_36 tyX4 tyX4_ok nmX4 rfl rfl dX4_takeBehindItem_145 ?_
                refine z_nm (fun m39 e_m39 => ?_)
                replace hf := bn_to e_m39 hf
                refine z_aload_n C 0 dX4_takeBehindItem_148 rfl rfl ?_
                refine z_bipush C (v := 8) dX4_takeBehindItem_149 rfl ?_
                refine z_puti C (Nat.le_of_ble_eq_true rfl) rfl rfl 2 (Nat.le_of_ble_eq_true rfl) rfl kiX4_takeBehindItem_X4 kfX4_takeBehindItem_32 tyX4 tyX4_ok nmX4 rfl rfl dX4_takeBehindItem_151 ?_
                refine z_nm (fun m40 e_m40 => ?_)
                replace hf := bn_to e_m40 hf
                refine z_goto (tgt := 161) C dX4_takeBehindItem_154 (by decide) ?_
                cases hf
                exact hret _ _ dX4_takeBehindItem_161
            · replace hf := if_t c44 hf
              refine z_aload_n C 0 dX4_takeBehindItem_109 rfl rfl ?_
              refine z_dup_a C dX4_takeBehindItem_110 ?_
              refine z_geti C (Nat.le_of_ble_eq_true rfl) rfl rfl 5 (Nat.le_of_ble_eq_true rfl) rfl kiX4_takeBehindItem_X4 kfX4_takeBehindItem_42 dX4_takeBehindItem_111 ?_
              refine z_iconst C (v := 1) dX4_takeBehindItem_114 rfl ?_
              refine z_aload_n C 0 dX4_takeBehindItem_115 rfl rfl ?_
              refine z_geti C (Nat.le_of_ble_eq_true rfl) rfl rfl 3 (Nat.le_of_ble_eq_true rfl) rfl kiX4_takeBehindItem_X4 kfX4_takeBehindItem_36 dX4_takeBehindItem_116 ?_
              refine z_ishl C dX4_takeBehindItem_119 ?_
              refine z_ior C dX4_takeBehindItem_120 ?_
              refine z_puti C (Nat.le_of_ble_eq_true rfl) rfl rfl 5 (Nat.le_of_ble_eq_true rfl) rfl kiX4_takeBehindItem_X4 kfX4_takeBehindItem_42 tyX4 tyX4_ok nmX4 rfl rfl dX4_takeBehindItem_121 ?_
              refine z_nm (fun m42 e_m42 => ?_)
              replace hf := bn_to e_m42 hf
              refine z_aload_n C 0 dX4_takeBehindItem_124 rfl rfl ?_
              refine z_iconst C (v := 3) dX4_takeBehindItem_125 rfl ?_
              refine z_puti C (Nat.le_of_ble_eq_true rfl) rfl rfl 2 (Nat.le_of_ble_eq_true rfl) rfl kiX4_takeBehindItem_X4 kfX4_takeBehindItem_32 tyX4 tyX4_ok nmX4 rfl rfl dX4_takeBehindItem_126 ?_
              refine z_nm (fun m43 e_m43 => ?_)
              replace hf := bn_to e_m43 hf
              refine z_goto (tgt := 161) C dX4_takeBehindItem_129 (by decide) ?_
              cases hf
              exact hret _ _ dX4_takeBehindItem_161
          · replace hf := if_t c47 hf
            refine z_aload_n C 0 dX4_takeBehindItem_78 rfl rfl ?_
            refine z_dup_a C dX4_takeBehindItem_79 ?_
            refine z_geti C (Nat.le_of_ble_eq_true rfl) rfl rfl 4 (Nat.le_of_ble_eq_true rfl) rfl kiX4_takeBehindItem_X4 kfX4_takeBehindItem_39 dX4_takeBehindItem_80 ?_
            refine z_iconst C (v := 1) dX4_takeBehindItem_83 rfl ?_
            refine z_aload_n C 0 dX4_takeBehindItem_84 rfl rfl ?_
            refine z_geti C (Nat.le_of_ble_eq_true rfl) rfl rfl 3 (Nat.le_of_ble_eq_true rfl) rfl kiX4_takeBehindItem_X4 kfX4_takeBehindItem_36 dX4_takeBehindItem_85 ?_
            refine z_ishl C dX4_takeBehindItem_88 ?_
            refine z_ior C dX4_takeBehindItem_89 ?_
            refine z_puti C (Nat.le_of_ble_eq_true rfl) rfl rfl 4 (Nat.le_of_ble_eq_true rfl) rfl kiX4_takeBehindItem_X4 kfX4_takeBehindItem_39 tyX4 tyX4_ok nmX4 rfl rfl dX4_takeBehindItem_90 ?_
            refine z_nm (fun m45 e_m45 => ?_)
            replace hf := bn_to e_m45 hf
            refine z_aload_n C 0 dX4_takeBehindItem_93 rfl rfl ?_
            refine z_iconst C (v := 3) dX4_takeBehindItem_94 rfl ?_
            refine z_puti C (Nat.le_of_ble_eq_true rfl) rfl rfl 2 (Nat.le_of_ble_eq_true rfl) rfl kiX4_takeBehindItem_X4 kfX4_takeBehindItem_32 tyX4 tyX4_ok nmX4 rfl rfl dX4_takeBehindItem_95 ?_
            refine z_nm (fun m46 e_m46 => ?_)
            replace hf := bn_to e_m46 hf
            cases hf
            exact hret _ _ dX4_takeBehindItem_98
        · replace hf := if_t c50 hf
          refine z_aload_n C 0 dX4_takeBehindItem_62 rfl rfl ?_
          refine z_iconst C (v := 2) dX4_takeBehindItem_63 rfl ?_
          obtain ⟨m49, hc48, hf⟩ := zb_el hf
          refine z_cVv C (c_X4_fail _ _ hc48) rfl gX4_takeBehindItem_X4_fail rfl rfl zdX4_fail rfl (Nat.le_of_ble_eq_true rfl) rfl rfl rfl ⟨Nat.le_of_ble_eq_true rfl, Nat.le_of_ble_eq_true rfl⟩ (Nat.le_of_ble_eq_true rfl) dX4_takeBehindItem_64 rfl ?_
          cases hf
          exact hret _ _ dX4_takeBehindItem_67
  replace hf := hg
  clear hg
  refine z_if_le (tgt := 29) C dX4_takeBehindItem_12 (by decide) (fun c56 => ?_) (fun c56 => ?_)
  · replace hf := if_t c56 hf
    refine z_iload_n C 1 dX4_takeBehindItem_29 rfl rfl ?_
    refine z_bipush C (v := 59) dX4_takeBehindItem_30 rfl ?_
    refine z_icmp_eq (tgt := 40) C dX4_takeBehindItem_32 (by decide) (fun c54 => ?_) (fun c54 => ?_)
    · replace hf := if_t c54 hf
      refine z_iconst C (v := 1) dX4_takeBehindItem_40 rfl ?_
      refine z_goto (tgt := 45) C dX4_takeBehindItem_41 (by decide) ?_
      cases hf
      exact z_sub [0, 1] rfl hj
    · replace hf := if_f c54 hf
      refine z_iload_n C 1 dX4_takeBehindItem_35 rfl rfl ?_
      refine z_iconst C (v := 4) dX4_takeBehindItem_36 rfl ?_
      refine z_icmp_ne (tgt := 44) C dX4_takeBehindItem_37 (by decide) (fun c53 => ?_) (fun c53 => ?_)
      · replace hf := if_f c53 hf
        refine z_iconst C (v := 0) dX4_takeBehindItem_44 rfl ?_
        cases hf
        exact z_sub [0, 1] rfl hj
      · replace hf := if_t c53 hf
        refine z_iconst C (v := 1) dX4_takeBehindItem_40 rfl ?_
        refine z_goto (tgt := 45) C dX4_takeBehindItem_41 (by decide) ?_
        cases hf
        exact z_sub [0, 1] rfl hj
  · replace hf := if_f c56 hf
    refine z_iload_n C 1 dX4_takeBehindItem_15 rfl rfl ?_
    refine z_bipush C (v := 41) dX4_takeBehindItem_16 rfl ?_
    refine z_icmp_ne (tgt := 25) C dX4_takeBehindItem_18 (by decide) (fun c55 => ?_) (fun c55 => ?_)
    · replace hf := if_f c55 hf
      refine z_iconst C (v := 0) dX4_takeBehindItem_25 rfl ?_
      refine z_goto (tgt := 45) C dX4_takeBehindItem_26 (by decide) ?_
      cases hf
      exact z_sub [0, 1] rfl hj
    · replace hf := if_t c55 hf
      refine z_iconst C (v := 1) dX4_takeBehindItem_21 rfl ?_
      refine z_goto (tgt := 45) C dX4_takeBehindItem_22 (by decide) ?_
      cases hf
      exact z_sub [0, 1] rfl hj
set_option maxRecDepth 20000 in
theorem ggX4_takeBehindOne_X4_takeBehindItem : GoodIn wsX4_takeBehindOne wsX4_takeBehindItem := goodIn_sub (List.forall_mem_cons.mpr ⟨(List.mem_of_getElem? (i := 8) rfl), (List.forall_mem_append.mpr ⟨(List.forall_mem_append.mpr ⟨(List.forall_mem_append.mpr ⟨(List.forall_mem_append.mpr ⟨(show ∀ w ∈ wsX4_takeBehindItem_r1, w ∈ wsX4_takeBehindOne from (List.forall_mem_cons.mpr ⟨(List.mem_of_getElem? (i := 1) rfl), (List.forall_mem_cons.mpr ⟨(List.mem_of_getElem? (i := 2) rfl), (List.forall_mem_cons.mpr ⟨(List.mem_of_getElem? (i := 9) rfl), (List.forall_mem_cons.mpr ⟨(List.mem_of_getElem? (i := 10) rfl), (List.forall_mem_cons.mpr ⟨(List.mem_of_getElem? (i := 3) rfl), (List.forall_mem_cons.mpr ⟨(List.mem_of_getElem? (i := 11) rfl), (List.forall_mem_cons.mpr ⟨(List.mem_of_getElem? (i := 12) rfl), (List.forall_mem_cons.mpr ⟨(List.mem_of_getElem? (i := 13) rfl), (List.forall_mem_cons.mpr ⟨(List.mem_of_getElem? (i := 14) rfl), (List.forall_mem_cons.mpr ⟨(List.mem_of_getElem? (i := 7) rfl), (List.forall_mem_cons.mpr ⟨(List.mem_of_getElem? (i := 15) rfl), (List.forall_mem_cons.mpr ⟨(List.mem_of_getElem? (i := 16) rfl), (List.forall_mem_cons.mpr ⟨(List.mem_of_getElem? (i := 17) rfl), (List.forall_mem_cons.mpr ⟨(List.mem_of_getElem? (i := 18) rfl), (List.forall_mem_cons.mpr ⟨(List.mem_of_getElem? (i := 19) rfl), (List.forall_mem_cons.mpr ⟨(List.mem_of_getElem? (i := 20) rfl), (List.forall_mem_cons.mpr ⟨(List.mem_of_getElem? (i := 21) rfl), (List.forall_mem_cons.mpr ⟨(List.mem_of_getElem? (i := 22) rfl), (List.forall_mem_cons.mpr ⟨(List.mem_of_getElem? (i := 23) rfl), (List.forall_mem_cons.mpr ⟨(List.mem_of_getElem? (i := 24) rfl), (List.forall_mem_cons.mpr ⟨(List.mem_of_getElem? (i := 25) rfl), (List.forall_mem_cons.mpr ⟨(List.mem_of_getElem? (i := 26) rfl), (List.forall_mem_cons.mpr ⟨(List.mem_of_getElem? (i := 27) rfl), (List.forall_mem_cons.mpr ⟨(List.mem_of_getElem? (i := 28) rfl), (fun _ h => absurd h List.not_mem_nil)⟩)⟩)⟩)⟩)⟩)⟩)⟩)⟩)⟩)⟩)⟩)⟩)⟩)⟩)⟩)⟩)⟩)⟩)⟩)⟩)⟩)⟩)⟩)⟩)), (List.forall_mem_append.mpr ⟨(show ∀ w ∈ wsX4_takeBehindItem_r2, w ∈ wsX4_takeBehindOne from (List.forall_mem_cons.mpr ⟨(List.mem_of_getElem? (i := 29) rfl), (List.forall_mem_cons.mpr ⟨(List.mem_of_getElem? (i := 30) rfl), (List.forall_mem_cons.mpr ⟨(List.mem_of_getElem? (i := 31) rfl), (List.forall_mem_cons.mpr ⟨(List.mem_of_getElem? (i := 32) rfl), (List.forall_mem_cons.mpr ⟨(List.mem_of_getElem? (i := 33) rfl), (List.forall_mem_cons.mpr ⟨(List.mem_of_getElem? (i := 34) rfl), (List.forall_mem_cons.mpr ⟨(List.mem_of_getElem? (i := 35) rfl), (List.forall_mem_cons.mpr ⟨(List.mem_of_getElem? (i := 36) rfl), (List.forall_mem_cons.mpr ⟨(List.mem_of_getElem? (i := 37) rfl), (List.forall_mem_cons.mpr ⟨(List.mem_of_getElem? (i := 38) rfl), (List.forall_mem_cons.mpr ⟨(List.mem_of_getElem? (i := 39) rfl), (List.forall_mem_cons.mpr ⟨(List.mem_of_getElem? (i := 40) rfl), (List.forall_mem_cons.mpr ⟨(List.mem_of_getElem? (i := 41) rfl), (List.forall_mem_cons.mpr ⟨(List.mem_of_getElem? (i := 42) rfl), (List.forall_mem_cons.mpr ⟨(List.mem_of_getElem? (i := 43) rfl), (List.forall_mem_cons.mpr ⟨(List.mem_of_getElem? (i := 44) rfl), (List.forall_mem_cons.mpr ⟨(List.mem_of_getElem? (i := 45) rfl), (List.forall_mem_cons.mpr ⟨(List.mem_of_getElem? (i := 46) rfl), (List.forall_mem_cons.mpr ⟨(List.mem_of_getElem? (i := 47) rfl), (List.forall_mem_cons.mpr ⟨(List.mem_of_getElem? (i := 48) rfl), (List.forall_mem_cons.mpr ⟨(List.mem_of_getElem? (i := 49) rfl), (List.forall_mem_cons.mpr ⟨(List.mem_of_getElem? (i := 50) rfl), (List.forall_mem_cons.mpr ⟨(List.mem_of_getElem? (i := 51) rfl), (List.forall_mem_cons.mpr ⟨(List.mem_of_getElem? (i := 52) rfl), (fun _ h => absurd h List.not_mem_nil)⟩)⟩)⟩)⟩)⟩)⟩)⟩)⟩)⟩)⟩)⟩)⟩)⟩)⟩)⟩)⟩)⟩)⟩)⟩)⟩)⟩)⟩)⟩)⟩)), (show ∀ w ∈ wsX4_takeBehindItem_r3, w ∈ wsX4_takeBehindOne from (List.forall_mem_cons.mpr ⟨(List.mem_of_getElem? (i := 53) rfl), (fun _ h => absurd h List.not_mem_nil)⟩))⟩)⟩), (fun _ h => (List.mem_cons_of_mem _ (List.mem_append_left _ (List.mem_append_left _ (List.mem_append_right _ h)))))⟩), (fun _ h => (List.mem_cons_of_mem _ (List.mem_append_left _ (List.mem_append_right _ h))))⟩), (fun _ h => (List.mem_cons_of_mem _ (List.mem_append_right _ h)))⟩)⟩) (by decide +kernel)
set_option maxRecDepth 20000 in
theorem gX4_takeBehindOne_X4_takeBehindItem : GoodIn wsX4_takeBehindOne (wsV RX4 101 RX4 yX4_takeBehindItem wsX4_takeBehindItem) := goodIn_app (goodIn_sub (List.forall_mem_cons.mpr ⟨(List.mem_of_getElem? (i := 4) rfl), (List.forall_mem_cons.mpr ⟨(List.mem_of_getElem? (i := 5) rfl), (List.forall_mem_cons.mpr ⟨(List.mem_of_getElem? (i := 6) rfl), (List.forall_mem_cons.mpr ⟨(List.mem_of_getElem? (i := 7) rfl), (fun _ h => absurd h List.not_mem_nil)⟩)⟩)⟩)⟩) (by decide +kernel)) ggX4_takeBehindOne_X4_takeBehindItem
theorem dX4_takeBehindOne_0 : decode cX4_takeBehindOne 0 = .ok (.aload_n 0, 1) := by decide +kernel
theorem dX4_takeBehindOne_1 : decode cX4_takeBehindOne 1 = .ok (.getfield 14, 3) := by decide +kernel
theorem dX4_takeBehindOne_4 : decode cX4_takeBehindOne 4 = .ok (.getfield 54, 3) := by decide +kernel
theorem dX4_takeBehindOne_7 : decode cX4_takeBehindOne 7 = .ok (.bipush 91, 2) := by decide +kernel
theorem dX4_takeBehindOne_9 : decode cX4_takeBehindOne 9 = .ok (.if_icmp .ne 12, 3) := by decide +kernel
theorem dX4_takeBehindOne_12 : decode cX4_takeBehindOne 12 = .ok (.aload_n 0, 1) := by decide +kernel
theorem dX4_takeBehindOne_13 : decode cX4_takeBehindOne 13 = .ok (.bipush 9, 2) := by decide +kernel
theorem dX4_takeBehindOne_15 : decode cX4_takeBehindOne 15 = .ok (.putfield 32, 3) := by decide +kernel
theorem dX4_takeBehindOne_18 : decode cX4_takeBehindOne 18 = .ok (.goto 7, 3) := by decide +kernel
theorem dX4_takeBehindOne_21 : decode cX4_takeBehindOne 21 = .ok (.aload_n 0, 1) := by decide +kernel
theorem dX4_takeBehindOne_22 : decode cX4_takeBehindOne 22 = .ok (.invokevirtual 101, 3) := by decide +kernel
theorem dX4_takeBehindOne_25 : decode cX4_takeBehindOne 25 = .ok (.return_, 1) := by decide +kernel
def rmX4_takeBehindOne : Room := { frames := 4, cells := 0, slots := 0, locals := 85 }
theorem zdX4_takeBehindOne : yX4_takeBehindOne.cls = RX4 ∧ yX4_takeBehindOne.cls ≠ "java/lang/invoke/MethodHandle" ∧ yX4_takeBehindOne.cls ≠ "java/lang/invoke/VarHandle" ∧ (parseMethodDescriptor yX4_takeBehindOne.desc).map (fun d => d.parameters.length) = some 0 := by decide +kernel
theorem kiX4_takeBehindOne_X4 : ∀ w ∈ wsX40, w ∈ wsX4_takeBehindOne := fun _ h => (List.mem_cons_of_mem _ (List.mem_append_left _ (List.mem_append_left _ (List.mem_append_right _ h))))
theorem kfX4_takeBehindOne_14 : Cond.fieldLink RX4 14 "ShapeJudge$TextReader" "tokens" "LShapeJudge$Tokens;" ∈ wsX4_takeBehindOne := (List.mem_of_getElem? (i := 1) rfl)
theorem kiX4_takeBehindOne_X5 : ∀ w ∈ wsX50, w ∈ wsX4_takeBehindOne := fun _ h => (List.mem_cons_of_mem _ (List.mem_append_left _ (List.mem_append_right _ h)))
theorem kfX4_takeBehindOne_54 : Cond.fieldLink RX4 54 "ShapeJudge$Tokens" "kind" "I" ∈ wsX4_takeBehindOne := (List.mem_of_getElem? (i := 2) rfl)
theorem kfX4_takeBehindOne_32 : Cond.fieldLink RX4 32 "ShapeJudge$TextReader" "state" "I" ∈ wsX4_takeBehindOne := (List.mem_of_getElem? (i := 3) rfl)
def s_X4_takeBehindOne (m : Mem)  : Option (Mem) :=
  (if (m 10 2) = 91 then (bn (sto m 9 2 9) fun m3 => some m3) else ((s_X4_takeBehindItem m).bind fun m2 => some m2))
set_option maxRecDepth 100000 in
set_option maxHeartbeats 4000000 in
theorem c_X4_takeBehindOne (l : Launch) (w : ZW) {m : Mem}  {m9 : Mem}  (hf : s_X4_takeBehindOne m  = some m9) : zCv MX l w yX4_takeBehindOne wsX4_takeBehindOne rmX4_takeBehindOne [.ref (w.2.1 9)] m m9 := by
  refine z_met_v MX_ok (own := RX4) (by decide +kernel) rfl rfl (Nat.le_of_ble_eq_true rfl) ?_
  intro K C hKw hKl hret
  subst hKw
  subst hKl
  unfold s_X4_takeBehindOne at hf
  show zGo MX K m [(0, .ref ((zw K).2.1 9))] 0 []
  refine z_aload_n C 0 dX4_takeBehindOne_0 rfl rfl ?_
  refine z_getr C (t := 10) (Nat.le_of_ble_eq_true rfl) rfl rfl 0 (Nat.le_of_ble_eq_true rfl) rfl kiX4_takeBehindOne_X4 kfX4_takeBehindOne_14 dX4_takeBehindOne_1 ?_
  refine z_geti C (Nat.le_of_ble_eq_true rfl) rfl rfl 2 (Nat.le_of_ble_eq_true rfl) rfl kiX4_takeBehindOne_X5 kfX4_takeBehindOne_54 dX4_takeBehindOne_4 ?_
  refine z_bipush C (v := 91) dX4_takeBehindOne_7 rfl ?_
  refine z_icmp_ne (tgt := 21) C dX4_takeBehindOne_9 (by decide) (fun c4 => ?_) (fun c4 => ?_)
  · replace hf := if_f c4 hf
    refine z_aload_n C 0 dX4_takeBehindOne_21 rfl rfl ?_
    obtain ⟨m2, hc1, hf⟩ := zb_el hf
    refine z_cVv C (c_X4_takeBehindItem _ _ hc1) rfl gX4_takeBehindOne_X4_takeBehindItem rfl rfl zdX4_takeBehindItem rfl (Nat.le_of_ble_eq_true rfl) rfl rfl rfl ⟨Nat.le_of_ble_eq_true rfl, Nat.le_of_ble_eq_true rfl⟩ (Nat.le_of_ble_eq_true rfl) dX4_takeBehindOne_22 rfl ?_
    cases hf
    exact hret _ _ dX4_takeBehindOne_25
  · replace hf := if_t c4 hf
    refine z_aload_n C 0 dX4_takeBehindOne_12 rfl rfl ?_
    refine z_bipush C (v := 9) dX4_takeBehindOne_13 rfl ?_
    refine z_puti C (Nat.le_of_ble_eq_true rfl) rfl rfl 2 (Nat.le_of_ble_eq_true rfl) rfl kiX4_takeBehindOne_X4 kfX4_takeBehindOne_32 tyX4 tyX4_ok nmX4 rfl rfl dX4_takeBehindOne_15 ?_
    refine z_nm (fun m3 e_m3 => ?_)
    replace hf := bn_to e_m3 hf
    refine z_goto (tgt := 25) C dX4_takeBehindOne_18 (by decide) ?_
    cases hf
    exact hret _ _ dX4_takeBehindOne_25
set_option maxRecDepth 20000 in
theorem ggX4_takeLeast_X4_isNumberFrom : GoodIn wsX4_takeLeast wsX4_isNumberFrom := goodIn_sub (List.forall_mem_cons.mpr ⟨(List.mem_of_getElem? (i := 9) rfl), (List.forall_mem_append.mpr ⟨(List.forall_mem_append.mpr ⟨(List.forall_mem_cons.mpr ⟨(List.mem_of_getElem? (i := 1) rfl), (List.forall_mem_cons.mpr ⟨(List.mem_of_getElem? (i := 10) rfl), (List.forall_mem_cons.mpr ⟨(List.mem_of_getElem? (i := 2) rfl), (List.forall_mem_cons.mpr ⟨(List.mem_of_getElem? (i := 11) rfl), (List.forall_mem_cons.mpr ⟨(List.mem_of_getElem? (i := 12) rfl), (List.forall_mem_cons.mpr ⟨(List.mem_of_getElem? (i := 13) rfl), (List.forall_mem_cons.mpr ⟨(List.mem_of_getElem? (i := 14) rfl), (List.forall_mem_cons.mpr ⟨(List.mem_of_getElem? (i := 8) rfl), (List.forall_mem_cons.mpr ⟨(List.mem_of_getElem? (i := 15) rfl), (List.forall_mem_cons.mpr ⟨(List.mem_of_getElem? (i := 16) rfl), (List.forall_mem_cons.mpr ⟨(List.mem_of_getElem? (i := 17) rfl), (fun _ h => absurd h List.not_mem_nil)⟩)⟩)⟩)⟩)⟩)⟩)⟩)⟩)⟩)⟩)⟩), (fun _ h => (List.mem_cons_of_mem _ (List.mem_append_left _ (List.mem_append_right _ h))))⟩), (fun _ h => (List.mem_cons_of_mem _ (List.mem_append_right _ h)))⟩)⟩) (by decide +kernel)
set_option maxRecDepth 20000 in
theorem gX4_takeLeast_X4_isNumberFrom : GoodIn wsX4_takeLeast (wsV RX4 146 RX4 yX4_isNumberFrom wsX4_isNumberFrom) := goodIn_app (goodIn_sub (List.forall_mem_cons.mpr ⟨(List.mem_of_getElem? (i := 5) rfl), (List.forall_mem_cons.mpr ⟨(List.mem_of_getElem? (i := 6) rfl), (List.forall_mem_cons.mpr ⟨(List.mem_of_getElem? (i := 7) rfl), (List.forall_mem_cons.mpr ⟨(List.mem_of_getElem? (i := 8) rfl), (fun _ h => absurd h List.not_mem_nil)⟩)⟩)⟩)⟩) (by decide +kernel)) ggX4_takeLeast_X4_isNumberFrom
theorem dX4_takeLeast_0 : decode cX4_takeLeast 0 = .ok (.aload_n 0, 1) := by decide +kernel
theorem dX4_takeLeast_1 : decode cX4_takeLeast 1 = .ok (.iconst 0, 1) := by decide +kernel
theorem dX4_takeLeast_2 : decode cX4_takeLeast 2 = .ok (.iconst 5, 1) := by decide +kernel
theorem dX4_takeLeast_3 : decode cX4_takeLeast 3 = .ok (.invokevirtual 146, 3) := by decide +kernel
theorem dX4_takeLeast_6 : decode cX4_takeLeast 6 = .ok (.ifCond .eq 20, 3) := by decide +kernel
theorem dX4_takeLeast_9 : decode cX4_takeLeast 9 = .ok (.aload_n 0, 1) := by decide +kernel
theorem dX4_takeLeast_10 : decode cX4_takeLeast 10 = .ok (.aload_n 0, 1) := by decide +kernel
theorem dX4_takeLeast_11 : decode cX4_takeLeast 11 = .ok (.getfield 14, 3) := by decide +kernel
theorem dX4_takeLeast_14 : decode cX4_takeLeast 14 = .ok (.getfield 107, 3) := by decide +kernel
theorem dX4_takeLeast_17 : decode cX4_takeLeast 17 = .ok (.putfield 140, 3) := by decide +kernel
theorem dX4_takeLeast_20 : decode cX4_takeLeast 20 = .ok (.aload_n 0, 1) := by decide +kernel
theorem dX4_takeLeast_21 : decode cX4_takeLeast 21 = .ok (.bipush 10, 2) := by decide +kernel
theorem dX4_takeLeast_23 : decode cX4_takeLeast 23 = .ok (.putfield 32, 3) := by decide +kernel
theorem dX4_takeLeast_26 : decode cX4_takeLeast 26 = .ok (.return_, 1) := by decide +kernel
def rmX4_takeLeast : Room := { frames := 2, cells := 0, slots := 0, locals := 43 }
theorem zdX4_takeLeast : yX4_takeLeast.cls = RX4 ∧ yX4_takeLeast.cls ≠ "java/lang/invoke/MethodHandle" ∧ yX4_takeLeast.cls ≠ "java/lang/invoke/VarHandle" ∧ (parseMethodDescriptor yX4_takeLeast.desc).map (fun d => d.parameters.length) = some 0 := by decide +kernel
theorem kiX4_takeLeast_X4 : ∀ w ∈ wsX40, w ∈ wsX4_takeLeast := fun _ h => (List.mem_cons_of_mem _ (List.mem_append_left _ (List.mem_append_right _ h)))
theorem kfX4_takeLeast_14 : Cond.fieldLink RX4 14 "ShapeJudge$TextReader" "tokens" "LShapeJudge$Tokens;" ∈ wsX4_takeLeast := (List.mem_of_getElem? (i := 1) rfl)
theorem kiX4_takeLeast_X5 : ∀ w ∈ wsX50, w ∈ wsX4_takeLeast := fun _ h => (List.mem_cons_of_mem _ (List.mem_append_right _ h))
theorem kfX4_takeLeast_107 : Cond.fieldLink RX4 107 "ShapeJudge$Tokens" "number" "I" ∈ wsX4_takeLeast := (List.mem_of_getElem? (i := 2) rfl)
theorem kfX4_takeLeast_140 : Cond.fieldLink RX4 140 "ShapeJudge$TextReader" "firstNumber" "I" ∈ wsX4_takeLeast := (List.mem_of_getElem? (i := 3) rfl)
theorem kfX4_takeLeast_32 : Cond.fieldLink RX4 32 "ShapeJudge$TextReader" "state" "I" ∈ wsX4_takeLeast := (List.mem_of_getElem? (i := 4) rfl)
def s_X4_takeLeast (m : Mem)  : Option (Mem) :=
  zb2 (s_X4_isNumberFrom m 0 5) fun r2 m3 => (if r2 = 0 then (some m3) else (bn (sto m3 9 7 (m3 10 4)) fun m4 => bn (sto m4 9 2 10) fun m5 => some m5))
set_option maxRecDepth 100000 in
set_option maxHeartbeats 4000000 in
theorem c_X4_takeLeast (l : Launch) (w : ZW) {m : Mem}  {m9 : Mem}  (hf : s_X4_takeLeast m  = some m9) : zCv MX l w yX4_takeLeast wsX4_takeLeast rmX4_takeLeast [.ref (w.2.1 9)] m m9 := by
  refine z_met_v MX_ok (own := RX4) (by decide +kernel) rfl rfl (Nat.le_of_ble_eq_true rfl) ?_
  intro K C hKw hKl hret
  subst hKw
  subst hKl
  unfold s_X4_takeLeast at hf
  show zGo MX K m [(0, .ref ((zw K).2.1 9))] 0 []
  refine z_aload_n C 0 dX4_takeLeast_0 rfl rfl ?_
  refine z_iconst C (v := 0) dX4_takeLeast_1 rfl ?_
  refine z_iconst C (v := 5) dX4_takeLeast_2 rfl ?_
  obtain ⟨r2, m3, hc1, hf⟩ := zb2_el hf
  refine z_cVi C (c_X4_isNumberFrom _ _ hc1) rfl gX4_takeLeast_X4_isNumberFrom rfl rfl zdX4_isNumberFrom rfl (Nat.le_of_ble_eq_true rfl) rfl rfl rfl ⟨Nat.le_of_ble_eq_true rfl, Nat.le_of_ble_eq_true rfl⟩ (Nat.le_of_ble_eq_true rfl) dX4_takeLeast_3 rfl ?_
  refine z_if_eq (tgt := 26) C dX4_takeLeast_6 (by decide) (fun c6 => ?_) (fun c6 => ?_)
  · replace hf := if_t c6 hf
    cases hf
    exact hret _ _ dX4_takeLeast_26
  · replace hf := if_f c6 hf
    refine z_aload_n C 0 dX4_takeLeast_9 rfl rfl ?_
    refine z_aload_n C 0 dX4_takeLeast_10 rfl rfl ?_
    refine z_getr C (t := 10) (Nat.le_of_ble_eq_true rfl) rfl rfl 0 (Nat.le_of_ble_eq_true rfl) rfl kiX4_takeLeast_X4 kfX4_takeLeast_14 dX4_takeLeast_11 ?_
    refine z_geti C (Nat.le_of_ble_eq_true rfl) rfl rfl 4 (Nat.le_of_ble_eq_true rfl) rfl kiX4_takeLeast_X5 kfX4_takeLeast_107 dX4_takeLeast_14 ?_
    refine z_puti C (Nat.le_of_ble_eq_true rfl) rfl rfl 7 (Nat.le_of_ble_eq_true rfl) rfl kiX4_takeLeast_X4 kfX4_takeLeast_140 tyX4 tyX4_ok nmX4 rfl rfl dX4_takeLeast_17 ?_
    refine z_nm (fun m4 e_m4 => ?_)
    replace hf := bn_to e_m4 hf
    refine z_aload_n C 0 dX4_takeLeast_20 rfl rfl ?_
    refine z_bipush C (v := 10) dX4_takeLeast_21 rfl ?_
    refine z_puti C (Nat.le_of_ble_eq_true rfl) rfl rfl 2 (Nat.le_of_ble_eq_true rfl) rfl kiX4_takeLeast_X4 kfX4_takeLeast_32 tyX4 tyX4_ok nmX4 rfl rfl dX4_takeLeast_23 ?_
    refine z_nm (fun m5 e_m5 => ?_)
    replace hf := bn_to e_m5 hf
    cases hf
    exact hret _ _ dX4_takeLeast_26
set_option maxRecDepth 20000 in
theorem ggX4_takeMost_X4_isNumberFrom : GoodIn wsX4_takeMost wsX4_isNumberFrom := goodIn_sub (List.forall_mem_cons.mpr ⟨(List.mem_of_getElem? (i := 10) rfl), (List.forall_mem_append.mpr ⟨(List.forall_mem_append.mpr ⟨(List.forall_mem_cons.mpr ⟨(List.mem_of_getElem? (i := 3) rfl), (List.forall_mem_cons.mpr ⟨(List.mem_of_getElem? (i := 11) rfl), (List.forall_mem_cons.mpr ⟨(List.mem_of_getElem? (i := 4) rfl), (List.forall_mem_cons.mpr ⟨(List.mem_of_getElem? (i := 12) rfl), (List.forall_mem_cons.mpr ⟨(List.mem_of_getElem? (i := 13) rfl), (List.forall_mem_cons.mpr ⟨(List.mem_of_getElem? (i := 14) rfl), (List.forall_mem_cons.mpr ⟨(List.mem_of_getElem? (i := 15) rfl), (List.forall_mem_cons.mpr ⟨(List.mem_of_getElem? (i := 9) rfl), (List.forall_mem_cons.mpr ⟨(List.mem_of_getElem? (i := 16) rfl), (List.forall_mem_cons.mpr ⟨(List.mem_of_getElem? (i := 17) rfl), (List.forall_mem_cons.mpr ⟨(List.mem_of_getElem? (i := 18) rfl), (fun _ h => absurd h List.not_mem_nil)⟩)⟩)⟩)⟩)⟩)⟩)⟩)⟩)⟩)⟩)⟩), (fun _ h => (List.mem_cons_of_mem _ (List.mem_append_left _ (List.mem_append_left _ (List.mem_append_right _ h)))))⟩), (fun _ h => (List.mem_cons_of_mem _ (List.mem_append_left _ (List.mem_append_right _ h))))⟩)⟩) (by decide +kernel)
set_option maxRecDepth 20000 in
theorem gX4_takeMost_X4_isNumberFrom : GoodIn wsX4_takeMost (wsV RX4 146 RX4 yX4_isNumberFrom wsX4_isNumberFrom) := goodIn_app (goodIn_sub (List.forall_mem_cons.mpr ⟨(List.mem_of_getElem? (i := 6) rfl), (List.forall_mem_cons.mpr ⟨(List.mem_of_getElem? (i := 7) rfl), (List.forall_mem_cons.mpr ⟨(List.mem_of_getElem? (i := 8) rfl), (List.forall_mem_cons.mpr ⟨(List.mem_of_getElem? (i := 9) rfl), (fun _ h => absurd h List.not_mem_nil)⟩)⟩)⟩)⟩) (by decide +kernel)) ggX4_takeMost_X4_isNumberFrom
set_option maxRecDepth 20000 in
theorem ggX4_takeMost_X0_addStep : GoodIn wsX4_takeMost wsX0_addStep := goodIn_sub (List.forall_mem_cons.mpr ⟨(List.mem_of_getElem? (i := 23) rfl), (List.forall_mem_append.mpr ⟨(List.forall_mem_cons.mpr ⟨(List.mem_of_getElem? (i := 24) rfl), (List.forall_mem_cons.mpr ⟨(List.mem_of_getElem? (i := 25) rfl), (List.forall_mem_cons.mpr ⟨(List.mem_of_getElem? (i := 26) rfl), (List.forall_mem_cons.mpr ⟨(List.mem_of_getElem? (i := 27) rfl), (List.forall_mem_cons.mpr ⟨(List.mem_of_getElem? (i := 28) rfl), (List.forall_mem_cons.mpr ⟨(List.mem_of_getElem? (i := 29) rfl), (List.forall_mem_cons.mpr ⟨(List.mem_of_getElem? (i := 30) rfl), (List.forall_mem_cons.mpr ⟨(List.mem_of_getElem? (i := 22) rfl), (List.forall_mem_cons.mpr ⟨(List.mem_of_getElem? (i := 31) rfl), (fun _ h => absurd h List.not_mem_nil)⟩)⟩)⟩)⟩)⟩)⟩)⟩)⟩)⟩), (fun _ h => (List.mem_cons_of_mem _ (List.mem_append_right _ h)))⟩)⟩) (by decide +kernel)
set_option maxRecDepth 20000 in
theorem gX4_takeMost_X0_addStep : GoodIn wsX4_takeMost (wsV RX4 150 RX0 yX0_addStep wsX0_addStep) := goodIn_app (goodIn_sub (List.forall_mem_cons.mpr ⟨(List.mem_of_getElem? (i := 19) rfl), (List.forall_mem_cons.mpr ⟨(List.mem_of_getElem? (i := 20) rfl), (List.forall_mem_cons.mpr ⟨(List.mem_of_getElem? (i := 21) rfl), (List.forall_mem_cons.mpr ⟨(List.mem_of_getElem? (i := 22) rfl), (fun _ h => absurd h List.not_mem_nil)⟩)⟩)⟩)⟩) (by decide +kernel)) ggX4_takeMost_X0_addStep
theorem dX4_takeMost_0 : decode cX4_takeMost 0 = .ok (.aload_n 0, 1) := by decide +kernel
theorem dX4_takeMost_1 : decode cX4_takeMost 1 = .ok (.aload_n 0, 1) := by decide +kernel
theorem dX4_takeMost_2 : decode cX4_takeMost 2 = .ok (.getfield 140, 3) := by decide +kernel
theorem dX4_takeMost_5 : decode cX4_takeMost 5 = .ok (.iconst 5, 1) := by decide +kernel
theorem dX4_takeMost_6 : decode cX4_takeMost 6 = .ok (.invokevirtual 146, 3) := by decide +kernel
theorem dX4_takeMost_9 : decode cX4_takeMost 9 = .ok (.ifCond .eq 32, 3) := by decide +kernel
theorem dX4_takeMost_12 : decode cX4_takeMost 12 = .ok (.aload_n 0, 1) := by decide +kernel
theorem dX4_takeMost_13 : decode cX4_takeMost 13 = .ok (.getfield 20, 3) := by decide +kernel
theorem dX4_takeMost_16 : decode cX4_takeMost 16 = .ok (.iconst 1, 1) := by decide +kernel
theorem dX4_takeMost_17 : decode cX4_takeMost 17 = .ok (.aload_n 0, 1) := by decide +kernel
theorem dX4_takeMost_18 : decode cX4_takeMost 18 = .ok (.getfield 140, 3) := by decide +kernel
theorem dX4_takeMost_21 : decode cX4_takeMost 21 = .ok (.bipush 8, 2) := by decide +kernel
theorem dX4_takeMost_23 : decode cX4_takeMost 23 = .ok (.imul, 1) := by decide +kernel
theorem dX4_takeMost_24 : decode cX4_takeMost 24 = .ok (.aload_n 0, 1) := by decide +kernel
theorem dX4_takeMost_25 : decode cX4_takeMost 25 = .ok (.getfield 14, 3) := by decide +kernel
theorem dX4_takeMost_28 : decode cX4_takeMost 28 = .ok (.getfield 107, 3) := by decide +kernel
theorem dX4_takeMost_31 : decode cX4_takeMost 31 = .ok (.iadd, 1) := by decide +kernel
theorem dX4_takeMost_32 : decode cX4_takeMost 32 = .ok (.invokevirtual 150, 3) := by decide +kernel
theorem dX4_takeMost_35 : decode cX4_takeMost 35 = .ok (.aload_n 0, 1) := by decide +kernel
theorem dX4_takeMost_36 : decode cX4_takeMost 36 = .ok (.bipush 11, 2) := by decide +kernel
theorem dX4_takeMost_38 : decode cX4_takeMost 38 = .ok (.putfield 32, 3) := by decide +kernel
theorem dX4_takeMost_41 : decode cX4_takeMost 41 = .ok (.return_, 1) := by decide +kernel
def rmX4_takeMost : Room := { frames := 2, cells := 0, slots := 0, locals := 43 }
theorem zdX4_takeMost : yX4_takeMost.cls = RX4 ∧ yX4_takeMost.cls ≠ "java/lang/invoke/MethodHandle" ∧ yX4_takeMost.cls ≠ "java/lang/invoke/VarHandle" ∧ (parseMethodDescriptor yX4_takeMost.desc).map (fun d => d.parameters.length) = some 0 := by decide +kernel
theorem kiX4_takeMost_X4 : ∀ w ∈ wsX40, w ∈ wsX4_takeMost := fun _ h => (List.mem_cons_of_mem _ (List.mem_append_left _ (List.mem_append_left _ (List.mem_append_right _ h))))
theorem kfX4_takeMost_140 : Cond.fieldLink RX4 140 "ShapeJudge$TextReader" "firstNumber" "I" ∈ wsX4_takeMost := (List.mem_of_getElem? (i := 1) rfl)
theorem kfX4_takeMost_20 : Cond.fieldLink RX4 20 "ShapeJudge$TextReader" "book" "LShapeJudge$Book;" ∈ wsX4_takeMost := (List.mem_of_getElem? (i := 2) rfl)
theorem kfX4_takeMost_14 : Cond.fieldLink RX4 14 "ShapeJudge$TextReader" "tokens" "LShapeJudge$Tokens;" ∈ wsX4_takeMost := (List.mem_of_getElem? (i := 3) rfl)
theorem kiX4_takeMost_X5 : ∀ w ∈ wsX50, w ∈ wsX4_takeMost := fun _ h => (List.mem_cons_of_mem _ (List.mem_append_left _ (List.mem_append_right _ h)))
theorem kfX4_takeMost_107 : Cond.fieldLink RX4 107 "ShapeJudge$Tokens" "number" "I" ∈ wsX4_takeMost := (List.mem_of_getElem? (i := 4) rfl)
theorem kfX4_takeMost_32 : Cond.fieldLink RX4 32 "ShapeJudge$TextReader" "state" "I" ∈ wsX4_takeMost := (List.mem_of_getElem? (i := 5) rfl)
def s_X4_takeMost (m : Mem)  : Option (Mem) :=
  zb2 (s_X4_isNumberFrom m (m 9 7) 5) fun r2 m3 => (if r2 = 0 then (some m3) else (zbk (m3 9 1) fun b4 => (s_X0_addStep m3 b4 1 (((m3 9 7) * 8) + (m3 10 4))).bind fun m6 => bn (sto m6 9 2 11) fun m7 => some m7))
set_option maxRecDepth 100000 in
set_option maxHeartbeats 4000000 in
theorem c_X4_takeMost (l : Launch) (w : ZW) {m : Mem}  {m9 : Mem}  (hf : s_X4_takeMost m  = some m9) : zCv MX l w yX4_takeMost wsX4_takeMost rmX4_takeMost [.ref (w.2.1 9)] m m9 := by
  refine z_met_v MX_ok (own := RX4) (by decide +kernel) rfl rfl (Nat.le_of_ble_eq_true rfl) ?_
  intro K C hKw hKl hret
  subst hKw
  subst hKl
  unfold s_X4_takeMost at hf
  show zGo MX K m [(0, .ref ((zw K).2.1 9))] 0 []
  refine z_aload_n C 0 dX4_takeMost_0 rfl rfl ?_
  refine z_aload_n C 0 dX4_takeMost_1 rfl rfl ?_
  refine z_geti C (Nat.le_of_ble_eq_true rfl) rfl rfl 7 (Nat.le_of_ble_eq_true rfl) rfl kiX4_takeMost_X4 kfX4_takeMost_140 dX4_takeMost_2 ?_
  refine z_iconst C (v := 5) dX4_takeMost_5 rfl ?_
  obtain ⟨r2, m3, hc1, hf⟩ := zb2_el hf
  refine z_cVi C (c_X4_isNumberFrom _ _ hc1) rfl gX4_takeMost_X4_isNumberFrom rfl rfl zdX4_isNumberFrom rfl (Nat.le_of_ble_eq_true rfl) rfl rfl rfl ⟨Nat.le_of_ble_eq_true rfl, Nat.le_of_ble_eq_true rfl⟩ (Nat.le_of_ble_eq_true rfl) dX4_takeMost_6 rfl ?_
  refine z_if_eq (tgt := 41) C dX4_takeMost_9 (by decide) (fun c8 => ?_) (fun c8 => ?_)
  · replace hf := if_t c8 hf
    cases hf
    exact hret _ _ dX4_takeMost_41
  · replace hf := if_f c8 hf
    refine z_aload_n C 0 dX4_takeMost_12 rfl rfl ?_
    obtain ⟨b4, hb4, e_b4, hf⟩ := zbk_el hf
    refine z_getb C (b := b4) (Nat.le_of_ble_eq_true rfl) rfl rfl 1 (Nat.le_of_ble_eq_true rfl) rfl kiX4_takeMost_X4 kfX4_takeMost_20 (isb_lt hb4) e_b4 dX4_takeMost_13 ?_
    refine z_iconst C (v := 1) dX4_takeMost_16 rfl ?_
    refine z_aload_n C 0 dX4_takeMost_17 rfl rfl ?_
    refine z_geti C (Nat.le_of_ble_eq_true rfl) rfl rfl 7 (Nat.le_of_ble_eq_true rfl) rfl kiX4_takeMost_X4 kfX4_takeMost_140 dX4_takeMost_18 ?_
    refine z_bipush C (v := 8) dX4_takeMost_21 rfl ?_
    refine z_imul C dX4_takeMost_23 ?_
    refine z_aload_n C 0 dX4_takeMost_24 rfl rfl ?_
    refine z_getr C (t := 10) (Nat.le_of_ble_eq_true rfl) rfl rfl 0 (Nat.le_of_ble_eq_true rfl) rfl kiX4_takeMost_X4 kfX4_takeMost_14 dX4_takeMost_25 ?_
    refine z_geti C (Nat.le_of_ble_eq_true rfl) rfl rfl 4 (Nat.le_of_ble_eq_true rfl) rfl kiX4_takeMost_X5 kfX4_takeMost_107 dX4_takeMost_28 ?_
    refine z_iadd C dX4_takeMost_31 ?_
    obtain ⟨m6, hc5, hf⟩ := zb_el hf
    refine z_cVv C (c_X0_addStep _ _ hb4 hc5) rfl gX4_takeMost_X0_addStep rfl rfl zdX0_addStep rfl (isb_k0 hb4) (isb_L0 hb4) rfl rfl ⟨Nat.le_of_ble_eq_true rfl, Nat.le_of_ble_eq_true rfl⟩ (Nat.le_of_ble_eq_true rfl) dX4_takeMost_32 rfl ?_
    refine z_aload_n C 0 dX4_takeMost_35 rfl rfl ?_
    refine z_bipush C (v := 11) dX4_takeMost_36 rfl ?_
    refine z_puti C (Nat.le_of_ble_eq_true rfl) rfl rfl 2 (Nat.le_of_ble_eq_true rfl) rfl kiX4_takeMost_X4 kfX4_takeMost_32 tyX4 tyX4_ok nmX4 rfl rfl dX4_takeMost_38 ?_
    refine z_nm (fun m7 e_m7 => ?_)
    replace hf := bn_to e_m7 hf
    cases hf
    exact hret _ _ dX4_takeMost_41
set_option maxRecDepth 20000 in
theorem ggX4_takeToken_X4_takeShapeWord : GoodIn wsX4_takeToken wsX4_takeShapeWord := goodIn_sub (List.forall_mem_cons.mpr ⟨(List.mem_of_getElem? (i := 6) rfl), (List.forall_mem_append.mpr ⟨(List.forall_mem_append.mpr ⟨(List.forall_mem_append.mpr ⟨(List.forall_mem_append.mpr ⟨(show ∀ w ∈ wsX4_takeShapeWord_r1, w ∈ wsX4_takeToken from (List.forall_mem_cons.mpr ⟨(List.mem_of_getElem? (i := 7) rfl), (List.forall_mem_cons.mpr ⟨(List.mem_of_getElem? (i := 8) rfl), (List.forall_mem_cons.mpr ⟨(List.mem_of_getElem? (i := 9) rfl), (List.forall_mem_cons.mpr ⟨(List.mem_of_getElem? (i := 10) rfl), (List.forall_mem_cons.mpr ⟨(List.mem_of_getElem? (i := 1) rfl), (List.forall_mem_cons.mpr ⟨(List.mem_of_getElem? (i := 11) rfl), (List.forall_mem_cons.mpr ⟨(List.mem_of_getElem? (i := 12) rfl), (List.forall_mem_cons.mpr ⟨(List.mem_of_getElem? (i := 13) rfl), (List.forall_mem_cons.mpr ⟨(List.mem_of_getElem? (i := 14) rfl), (List.forall_mem_cons.mpr ⟨(List.mem_of_getElem? (i := 5) rfl), (List.forall_mem_cons.mpr ⟨(List.mem_of_getElem? (i := 15) rfl), (List.forall_mem_cons.mpr ⟨(List.mem_of_getElem? (i := 16) rfl), (List.forall_mem_cons.mpr ⟨(List.mem_of_getElem? (i := 17) rfl), (List.forall_mem_cons.mpr ⟨(List.mem_of_getElem? (i := 18) rfl), (List.forall_mem_cons.mpr ⟨(List.mem_of_getElem? (i := 19) rfl), (List.forall_mem_cons.mpr ⟨(List.mem_of_getElem? (i := 20) rfl), (List.forall_mem_cons.mpr ⟨(List.mem_of_getElem? (i := 21) rfl), (List.forall_mem_cons.mpr ⟨(List.mem_of_getElem? (i := 22) rfl), (List.forall_mem_cons.mpr ⟨(List.mem_of_getElem? (i := 23) rfl), (List.forall_mem_cons.mpr ⟨(List.mem_of_getElem? (i := 24) rfl), (List.forall_mem_cons.mpr ⟨(List.mem_of_getElem? (i := 25) rfl), (List.forall_mem_cons.mpr ⟨(List.mem_of_getElem? (i := 26) rfl), (List.forall_mem_cons.mpr ⟨(List.mem_of_getElem? (i := 27) rfl), (List.forall_mem_cons.mpr ⟨(List.mem_of_getElem? (i := 28) rfl), (fun _ h => absurd h List.not_mem_nil)⟩)⟩)⟩)⟩)⟩)⟩)⟩)⟩)⟩)⟩)⟩)⟩)⟩)⟩)⟩)⟩)⟩)⟩)⟩)⟩)⟩)⟩)⟩)⟩)), (show ∀ w ∈ wsX4_takeShapeWord_r2, w ∈ wsX4_takeToken from (List.forall_mem_cons.mpr ⟨(List.mem_of_getElem? (i := 29) rfl), (List.forall_mem_cons.mpr ⟨(List.mem_of_getElem? (i := 30) rfl), (List.forall_mem_cons.mpr ⟨(List.mem_of_getElem? (i := 31) rfl), (List.forall_mem_cons.mpr ⟨(List.mem_of_getElem? (i := 32) rfl), (List.forall_mem_cons.mpr ⟨(List.mem_of_getElem? (i := 33) rfl), (List.forall_mem_cons.mpr ⟨(List.mem_of_getElem? (i := 34) rfl), (List.forall_mem_cons.mpr ⟨(List.mem_of_getElem? (i := 35) rfl), (List.forall_mem_cons.mpr ⟨(List.mem_of_getElem? (i := 36) rfl), (fun _ h => absurd h List.not_mem_nil)⟩)⟩)⟩)⟩)⟩)⟩)⟩)⟩))⟩), (fun _ h => (List.mem_cons_of_mem _ (List.mem_append_left _ (List.mem_append_left _ (List.mem_append_right _ h)))))⟩), (fun _ h => (List.mem_cons_of_mem _ (List.mem_append_left _ (List.mem_append_right _ h))))⟩), (fun _ h => (List.mem_cons_of_mem _ (List.mem_append_right _ h)))⟩)⟩) (by decide +kernel)
set_option maxRecDepth 20000 in
theorem gX4_takeToken_X4_takeShapeWord : GoodIn wsX4_takeToken (wsV RX4 70 RX4 yX4_takeShapeWord wsX4_takeShapeWord) := goodIn_app (goodIn_sub (List.forall_mem_cons.mpr ⟨(List.mem_of_getElem? (i := 2) rfl), (List.forall_mem_cons.mpr ⟨(List.mem_of_getElem? (i := 3) rfl), (List.forall_mem_cons.mpr ⟨(List.mem_of_getElem? (i := 4) rfl), (List.forall_mem_cons.mpr ⟨(List.mem_of_getElem? (i := 5) rfl), (fun _ h => absurd h List.not_mem_nil)⟩)⟩)⟩)⟩) (by decide +kernel)) ggX4_takeToken_X4_takeShapeWord
set_option maxRecDepth 20000 in
theorem ggX4_takeToken_X4_takeSign : GoodIn wsX4_takeToken wsX4_takeSign := goodIn_sub (List.forall_mem_cons.mpr ⟨(List.mem_of_getElem? (i := 40) rfl), (List.forall_mem_append.mpr ⟨(List.forall_mem_append.mpr ⟨(List.forall_mem_cons.mpr ⟨(List.mem_of_getElem? (i := 7) rfl), (List.forall_mem_cons.mpr ⟨(List.mem_of_getElem? (i := 8) rfl), (List.forall_mem_cons.mpr ⟨(List.mem_of_getElem? (i := 1) rfl), (List.forall_mem_cons.mpr ⟨(List.mem_of_getElem? (i := 12) rfl), (List.forall_mem_cons.mpr ⟨(List.mem_of_getElem? (i := 13) rfl), (List.forall_mem_cons.mpr ⟨(List.mem_of_getElem? (i := 14) rfl), (List.forall_mem_cons.mpr ⟨(List.mem_of_getElem? (i := 5) rfl), (List.forall_mem_cons.mpr ⟨(List.mem_of_getElem? (i := 15) rfl), (List.forall_mem_cons.mpr ⟨(List.mem_of_getElem? (i := 16) rfl), (List.forall_mem_cons.mpr ⟨(List.mem_of_getElem? (i := 17) rfl), (List.forall_mem_cons.mpr ⟨(List.mem_of_getElem? (i := 18) rfl), (fun _ h => absurd h List.not_mem_nil)⟩)⟩)⟩)⟩)⟩)⟩)⟩)⟩)⟩)⟩)⟩), (fun _ h => (List.mem_cons_of_mem _ (List.mem_append_left _ (List.mem_append_left _ (List.mem_append_right _ h)))))⟩), (fun _ h => (List.mem_cons_of_mem _ (List.mem_append_left _ (List.mem_append_right _ h))))⟩)⟩) (by decide +kernel)
set_option maxRecDepth 20000 in
theorem gX4_takeToken_X4_takeSign : GoodIn wsX4_takeToken (wsV RX4 73 RX4 yX4_takeSign wsX4_takeSign) := goodIn_app (goodIn_sub (List.forall_mem_cons.mpr ⟨(List.mem_of_getElem? (i := 37) rfl), (List.forall_mem_cons.mpr ⟨(List.mem_of_getElem? (i := 38) rfl), (List.forall_mem_cons.mpr ⟨(List.mem_of_getElem? (i := 39) rfl), (List.forall_mem_cons.mpr ⟨(List.mem_of_getElem? (i := 5) rfl), (fun _ h => absurd h List.not_mem_nil)⟩)⟩)⟩)⟩) (by decide +kernel)) ggX4_takeToken_X4_takeSign
set_option maxRecDepth 20000 in
theorem ggX4_takeToken_X4_takeBody : GoodIn wsX4_takeToken wsX4_takeBody := goodIn_sub (List.forall_mem_cons.mpr ⟨(List.mem_of_getElem? (i := 44) rfl), (List.forall_mem_append.mpr ⟨(List.forall_mem_append.mpr ⟨(List.forall_mem_append.mpr ⟨(List.forall_mem_append.mpr ⟨(show ∀ w ∈ wsX4_takeBody_r1, w ∈ wsX4_takeToken from (List.forall_mem_cons.mpr ⟨(List.mem_of_getElem? (i := 7) rfl), (List.forall_mem_cons.mpr ⟨(List.mem_of_getElem? (i := 8) rfl), (List.forall_mem_cons.mpr ⟨(List.mem_of_getElem? (i := 45) rfl), (List.forall_mem_cons.mpr ⟨(List.mem_of_getElem? (i := 46) rfl), (List.forall_mem_cons.mpr ⟨(List.mem_of_getElem? (i := 47) rfl), (List.forall_mem_cons.mpr ⟨(List.mem_of_getElem? (i := 5) rfl), (List.forall_mem_cons.mpr ⟨(List.mem_of_getElem? (i := 48) rfl), (List.forall_mem_cons.mpr ⟨(List.mem_of_getElem? (i := 11) rfl), (List.forall_mem_cons.mpr ⟨(List.mem_of_getElem? (i := 9) rfl), (List.forall_mem_cons.mpr ⟨(List.mem_of_getElem? (i := 1) rfl), (List.forall_mem_cons.mpr ⟨(List.mem_of_getElem? (i := 49) rfl), (List.forall_mem_cons.mpr ⟨(List.mem_of_getElem? (i := 50) rfl), (List.forall_mem_cons.mpr ⟨(List.mem_of_getElem? (i := 51) rfl), (List.forall_mem_cons.mpr ⟨(List.mem_of_getElem? (i := 52) rfl), (List.forall_mem_cons.mpr ⟨(List.mem_of_getElem? (i := 53) rfl), (List.forall_mem_cons.mpr ⟨(List.mem_of_getElem? (i := 12) rfl), (List.forall_mem_cons.mpr ⟨(List.mem_of_getElem? (i := 13) rfl), (List.forall_mem_cons.mpr ⟨(List.mem_of_getElem? (i := 14) rfl), (List.forall_mem_cons.mpr ⟨(List.mem_of_getElem? (i := 15) rfl), (List.forall_mem_cons.mpr ⟨(List.mem_of_getElem? (i := 16) rfl), (List.forall_mem_cons.mpr ⟨(List.mem_of_getElem? (i := 17) rfl), (List.forall_mem_cons.mpr ⟨(List.mem_of_getElem? (i := 18) rfl), (List.forall_mem_cons.mpr ⟨(List.mem_of_getElem? (i := 54) rfl), (List.forall_mem_cons.mpr ⟨(List.mem_of_getElem? (i := 55) rfl), (fun _ h => absurd h List.not_mem_nil)⟩)⟩)⟩)⟩)⟩)⟩)⟩)⟩)⟩)⟩)⟩)⟩)⟩)⟩)⟩)⟩)⟩)⟩)⟩)⟩)⟩)⟩)⟩)⟩)), (List.forall_mem_append.mpr ⟨(show ∀ w ∈ wsX4_takeBody_r2, w ∈ wsX4_takeToken from (List.forall_mem_cons.mpr ⟨(List.mem_of_getElem? (i := 56) rfl), (List.forall_mem_cons.mpr ⟨(List.mem_of_getElem? (i := 22) rfl), (List.forall_mem_cons.mpr ⟨(List.mem_of_getElem? (i := 57) rfl), (List.forall_mem_cons.mpr ⟨(List.mem_of_getElem? (i := 24) rfl), (List.forall_mem_cons.mpr ⟨(List.mem_of_getElem? (i := 30) rfl), (List.forall_mem_cons.mpr ⟨(List.mem_of_getElem? (i := 58) rfl), (List.forall_mem_cons.mpr ⟨(List.mem_of_getElem? (i := 59) rfl), (List.forall_mem_cons.mpr ⟨(List.mem_of_getElem? (i := 60) rfl), (List.forall_mem_cons.mpr ⟨(List.mem_of_getElem? (i := 61) rfl), (List.forall_mem_cons.mpr ⟨(List.mem_of_getElem? (i := 62) rfl), (List.forall_mem_cons.mpr ⟨(List.mem_of_getElem? (i := 63) rfl), (List.forall_mem_cons.mpr ⟨(List.mem_of_getElem? (i := 64) rfl), (List.forall_mem_cons.mpr ⟨(List.mem_of_getElem? (i := 65) rfl), (List.forall_mem_cons.mpr ⟨(List.mem_of_getElem? (i := 66) rfl), (List.forall_mem_cons.mpr ⟨(List.mem_of_getElem? (i := 67) rfl), (List.forall_mem_cons.mpr ⟨(List.mem_of_getElem? (i := 32) rfl), (List.forall_mem_cons.mpr ⟨(List.mem_of_getElem? (i := 68) rfl), (List.forall_mem_cons.mpr ⟨(List.mem_of_getElem? (i := 69) rfl), (List.forall_mem_cons.mpr ⟨(List.mem_of_getElem? (i := 70) rfl), (List.forall_mem_cons.mpr ⟨(List.mem_of_getElem? (i := 71) rfl), (List.forall_mem_cons.mpr ⟨(List.mem_of_getElem? (i := 72) rfl), (List.forall_mem_cons.mpr ⟨(List.mem_of_getElem? (i := 36) rfl), (List.forall_mem_cons.mpr ⟨(List.mem_of_getElem? (i := 73) rfl), (List.forall_mem_cons.mpr ⟨(List.mem_of_getElem? (i := 35) rfl), (fun _ h => absurd h List.not_mem_nil)⟩)⟩)⟩)⟩)⟩)⟩)⟩)⟩)⟩)⟩)⟩)⟩)⟩)⟩)⟩)⟩)⟩)⟩)⟩)⟩)⟩)⟩)⟩)⟩)), (show ∀ w ∈ wsX4_takeBody_r3, w ∈ wsX4_takeToken from (List.forall_mem_cons.mpr ⟨(List.mem_of_getElem? (i := 74) rfl), (List.forall_mem_cons.mpr ⟨(List.mem_of_getElem? (i := 75) rfl), (List.forall_mem_cons.mpr ⟨(List.mem_of_getElem? (i := 76) rfl), (List.forall_mem_cons.mpr ⟨(List.mem_of_getElem? (i := 77) rfl), (List.forall_mem_cons.mpr ⟨(List.mem_of_getElem? (i := 78) rfl), (List.forall_mem_cons.mpr ⟨(List.mem_of_getElem? (i := 79) rfl), (List.forall_mem_cons.mpr ⟨(List.mem_of_getElem? (i := 80) rfl), (List.forall_mem_cons.mpr ⟨(List.mem_of_getElem? (i := 81) rfl), (List.forall_mem_cons.mpr ⟨(List.mem_of_getElem? (i := 31) rfl), (List.forall_mem_cons.mpr ⟨(List.mem_of_getElem? (i := 37) rfl), (List.forall_mem_cons.mpr ⟨(List.mem_of_getElem? (i := 38) rfl), (List.forall_mem_cons.mpr ⟨(List.mem_of_getElem? (i := 39) rfl), (List.forall_mem_cons.mpr ⟨(List.mem_of_getElem? (i := 40) rfl), (fun _ h => absurd h List.not_mem_nil)⟩)⟩)⟩)⟩)⟩)⟩)⟩)⟩)⟩)⟩)⟩)⟩)⟩))⟩)⟩), (fun _ h => (List.mem_cons_of_mem _ (List.mem_append_left _ (List.mem_append_left _ (List.mem_append_right _ h)))))⟩), (fun _ h => (List.mem_cons_of_mem _ (List.mem_append_left _ (List.mem_append_right _ h))))⟩), (fun _ h => (List.mem_cons_of_mem _ (List.mem_append_right _ h)))⟩)⟩) (by decide +kernel)
set_option maxRecDepth 20000 in
theorem gX4_takeToken_X4_takeBody : GoodIn wsX4_takeToken (wsV RX4 77 RX4 yX4_takeBody wsX4_takeBody) := goodIn_app (goodIn_sub (List.forall_mem_cons.mpr ⟨(List.mem_of_getElem? (i := 41) rfl), (List.forall_mem_cons.mpr ⟨(List.mem_of_getElem? (i := 42) rfl), (List.forall_mem_cons.mpr ⟨(List.mem_of_getElem? (i := 43) rfl), (List.forall_mem_cons.mpr ⟨(List.mem_of_getElem? (i := 5) rfl), (fun _ h => absurd h List.not_mem_nil)⟩)⟩)⟩)⟩) (by decide +kernel)) ggX4_takeToken_X4_takeBody
set_option maxRecDepth 20000 in
theorem ggX4_takeToken_X4_takeOne : GoodIn wsX4_takeToken wsX4_takeOne := goodIn_sub (List.forall_mem_cons.mpr ⟨(List.mem_of_getElem? (i := 48) rfl), (List.forall_mem_append.mpr ⟨(List.forall_mem_append.mpr ⟨(List.forall_mem_append.mpr ⟨(List.forall_mem_append.mpr ⟨(show ∀ w ∈ wsX4_takeOne_r1, w ∈ wsX4_takeToken from (List.forall_mem_cons.mpr ⟨(List.mem_of_getElem? (i := 7) rfl), (List.forall_mem_cons.mpr ⟨(List.mem_of_getElem? (i := 8) rfl), (List.forall_mem_cons.mpr ⟨(List.mem_of_getElem? (i := 11) rfl), (List.forall_mem_cons.mpr ⟨(List.mem_of_getElem? (i := 9) rfl), (List.forall_mem_cons.mpr ⟨(List.mem_of_getElem? (i := 1) rfl), (List.forall_mem_cons.mpr ⟨(List.mem_of_getElem? (i := 49) rfl), (List.forall_mem_cons.mpr ⟨(List.mem_of_getElem? (i := 50) rfl), (List.forall_mem_cons.mpr ⟨(List.mem_of_getElem? (i := 51) rfl), (List.forall_mem_cons.mpr ⟨(List.mem_of_getElem? (i := 5) rfl), (List.forall_mem_cons.mpr ⟨(List.mem_of_getElem? (i := 52) rfl), (List.forall_mem_cons.mpr ⟨(List.mem_of_getElem? (i := 53) rfl), (List.forall_mem_cons.mpr ⟨(List.mem_of_getElem? (i := 12) rfl), (List.forall_mem_cons.mpr ⟨(List.mem_of_getElem? (i := 13) rfl), (List.forall_mem_cons.mpr ⟨(List.mem_of_getElem? (i := 14) rfl), (List.forall_mem_cons.mpr ⟨(List.mem_of_getElem? (i := 15) rfl), (List.forall_mem_cons.mpr ⟨(List.mem_of_getElem? (i := 16) rfl), (List.forall_mem_cons.mpr ⟨(List.mem_of_getElem? (i := 17) rfl), (List.forall_mem_cons.mpr ⟨(List.mem_of_getElem? (i := 18) rfl), (List.forall_mem_cons.mpr ⟨(List.mem_of_getElem? (i := 54) rfl), (List.forall_mem_cons.mpr ⟨(List.mem_of_getElem? (i := 55) rfl), (List.forall_mem_cons.mpr ⟨(List.mem_of_getElem? (i := 56) rfl), (List.forall_mem_cons.mpr ⟨(List.mem_of_getElem? (i := 22) rfl), (List.forall_mem_cons.mpr ⟨(List.mem_of_getElem? (i := 57) rfl), (List.forall_mem_cons.mpr ⟨(List.mem_of_getElem? (i := 24) rfl), (fun _ h => absurd h List.not_mem_nil)⟩)⟩)⟩)⟩)⟩)⟩)⟩)⟩)⟩)⟩)⟩)⟩)⟩)⟩)⟩)⟩)⟩)⟩)⟩)⟩)⟩)⟩)⟩)⟩)), (show ∀ w ∈ wsX4_takeOne_r2, w ∈ wsX4_takeToken from (List.forall_mem_cons.mpr ⟨(List.mem_of_getElem? (i := 30) rfl), (List.forall_mem_cons.mpr ⟨(List.mem_of_getElem? (i := 58) rfl), (List.forall_mem_cons.mpr ⟨(List.mem_of_getElem? (i := 59) rfl), (List.forall_mem_cons.mpr ⟨(List.mem_of_getElem? (i := 60) rfl), (List.forall_mem_cons.mpr ⟨(List.mem_of_getElem? (i := 61) rfl), (List.forall_mem_cons.mpr ⟨(List.mem_of_getElem? (i := 62) rfl), (List.forall_mem_cons.mpr ⟨(List.mem_of_getElem? (i := 63) rfl), (List.forall_mem_cons.mpr ⟨(List.mem_of_getElem? (i := 64) rfl), (List.forall_mem_cons.mpr ⟨(List.mem_of_getElem? (i := 65) rfl), (List.forall_mem_cons.mpr ⟨(List.mem_of_getElem? (i := 66) rfl), (List.forall_mem_cons.mpr ⟨(List.mem_of_getElem? (i := 67) rfl), (List.forall_mem_cons.mpr ⟨(List.mem_of_getElem? (i := 32) rfl), (List.forall_mem_cons.mpr ⟨(List.mem_of_getElem? (i := 68) rfl), (List.forall_mem_cons.mpr ⟨(List.mem_of_getElem? (i := 69) rfl), (List.forall_mem_cons.mpr ⟨(List.mem_of_getElem? (i := 70) rfl), (List.forall_mem_cons.mpr ⟨(List.mem_of_getElem? (i := 71) rfl), (List.forall_mem_cons.mpr ⟨(List.mem_of_getElem? (i := 72) rfl), (List.forall_mem_cons.mpr ⟨(List.mem_of_getElem? (i := 36) rfl), (List.forall_mem_cons.mpr ⟨(List.mem_of_getElem? (i := 73) rfl), (List.forall_mem_cons.mpr ⟨(List.mem_of_getElem? (i := 35) rfl), (fun _ h => absurd h List.not_mem_nil)⟩)⟩)⟩)⟩)⟩)⟩)⟩)⟩)⟩)⟩)⟩)⟩)⟩)⟩)⟩)⟩)⟩)⟩)⟩)⟩))⟩), (fun _ h => (List.mem_cons_of_mem _ (List.mem_append_left _ (List.mem_append_left _ (List.mem_append_right _ h)))))⟩), (fun _ h => (List.mem_cons_of_mem _ (List.mem_append_left _ (List.mem_append_right _ h))))⟩), (fun _ h => (List.mem_cons_of_mem _ (List.mem_append_right _ h)))⟩)⟩) (by decide +kernel)
set_option maxRecDepth 20000 in
theorem gX4_takeToken_X4_takeOne : GoodIn wsX4_takeToken (wsV RX4 80 RX4 yX4_takeOne wsX4_takeOne) := goodIn_app (goodIn_sub (List.forall_mem_cons.mpr ⟨(List.mem_of_getElem? (i := 45) rfl), (List.forall_mem_cons.mpr ⟨(List.mem_of_getElem? (i := 46) rfl), (List.forall_mem_cons.mpr ⟨(List.mem_of_getElem? (i := 47) rfl), (List.forall_mem_cons.mpr ⟨(List.mem_of_getElem? (i := 5) rfl), (fun _ h => absurd h List.not_mem_nil)⟩)⟩)⟩)⟩) (by decide +kernel)) ggX4_takeToken_X4_takeOne
set_option maxRecDepth 20000 in
theorem ggX4_takeToken_X4_takeTest : GoodIn wsX4_takeToken wsX4_takeTest := goodIn_sub (List.forall_mem_cons.mpr ⟨(List.mem_of_getElem? (i := 85) rfl), (List.forall_mem_append.mpr ⟨(List.forall_mem_append.mpr ⟨(List.forall_mem_append.mpr ⟨(List.forall_mem_append.mpr ⟨(show ∀ w ∈ wsX4_takeTest_r1, w ∈ wsX4_takeToken from (List.forall_mem_cons.mpr ⟨(List.mem_of_getElem? (i := 7) rfl), (List.forall_mem_cons.mpr ⟨(List.mem_of_getElem? (i := 8) rfl), (List.forall_mem_cons.mpr ⟨(List.mem_of_getElem? (i := 9) rfl), (List.forall_mem_cons.mpr ⟨(List.mem_of_getElem? (i := 1) rfl), (List.forall_mem_cons.mpr ⟨(List.mem_of_getElem? (i := 86) rfl), (List.forall_mem_cons.mpr ⟨(List.mem_of_getElem? (i := 11) rfl), (List.forall_mem_cons.mpr ⟨(List.mem_of_getElem? (i := 87) rfl), (List.forall_mem_cons.mpr ⟨(List.mem_of_getElem? (i := 88) rfl), (List.forall_mem_cons.mpr ⟨(List.mem_of_getElem? (i := 89) rfl), (List.forall_mem_cons.mpr ⟨(List.mem_of_getElem? (i := 90) rfl), (List.forall_mem_cons.mpr ⟨(List.mem_of_getElem? (i := 22) rfl), (List.forall_mem_cons.mpr ⟨(List.mem_of_getElem? (i := 91) rfl), (List.forall_mem_cons.mpr ⟨(List.mem_of_getElem? (i := 92) rfl), (List.forall_mem_cons.mpr ⟨(List.mem_of_getElem? (i := 66) rfl), (List.forall_mem_cons.mpr ⟨(List.mem_of_getElem? (i := 93) rfl), (List.forall_mem_cons.mpr ⟨(List.mem_of_getElem? (i := 94) rfl), (List.forall_mem_cons.mpr ⟨(List.mem_of_getElem? (i := 95) rfl), (List.forall_mem_cons.mpr ⟨(List.mem_of_getElem? (i := 12) rfl), (List.forall_mem_cons.mpr ⟨(List.mem_of_getElem? (i := 13) rfl), (List.forall_mem_cons.mpr ⟨(List.mem_of_getElem? (i := 14) rfl), (List.forall_mem_cons.mpr ⟨(List.mem_of_getElem? (i := 5) rfl), (List.forall_mem_cons.mpr ⟨(List.mem_of_getElem? (i := 15) rfl), (List.forall_mem_cons.mpr ⟨(List.mem_of_getElem? (i := 16) rfl), (List.forall_mem_cons.mpr ⟨(List.mem_of_getElem? (i := 17) rfl), (fun _ h => absurd h List.not_mem_nil)⟩)⟩)⟩)⟩)⟩)⟩)⟩)⟩)⟩)⟩)⟩)⟩)⟩)⟩)⟩)⟩)⟩)⟩)⟩)⟩)⟩)⟩)⟩)⟩)), (show ∀ w ∈ wsX4_takeTest_r2, w ∈ wsX4_takeToken from (List.forall_mem_cons.mpr ⟨(List.mem_of_getElem? (i := 18) rfl), (fun _ h => absurd h List.not_mem_nil)⟩))⟩), (fun _ h => (List.mem_cons_of_mem _ (List.mem_append_left _ (List.mem_append_left _ (List.mem_append_right _ h)))))⟩), (fun _ h => (List.mem_cons_of_mem _ (List.mem_append_left _ (List.mem_append_right _ h))))⟩), (fun _ h => (List.mem_cons_of_mem _ (List.mem_append_right _ h)))⟩)⟩) (by decide +kernel)
set_option maxRecDepth 20000 in
theorem gX4_takeToken_X4_takeTest : GoodIn wsX4_takeToken (wsV RX4 83 RX4 yX4_takeTest wsX4_takeTest) := goodIn_app (goodIn_sub (List.forall_mem_cons.mpr ⟨(List.mem_of_getElem? (i := 82) rfl), (List.forall_mem_cons.mpr ⟨(List.mem_of_getElem? (i := 83) rfl), (List.forall_mem_cons.mpr ⟨(List.mem_of_getElem? (i := 84) rfl), (List.forall_mem_cons.mpr ⟨(List.mem_of_getElem? (i := 5) rfl), (fun _ h => absurd h List.not_mem_nil)⟩)⟩)⟩)⟩) (by decide +kernel)) ggX4_takeToken_X4_takeTest
set_option maxRecDepth 20000 in
theorem ggX4_takeToken_X4_takeReference : GoodIn wsX4_takeToken wsX4_takeReference := goodIn_sub (List.forall_mem_cons.mpr ⟨(List.mem_of_getElem? (i := 99) rfl), (List.forall_mem_append.mpr ⟨(List.forall_mem_append.mpr ⟨(List.forall_mem_append.mpr ⟨(List.forall_mem_cons.mpr ⟨(List.mem_of_getElem? (i := 7) rfl), (List.forall_mem_cons.mpr ⟨(List.mem_of_getElem? (i := 8) rfl), (List.forall_mem_cons.mpr ⟨(List.mem_of_getElem? (i := 9) rfl), (List.forall_mem_cons.mpr ⟨(List.mem_of_getElem? (i := 86) rfl), (List.forall_mem_cons.mpr ⟨(List.mem_of_getElem? (i := 11) rfl), (List.forall_mem_cons.mpr ⟨(List.mem_of_getElem? (i := 17) rfl), (List.forall_mem_cons.mpr ⟨(List.mem_of_getElem? (i := 1) rfl), (List.forall_mem_cons.mpr ⟨(List.mem_of_getElem? (i := 88) rfl), (List.forall_mem_cons.mpr ⟨(List.mem_of_getElem? (i := 89) rfl), (List.forall_mem_cons.mpr ⟨(List.mem_of_getElem? (i := 90) rfl), (List.forall_mem_cons.mpr ⟨(List.mem_of_getElem? (i := 22) rfl), (List.forall_mem_cons.mpr ⟨(List.mem_of_getElem? (i := 91) rfl), (List.forall_mem_cons.mpr ⟨(List.mem_of_getElem? (i := 92) rfl), (List.forall_mem_cons.mpr ⟨(List.mem_of_getElem? (i := 66) rfl), (List.forall_mem_cons.mpr ⟨(List.mem_of_getElem? (i := 93) rfl), (List.forall_mem_cons.mpr ⟨(List.mem_of_getElem? (i := 94) rfl), (List.forall_mem_cons.mpr ⟨(List.mem_of_getElem? (i := 95) rfl), (List.forall_mem_cons.mpr ⟨(List.mem_of_getElem? (i := 12) rfl), (List.forall_mem_cons.mpr ⟨(List.mem_of_getElem? (i := 13) rfl), (List.forall_mem_cons.mpr ⟨(List.mem_of_getElem? (i := 14) rfl), (List.forall_mem_cons.mpr ⟨(List.mem_of_getElem? (i := 5) rfl), (List.forall_mem_cons.mpr ⟨(List.mem_of_getElem? (i := 15) rfl), (List.forall_mem_cons.mpr ⟨(List.mem_of_getElem? (i := 16) rfl), (List.forall_mem_cons.mpr ⟨(List.mem_of_getElem? (i := 18) rfl), (fun _ h => absurd h List.not_mem_nil)⟩)⟩)⟩)⟩)⟩)⟩)⟩)⟩)⟩)⟩)⟩)⟩)⟩)⟩)⟩)⟩)⟩)⟩)⟩)⟩)⟩)⟩)⟩)⟩), (fun _ h => (List.mem_cons_of_mem _ (List.mem_append_left _ (List.mem_append_left _ (List.mem_append_right _ h)))))⟩), (fun _ h => (List.mem_cons_of_mem _ (List.mem_append_left _ (List.mem_append_right _ h))))⟩), (fun _ h => (List.mem_cons_of_mem _ (List.mem_append_right _ h)))⟩)⟩) (by decide +kernel)
set_option maxRecDepth 20000 in
theorem gX4_takeToken_X4_takeReference : GoodIn wsX4_takeToken (wsV RX4 86 RX4 yX4_takeReference wsX4_takeReference) := goodIn_app (goodIn_sub (List.forall_mem_cons.mpr ⟨(List.mem_of_getElem? (i := 96) rfl), (List.forall_mem_cons.mpr ⟨(List.mem_of_getElem? (i := 97) rfl), (List.forall_mem_cons.mpr ⟨(List.mem_of_getElem? (i := 98) rfl), (List.forall_mem_cons.mpr ⟨(List.mem_of_getElem? (i := 5) rfl), (fun _ h => absurd h List.not_mem_nil)⟩)⟩)⟩)⟩) (by decide +kernel)) ggX4_takeToken_X4_takeReference
set_option maxRecDepth 20000 in
theorem ggX4_takeToken_X4_takeLastNumber : GoodIn wsX4_takeToken wsX4_takeLastNumber := goodIn_sub (List.forall_mem_cons.mpr ⟨(List.mem_of_getElem? (i := 103) rfl), (List.forall_mem_append.mpr ⟨(List.forall_mem_append.mpr ⟨(List.forall_mem_append.mpr ⟨(List.forall_mem_append.mpr ⟨(show ∀ w ∈ wsX4_takeLastNumber_r1, w ∈ wsX4_takeToken from (List.forall_mem_cons.mpr ⟨(List.mem_of_getElem? (i := 87) rfl), (List.forall_mem_cons.mpr ⟨(List.mem_of_getElem? (i := 104) rfl), (List.forall_mem_cons.mpr ⟨(List.mem_of_getElem? (i := 9) rfl), (List.forall_mem_cons.mpr ⟨(List.mem_of_getElem? (i := 7) rfl), (List.forall_mem_cons.mpr ⟨(List.mem_of_getElem? (i := 11) rfl), (List.forall_mem_cons.mpr ⟨(List.mem_of_getElem? (i := 1) rfl), (List.forall_mem_cons.mpr ⟨(List.mem_of_getElem? (i := 105) rfl), (List.forall_mem_cons.mpr ⟨(List.mem_of_getElem? (i := 106) rfl), (List.forall_mem_cons.mpr ⟨(List.mem_of_getElem? (i := 107) rfl), (List.forall_mem_cons.mpr ⟨(List.mem_of_getElem? (i := 5) rfl), (List.forall_mem_cons.mpr ⟨(List.mem_of_getElem? (i := 108) rfl), (List.forall_mem_cons.mpr ⟨(List.mem_of_getElem? (i := 8) rfl), (List.forall_mem_cons.mpr ⟨(List.mem_of_getElem? (i := 16) rfl), (List.forall_mem_cons.mpr ⟨(List.mem_of_getElem? (i := 12) rfl), (List.forall_mem_cons.mpr ⟨(List.mem_of_getElem? (i := 13) rfl), (List.forall_mem_cons.mpr ⟨(List.mem_of_getElem? (i := 14) rfl), (List.forall_mem_cons.mpr ⟨(List.mem_of_getElem? (i := 15) rfl), (List.forall_mem_cons.mpr ⟨(List.mem_of_getElem? (i := 17) rfl), (List.forall_mem_cons.mpr ⟨(List.mem_of_getElem? (i := 18) rfl), (List.forall_mem_cons.mpr ⟨(List.mem_of_getElem? (i := 88) rfl), (List.forall_mem_cons.mpr ⟨(List.mem_of_getElem? (i := 89) rfl), (List.forall_mem_cons.mpr ⟨(List.mem_of_getElem? (i := 90) rfl), (List.forall_mem_cons.mpr ⟨(List.mem_of_getElem? (i := 22) rfl), (List.forall_mem_cons.mpr ⟨(List.mem_of_getElem? (i := 91) rfl), (fun _ h => absurd h List.not_mem_nil)⟩)⟩)⟩)⟩)⟩)⟩)⟩)⟩)⟩)⟩)⟩)⟩)⟩)⟩)⟩)⟩)⟩)⟩)⟩)⟩)⟩)⟩)⟩)⟩)), (show ∀ w ∈ wsX4_takeLastNumber_r2, w ∈ wsX4_takeToken from (List.forall_mem_cons.mpr ⟨(List.mem_of_getElem? (i := 92) rfl), (List.forall_mem_cons.mpr ⟨(List.mem_of_getElem? (i := 66) rfl), (List.forall_mem_cons.mpr ⟨(List.mem_of_getElem? (i := 93) rfl), (List.forall_mem_cons.mpr ⟨(List.mem_of_getElem? (i := 94) rfl), (List.forall_mem_cons.mpr ⟨(List.mem_of_getElem? (i := 95) rfl), (fun _ h => absurd h List.not_mem_nil)⟩)⟩)⟩)⟩)⟩))⟩), (fun _ h => (List.mem_cons_of_mem _ (List.mem_append_left _ (List.mem_append_left _ (List.mem_append_right _ h)))))⟩), (fun _ h => (List.mem_cons_of_mem _ (List.mem_append_left _ (List.mem_append_right _ h))))⟩), (fun _ h => (List.mem_cons_of_mem _ (List.mem_append_right _ h)))⟩)⟩) (by decide +kernel)
set_option maxRecDepth 20000 in
theorem gX4_takeToken_X4_takeLastNumber : GoodIn wsX4_takeToken (wsV RX4 89 RX4 yX4_takeLastNumber wsX4_takeLastNumber) := goodIn_app (goodIn_sub (List.forall_mem_cons.mpr ⟨(List.mem_of_getElem? (i := 100) rfl), (List.forall_mem_cons.mpr ⟨(List.mem_of_getElem? (i := 101) rfl), (List.forall_mem_cons.mpr ⟨(List.mem_of_getElem? (i := 102) rfl), (List.forall_mem_cons.mpr ⟨(List.mem_of_getElem? (i := 5) rfl), (fun _ h => absurd h List.not_mem_nil)⟩)⟩)⟩)⟩) (by decide +kernel)) ggX4_takeToken_X4_takeLastNumber
set_option maxRecDepth 20000 in
theorem ggX4_takeToken_X4_takeBehindOne : GoodIn wsX4_takeToken wsX4_takeBehindOne := goodIn_sub (List.forall_mem_cons.mpr ⟨(List.mem_of_getElem? (i := 112) rfl), (List.forall_mem_append.mpr ⟨(List.forall_mem_append.mpr ⟨(List.forall_mem_append.mpr ⟨(List.forall_mem_append.mpr ⟨(show ∀ w ∈ wsX4_takeBehindOne_r1, w ∈ wsX4_takeToken from (List.forall_mem_cons.mpr ⟨(List.mem_of_getElem? (i := 7) rfl), (List.forall_mem_cons.mpr ⟨(List.mem_of_getElem? (i := 8) rfl), (List.forall_mem_cons.mpr ⟨(List.mem_of_getElem? (i := 1) rfl), (List.forall_mem_cons.mpr ⟨(List.mem_of_getElem? (i := 113) rfl), (List.forall_mem_cons.mpr ⟨(List.mem_of_getElem? (i := 114) rfl), (List.forall_mem_cons.mpr ⟨(List.mem_of_getElem? (i := 115) rfl), (List.forall_mem_cons.mpr ⟨(List.mem_of_getElem? (i := 5) rfl), (List.forall_mem_cons.mpr ⟨(List.mem_of_getElem? (i := 116) rfl), (List.forall_mem_cons.mpr ⟨(List.mem_of_getElem? (i := 53) rfl), (List.forall_mem_cons.mpr ⟨(List.mem_of_getElem? (i := 117) rfl), (List.forall_mem_cons.mpr ⟨(List.mem_of_getElem? (i := 118) rfl), (List.forall_mem_cons.mpr ⟨(List.mem_of_getElem? (i := 12) rfl), (List.forall_mem_cons.mpr ⟨(List.mem_of_getElem? (i := 13) rfl), (List.forall_mem_cons.mpr ⟨(List.mem_of_getElem? (i := 14) rfl), (List.forall_mem_cons.mpr ⟨(List.mem_of_getElem? (i := 15) rfl), (List.forall_mem_cons.mpr ⟨(List.mem_of_getElem? (i := 16) rfl), (List.forall_mem_cons.mpr ⟨(List.mem_of_getElem? (i := 17) rfl), (List.forall_mem_cons.mpr ⟨(List.mem_of_getElem? (i := 18) rfl), (List.forall_mem_cons.mpr ⟨(List.mem_of_getElem? (i := 119) rfl), (List.forall_mem_cons.mpr ⟨(List.mem_of_getElem? (i := 120) rfl), (List.forall_mem_cons.mpr ⟨(List.mem_of_getElem? (i := 121) rfl), (List.forall_mem_cons.mpr ⟨(List.mem_of_getElem? (i := 122) rfl), (List.forall_mem_cons.mpr ⟨(List.mem_of_getElem? (i := 9) rfl), (List.forall_mem_cons.mpr ⟨(List.mem_of_getElem? (i := 123) rfl), (fun _ h => absurd h List.not_mem_nil)⟩)⟩)⟩)⟩)⟩)⟩)⟩)⟩)⟩)⟩)⟩)⟩)⟩)⟩)⟩)⟩)⟩)⟩)⟩)⟩)⟩)⟩)⟩)⟩)), (List.forall_mem_append.mpr ⟨(show ∀ w ∈ wsX4_takeBehindOne_r2, w ∈ wsX4_takeToken from (List.forall_mem_cons.mpr ⟨(List.mem_of_getElem? (i := 70) rfl), (List.forall_mem_cons.mpr ⟨(List.mem_of_getElem? (i := 71) rfl), (List.forall_mem_cons.mpr ⟨(List.mem_of_getElem? (i := 22) rfl), (List.forall_mem_cons.mpr ⟨(List.mem_of_getElem? (i := 72) rfl), (List.forall_mem_cons.mpr ⟨(List.mem_of_getElem? (i := 36) rfl), (List.forall_mem_cons.mpr ⟨(List.mem_of_getElem? (i := 73) rfl), (List.forall_mem_cons.mpr ⟨(List.mem_of_getElem? (i := 24) rfl), (List.forall_mem_cons.mpr ⟨(List.mem_of_getElem? (i := 35) rfl), (List.forall_mem_cons.mpr ⟨(List.mem_of_getElem? (i := 58) rfl), (List.forall_mem_cons.mpr ⟨(List.mem_of_getElem? (i := 59) rfl), (List.forall_mem_cons.mpr ⟨(List.mem_of_getElem? (i := 60) rfl), (List.forall_mem_cons.mpr ⟨(List.mem_of_getElem? (i := 61) rfl), (List.forall_mem_cons.mpr ⟨(List.mem_of_getElem? (i := 124) rfl), (List.forall_mem_cons.mpr ⟨(List.mem_of_getElem? (i := 125) rfl), (List.forall_mem_cons.mpr ⟨(List.mem_of_getElem? (i := 126) rfl), (List.forall_mem_cons.mpr ⟨(List.mem_of_getElem? (i := 127) rfl), (List.forall_mem_cons.mpr ⟨(List.mem_of_getElem? (i := 74) rfl), (List.forall_mem_cons.mpr ⟨(List.mem_of_getElem? (i := 75) rfl), (List.forall_mem_cons.mpr ⟨(List.mem_of_getElem? (i := 76) rfl), (List.forall_mem_cons.mpr ⟨(List.mem_of_getElem? (i := 77) rfl), (List.forall_mem_cons.mpr ⟨(List.mem_of_getElem? (i := 78) rfl), (List.forall_mem_cons.mpr ⟨(List.mem_of_getElem? (i := 79) rfl), (List.forall_mem_cons.mpr ⟨(List.mem_of_getElem? (i := 80) rfl), (List.forall_mem_cons.mpr ⟨(List.mem_of_getElem? (i := 81) rfl), (fun _ h => absurd h List.not_mem_nil)⟩)⟩)⟩)⟩)⟩)⟩)⟩)⟩)⟩)⟩)⟩)⟩)⟩)⟩)⟩)⟩)⟩)⟩)⟩)⟩)⟩)⟩)⟩)⟩)), (show ∀ w ∈ wsX4_takeBehindOne_r3, w ∈ wsX4_takeToken from (List.forall_mem_cons.mpr ⟨(List.mem_of_getElem? (i := 31) rfl), (List.forall_mem_cons.mpr ⟨(List.mem_of_getElem? (i := 37) rfl), (List.forall_mem_cons.mpr ⟨(List.mem_of_getElem? (i := 38) rfl), (List.forall_mem_cons.mpr ⟨(List.mem_of_getElem? (i := 39) rfl), (List.forall_mem_cons.mpr ⟨(List.mem_of_getElem? (i := 40) rfl), (fun _ h => absurd h List.not_mem_nil)⟩)⟩)⟩)⟩)⟩))⟩)⟩), (fun _ h => (List.mem_cons_of_mem _ (List.mem_append_left _ (List.mem_append_left _ (List.mem_append_right _ h)))))⟩), (fun _ h => (List.mem_cons_of_mem _ (List.mem_append_left _ (List.mem_append_right _ h))))⟩), (fun _ h => (List.mem_cons_of_mem _ (List.mem_append_right _ h)))⟩)⟩) (by decide +kernel)
set_option maxRecDepth 20000 in
theorem gX4_takeToken_X4_takeBehindOne : GoodIn wsX4_takeToken (wsV RX4 92 RX4 yX4_takeBehindOne wsX4_takeBehindOne) := goodIn_app (goodIn_sub (List.forall_mem_cons.mpr ⟨(List.mem_of_getElem? (i := 109) rfl), (List.forall_mem_cons.mpr ⟨(List.mem_of_getElem? (i := 110) rfl), (List.forall_mem_cons.mpr ⟨(List.mem_of_getElem? (i := 111) rfl), (List.forall_mem_cons.mpr ⟨(List.mem_of_getElem? (i := 5) rfl), (fun _ h => absurd h List.not_mem_nil)⟩)⟩)⟩)⟩) (by decide +kernel)) ggX4_takeToken_X4_takeBehindOne
set_option maxRecDepth 20000 in
theorem ggX4_takeToken_X4_takeLeast : GoodIn wsX4_takeToken wsX4_takeLeast := goodIn_sub (List.forall_mem_cons.mpr ⟨(List.mem_of_getElem? (i := 131) rfl), (List.forall_mem_append.mpr ⟨(List.forall_mem_append.mpr ⟨(List.forall_mem_cons.mpr ⟨(List.mem_of_getElem? (i := 7) rfl), (List.forall_mem_cons.mpr ⟨(List.mem_of_getElem? (i := 11) rfl), (List.forall_mem_cons.mpr ⟨(List.mem_of_getElem? (i := 87) rfl), (List.forall_mem_cons.mpr ⟨(List.mem_of_getElem? (i := 1) rfl), (List.forall_mem_cons.mpr ⟨(List.mem_of_getElem? (i := 105) rfl), (List.forall_mem_cons.mpr ⟨(List.mem_of_getElem? (i := 106) rfl), (List.forall_mem_cons.mpr ⟨(List.mem_of_getElem? (i := 107) rfl), (List.forall_mem_cons.mpr ⟨(List.mem_of_getElem? (i := 5) rfl), (List.forall_mem_cons.mpr ⟨(List.mem_of_getElem? (i := 108) rfl), (List.forall_mem_cons.mpr ⟨(List.mem_of_getElem? (i := 8) rfl), (List.forall_mem_cons.mpr ⟨(List.mem_of_getElem? (i := 16) rfl), (List.forall_mem_cons.mpr ⟨(List.mem_of_getElem? (i := 12) rfl), (List.forall_mem_cons.mpr ⟨(List.mem_of_getElem? (i := 13) rfl), (List.forall_mem_cons.mpr ⟨(List.mem_of_getElem? (i := 14) rfl), (List.forall_mem_cons.mpr ⟨(List.mem_of_getElem? (i := 15) rfl), (List.forall_mem_cons.mpr ⟨(List.mem_of_getElem? (i := 17) rfl), (List.forall_mem_cons.mpr ⟨(List.mem_of_getElem? (i := 18) rfl), (fun _ h => absurd h List.not_mem_nil)⟩)⟩)⟩)⟩)⟩)⟩)⟩)⟩)⟩)⟩)⟩)⟩)⟩)⟩)⟩)⟩)⟩), (fun _ h => (List.mem_cons_of_mem _ (List.mem_append_left _ (List.mem_append_left _ (List.mem_append_right _ h)))))⟩), (fun _ h => (List.mem_cons_of_mem _ (List.mem_append_left _ (List.mem_append_right _ h))))⟩)⟩) (by decide +kernel)
set_option maxRecDepth 20000 in
theorem gX4_takeToken_X4_takeLeast : GoodIn wsX4_takeToken (wsV RX4 95 RX4 yX4_takeLeast wsX4_takeLeast) := goodIn_app (goodIn_sub (List.forall_mem_cons.mpr ⟨(List.mem_of_getElem? (i := 128) rfl), (List.forall_mem_cons.mpr ⟨(List.mem_of_getElem? (i := 129) rfl), (List.forall_mem_cons.mpr ⟨(List.mem_of_getElem? (i := 130) rfl), (List.forall_mem_cons.mpr ⟨(List.mem_of_getElem? (i := 5) rfl), (fun _ h => absurd h List.not_mem_nil)⟩)⟩)⟩)⟩) (by decide +kernel)) ggX4_takeToken_X4_takeLeast
set_option maxRecDepth 20000 in
theorem ggX4_takeToken_X4_takeMost : GoodIn wsX4_takeToken wsX4_takeMost := goodIn_sub (List.forall_mem_cons.mpr ⟨(List.mem_of_getElem? (i := 135) rfl), (List.forall_mem_append.mpr ⟨(List.forall_mem_append.mpr ⟨(List.forall_mem_append.mpr ⟨(List.forall_mem_append.mpr ⟨(show ∀ w ∈ wsX4_takeMost_r1, w ∈ wsX4_takeToken from (List.forall_mem_cons.mpr ⟨(List.mem_of_getElem? (i := 87) rfl), (List.forall_mem_cons.mpr ⟨(List.mem_of_getElem? (i := 9) rfl), (List.forall_mem_cons.mpr ⟨(List.mem_of_getElem? (i := 7) rfl), (List.forall_mem_cons.mpr ⟨(List.mem_of_getElem? (i := 11) rfl), (List.forall_mem_cons.mpr ⟨(List.mem_of_getElem? (i := 1) rfl), (List.forall_mem_cons.mpr ⟨(List.mem_of_getElem? (i := 105) rfl), (List.forall_mem_cons.mpr ⟨(List.mem_of_getElem? (i := 106) rfl), (List.forall_mem_cons.mpr ⟨(List.mem_of_getElem? (i := 107) rfl), (List.forall_mem_cons.mpr ⟨(List.mem_of_getElem? (i := 5) rfl), (List.forall_mem_cons.mpr ⟨(List.mem_of_getElem? (i := 108) rfl), (List.forall_mem_cons.mpr ⟨(List.mem_of_getElem? (i := 8) rfl), (List.forall_mem_cons.mpr ⟨(List.mem_of_getElem? (i := 16) rfl), (List.forall_mem_cons.mpr ⟨(List.mem_of_getElem? (i := 12) rfl), (List.forall_mem_cons.mpr ⟨(List.mem_of_getElem? (i := 13) rfl), (List.forall_mem_cons.mpr ⟨(List.mem_of_getElem? (i := 14) rfl), (List.forall_mem_cons.mpr ⟨(List.mem_of_getElem? (i := 15) rfl), (List.forall_mem_cons.mpr ⟨(List.mem_of_getElem? (i := 17) rfl), (List.forall_mem_cons.mpr ⟨(List.mem_of_getElem? (i := 18) rfl), (List.forall_mem_cons.mpr ⟨(List.mem_of_getElem? (i := 123) rfl), (List.forall_mem_cons.mpr ⟨(List.mem_of_getElem? (i := 70) rfl), (List.forall_mem_cons.mpr ⟨(List.mem_of_getElem? (i := 71) rfl), (List.forall_mem_cons.mpr ⟨(List.mem_of_getElem? (i := 22) rfl), (List.forall_mem_cons.mpr ⟨(List.mem_of_getElem? (i := 72) rfl), (List.forall_mem_cons.mpr ⟨(List.mem_of_getElem? (i := 36) rfl), (fun _ h => absurd h List.not_mem_nil)⟩)⟩)⟩)⟩)⟩)⟩)⟩)⟩)⟩)⟩)⟩)⟩)⟩)⟩)⟩)⟩)⟩)⟩)⟩)⟩)⟩)⟩)⟩)⟩)), (show ∀ w ∈ wsX4_takeMost_r2, w ∈ wsX4_takeToken from (List.forall_mem_cons.mpr ⟨(List.mem_of_getElem? (i := 73) rfl), (List.forall_mem_cons.mpr ⟨(List.mem_of_getElem? (i := 24) rfl), (List.forall_mem_cons.mpr ⟨(List.mem_of_getElem? (i := 35) rfl), (List.forall_mem_cons.mpr ⟨(List.mem_of_getElem? (i := 58) rfl), (List.forall_mem_cons.mpr ⟨(List.mem_of_getElem? (i := 59) rfl), (List.forall_mem_cons.mpr ⟨(List.mem_of_getElem? (i := 60) rfl), (List.forall_mem_cons.mpr ⟨(List.mem_of_getElem? (i := 61) rfl), (fun _ h => absurd h List.not_mem_nil)⟩)⟩)⟩)⟩)⟩)⟩)⟩))⟩), (fun _ h => (List.mem_cons_of_mem _ (List.mem_append_left _ (List.mem_append_left _ (List.mem_append_right _ h)))))⟩), (fun _ h => (List.mem_cons_of_mem _ (List.mem_append_left _ (List.mem_append_right _ h))))⟩), (fun _ h => (List.mem_cons_of_mem _ (List.mem_append_right _ h)))⟩)⟩) (by decide +kernel)
set_option maxRecDepth 20000 in
theorem gX4_takeToken_X4_takeMost : GoodIn wsX4_takeToken (wsV RX4 98 RX4 yX4_takeMost wsX4_takeMost) := goodIn_app (goodIn_sub (List.forall_mem_cons.mpr ⟨(List.mem_of_getElem? (i := 132) rfl), (List.forall_mem_cons.mpr ⟨(List.mem_of_getElem? (i := 133) rfl), (List.forall_mem_cons.mpr ⟨(List.mem_of_getElem? (i := 134) rfl), (List.forall_mem_cons.mpr ⟨(List.mem_of_getElem? (i := 5) rfl), (fun _ h => absurd h List.not_mem_nil)⟩)⟩)⟩)⟩) (by decide +kernel)) ggX4_takeToken_X4_takeMost
set_option maxRecDepth 20000 in
theorem ggX4_takeToken_X4_takeBehindItem : GoodIn wsX4_takeToken wsX4_takeBehindItem := goodIn_sub (List.forall_mem_cons.mpr ⟨(List.mem_of_getElem? (i := 116) rfl), (List.forall_mem_append.mpr ⟨(List.forall_mem_append.mpr ⟨(List.forall_mem_append.mpr ⟨(List.forall_mem_append.mpr ⟨(show ∀ w ∈ wsX4_takeBehindItem_r1, w ∈ wsX4_takeToken from (List.forall_mem_cons.mpr ⟨(List.mem_of_getElem? (i := 7) rfl), (List.forall_mem_cons.mpr ⟨(List.mem_of_getElem? (i := 8) rfl), (List.forall_mem_cons.mpr ⟨(List.mem_of_getElem? (i := 53) rfl), (List.forall_mem_cons.mpr ⟨(List.mem_of_getElem? (i := 117) rfl), (List.forall_mem_cons.mpr ⟨(List.mem_of_getElem? (i := 1) rfl), (List.forall_mem_cons.mpr ⟨(List.mem_of_getElem? (i := 118) rfl), (List.forall_mem_cons.mpr ⟨(List.mem_of_getElem? (i := 12) rfl), (List.forall_mem_cons.mpr ⟨(List.mem_of_getElem? (i := 13) rfl), (List.forall_mem_cons.mpr ⟨(List.mem_of_getElem? (i := 14) rfl), (List.forall_mem_cons.mpr ⟨(List.mem_of_getElem? (i := 5) rfl), (List.forall_mem_cons.mpr ⟨(List.mem_of_getElem? (i := 15) rfl), (List.forall_mem_cons.mpr ⟨(List.mem_of_getElem? (i := 16) rfl), (List.forall_mem_cons.mpr ⟨(List.mem_of_getElem? (i := 17) rfl), (List.forall_mem_cons.mpr ⟨(List.mem_of_getElem? (i := 18) rfl), (List.forall_mem_cons.mpr ⟨(List.mem_of_getElem? (i := 119) rfl), (List.forall_mem_cons.mpr ⟨(List.mem_of_getElem? (i := 120) rfl), (List.forall_mem_cons.mpr ⟨(List.mem_of_getElem? (i := 121) rfl), (List.forall_mem_cons.mpr ⟨(List.mem_of_getElem? (i := 122) rfl), (List.forall_mem_cons.mpr ⟨(List.mem_of_getElem? (i := 9) rfl), (List.forall_mem_cons.mpr ⟨(List.mem_of_getElem? (i := 123) rfl), (List.forall_mem_cons.mpr ⟨(List.mem_of_getElem? (i := 70) rfl), (List.forall_mem_cons.mpr ⟨(List.mem_of_getElem? (i := 71) rfl), (List.forall_mem_cons.mpr ⟨(List.mem_of_getElem? (i := 22) rfl), (List.forall_mem_cons.mpr ⟨(List.mem_of_getElem? (i := 72) rfl), (fun _ h => absurd h List.not_mem_nil)⟩)⟩)⟩)⟩)⟩)⟩)⟩)⟩)⟩)⟩)⟩)⟩)⟩)⟩)⟩)⟩)⟩)⟩)⟩)⟩)⟩)⟩)⟩)⟩)), (List.forall_mem_append.mpr ⟨(show ∀ w ∈ wsX4_takeBehindItem_r2, w ∈ wsX4_takeToken from (List.forall_mem_cons.mpr ⟨(List.mem_of_getElem? (i := 36) rfl), (List.forall_mem_cons.mpr ⟨(List.mem_of_getElem? (i := 73) rfl), (List.forall_mem_cons.mpr ⟨(List.mem_of_getElem? (i := 24) rfl), (List.forall_mem_cons.mpr ⟨(List.mem_of_getElem? (i := 35) rfl), (List.forall_mem_cons.mpr ⟨(List.mem_of_getElem? (i := 58) rfl), (List.forall_mem_cons.mpr ⟨(List.mem_of_getElem? (i := 59) rfl), (List.forall_mem_cons.mpr ⟨(List.mem_of_getElem? (i := 60) rfl), (List.forall_mem_cons.mpr ⟨(List.mem_of_getElem? (i := 61) rfl), (List.forall_mem_cons.mpr ⟨(List.mem_of_getElem? (i := 124) rfl), (List.forall_mem_cons.mpr ⟨(List.mem_of_getElem? (i := 125) rfl), (List.forall_mem_cons.mpr ⟨(List.mem_of_getElem? (i := 126) rfl), (List.forall_mem_cons.mpr ⟨(List.mem_of_getElem? (i := 127) rfl), (List.forall_mem_cons.mpr ⟨(List.mem_of_getElem? (i := 74) rfl), (List.forall_mem_cons.mpr ⟨(List.mem_of_getElem? (i := 75) rfl), (List.forall_mem_cons.mpr ⟨(List.mem_of_getElem? (i := 76) rfl), (List.forall_mem_cons.mpr ⟨(List.mem_of_getElem? (i := 77) rfl), (List.forall_mem_cons.mpr ⟨(List.mem_of_getElem? (i := 78) rfl), (List.forall_mem_cons.mpr ⟨(List.mem_of_getElem? (i := 79) rfl), (List.forall_mem_cons.mpr ⟨(List.mem_of_getElem? (i := 80) rfl), (List.forall_mem_cons.mpr ⟨(List.mem_of_getElem? (i := 81) rfl), (List.forall_mem_cons.mpr ⟨(List.mem_of_getElem? (i := 31) rfl), (List.forall_mem_cons.mpr ⟨(List.mem_of_getElem? (i := 37) rfl), (List.forall_mem_cons.mpr ⟨(List.mem_of_getElem? (i := 38) rfl), (List.forall_mem_cons.mpr ⟨(List.mem_of_getElem? (i := 39) rfl), (fun _ h => absurd h List.not_mem_nil)⟩)⟩)⟩)⟩)⟩)⟩)⟩)⟩)⟩)⟩)⟩)⟩)⟩)⟩)⟩)⟩)⟩)⟩)⟩)⟩)⟩)⟩)⟩)⟩)), (show ∀ w ∈ wsX4_takeBehindItem_r3, w ∈ wsX4_takeToken from (List.forall_mem_cons.mpr ⟨(List.mem_of_getElem? (i := 40) rfl), (fun _ h => absurd h List.not_mem_nil)⟩))⟩)⟩), (fun _ h => (List.mem_cons_of_mem _ (List.mem_append_left _ (List.mem_append_left _ (List.mem_append_right _ h)))))⟩), (fun _ h => (List.mem_cons_of_mem _ (List.mem_append_left _ (List.mem_append_right _ h))))⟩), (fun _ h => (List.mem_cons_of_mem _ (List.mem_append_right _ h)))⟩)⟩) (by decide +kernel)
set_option maxRecDepth 20000 in
theorem gX4_takeToken_X4_takeBehindItem : GoodIn wsX4_takeToken (wsV RX4 101 RX4 yX4_takeBehindItem wsX4_takeBehindItem) := goodIn_app (goodIn_sub (List.forall_mem_cons.mpr ⟨(List.mem_of_getElem? (i := 113) rfl), (List.forall_mem_cons.mpr ⟨(List.mem_of_getElem? (i := 114) rfl), (List.forall_mem_cons.mpr ⟨(List.mem_of_getElem? (i := 115) rfl), (List.forall_mem_cons.mpr ⟨(List.mem_of_getElem? (i := 5) rfl), (fun _ h => absurd h List.not_mem_nil)⟩)⟩)⟩)⟩) (by decide +kernel)) ggX4_takeToken_X4_takeBehindItem
set_option maxRecDepth 100000 in
theorem daX4_takeToken : ∀ q ∈ ([(0, .aload_n 0, 1), (1, .getfield 32, 3), (4, .tableswitch 169 0 12 #[68, 75, 85, 92, 99, 106, 113, 123, 130, 137, 144, 151, 162], 68), (72, .aload_n 0, 1), (73, .invokevirtual 70, 3), (76, .goto 104, 3), (79, .aload_n 0, 1), (80, .bipush 61, 2), (82, .iconst 2, 1), (83, .invokevirtual 73, 3), (86, .goto 94, 3), (89, .aload_n 0, 1), (90, .invokevirtual 77, 3), (93, .goto 87, 3), (96, .aload_n 0, 1), (97, .invokevirtual 80, 3), (100, .goto 80, 3), (103, .aload_n 0, 1), (104, .invokevirtual 83, 3), (107, .goto 73, 3), (110, .aload_n 0, 1), (111, .invokevirtual 86, 3), (114, .goto 66, 3), (117, .aload_n 0, 1), (118, .iconst 5, 1), (119, .bipush 7, 2), (121, .invokevirtual 73, 3), (124, .goto 56, 3), (127, .aload_n 0, 1), (128, .invokevirtual 89, 3), (131, .goto 49, 3), (134, .aload_n 0, 1), (135, .invokevirtual 92, 3), (138, .goto 42, 3), (141, .aload_n 0, 1), (142, .invokevirtual 95, 3), (145, .goto 35, 3), (148, .aload_n 0, 1), (149, .invokevirtual 98, 3), (152, .goto 28, 3), (155, .aload_n 0, 1), (156, .bipush 93, 2), (158, .bipush 12, 2), (160, .invokevirtual 73, 3), (163, .goto 17, 3), (166, .aload_n 0, 1), (167, .invokevirtual 101, 3), (170, .goto 10, 3), (173, .aload_n 0, 1), (174, .bipush 59, 2), (176, .iconst 0, 1), (177, .invokevirtual 73, 3), (180, .return_, 1)] : List (Nat × Instr × Nat)), decode cX4_takeToken q.1 = .ok q.2 := by decide +kernel
theorem dX4_takeToken_0 : decode cX4_takeToken 0 = .ok (.aload_n 0, 1) := daX4_takeToken (0, .aload_n 0, 1) (List.mem_of_getElem? (i := 0) rfl)
theorem dX4_takeToken_1 : decode cX4_takeToken 1 = .ok (.getfield 32, 3) := daX4_takeToken (1, .getfield 32, 3) (List.mem_of_getElem? (i := 1) rfl)
theorem dX4_takeToken_4 : decode cX4_takeToken 4 = .ok (.tableswitch 169 0 12 #[68, 75, 85, 92, 99, 106, 113, 123, 130, 137, 144, 151, 162], 68) := daX4_takeToken (4, .tableswitch 169 0 12 #[68, 75, 85, 92, 99, 106, 113, 123, 130, 137, 144, 151, 162], 68) (List.mem_of_getElem? (i := 2) rfl)
theorem dX4_takeToken_72 : decode cX4_takeToken 72 = .ok (.aload_n 0, 1) := daX4_takeToken (72, .aload_n 0, 1) (List.mem_of_getElem? (i := 3) rfl)
theorem dX4_takeToken_73 : decode cX4_takeToken 73 = .ok (.invokevirtual 70, 3) := daX4_takeToken (73, .invokevirtual 70, 3) (List.mem_of_getElem? (i := 4) rfl)
theorem dX4_takeToken_76 : decode cX4_takeToken 76 = .ok (.goto 104, 3) := daX4_takeToken (76, .goto 104, 3) (List.mem_of_getElem? (i := 5) rfl)
theorem dX4_takeToken_79 : decode cX4_takeToken 79 = .ok (.aload_n 0, 1) := daX4_takeToken (79, .aload_n 0, 1) (List.mem_of_getElem? (i := 6) rfl)
theorem dX4_takeToken_80 : decode cX4_takeToken 80 = .ok (.bipush 61, 2) := daX4_takeToken (80, .bipush 61, 2) (List.mem_of_getElem? (i := 7) rfl)
theorem dX4_takeToken_82 : decode cX4_takeToken 82 = .ok (.iconst 2, 1) := daX4_takeToken (82, .iconst 2, 1) (List.mem_of_getElem? (i := 8) rfl)
theorem dX4_takeToken_83 : decode cX4_takeToken 83 = .ok (.invokevirtual 73, 3) := daX4_takeToken (83, .invokevirtual 73, 3) (List.mem_of_getElem? (i := 9) rfl)
theorem dX4_takeToken_86 : decode cX4_takeToken 86 = .ok (.goto 94, 3) := daX4_takeToken (86, .goto 94, 3) (List.mem_of_getElem? (i := 10) rfl)
theorem dX4_takeToken_89 : decode cX4_takeToken 89 = .ok (.aload_n 0, 1) := daX4_takeToken (89, .aload_n 0, 1) (List.mem_of_getElem? (i := 11) rfl)
theorem dX4_takeToken_90 : decode cX4_takeToken 90 = .ok (.invokevirtual 77, 3) := daX4_takeToken (90, .invokevirtual 77, 3) (List.mem_of_getElem? (i := 12) rfl)
theorem dX4_takeToken_93 : decode cX4_takeToken 93 = .ok (.goto 87, 3) := daX4_takeToken (93, .goto 87, 3) (List.mem_of_getElem? (i := 13) rfl)
theorem dX4_takeToken_96 : decode cX4_takeToken 96 = .ok (.aload_n 0, 1) := daX4_takeToken (96, .aload_n 0, 1) (List.mem_of_getElem? (i := 14) rfl)
theorem dX4_takeToken_97 : decode cX4_takeToken 97 = .ok (.invokevirtual 80, 3) := daX4_takeToken (97, .invokevirtual 80, 3) (List.mem_of_getElem? (i := 15) rfl)
theorem dX4_takeToken_100 : decode cX4_takeToken 100 = .ok (.goto 80, 3) := daX4_takeToken (100, .goto 80, 3) (List.mem_of_getElem? (i := 16) rfl)
theorem dX4_takeToken_103 : decode cX4_takeToken 103 = .ok (.aload_n 0, 1) := daX4_takeToken (103, .aload_n 0, 1) (List.mem_of_getElem? (i := 17) rfl)
theorem dX4_takeToken_104 : decode cX4_takeToken 104 = .ok (.invokevirtual 83, 3) := daX4_takeToken (104, .invokevirtual 83, 3) (List.mem_of_getElem? (i := 18) rfl)
theorem dX4_takeToken_107 : decode cX4_takeToken 107 = .ok (.goto 73, 3) := daX4_takeToken (107, .goto 73, 3) (List.mem_of_getElem? (i := 19) rfl)
theorem dX4_takeToken_110 : decode cX4_takeToken 110 = .ok (.aload_n 0, 1) := daX4_takeToken (110, .aload_n 0, 1) (List.mem_of_getElem? (i := 20) rfl)
theorem dX4_takeToken_111 : decode cX4_takeToken 111 = .ok (.invokevirtual 86, 3) := daX4_takeToken (111, .invokevirtual 86, 3) (List.mem_of_getElem? (i := 21) rfl)
theorem dX4_takeToken_114 : decode cX4_takeToken 114 = .ok (.goto 66, 3) := daX4_takeToken (114, .goto 66, 3) (List.mem_of_getElem? (i := 22) rfl)
theorem dX4_takeToken_117 : decode cX4_takeToken 117 = .ok (.aload_n 0, 1) := daX4_takeToken (117, .aload_n 0, 1) (List.mem_of_getElem? (i := 23) rfl)
theorem dX4_takeToken_118 : decode cX4_takeToken 118 = .ok (.iconst 5, 1) := daX4_takeToken (118, .iconst 5, 1) (List.mem_of_getElem? (i := 24) rfl)
theorem dX4_takeToken_119 : decode cX4_takeToken 119 = .ok (.bipush 7, 2) := daX4_takeToken (119, .bipush 7, 2) (List.mem_of_getElem? (i := 25) rfl)
theorem dX4_takeToken_121 : decode cX4_takeToken 121 = .ok (.invokevirtual 73, 3) := daX4_takeToken (121, .invokevirtual 73, 3) (List.mem_of_getElem? (i := 26) rfl)
theorem dX4_takeToken_124 : decode cX4_takeToken 124 = .ok (.goto 56, 3) := daX4_takeToken (124, .goto 56, 3) (List.mem_of_getElem? (i := 27) rfl)
theorem dX4_takeToken_127 : decode cX4_takeToken 127 = .ok (.aload_n 0, 1) := daX4_takeToken (127, .aload_n 0, 1) (List.mem_of_getElem? (i := 28) rfl)
theorem dX4_takeToken_128 : decode cX4_takeToken 128 = .ok (.invokevirtual 89, 3) := daX4_takeToken (128, .invokevirtual 89, 3) (List.mem_of_getElem? (i := 29) rfl)
theorem dX4_takeToken_131 : decode cX4_takeToken 131 = .ok (.goto 49, 3) := daX4_takeToken (131, .goto 49, 3) (List.mem_of_getElem? (i := 30) rfl)
theorem dX4_takeToken_134 : decode cX4_takeToken 134 = .ok (.aload_n 0, 1) := daX4_takeToken (134, .aload_n 0, 1) (List.mem_of_getElem? (i := 31) rfl)
theorem dX4_takeToken_135 : decode cX4_takeToken 135 = .ok (.invokevirtual 92, 3) := daX4_takeToken (135, .invokevirtual 92, 3) (List.mem_of_getElem? (i := 32) rfl)
theorem dX4_takeToken_138 : decode cX4_takeToken 138 = .ok (.goto 42, 3) := daX4_takeToken (138, .goto 42, 3) (List.mem_of_getElem? (i := 33) rfl)
theorem dX4_takeToken_141 : decode cX4_takeToken 141 = .ok (.aload_n 0, 1) := daX4_takeToken (141, .aload_n 0, 1) (List.mem_of_getElem? (i := 34) rfl)
theorem dX4_takeToken_142 : decode cX4_takeToken 142 = .ok (.invokevirtual 95, 3) := daX4_takeToken (142, .invokevirtual 95, 3) (List.mem_of_getElem? (i := 35) rfl)
theorem dX4_takeToken_145 : decode cX4_takeToken 145 = .ok (.goto 35, 3) := daX4_takeToken (145, .goto 35, 3) (List.mem_of_getElem? (i := 36) rfl)
theorem dX4_takeToken_148 : decode cX4_takeToken 148 = .ok (.aload_n 0, 1) := daX4_takeToken (148, .aload_n 0, 1) (List.mem_of_getElem? (i := 37) rfl)
theorem dX4_takeToken_149 : decode cX4_takeToken 149 = .ok (.invokevirtual 98, 3) := daX4_takeToken (149, .invokevirtual 98, 3) (List.mem_of_getElem? (i := 38) rfl)
theorem dX4_takeToken_152 : decode cX4_takeToken 152 = .ok (.goto 28, 3) := daX4_takeToken (152, .goto 28, 3) (List.mem_of_getElem? (i := 39) rfl)
theorem dX4_takeToken_155 : decode cX4_takeToken 155 = .ok (.aload_n 0, 1) := daX4_takeToken (155, .aload_n 0, 1) (List.mem_of_getElem? (i := 40) rfl)
theorem dX4_takeToken_156 : decode cX4_takeToken 156 = .ok (.bipush 93, 2) := daX4_takeToken (156, .bipush 93, 2) (List.mem_of_getElem? (i := 41) rfl)
theorem dX4_takeToken_158 : decode cX4_takeToken 158 = .ok (.bipush 12, 2) := daX4_takeToken (158, .bipush 12, 2) (List.mem_of_getElem? (i := 42) rfl)
theorem dX4_takeToken_160 : decode cX4_takeToken 160 = .ok (.invokevirtual 73, 3) := daX4_takeToken (160, .invokevirtual 73, 3) (List.mem_of_getElem? (i := 43) rfl)
theorem dX4_takeToken_163 : decode cX4_takeToken 163 = .ok (.goto 17, 3) := daX4_takeToken (163, .goto 17, 3) (List.mem_of_getElem? (i := 44) rfl)
theorem dX4_takeToken_166 : decode cX4_takeToken 166 = .ok (.aload_n 0, 1) := daX4_takeToken (166, .aload_n 0, 1) (List.mem_of_getElem? (i := 45) rfl)
theorem dX4_takeToken_167 : decode cX4_takeToken 167 = .ok (.invokevirtual 101, 3) := daX4_takeToken (167, .invokevirtual 101, 3) (List.mem_of_getElem? (i := 46) rfl)
theorem dX4_takeToken_170 : decode cX4_takeToken 170 = .ok (.goto 10, 3) := daX4_takeToken (170, .goto 10, 3) (List.mem_of_getElem? (i := 47) rfl)
theorem dX4_takeToken_173 : decode cX4_takeToken 173 = .ok (.aload_n 0, 1) := daX4_takeToken (173, .aload_n 0, 1) (List.mem_of_getElem? (i := 48) rfl)
theorem dX4_takeToken_174 : decode cX4_takeToken 174 = .ok (.bipush 59, 2) := daX4_takeToken (174, .bipush 59, 2) (List.mem_of_getElem? (i := 49) rfl)
theorem dX4_takeToken_176 : decode cX4_takeToken 176 = .ok (.iconst 0, 1) := daX4_takeToken (176, .iconst 0, 1) (List.mem_of_getElem? (i := 50) rfl)
theorem dX4_takeToken_177 : decode cX4_takeToken 177 = .ok (.invokevirtual 73, 3) := daX4_takeToken (177, .invokevirtual 73, 3) (List.mem_of_getElem? (i := 51) rfl)
theorem dX4_takeToken_180 : decode cX4_takeToken 180 = .ok (.return_, 1) := daX4_takeToken (180, .return_, 1) (List.mem_of_getElem? (i := 52) rfl)
def rmX4_takeToken : Room := { frames := 5, cells := 0, slots := 0, locals := 106 }
theorem zdX4_takeToken : yX4_takeToken.cls = RX4 ∧ yX4_takeToken.cls ≠ "java/lang/invoke/MethodHandle" ∧ yX4_takeToken.cls ≠ "java/lang/invoke/VarHandle" ∧ (parseMethodDescriptor yX4_takeToken.desc).map (fun d => d.parameters.length) = some 0 := by decide +kernel
theorem kiX4_takeToken_X4 : ∀ w ∈ wsX40, w ∈ wsX4_takeToken := fun _ h => (List.mem_cons_of_mem _ (List.mem_append_left _ (List.mem_append_left _ (List.mem_append_right _ h))))
theorem kfX4_takeToken_32 : Cond.fieldLink RX4 32 "ShapeJudge$TextReader" "state" "I" ∈ wsX4_takeToken := (List.mem_of_getElem? (i := 1) rfl)
def s_X4_takeToken (m : Mem)  : Option (Mem) :=
  (if (m 9 2) = 0 then ((s_X4_takeShapeWord m).bind fun m3 => some m3) else ((if (m 9 2) = 1 then ((s_X4_takeSign m 61 2).bind fun m6 => some m6) else ((if (m 9 2) = 2 then ((s_X4_takeBody m).bind fun m9 => some m9) else ((if (m 9 2) = 3 then ((s_X4_takeOne m).bind fun m12 => some m12) else ((if (m 9 2) = 4 then ((s_X4_takeTest m).bind fun m15 => some m15) else ((if (m 9 2) = 5 then ((s_X4_takeReference m).bind fun m18 => some m18) else ((if (m 9 2) = 6 then ((s_X4_takeSign m 5 7).bind fun m21 => some m21) else ((if (m 9 2) = 7 then ((s_X4_takeLastNumber m).bind fun m24 => some m24) else ((if (m 9 2) = 8 then ((s_X4_takeBehindOne m).bind fun m27 => some m27) else ((if (m 9 2) = 9 then ((s_X4_takeLeast m).bind fun m30 => some m30) else ((if (m 9 2) = 10 then ((s_X4_takeMost m).bind fun m33 => some m33) else ((if (m 9 2) = 11 then ((s_X4_takeSign m 93 12).bind fun m36 => some m36) else ((if (m 9 2) = 12 then ((s_X4_takeBehindItem m).bind fun m39 => some m39) else ((s_X4_takeSign m 59 0).bind fun m41 => some m41))))))))))))))))))))))))))
set_option maxRecDepth 100000 in
set_option maxHeartbeats 4000000 in
theorem c_X4_takeToken (l : Launch) (w : ZW) {m : Mem}  {m9 : Mem}  (hf : s_X4_takeToken m  = some m9) : zCv MX l w yX4_takeToken wsX4_takeToken rmX4_takeToken [.ref (w.2.1 9)] m m9 := by
  refine z_met_v MX_ok (own := RX4) (by decide +kernel) rfl rfl (Nat.le_of_ble_eq_true rfl) ?_
  intro K C hKw hKl hret
  subst hKw
  subst hKl
  unfold s_X4_takeToken at hf
  show zGo MX K m [(0, .ref ((zw K).2.1 9))] 0 []
  refine z_aload_n C 0 dX4_takeToken_0 rfl rfl ?_
  refine z_geti C (Nat.le_of_ble_eq_true rfl) rfl rfl 2 (Nat.le_of_ble_eq_true rfl) rfl kiX4_takeToken_X4 kfX4_takeToken_32 dX4_takeToken_1 ?_
  refine zby (c := (m 9 2) = 0) (fun c1 => ?_) (fun c1 => ?_)
  · replace hf := if_t c1 hf
    refine z_tab (v := 0) (tgt := 72) (off := 68) C c1 dX4_takeToken_4 (by decide) (by decide) rfl (by decide) ?_
    refine z_aload_n C 0 dX4_takeToken_72 rfl rfl ?_
    obtain ⟨m3, hc2, hf⟩ := zb_el hf
    refine z_cVv C (c_X4_takeShapeWord _ _ hc2) rfl gX4_takeToken_X4_takeShapeWord rfl rfl zdX4_takeShapeWord rfl (Nat.le_of_ble_eq_true rfl) rfl rfl rfl ⟨Nat.le_of_ble_eq_true rfl, Nat.le_of_ble_eq_true rfl⟩ (Nat.le_of_ble_eq_true rfl) dX4_takeToken_73 rfl ?_
    refine z_goto (tgt := 180) C dX4_takeToken_76 (by decide) ?_
    cases hf
    exact hret _ _ dX4_takeToken_180
  · replace hf := if_f c1 hf
    refine zby (c := (m 9 2) = 1) (fun c4 => ?_) (fun c4 => ?_)
    · replace hf := if_t c4 hf
      refine z_tab (v := 1) (tgt := 79) (off := 75) C c4 dX4_takeToken_4 (by decide) (by decide) rfl (by decide) ?_
      refine z_aload_n C 0 dX4_takeToken_79 rfl rfl ?_
      refine z_bipush C (v := 61) dX4_takeToken_80 rfl ?_
      refine z_iconst C (v := 2) dX4_takeToken_82 rfl ?_
      obtain ⟨m6, hc5, hf⟩ := zb_el hf
      refine z_cVv C (c_X4_takeSign _ _ hc5) rfl gX4_takeToken_X4_takeSign rfl rfl zdX4_takeSign rfl (Nat.le_of_ble_eq_true rfl) rfl rfl rfl ⟨Nat.le_of_ble_eq_true rfl, Nat.le_of_ble_eq_true rfl⟩ (Nat.le_of_ble_eq_true rfl) dX4_takeToken_83 rfl ?_
      refine z_goto (tgt := 180) C dX4_takeToken_86 (by decide) ?_
      cases hf
      exact hret _ _ dX4_takeToken_180
    · replace hf := if_f c4 hf
      refine zby (c := (m 9 2) = 2) (fun c7 => ?_) (fun c7 => ?_)
      · replace hf := if_t c7 hf
        refine z_tab (v := 2) (tgt := 89) (off := 85) C c7 dX4_takeToken_4 (by decide) (by decide) rfl (by decide) ?_
        refine z_aload_n C 0 dX4_takeToken_89 rfl rfl ?_
        obtain ⟨m9, hc8, hf⟩ := zb_el hf
        refine z_cVv C (c_X4_takeBody _ _ hc8) rfl gX4_takeToken_X4_takeBody rfl rfl zdX4_takeBody rfl (Nat.le_of_ble_eq_true rfl) rfl rfl rfl ⟨Nat.le_of_ble_eq_true rfl, Nat.le_of_ble_eq_true rfl⟩ (Nat.le_of_ble_eq_true rfl) dX4_takeToken_90 rfl ?_
        refine z_goto (tgt := 180) C dX4_takeToken_93 (by decide) ?_
        cases hf
        exact hret _ _ dX4_takeToken_180
      · replace hf := if_f c7 hf
        refine zby (c := (m 9 2) = 3) (fun c10 => ?_) (fun c10 => ?_)
        · replace hf := if_t c10 hf
          refine z_tab (v := 3) (tgt := 96) (off := 92) C c10 dX4_takeToken_4 (by decide) (by decide) rfl (by decide) ?_
          refine z_aload_n C 0 dX4_takeToken_96 rfl rfl ?_
          obtain ⟨m12, hc11, hf⟩ := zb_el hf
          refine z_cVv C (c_X4_takeOne _ _ hc11) rfl gX4_takeToken_X4_takeOne rfl rfl zdX4_takeOne rfl (Nat.le_of_ble_eq_true rfl) rfl rfl rfl ⟨Nat.le_of_ble_eq_true rfl, Nat.le_of_ble_eq_true rfl⟩ (Nat.le_of_ble_eq_true rfl) dX4_takeToken_97 rfl ?_
          refine z_goto (tgt := 180) C dX4_takeToken_100 (by decide) ?_
          cases hf
          exact hret _ _ dX4_takeToken_180
        · replace hf := if_f c10 hf
          refine zby (c := (m 9 2) = 4) (fun c13 => ?_) (fun c13 => ?_)
          · replace hf := if_t c13 hf
            refine z_tab (v := 4) (tgt := 103) (off := 99) C c13 dX4_takeToken_4 (by decide) (by decide) rfl (by decide) ?_
            refine z_aload_n C 0 dX4_takeToken_103 rfl rfl ?_
            obtain ⟨m15, hc14, hf⟩ := zb_el hf
            refine z_cVv C (c_X4_takeTest _ _ hc14) rfl gX4_takeToken_X4_takeTest rfl rfl zdX4_takeTest rfl (Nat.le_of_ble_eq_true rfl) rfl rfl rfl ⟨Nat.le_of_ble_eq_true rfl, Nat.le_of_ble_eq_true rfl⟩ (Nat.le_of_ble_eq_true rfl) dX4_takeToken_104 rfl ?_
            refine z_goto (tgt := 180) C dX4_takeToken_107 (by decide) ?_
            cases hf
            exact hret _ _ dX4_takeToken_180
          · replace hf := if_f c13 hf
            refine zby (c := (m 9 2) = 5) (fun c16 => ?_) (fun c16 => ?_)
            · replace hf := if_t c16 hf
              refine z_tab (v := 5) (tgt := 110) (off := 106) C c16 dX4_takeToken_4 (by decide) (by decide) rfl (by decide) ?_
              refine z_aload_n C 0 dX4_takeToken_110 rfl rfl ?_
              obtain ⟨m18, hc17, hf⟩ := zb_el hf
              refine z_cVv C (c_X4_takeReference _ _ hc17) rfl gX4_takeToken_X4_takeReference rfl rfl zdX4_takeReference rfl (Nat.le_of_ble_eq_true rfl) rfl rfl rfl ⟨Nat.le_of_ble_eq_true rfl, Nat.le_of_ble_eq_true rfl⟩ (Nat.le_of_ble_eq_true rfl) dX4_takeToken_111 rfl ?_
              refine z_goto (tgt := 180) C dX4_takeToken_114 (by decide) ?_
              cases hf
              exact hret _ _ dX4_takeToken_180
            · replace hf := if_f c16 hf
              refine zby (c := (m 9 2) = 6) (fun c19 => ?_) (fun c19 => ?_)
              · replace hf := if_t c19 hf
                refine z_tab (v := 6) (tgt := 117) (off := 113) C c19 dX4_takeToken_4 (by decide) (by decide) rfl (by decide) ?_
                refine z_aload_n C 0 dX4_takeToken_117 rfl rfl ?_
                refine z_iconst C (v := 5) dX4_takeToken_118 rfl ?_
                refine z_bipush C (v := 7) dX4_takeToken_119 rfl ?_
                obtain ⟨m21, hc20, hf⟩ := zb_el hf
                refine z_cVv C (c_X4_takeSign _ _ hc20) rfl gX4_takeToken_X4_takeSign rfl rfl zdX4_takeSign rfl (Nat.le_of_ble_eq_true rfl) rfl rfl rfl ⟨Nat.le_of_ble_eq_true rfl, Nat.le_of_ble_eq_true rfl⟩ (Nat.le_of_ble_eq_true rfl) dX4_takeToken_121 rfl ?_
                refine z_goto (tgt := 180) C dX4_takeToken_124 (by decide) ?_
                cases hf
                exact hret _ _ dX4_takeToken_180
              · replace hf := if_f c19 hf
                refine zby (c := (m 9 2) = 7) (fun c22 => ?_) (fun c22 => ?_)
                · replace hf := if_t c22 hf
                  refine z_tab (v := 7) (tgt := 127) (off := 123) C c22 dX4_takeToken_4 (by decide) (by decide) rfl (by decide) ?_
                  refine z_aload_n C 0 dX4_takeToken_127 rfl rfl ?_
                  obtain ⟨m24, hc23, hf⟩ := zb_el hf
                  refine z_cVv C (c_X4_takeLastNumber _ _ hc23) rfl gX4_takeToken_X4_takeLastNumber rfl rfl zdX4_takeLastNumber rfl (Nat.le_of_ble_eq_true rfl) rfl rfl rfl ⟨Nat.le_of_ble_eq_true rfl, Nat.le_of_ble_eq_true rfl⟩ (Nat.le_of_ble_eq_true rfl) dX4_takeToken_128 rfl ?_
                  refine z_goto (tgt := 180) C dX4_takeToken_131 (by decide) ?_
                  cases hf
                  exact hret _ _ dX4_takeToken_180
                · replace hf := if_f c22 hf
                  refine zby (c := (m 9 2) = 8) (fun c25 => ?_) (fun c25 => ?_)
                  · replace hf := if_t c25 hf
                    refine z_tab (v := 8) (tgt := 134) (off := 130) C c25 dX4_takeToken_4 (by decide) (by decide) rfl (by decide) ?_
                    refine z_aload_n C 0 dX4_takeToken_134 rfl rfl ?_
                    obtain ⟨m27, hc26, hf⟩ := zb_el hf
                    refine z_cVv C (c_X4_takeBehindOne _ _ hc26) rfl gX4_takeToken_X4_takeBehindOne rfl rfl zdX4_takeBehindOne rfl (Nat.le_of_ble_eq_true rfl) rfl rfl rfl ⟨Nat.le_of_ble_eq_true rfl, Nat.le_of_ble_eq_true rfl⟩ (Nat.le_of_ble_eq_true rfl) dX4_takeToken_135 rfl ?_
                    refine z_goto (tgt := 180) C dX4_takeToken_138 (by decide) ?_
                    cases hf
                    exact hret _ _ dX4_takeToken_180
                  · replace hf := if_f c25 hf
                    refine zby (c := (m 9 2) = 9) (fun c28 => ?_) (fun c28 => ?_)
                    · replace hf := if_t c28 hf
                      refine z_tab (v := 9) (tgt := 141) (off := 137) C c28 dX4_takeToken_4 (by decide) (by decide) rfl (by decide) ?_
                      refine z_aload_n C 0 dX4_takeToken_141 rfl rfl ?_
                      obtain ⟨m30, hc29, hf⟩ := zb_el hf
                      refine z_cVv C (c_X4_takeLeast _ _ hc29) rfl gX4_takeToken_X4_takeLeast rfl rfl zdX4_takeLeast rfl (Nat.le_of_ble_eq_true rfl) rfl rfl rfl ⟨Nat.le_of_ble_eq_true rfl, Nat.le_of_ble_eq_true rfl⟩ (Nat.le_of_ble_eq_true rfl) dX4_takeToken_142 rfl ?_
                      refine z_goto (tgt := 180) C dX4_takeToken_145 (by decide) ?_
                      cases hf
                      exact hret _ _ dX4_takeToken_180
                    · replace hf := if_f c28 hf
                      refine zby (c := (m 9 2) = 10) (fun c31 => ?_) (fun c31 => ?_)
                      · replace hf := if_t c31 hf
                        refine z_tab (v := 10) (tgt := 148) (off := 144) C c31 dX4_takeToken_4 (by decide) (by decide) rfl (by decide) ?_
                        refine z_aload_n C 0 dX4_takeToken_148 rfl rfl ?_
                        obtain ⟨m33, hc32, hf⟩ := zb_el hf
                        refine z_cVv C (c_X4_takeMost _ _ hc32) rfl gX4_takeToken_X4_takeMost rfl rfl zdX4_takeMost rfl (Nat.le_of_ble_eq_true rfl) rfl rfl rfl ⟨Nat.le_of_ble_eq_true rfl, Nat.le_of_ble_eq_true rfl⟩ (Nat.le_of_ble_eq_true rfl) dX4_takeToken_149 rfl ?_
                        refine z_goto (tgt := 180) C dX4_takeToken_152 (by decide) ?_
                        cases hf
                        exact hret _ _ dX4_takeToken_180
                      · replace hf := if_f c31 hf
                        refine zby (c := (m 9 2) = 11) (fun c34 => ?_) (fun c34 => ?_)
                        · replace hf := if_t c34 hf
                          refine z_tab (v := 11) (tgt := 155) (off := 151) C c34 dX4_takeToken_4 (by decide) (by decide) rfl (by decide) ?_
                          refine z_aload_n C 0 dX4_takeToken_155 rfl rfl ?_
                          refine z_bipush C (v := 93) dX4_takeToken_156 rfl ?_
                          refine z_bipush C (v := 12) dX4_takeToken_158 rfl ?_
                          obtain ⟨m36, hc35, hf⟩ := zb_el hf
                          refine z_cVv C (c_X4_takeSign _ _ hc35) rfl gX4_takeToken_X4_takeSign rfl rfl zdX4_takeSign rfl (Nat.le_of_ble_eq_true rfl) rfl rfl rfl ⟨Nat.le_of_ble_eq_true rfl, Nat.le_of_ble_eq_true rfl⟩ (Nat.le_of_ble_eq_true rfl) dX4_takeToken_160 rfl ?_
                          refine z_goto (tgt := 180) C dX4_takeToken_163 (by decide) ?_
                          cases hf
                          exact hret _ _ dX4_takeToken_180
                        · replace hf := if_f c34 hf
                          refine zby (c := (m 9 2) = 12) (fun c37 => ?_) (fun c37 => ?_)
                          · replace hf := if_t c37 hf
                            refine z_tab (v := 12) (tgt := 166) (off := 162) C c37 dX4_takeToken_4 (by decide) (by decide) rfl (by decide) ?_
                            refine z_aload_n C 0 dX4_takeToken_166 rfl rfl ?_
                            obtain ⟨m39, hc38, hf⟩ := zb_el hf
                            refine z_cVv C (c_X4_takeBehindItem _ _ hc38) rfl gX4_takeToken_X4_takeBehindItem rfl rfl zdX4_takeBehindItem rfl (Nat.le_of_ble_eq_true rfl) rfl rfl rfl ⟨Nat.le_of_ble_eq_true rfl, Nat.le_of_ble_eq_true rfl⟩ (Nat.le_of_ble_eq_true rfl) dX4_takeToken_167 rfl ?_
                            refine z_goto (tgt := 180) C dX4_takeToken_170 (by decide) ?_
                            cases hf
                            exact hret _ _ dX4_takeToken_180
                          · replace hf := if_f c37 hf
                            refine z_tabd (tgt := 173) C dX4_takeToken_4 (ztab_out (n := 13) (Nat.le_of_ble_eq_true rfl) (lt_s (lt_s (lt_s (lt_s (lt_s (lt_s (lt_s (lt_s (lt_s (lt_s (lt_s (lt_s (lt_s lt_0 c1) c4) c7) c10) c13) c16) c19) c22) c25) c28) c31) c34) c37)) (by decide) ?_
                            refine z_aload_n C 0 dX4_takeToken_173 rfl rfl ?_
                            refine z_bipush C (v := 59) dX4_takeToken_174 rfl ?_
                            refine z_iconst C (v := 0) dX4_takeToken_176 rfl ?_
                            obtain ⟨m41, hc40, hf⟩ := zb_el hf
                            refine z_cVv C (c_X4_takeSign _ _ hc40) rfl gX4_takeToken_X4_takeSign rfl rfl zdX4_takeSign rfl (Nat.le_of_ble_eq_true rfl) rfl rfl rfl ⟨Nat.le_of_ble_eq_true rfl, Nat.le_of_ble_eq_true rfl⟩ (Nat.le_of_ble_eq_true rfl) dX4_takeToken_177 rfl ?_
                            cases hf
                            exact hret _ _ dX4_takeToken_180
set_option maxRecDepth 20000 in
theorem ggX4_readText_X0_clear : GoodIn wsX4_readText wsX0_clear := goodIn_sub (List.forall_mem_cons.mpr ⟨(List.mem_of_getElem? (i := 14) rfl), (List.forall_mem_append.mpr ⟨(List.forall_mem_cons.mpr ⟨(List.mem_of_getElem? (i := 15) rfl), (List.forall_mem_cons.mpr ⟨(List.mem_of_getElem? (i := 16) rfl), (List.forall_mem_cons.mpr ⟨(List.mem_of_getElem? (i := 17) rfl), (List.forall_mem_cons.mpr ⟨(List.mem_of_getElem? (i := 18) rfl), (fun _ h => absurd h List.not_mem_nil)⟩)⟩)⟩)⟩), (fun _ h => (List.mem_cons_of_mem _ (List.mem_append_left _ (List.mem_append_right _ h))))⟩)⟩) (by decide +kernel)
set_option maxRecDepth 20000 in
theorem gX4_readText_X0_clear : GoodIn wsX4_readText (wsV RX4 24 RX0 yX0_clear wsX0_clear) := goodIn_app (goodIn_sub (List.forall_mem_cons.mpr ⟨(List.mem_of_getElem? (i := 10) rfl), (List.forall_mem_cons.mpr ⟨(List.mem_of_getElem? (i := 11) rfl), (List.forall_mem_cons.mpr ⟨(List.mem_of_getElem? (i := 12) rfl), (List.forall_mem_cons.mpr ⟨(List.mem_of_getElem? (i := 13) rfl), (fun _ h => absurd h List.not_mem_nil)⟩)⟩)⟩)⟩) (by decide +kernel)) ggX4_readText_X0_clear
set_option maxRecDepth 20000 in
theorem ggX4_readText_X5_rewind : GoodIn wsX4_readText wsX5_rewind := goodIn_sub (List.forall_mem_cons.mpr ⟨(List.mem_of_getElem? (i := 23) rfl), (List.forall_mem_append.mpr ⟨(List.forall_mem_cons.mpr ⟨(List.mem_of_getElem? (i := 24) rfl), (fun _ h => absurd h List.not_mem_nil)⟩), (fun _ h => (List.mem_cons_of_mem _ (List.mem_append_left _ (List.mem_append_left _ (List.mem_append_right _ h)))))⟩)⟩) (by decide +kernel)
set_option maxRecDepth 20000 in
theorem gX4_readText_X5_rewind : GoodIn wsX4_readText (wsV RX4 29 RX5 yX5_rewind wsX5_rewind) := goodIn_app (goodIn_sub (List.forall_mem_cons.mpr ⟨(List.mem_of_getElem? (i := 19) rfl), (List.forall_mem_cons.mpr ⟨(List.mem_of_getElem? (i := 20) rfl), (List.forall_mem_cons.mpr ⟨(List.mem_of_getElem? (i := 21) rfl), (List.forall_mem_cons.mpr ⟨(List.mem_of_getElem? (i := 22) rfl), (fun _ h => absurd h List.not_mem_nil)⟩)⟩)⟩)⟩) (by decide +kernel)) ggX4_readText_X5_rewind
set_option maxRecDepth 20000 in
theorem ggX4_readText_X5_advance : GoodIn wsX4_readText wsX5_advance := goodIn_sub (List.forall_mem_cons.mpr ⟨(List.mem_of_getElem? (i := 28) rfl), (List.forall_mem_append.mpr ⟨(List.forall_mem_append.mpr ⟨(List.forall_mem_append.mpr ⟨(show ∀ w ∈ wsX5_advance_r1, w ∈ wsX4_readText from (List.forall_mem_cons.mpr ⟨(List.mem_of_getElem? (i := 24) rfl), (List.forall_mem_cons.mpr ⟨(List.mem_of_getElem? (i := 29) rfl), (List.forall_mem_cons.mpr ⟨(List.mem_of_getElem? (i := 30) rfl), (List.forall_mem_cons.mpr ⟨(List.mem_of_getElem? (i := 31) rfl), (List.forall_mem_cons.mpr ⟨(List.mem_of_getElem? (i := 32) rfl), (List.forall_mem_cons.mpr ⟨(List.mem_of_getElem? (i := 33) rfl), (List.forall_mem_cons.mpr ⟨(List.mem_of_getElem? (i := 34) rfl), (List.forall_mem_cons.mpr ⟨(List.mem_of_getElem? (i := 35) rfl), (List.forall_mem_cons.mpr ⟨(List.mem_of_getElem? (i := 36) rfl), (List.forall_mem_cons.mpr ⟨(List.mem_of_getElem? (i := 37) rfl), (List.forall_mem_cons.mpr ⟨(List.mem_of_getElem? (i := 38) rfl), (List.forall_mem_cons.mpr ⟨(List.mem_of_getElem? (i := 39) rfl), (List.forall_mem_cons.mpr ⟨(List.mem_of_getElem? (i := 40) rfl), (List.forall_mem_cons.mpr ⟨(List.mem_of_getElem? (i := 41) rfl), (List.forall_mem_cons.mpr ⟨(List.mem_of_getElem? (i := 42) rfl), (List.forall_mem_cons.mpr ⟨(List.mem_of_getElem? (i := 22) rfl), (List.forall_mem_cons.mpr ⟨(List.mem_of_getElem? (i := 43) rfl), (List.forall_mem_cons.mpr ⟨(List.mem_of_getElem? (i := 44) rfl), (List.forall_mem_cons.mpr ⟨(List.mem_of_getElem? (i := 45) rfl), (List.forall_mem_cons.mpr ⟨(List.mem_of_getElem? (i := 46) rfl), (List.forall_mem_cons.mpr ⟨(List.mem_of_getElem? (i := 47) rfl), (List.forall_mem_cons.mpr ⟨(List.mem_of_getElem? (i := 48) rfl), (List.forall_mem_cons.mpr ⟨(List.mem_of_getElem? (i := 49) rfl), (List.forall_mem_cons.mpr ⟨(List.mem_of_getElem? (i := 50) rfl), (fun _ h => absurd h List.not_mem_nil)⟩)⟩)⟩)⟩)⟩)⟩)⟩)⟩)⟩)⟩)⟩)⟩)⟩)⟩)⟩)⟩)⟩)⟩)⟩)⟩)⟩)⟩)⟩)⟩)), (List.forall_mem_append.mpr ⟨(show ∀ w ∈ wsX5_advance_r2, w ∈ wsX4_readText from (List.forall_mem_cons.mpr ⟨(List.mem_of_getElem? (i := 51) rfl), (List.forall_mem_cons.mpr ⟨(List.mem_of_getElem? (i := 52) rfl), (List.forall_mem_cons.mpr ⟨(List.mem_of_getElem? (i := 53) rfl), (List.forall_mem_cons.mpr ⟨(List.mem_of_getElem? (i := 54) rfl), (List.forall_mem_cons.mpr ⟨(List.mem_of_getElem? (i := 55) rfl), (List.forall_mem_cons.mpr ⟨(List.mem_of_getElem? (i := 56) rfl), (List.forall_mem_cons.mpr ⟨(List.mem_of_getElem? (i := 57) rfl), (List.forall_mem_cons.mpr ⟨(List.mem_of_getElem? (i := 58) rfl), (List.forall_mem_cons.mpr ⟨(List.mem_of_getElem? (i := 59) rfl), (List.forall_mem_cons.mpr ⟨(List.mem_of_getElem? (i := 60) rfl), (List.forall_mem_cons.mpr ⟨(List.mem_of_getElem? (i := 61) rfl), (List.forall_mem_cons.mpr ⟨(List.mem_of_getElem? (i := 62) rfl), (List.forall_mem_cons.mpr ⟨(List.mem_of_getElem? (i := 63) rfl), (List.forall_mem_cons.mpr ⟨(List.mem_of_getElem? (i := 64) rfl), (List.forall_mem_cons.mpr ⟨(List.mem_of_getElem? (i := 65) rfl), (List.forall_mem_cons.mpr ⟨(List.mem_of_getElem? (i := 66) rfl), (List.forall_mem_cons.mpr ⟨(List.mem_of_getElem? (i := 67) rfl), (List.forall_mem_cons.mpr ⟨(List.mem_of_getElem? (i := 68) rfl), (List.forall_mem_cons.mpr ⟨(List.mem_of_getElem? (i := 69) rfl), (List.forall_mem_cons.mpr ⟨(List.mem_of_getElem? (i := 70) rfl), (List.forall_mem_cons.mpr ⟨(List.mem_of_getElem? (i := 71) rfl), (List.forall_mem_cons.mpr ⟨(List.mem_of_getElem? (i := 72) rfl), (List.forall_mem_cons.mpr ⟨(List.mem_of_getElem? (i := 73) rfl), (List.forall_mem_cons.mpr ⟨(List.mem_of_getElem? (i := 74) rfl), (fun _ h => absurd h List.not_mem_nil)⟩)⟩)⟩)⟩)⟩)⟩)⟩)⟩)⟩)⟩)⟩)⟩)⟩)⟩)⟩)⟩)⟩)⟩)⟩)⟩)⟩)⟩)⟩)⟩)), (List.forall_mem_append.mpr ⟨(show ∀ w ∈ wsX5_advance_r3, w ∈ wsX4_readText from (List.forall_mem_cons.mpr ⟨(List.mem_of_getElem? (i := 75) rfl), (List.forall_mem_cons.mpr ⟨(List.mem_of_getElem? (i := 76) rfl), (List.forall_mem_cons.mpr ⟨(List.mem_of_getElem? (i := 77) rfl), (List.forall_mem_cons.mpr ⟨(List.mem_of_getElem? (i := 78) rfl), (List.forall_mem_cons.mpr ⟨(List.mem_of_getElem? (i := 79) rfl), (List.forall_mem_cons.mpr ⟨(List.mem_of_getElem? (i := 80) rfl), (List.forall_mem_cons.mpr ⟨(List.mem_of_getElem? (i := 81) rfl), (List.forall_mem_cons.mpr ⟨(List.mem_of_getElem? (i := 82) rfl), (List.forall_mem_cons.mpr ⟨(List.mem_of_getElem? (i := 83) rfl), (List.forall_mem_cons.mpr ⟨(List.mem_of_getElem? (i := 84) rfl), (List.forall_mem_cons.mpr ⟨(List.mem_of_getElem? (i := 85) rfl), (List.forall_mem_cons.mpr ⟨(List.mem_of_getElem? (i := 86) rfl), (List.forall_mem_cons.mpr ⟨(List.mem_of_getElem? (i := 87) rfl), (List.forall_mem_cons.mpr ⟨(List.mem_of_getElem? (i := 88) rfl), (List.forall_mem_cons.mpr ⟨(List.mem_of_getElem? (i := 89) rfl), (List.forall_mem_cons.mpr ⟨(List.mem_of_getElem? (i := 90) rfl), (List.forall_mem_cons.mpr ⟨(List.mem_of_getElem? (i := 91) rfl), (List.forall_mem_cons.mpr ⟨(List.mem_of_getElem? (i := 92) rfl), (List.forall_mem_cons.mpr ⟨(List.mem_of_getElem? (i := 93) rfl), (List.forall_mem_cons.mpr ⟨(List.mem_of_getElem? (i := 94) rfl), (List.forall_mem_cons.mpr ⟨(List.mem_of_getElem? (i := 95) rfl), (List.forall_mem_cons.mpr ⟨(List.mem_of_getElem? (i := 96) rfl), (List.forall_mem_cons.mpr ⟨(List.mem_of_getElem? (i := 97) rfl), (List.forall_mem_cons.mpr ⟨(List.mem_of_getElem? (i := 98) rfl), (fun _ h => absurd h List.not_mem_nil)⟩)⟩)⟩)⟩)⟩)⟩)⟩)⟩)⟩)⟩)⟩)⟩)⟩)⟩)⟩)⟩)⟩)⟩)⟩)⟩)⟩)⟩)⟩)⟩)), (show ∀ w ∈ wsX5_advance_r4, w ∈ wsX4_readText from (List.forall_mem_cons.mpr ⟨(List.mem_of_getElem? (i := 99) rfl), (List.forall_mem_cons.mpr ⟨(List.mem_of_getElem? (i := 100) rfl), (List.forall_mem_cons.mpr ⟨(List.mem_of_getElem? (i := 101) rfl), (List.forall_mem_cons.mpr ⟨(List.mem_of_getElem? (i := 102) rfl), (List.forall_mem_cons.mpr ⟨(List.mem_of_getElem? (i := 103) rfl), (List.forall_mem_cons.mpr ⟨(List.mem_of_getElem? (i := 104) rfl), (List.forall_mem_cons.mpr ⟨(List.mem_of_getElem? (i := 105) rfl), (List.forall_mem_cons.mpr ⟨(List.mem_of_getElem? (i := 106) rfl), (List.forall_mem_cons.mpr ⟨(List.mem_of_getElem? (i := 107) rfl), (fun _ h => absurd h List.not_mem_nil)⟩)⟩)⟩)⟩)⟩)⟩)⟩)⟩)⟩))⟩)⟩)⟩), (fun _ h => (List.mem_cons_of_mem _ (List.mem_append_left _ (List.mem_append_left _ (List.mem_append_right _ h)))))⟩), (fun _ h => (List.mem_cons_of_mem _ (List.mem_append_right _ h)))⟩)⟩) (by decide +kernel)
set_option maxRecDepth 20000 in
theorem gX4_readText_X5_advance : GoodIn wsX4_readText (wsV RX4 51 RX5 yX5_advance wsX5_advance) := goodIn_app (goodIn_sub (List.forall_mem_cons.mpr ⟨(List.mem_of_getElem? (i := 25) rfl), (List.forall_mem_cons.mpr ⟨(List.mem_of_getElem? (i := 26) rfl), (List.forall_mem_cons.mpr ⟨(List.mem_of_getElem? (i := 27) rfl), (List.forall_mem_cons.mpr ⟨(List.mem_of_getElem? (i := 22) rfl), (fun _ h => absurd h List.not_mem_nil)⟩)⟩)⟩)⟩) (by decide +kernel)) ggX4_readText_X5_advance
set_option maxRecDepth 20000 in
theorem ggX4_readText_X4_fail : GoodIn wsX4_readText wsX4_fail := goodIn_sub (List.forall_mem_cons.mpr ⟨(List.mem_of_getElem? (i := 112) rfl), (List.forall_mem_append.mpr ⟨(List.forall_mem_append.mpr ⟨(List.forall_mem_cons.mpr ⟨(List.mem_of_getElem? (i := 7) rfl), (List.forall_mem_cons.mpr ⟨(List.mem_of_getElem? (i := 2) rfl), (List.forall_mem_cons.mpr ⟨(List.mem_of_getElem? (i := 113) rfl), (List.forall_mem_cons.mpr ⟨(List.mem_of_getElem? (i := 8) rfl), (fun _ h => absurd h List.not_mem_nil)⟩)⟩)⟩)⟩), (fun _ h => (List.mem_cons_of_mem _ (List.mem_append_left _ (List.mem_append_left _ (List.mem_append_left _ (List.mem_append_right _ h))))))⟩), (fun _ h => (List.mem_cons_of_mem _ (List.mem_append_left _ (List.mem_append_left _ (List.mem_append_right _ h)))))⟩)⟩) (by decide +kernel)
set_option maxRecDepth 20000 in
theorem gX4_readText_X4_fail : GoodIn wsX4_readText (wsV RX4 57 RX4 yX4_fail wsX4_fail) := goodIn_app (goodIn_sub (List.forall_mem_cons.mpr ⟨(List.mem_of_getElem? (i := 108) rfl), (List.forall_mem_cons.mpr ⟨(List.mem_of_getElem? (i := 109) rfl), (List.forall_mem_cons.mpr ⟨(List.mem_of_getElem? (i := 110) rfl), (List.forall_mem_cons.mpr ⟨(List.mem_of_getElem? (i := 111) rfl), (fun _ h => absurd h List.not_mem_nil)⟩)⟩)⟩)⟩) (by decide +kernel)) ggX4_readText_X4_fail
set_option maxRecDepth 20000 in
theorem ggX4_readText_X4_takeToken : GoodIn wsX4_readText wsX4_takeToken := goodIn_sub (List.forall_mem_cons.mpr ⟨(List.mem_of_getElem? (i := 117) rfl), (List.forall_mem_append.mpr ⟨(List.forall_mem_append.mpr ⟨(List.forall_mem_append.mpr ⟨(List.forall_mem_append.mpr ⟨(show ∀ w ∈ wsX4_takeToken_r1, w ∈ wsX4_readText from (List.forall_mem_cons.mpr ⟨(List.mem_of_getElem? (i := 3) rfl), (List.forall_mem_cons.mpr ⟨(List.mem_of_getElem? (i := 118) rfl), (List.forall_mem_cons.mpr ⟨(List.mem_of_getElem? (i := 119) rfl), (List.forall_mem_cons.mpr ⟨(List.mem_of_getElem? (i := 120) rfl), (List.forall_mem_cons.mpr ⟨(List.mem_of_getElem? (i := 111) rfl), (List.forall_mem_cons.mpr ⟨(List.mem_of_getElem? (i := 121) rfl), (List.forall_mem_cons.mpr ⟨(List.mem_of_getElem? (i := 2) rfl), (List.forall_mem_cons.mpr ⟨(List.mem_of_getElem? (i := 9) rfl), (List.forall_mem_cons.mpr ⟨(List.mem_of_getElem? (i := 1) rfl), (List.forall_mem_cons.mpr ⟨(List.mem_of_getElem? (i := 122) rfl), (List.forall_mem_cons.mpr ⟨(List.mem_of_getElem? (i := 123) rfl), (List.forall_mem_cons.mpr ⟨(List.mem_of_getElem? (i := 108) rfl), (List.forall_mem_cons.mpr ⟨(List.mem_of_getElem? (i := 109) rfl), (List.forall_mem_cons.mpr ⟨(List.mem_of_getElem? (i := 110) rfl), (List.forall_mem_cons.mpr ⟨(List.mem_of_getElem? (i := 112) rfl), (List.forall_mem_cons.mpr ⟨(List.mem_of_getElem? (i := 7) rfl), (List.forall_mem_cons.mpr ⟨(List.mem_of_getElem? (i := 113) rfl), (List.forall_mem_cons.mpr ⟨(List.mem_of_getElem? (i := 8) rfl), (List.forall_mem_cons.mpr ⟨(List.mem_of_getElem? (i := 124) rfl), (List.forall_mem_cons.mpr ⟨(List.mem_of_getElem? (i := 125) rfl), (List.forall_mem_cons.mpr ⟨(List.mem_of_getElem? (i := 126) rfl), (List.forall_mem_cons.mpr ⟨(List.mem_of_getElem? (i := 13) rfl), (List.forall_mem_cons.mpr ⟨(List.mem_of_getElem? (i := 127) rfl), (List.forall_mem_cons.mpr ⟨(List.mem_of_getElem? (i := 15) rfl), (fun _ h => absurd h List.not_mem_nil)⟩)⟩)⟩)⟩)⟩)⟩)⟩)⟩)⟩)⟩)⟩)⟩)⟩)⟩)⟩)⟩)⟩)⟩)⟩)⟩)⟩)⟩)⟩)⟩)), (List.forall_mem_append.mpr ⟨(show ∀ w ∈ wsX4_takeToken_r2, w ∈ wsX4_readText from (List.forall_mem_cons.mpr ⟨(List.mem_of_getElem? (i := 128) rfl), (List.forall_mem_cons.mpr ⟨(List.mem_of_getElem? (i := 129) rfl), (List.forall_mem_cons.mpr ⟨(List.mem_of_getElem? (i := 130) rfl), (List.forall_mem_cons.mpr ⟨(List.mem_of_getElem? (i := 131) rfl), (List.forall_mem_cons.mpr ⟨(List.mem_of_getElem? (i := 132) rfl), (List.forall_mem_cons.mpr ⟨(List.mem_of_getElem? (i := 133) rfl), (List.forall_mem_cons.mpr ⟨(List.mem_of_getElem? (i := 134) rfl), (List.forall_mem_cons.mpr ⟨(List.mem_of_getElem? (i := 135) rfl), (List.forall_mem_cons.mpr ⟨(List.mem_of_getElem? (i := 136) rfl), (List.forall_mem_cons.mpr ⟨(List.mem_of_getElem? (i := 137) rfl), (List.forall_mem_cons.mpr ⟨(List.mem_of_getElem? (i := 18) rfl), (List.forall_mem_cons.mpr ⟨(List.mem_of_getElem? (i := 16) rfl), (List.forall_mem_cons.mpr ⟨(List.mem_of_getElem? (i := 138) rfl), (List.forall_mem_cons.mpr ⟨(List.mem_of_getElem? (i := 139) rfl), (List.forall_mem_cons.mpr ⟨(List.mem_of_getElem? (i := 140) rfl), (List.forall_mem_cons.mpr ⟨(List.mem_of_getElem? (i := 141) rfl), (List.forall_mem_cons.mpr ⟨(List.mem_of_getElem? (i := 142) rfl), (List.forall_mem_cons.mpr ⟨(List.mem_of_getElem? (i := 143) rfl), (List.forall_mem_cons.mpr ⟨(List.mem_of_getElem? (i := 144) rfl), (List.forall_mem_cons.mpr ⟨(List.mem_of_getElem? (i := 145) rfl), (List.forall_mem_cons.mpr ⟨(List.mem_of_getElem? (i := 146) rfl), (List.forall_mem_cons.mpr ⟨(List.mem_of_getElem? (i := 147) rfl), (List.forall_mem_cons.mpr ⟨(List.mem_of_getElem? (i := 148) rfl), (List.forall_mem_cons.mpr ⟨(List.mem_of_getElem? (i := 149) rfl), (fun _ h => absurd h List.not_mem_nil)⟩)⟩)⟩)⟩)⟩)⟩)⟩)⟩)⟩)⟩)⟩)⟩)⟩)⟩)⟩)⟩)⟩)⟩)⟩)⟩)⟩)⟩)⟩)⟩)), (List.forall_mem_append.mpr ⟨(show ∀ w ∈ wsX4_takeToken_r3, w ∈ wsX4_readText from (List.forall_mem_cons.mpr ⟨(List.mem_of_getElem? (i := 150) rfl), (List.forall_mem_cons.mpr ⟨(List.mem_of_getElem? (i := 151) rfl), (List.forall_mem_cons.mpr ⟨(List.mem_of_getElem? (i := 152) rfl), (List.forall_mem_cons.mpr ⟨(List.mem_of_getElem? (i := 153) rfl), (List.forall_mem_cons.mpr ⟨(List.mem_of_getElem? (i := 4) rfl), (List.forall_mem_cons.mpr ⟨(List.mem_of_getElem? (i := 154) rfl), (List.forall_mem_cons.mpr ⟨(List.mem_of_getElem? (i := 155) rfl), (List.forall_mem_cons.mpr ⟨(List.mem_of_getElem? (i := 156) rfl), (List.forall_mem_cons.mpr ⟨(List.mem_of_getElem? (i := 157) rfl), (List.forall_mem_cons.mpr ⟨(List.mem_of_getElem? (i := 158) rfl), (List.forall_mem_cons.mpr ⟨(List.mem_of_getElem? (i := 159) rfl), (List.forall_mem_cons.mpr ⟨(List.mem_of_getElem? (i := 160) rfl), (List.forall_mem_cons.mpr ⟨(List.mem_of_getElem? (i := 161) rfl), (List.forall_mem_cons.mpr ⟨(List.mem_of_getElem? (i := 162) rfl), (List.forall_mem_cons.mpr ⟨(List.mem_of_getElem? (i := 163) rfl), (List.forall_mem_cons.mpr ⟨(List.mem_of_getElem? (i := 164) rfl), (List.forall_mem_cons.mpr ⟨(List.mem_of_getElem? (i := 165) rfl), (List.forall_mem_cons.mpr ⟨(List.mem_of_getElem? (i := 17) rfl), (List.forall_mem_cons.mpr ⟨(List.mem_of_getElem? (i := 166) rfl), (List.forall_mem_cons.mpr ⟨(List.mem_of_getElem? (i := 167) rfl), (List.forall_mem_cons.mpr ⟨(List.mem_of_getElem? (i := 168) rfl), (List.forall_mem_cons.mpr ⟨(List.mem_of_getElem? (i := 169) rfl), (List.forall_mem_cons.mpr ⟨(List.mem_of_getElem? (i := 170) rfl), (List.forall_mem_cons.mpr ⟨(List.mem_of_getElem? (i := 171) rfl), (fun _ h => absurd h List.not_mem_nil)⟩)⟩)⟩)⟩)⟩)⟩)⟩)⟩)⟩)⟩)⟩)⟩)⟩)⟩)⟩)⟩)⟩)⟩)⟩)⟩)⟩)⟩)⟩)⟩)), (List.forall_mem_append.mpr ⟨(show ∀ w ∈ wsX4_takeToken_r4, w ∈ wsX4_readText from (List.forall_mem_cons.mpr ⟨(List.mem_of_getElem? (i := 172) rfl), (List.forall_mem_cons.mpr ⟨(List.mem_of_getElem? (i := 173) rfl), (List.forall_mem_cons.mpr ⟨(List.mem_of_getElem? (i := 174) rfl), (List.forall_mem_cons.mpr ⟨(List.mem_of_getElem? (i := 175) rfl), (List.forall_mem_cons.mpr ⟨(List.mem_of_getElem? (i := 176) rfl), (List.forall_mem_cons.mpr ⟨(List.mem_of_getElem? (i := 177) rfl), (List.forall_mem_cons.mpr ⟨(List.mem_of_getElem? (i := 178) rfl), (List.forall_mem_cons.mpr ⟨(List.mem_of_getElem? (i := 179) rfl), (List.forall_mem_cons.mpr ⟨(List.mem_of_getElem? (i := 180) rfl), (List.forall_mem_cons.mpr ⟨(List.mem_of_getElem? (i := 181) rfl), (List.forall_mem_cons.mpr ⟨(List.mem_of_getElem? (i := 182) rfl), (List.forall_mem_cons.mpr ⟨(List.mem_of_getElem? (i := 183) rfl), (List.forall_mem_cons.mpr ⟨(List.mem_of_getElem? (i := 184) rfl), (List.forall_mem_cons.mpr ⟨(List.mem_of_getElem? (i := 185) rfl), (List.forall_mem_cons.mpr ⟨(List.mem_of_getElem? (i := 186) rfl), (List.forall_mem_cons.mpr ⟨(List.mem_of_getElem? (i := 187) rfl), (List.forall_mem_cons.mpr ⟨(List.mem_of_getElem? (i := 188) rfl), (List.forall_mem_cons.mpr ⟨(List.mem_of_getElem? (i := 189) rfl), (List.forall_mem_cons.mpr ⟨(List.mem_of_getElem? (i := 190) rfl), (List.forall_mem_cons.mpr ⟨(List.mem_of_getElem? (i := 191) rfl), (List.forall_mem_cons.mpr ⟨(List.mem_of_getElem? (i := 192) rfl), (List.forall_mem_cons.mpr ⟨(List.mem_of_getElem? (i := 193) rfl), (List.forall_mem_cons.mpr ⟨(List.mem_of_getElem? (i := 194) rfl), (List.forall_mem_cons.mpr ⟨(List.mem_of_getElem? (i := 195) rfl), (fun _ h => absurd h List.not_mem_nil)⟩)⟩)⟩)⟩)⟩)⟩)⟩)⟩)⟩)⟩)⟩)⟩)⟩)⟩)⟩)⟩)⟩)⟩)⟩)⟩)⟩)⟩)⟩)⟩)), (List.forall_mem_append.mpr ⟨(show ∀ w ∈ wsX4_takeToken_r5, w ∈ wsX4_readText from (List.forall_mem_cons.mpr ⟨(List.mem_of_getElem? (i := 196) rfl), (List.forall_mem_cons.mpr ⟨(List.mem_of_getElem? (i := 197) rfl), (List.forall_mem_cons.mpr ⟨(List.mem_of_getElem? (i := 198) rfl), (List.forall_mem_cons.mpr ⟨(List.mem_of_getElem? (i := 199) rfl), (List.forall_mem_cons.mpr ⟨(List.mem_of_getElem? (i := 200) rfl), (List.forall_mem_cons.mpr ⟨(List.mem_of_getElem? (i := 201) rfl), (List.forall_mem_cons.mpr ⟨(List.mem_of_getElem? (i := 202) rfl), (List.forall_mem_cons.mpr ⟨(List.mem_of_getElem? (i := 203) rfl), (List.forall_mem_cons.mpr ⟨(List.mem_of_getElem? (i := 204) rfl), (List.forall_mem_cons.mpr ⟨(List.mem_of_getElem? (i := 205) rfl), (List.forall_mem_cons.mpr ⟨(List.mem_of_getElem? (i := 206) rfl), (List.forall_mem_cons.mpr ⟨(List.mem_of_getElem? (i := 207) rfl), (List.forall_mem_cons.mpr ⟨(List.mem_of_getElem? (i := 208) rfl), (List.forall_mem_cons.mpr ⟨(List.mem_of_getElem? (i := 209) rfl), (List.forall_mem_cons.mpr ⟨(List.mem_of_getElem? (i := 210) rfl), (List.forall_mem_cons.mpr ⟨(List.mem_of_getElem? (i := 211) rfl), (List.forall_mem_cons.mpr ⟨(List.mem_of_getElem? (i := 212) rfl), (List.forall_mem_cons.mpr ⟨(List.mem_of_getElem? (i := 213) rfl), (List.forall_mem_cons.mpr ⟨(List.mem_of_getElem? (i := 214) rfl), (List.forall_mem_cons.mpr ⟨(List.mem_of_getElem? (i := 215) rfl), (List.forall_mem_cons.mpr ⟨(List.mem_of_getElem? (i := 5) rfl), (List.forall_mem_cons.mpr ⟨(List.mem_of_getElem? (i := 6) rfl), (List.forall_mem_cons.mpr ⟨(List.mem_of_getElem? (i := 216) rfl), (List.forall_mem_cons.mpr ⟨(List.mem_of_getElem? (i := 217) rfl), (fun _ h => absurd h List.not_mem_nil)⟩)⟩)⟩)⟩)⟩)⟩)⟩)⟩)⟩)⟩)⟩)⟩)⟩)⟩)⟩)⟩)⟩)⟩)⟩)⟩)⟩)⟩)⟩)⟩)), (show ∀ w ∈ wsX4_takeToken_r6, w ∈ wsX4_readText from (List.forall_mem_cons.mpr ⟨(List.mem_of_getElem? (i := 218) rfl), (List.forall_mem_cons.mpr ⟨(List.mem_of_getElem? (i := 219) rfl), (List.forall_mem_cons.mpr ⟨(List.mem_of_getElem? (i := 220) rfl), (List.forall_mem_cons.mpr ⟨(List.mem_of_getElem? (i := 221) rfl), (List.forall_mem_cons.mpr ⟨(List.mem_of_getElem? (i := 222) rfl), (List.forall_mem_cons.mpr ⟨(List.mem_of_getElem? (i := 223) rfl), (List.forall_mem_cons.mpr ⟨(List.mem_of_getElem? (i := 224) rfl), (List.forall_mem_cons.mpr ⟨(List.mem_of_getElem? (i := 225) rfl), (List.forall_mem_cons.mpr ⟨(List.mem_of_getElem? (i := 226) rfl), (List.forall_mem_cons.mpr ⟨(List.mem_of_getElem? (i := 227) rfl), (List.forall_mem_cons.mpr ⟨(List.mem_of_getElem? (i := 228) rfl), (List.forall_mem_cons.mpr ⟨(List.mem_of_getElem? (i := 229) rfl), (List.forall_mem_cons.mpr ⟨(List.mem_of_getElem? (i := 230) rfl), (List.forall_mem_cons.mpr ⟨(List.mem_of_getElem? (i := 231) rfl), (List.forall_mem_cons.mpr ⟨(List.mem_of_getElem? (i := 232) rfl), (fun _ h => absurd h List.not_mem_nil)⟩)⟩)⟩)⟩)⟩)⟩)⟩)⟩)⟩)⟩)⟩)⟩)⟩)⟩)⟩))⟩)⟩)⟩)⟩)⟩), (fun _ h => (List.mem_cons_of_mem _ (List.mem_append_left _ (List.mem_append_left _ (List.mem_append_left _ (List.mem_append_right _ h))))))⟩), (fun _ h => (List.mem_cons_of_mem _ (List.mem_append_left _ (List.mem_append_left _ (List.mem_append_right _ h)))))⟩), (fun _ h => (List.mem_cons_of_mem _ (List.mem_append_left _ (List.mem_append_right _ h))))⟩)⟩) (by decide +kernel)
set_option maxRecDepth 20000 in
theorem gX4_readText_X4_takeToken : GoodIn wsX4_readText (wsV RX4 61 RX4 yX4_takeToken wsX4_takeToken) := goodIn_app (goodIn_sub (List.forall_mem_cons.mpr ⟨(List.mem_of_getElem? (i := 114) rfl), (List.forall_mem_cons.mpr ⟨(List.mem_of_getElem? (i := 115) rfl), (List.forall_mem_cons.mpr ⟨(List.mem_of_getElem? (i := 116) rfl), (List.forall_mem_cons.mpr ⟨(List.mem_of_getElem? (i := 111) rfl), (fun _ h => absurd h List.not_mem_nil)⟩)⟩)⟩)⟩) (by decide +kernel)) ggX4_readText_X4_takeToken
set_option maxRecDepth 20000 in
theorem ggX4_readText_X4_linkShapes : GoodIn wsX4_readText wsX4_linkShapes := goodIn_sub (List.forall_mem_cons.mpr ⟨(List.mem_of_getElem? (i := 236) rfl), (List.forall_mem_append.mpr ⟨(List.forall_mem_append.mpr ⟨(List.forall_mem_append.mpr ⟨(show ∀ w ∈ wsX4_linkShapes_r1, w ∈ wsX4_readText from (List.forall_mem_cons.mpr ⟨(List.mem_of_getElem? (i := 1) rfl), (List.forall_mem_cons.mpr ⟨(List.mem_of_getElem? (i := 7) rfl), (List.forall_mem_cons.mpr ⟨(List.mem_of_getElem? (i := 8) rfl), (List.forall_mem_cons.mpr ⟨(List.mem_of_getElem? (i := 237) rfl), (List.forall_mem_cons.mpr ⟨(List.mem_of_getElem? (i := 238) rfl), (List.forall_mem_cons.mpr ⟨(List.mem_of_getElem? (i := 239) rfl), (List.forall_mem_cons.mpr ⟨(List.mem_of_getElem? (i := 13) rfl), (List.forall_mem_cons.mpr ⟨(List.mem_of_getElem? (i := 240) rfl), (List.forall_mem_cons.mpr ⟨(List.mem_of_getElem? (i := 15) rfl), (List.forall_mem_cons.mpr ⟨(List.mem_of_getElem? (i := 133) rfl), (List.forall_mem_cons.mpr ⟨(List.mem_of_getElem? (i := 192) rfl), (List.forall_mem_cons.mpr ⟨(List.mem_of_getElem? (i := 194) rfl), (List.forall_mem_cons.mpr ⟨(List.mem_of_getElem? (i := 136) rfl), (List.forall_mem_cons.mpr ⟨(List.mem_of_getElem? (i := 241) rfl), (List.forall_mem_cons.mpr ⟨(List.mem_of_getElem? (i := 242) rfl), (List.forall_mem_cons.mpr ⟨(List.mem_of_getElem? (i := 243) rfl), (List.forall_mem_cons.mpr ⟨(List.mem_of_getElem? (i := 244) rfl), (List.forall_mem_cons.mpr ⟨(List.mem_of_getElem? (i := 191) rfl), (List.forall_mem_cons.mpr ⟨(List.mem_of_getElem? (i := 245) rfl), (List.forall_mem_cons.mpr ⟨(List.mem_of_getElem? (i := 125) rfl), (List.forall_mem_cons.mpr ⟨(List.mem_of_getElem? (i := 126) rfl), (List.forall_mem_cons.mpr ⟨(List.mem_of_getElem? (i := 127) rfl), (List.forall_mem_cons.mpr ⟨(List.mem_of_getElem? (i := 128) rfl), (List.forall_mem_cons.mpr ⟨(List.mem_of_getElem? (i := 246) rfl), (fun _ h => absurd h List.not_mem_nil)⟩)⟩)⟩)⟩)⟩)⟩)⟩)⟩)⟩)⟩)⟩)⟩)⟩)⟩)⟩)⟩)⟩)⟩)⟩)⟩)⟩)⟩)⟩)⟩)), (List.forall_mem_append.mpr ⟨(show ∀ w ∈ wsX4_linkShapes_r2, w ∈ wsX4_readText from (List.forall_mem_cons.mpr ⟨(List.mem_of_getElem? (i := 247) rfl), (List.forall_mem_cons.mpr ⟨(List.mem_of_getElem? (i := 248) rfl), (List.forall_mem_cons.mpr ⟨(List.mem_of_getElem? (i := 249) rfl), (List.forall_mem_cons.mpr ⟨(List.mem_of_getElem? (i := 250) rfl), (List.forall_mem_cons.mpr ⟨(List.mem_of_getElem? (i := 251) rfl), (List.forall_mem_cons.mpr ⟨(List.mem_of_getElem? (i := 252) rfl), (List.forall_mem_cons.mpr ⟨(List.mem_of_getElem? (i := 253) rfl), (List.forall_mem_cons.mpr ⟨(List.mem_of_getElem? (i := 254) rfl), (List.forall_mem_cons.mpr ⟨(List.mem_of_getElem? (i := 255) rfl), (List.forall_mem_cons.mpr ⟨(List.mem_of_getElem? (i := 256) rfl), (List.forall_mem_cons.mpr ⟨(List.mem_of_getElem? (i := 257) rfl), (List.forall_mem_cons.mpr ⟨(List.mem_of_getElem? (i := 158) rfl), (List.forall_mem_cons.mpr ⟨(List.mem_of_getElem? (i := 159) rfl), (List.forall_mem_cons.mpr ⟨(List.mem_of_getElem? (i := 160) rfl), (List.forall_mem_cons.mpr ⟨(List.mem_of_getElem? (i := 161) rfl), (List.forall_mem_cons.mpr ⟨(List.mem_of_getElem? (i := 258) rfl), (List.forall_mem_cons.mpr ⟨(List.mem_of_getElem? (i := 259) rfl), (List.forall_mem_cons.mpr ⟨(List.mem_of_getElem? (i := 260) rfl), (List.forall_mem_cons.mpr ⟨(List.mem_of_getElem? (i := 261) rfl), (List.forall_mem_cons.mpr ⟨(List.mem_of_getElem? (i := 262) rfl), (List.forall_mem_cons.mpr ⟨(List.mem_of_getElem? (i := 263) rfl), (List.forall_mem_cons.mpr ⟨(List.mem_of_getElem? (i := 264) rfl), (List.forall_mem_cons.mpr ⟨(List.mem_of_getElem? (i := 265) rfl), (List.forall_mem_cons.mpr ⟨(List.mem_of_getElem? (i := 137) rfl), (fun _ h => absurd h List.not_mem_nil)⟩)⟩)⟩)⟩)⟩)⟩)⟩)⟩)⟩)⟩)⟩)⟩)⟩)⟩)⟩)⟩)⟩)⟩)⟩)⟩)⟩)⟩)⟩)⟩)), (show ∀ w ∈ wsX4_linkShapes_r3, w ∈ wsX4_readText from (List.forall_mem_cons.mpr ⟨(List.mem_of_getElem? (i := 266) rfl), (List.forall_mem_cons.mpr ⟨(List.mem_of_getElem? (i := 267) rfl), (List.forall_mem_cons.mpr ⟨(List.mem_of_getElem? (i := 268) rfl), (List.forall_mem_cons.mpr ⟨(List.mem_of_getElem? (i := 269) rfl), (fun _ h => absurd h List.not_mem_nil)⟩)⟩)⟩)⟩))⟩)⟩), (fun _ h => (List.mem_cons_of_mem _ (List.mem_append_left _ (List.mem_append_left _ (List.mem_append_left _ (List.mem_append_right _ h))))))⟩), (fun _ h => (List.mem_cons_of_mem _ (List.mem_append_left _ (List.mem_append_right _ h))))⟩)⟩) (by decide +kernel)
set_option maxRecDepth 20000 in
theorem gX4_readText_X4_linkShapes : GoodIn wsX4_readText (wsV RX4 64 RX4 yX4_linkShapes wsX4_linkShapes) := goodIn_app (goodIn_sub (List.forall_mem_cons.mpr ⟨(List.mem_of_getElem? (i := 233) rfl), (List.forall_mem_cons.mpr ⟨(List.mem_of_getElem? (i := 234) rfl), (List.forall_mem_cons.mpr ⟨(List.mem_of_getElem? (i := 235) rfl), (List.forall_mem_cons.mpr ⟨(List.mem_of_getElem? (i := 111) rfl), (fun _ h => absurd h List.not_mem_nil)⟩)⟩)⟩)⟩) (by decide +kernel)) ggX4_readText_X4_linkShapes
set_option maxRecDepth 100000 in
theorem daX4_readText : ∀ q ∈ ([(0, .aload_n 0, 1), (1, .aload_n 1, 1), (2, .putfield 20, 3), (5, .aload_n 0, 1), (6, .getfield 20, 3), (9, .invokevirtual 24, 3), (12, .aload_n 0, 1), (13, .getfield 14, 3), (16, .invokevirtual 29, 3), (19, .aload_n 0, 1), (20, .iconst 0, 1), (21, .putfield 32, 3), (24, .aload_n 0, 1), (25, .iconst 0, 1), (26, .putfield 36, 3), (29, .aload_n 0, 1), (30, .iconst 0, 1), (31, .putfield 39, 3), (34, .aload_n 0, 1), (35, .iconst 0, 1), (36, .putfield 42, 3), (39, .aload_n 0, 1), (40, .iconst 0, 1), (41, .putfield 45, 3), (44, .aload_n 0, 1), (45, .iconst 0, 1), (46, .putfield 48, 3), (49, .iconst 0, 1), (50, .istore_n 2, 1), (51, .iload_n 2, 1), (52, .sipush 400, 3), (55, .if_icmp .gt 55, 3), (58, .aload_n 0, 1), (59, .getfield 45, 3), (62, .ifCond .ne 48, 3), (65, .aload_n 0, 1), (66, .getfield 32, 3), (69, .bipush 14, 2), (71, .if_icmp .eq 39, 3), (74, .aload_n 0, 1), (75, .getfield 14, 3), (78, .invokevirtual 51, 3), (81, .aload_n 0, 1), (82, .getfield 14, 3), (85, .getfield 54, 3), (88, .iconst 1, 1), (89, .if_icmp .ne 11, 3), (92, .aload_n 0, 1), (93, .iconst 1, 1), (94, .invokevirtual 57, 3), (97, .goto 7, 3), (100, .aload_n 0, 1), (101, .invokevirtual 61, 3), (104, .iinc 2 1, 3), (107, .goto (-56), 3), (110, .aload_n 0, 1), (111, .getfield 45, 3), (114, .ifCond .ne 7, 3), (117, .aload_n 0, 1), (118, .invokevirtual 64, 3), (121, .return_, 1)] : List (Nat × Instr × Nat)), decode cX4_readText q.1 = .ok q.2 := by decide +kernel
theorem dX4_readText_0 : decode cX4_readText 0 = .ok (.aload_n 0, 1) := daX4_readText (0, .aload_n 0, 1) (List.mem_of_getElem? (i := 0) rfl)
theorem dX4_readText_1 : decode cX4_readText 1 = .ok (.aload_n 1, 1) := daX4_readText (1, .aload_n 1, 1) (List.mem_of_getElem? (i := 1) rfl)
theorem dX4_readText_2 : decode cX4_readText 2 = .ok (.putfield 20, 3) := daX4_readText (2, .putfield 20, 3) (List.mem_of_getElem? (i := 2) rfl)
theorem dX4_readText_5 : decode cX4_readText 5 = .ok (.aload_n 0, 1) := daX4_readText (5, .aload_n 0, 1) (List.mem_of_getElem? (i := 3) rfl)
theorem dX4_readText_6 : decode cX4_readText 6 = .ok (.getfield 20, 3) := daX4_readText (6, .getfield 20, 3) (List.mem_of_getElem? (i := 4) rfl)
theorem dX4_readText_9 : decode cX4_readText 9 = .ok (.invokevirtual 24, 3) := daX4_readText (9, .invokevirtual 24, 3) (List.mem_of_getElem? (i := 5) rfl)
theorem dX4_readText_12 : decode cX4_readText 12 = .ok (.aload_n 0, 1) := daX4_readText (12, .aload_n 0, 1) (List.mem_of_getElem? (i := 6) rfl)
theorem dX4_readText_13 : decode cX4_readText 13 = .ok (.getfield 14, 3) := daX4_readText (13, .getfield 14, 3) (List.mem_of_getElem? (i := 7) rfl)
theorem dX4_readText_16 : decode cX4_readText 16 = .ok (.invokevirtual 29, 3) := daX4_readText (16, .invokevirtual 29, 3) (List.mem_of_getElem? (i := 8) rfl)
theorem dX4_readText_19 : decode cX4_readText 19 = .ok (.aload_n 0, 1) := daX4_readText (19, .aload_n 0, 1) (List.mem_of_getElem? (i := 9) rfl)
theorem dX4_readText_20 : decode cX4_readText 20 = .ok (.iconst 0, 1) := daX4_readText (20, .iconst 0, 1) (List.mem_of_getElem? (i := 10) rfl)
theorem dX4_readText_21 : decode cX4_readText 21 = .ok (.putfield 32, 3) := daX4_readText (21, .putfield 32, 3) (List.mem_of_getElem? (i := 11) rfl)
theorem dX4_readText_24 : decode cX4_readText 24 = .ok (.aload_n 0, 1) := daX4_readText (24, .aload_n 0, 1) (List.mem_of_getElem? (i := 12) rfl)
theorem dX4_readText_25 : decode cX4_readText 25 = .ok (.iconst 0, 1) := daX4_readText (25, .iconst 0, 1) (List.mem_of_getElem? (i := 13) rfl)
theorem dX4_readText_26 : decode cX4_readText 26 = .ok (.putfield 36, 3) := daX4_readText (26, .putfield 36, 3) (List.mem_of_getElem? (i := 14) rfl)
theorem dX4_readText_29 : decode cX4_readText 29 = .ok (.aload_n 0, 1) := daX4_readText (29, .aload_n 0, 1) (List.mem_of_getElem? (i := 15) rfl)
theorem dX4_readText_30 : decode cX4_readText 30 = .ok (.iconst 0, 1) := daX4_readText (30, .iconst 0, 1) (List.mem_of_getElem? (i := 16) rfl)
theorem dX4_readText_31 : decode cX4_readText 31 = .ok (.putfield 39, 3) := daX4_readText (31, .putfield 39, 3) (List.mem_of_getElem? (i := 17) rfl)
theorem dX4_readText_34 : decode cX4_readText 34 = .ok (.aload_n 0, 1) := daX4_readText (34, .aload_n 0, 1) (List.mem_of_getElem? (i := 18) rfl)
theorem dX4_readText_35 : decode cX4_readText 35 = .ok (.iconst 0, 1) := daX4_readText (35, .iconst 0, 1) (List.mem_of_getElem? (i := 19) rfl)
theorem dX4_readText_36 : decode cX4_readText 36 = .ok (.putfield 42, 3) := daX4_readText (36, .putfield 42, 3) (List.mem_of_getElem? (i := 20) rfl)
theorem dX4_readText_39 : decode cX4_readText 39 = .ok (.aload_n 0, 1) := daX4_readText (39, .aload_n 0, 1) (List.mem_of_getElem? (i := 21) rfl)
theorem dX4_readText_40 : decode cX4_readText 40 = .ok (.iconst 0, 1) := daX4_readText (40, .iconst 0, 1) (List.mem_of_getElem? (i := 22) rfl)
theorem dX4_readText_41 : decode cX4_readText 41 = .ok (.putfield 45, 3) := daX4_readText (41, .putfield 45, 3) (List.mem_of_getElem? (i := 23) rfl)
theorem dX4_readText_44 : decode cX4_readText 44 = .ok (.aload_n 0, 1) := daX4_readText (44, .aload_n 0, 1) (List.mem_of_getElem? (i := 24) rfl)
theorem dX4_readText_45 : decode cX4_readText 45 = .ok (.iconst 0, 1) := daX4_readText (45, .iconst 0, 1) (List.mem_of_getElem? (i := 25) rfl)
theorem dX4_readText_46 : decode cX4_readText 46 = .ok (.putfield 48, 3) := daX4_readText (46, .putfield 48, 3) (List.mem_of_getElem? (i := 26) rfl)
theorem dX4_readText_49 : decode cX4_readText 49 = .ok (.iconst 0, 1) := daX4_readText (49, .iconst 0, 1) (List.mem_of_getElem? (i := 27) rfl)
theorem dX4_readText_50 : decode cX4_readText 50 = .ok (.istore_n 2, 1) := daX4_readText (50, .istore_n 2, 1) (List.mem_of_getElem? (i := 28) rfl)
theorem dX4_readText_51 : decode cX4_readText 51 = .ok (.iload_n 2, 1) := daX4_readText (51, .iload_n 2, 1) (List.mem_of_getElem? (i := 29) rfl)
theorem dX4_readText_52 : decode cX4_readText 52 = .ok (.sipush 400, 3) := daX4_readText (52, .sipush 400, 3) (List.mem_of_getElem? (i := 30) rfl)
theorem dX4_readText_55 : decode cX4_readText 55 = .ok (.if_icmp .gt 55, 3) := daX4_readText (55, .if_icmp .gt 55, 3) (List.mem_of_getElem? (i := 31) rfl)
theorem dX4_readText_58 : decode cX4_readText 58 = .ok (.aload_n 0, 1) := daX4_readText (58, .aload_n 0, 1) (List.mem_of_getElem? (i := 32) rfl)
theorem dX4_readText_59 : decode cX4_readText 59 = .ok (.getfield 45, 3) := daX4_readText (59, .getfield 45, 3) (List.mem_of_getElem? (i := 33) rfl)
theorem dX4_readText_62 : decode cX4_readText 62 = .ok (.ifCond .ne 48, 3) := daX4_readText (62, .ifCond .ne 48, 3) (List.mem_of_getElem? (i := 34) rfl)
theorem dX4_readText_65 : decode cX4_readText 65 = .ok (.aload_n 0, 1) := daX4_readText (65, .aload_n 0, 1) (List.mem_of_getElem? (i := 35) rfl)
theorem dX4_readText_66 : decode cX4_readText 66 = .ok (.getfield 32, 3) := daX4_readText (66, .getfield 32, 3) (List.mem_of_getElem? (i := 36) rfl)
theorem dX4_readText_69 : decode cX4_readText 69 = .ok (.bipush 14, 2) := daX4_readText (69, .bipush 14, 2) (List.mem_of_getElem? (i := 37) rfl)
theorem dX4_readText_71 : decode cX4_readText 71 = .ok (.if_icmp .eq 39, 3) := daX4_readText (71, .if_icmp .eq 39, 3) (List.mem_of_getElem? (i := 38) rfl)
theorem dX4_readText_74 : decode cX4_readText 74 = .ok (.aload_n 0, 1) := daX4_readText (74, .aload_n 0, 1) (List.mem_of_getElem? (i := 39) rfl)
theorem dX4_readText_75 : decode cX4_readText 75 = .ok (.getfield 14, 3) := daX4_readText (75, .getfield 14, 3) (List.mem_of_getElem? (i := 40) rfl)
theorem dX4_readText_78 : decode cX4_readText 78 = .ok (.invokevirtual 51, 3) := daX4_readText (78, .invokevirtual 51, 3) (List.mem_of_getElem? (i := 41) rfl)
theorem dX4_readText_81 : decode cX4_readText 81 = .ok (.aload_n 0, 1) := daX4_readText (81, .aload_n 0, 1) (List.mem_of_getElem? (i := 42) rfl)
theorem dX4_readText_82 : decode cX4_readText 82 = .ok (.getfield 14, 3) := daX4_readText (82, .getfield 14, 3) (List.mem_of_getElem? (i := 43) rfl)
theorem dX4_readText_85 : decode cX4_readText 85 = .ok (.getfield 54, 3) := daX4_readText (85, .getfield 54, 3) (List.mem_of_getElem? (i := 44) rfl)
theorem dX4_readText_88 : decode cX4_readText 88 = .ok (.iconst 1, 1) := daX4_readText (88, .iconst 1, 1) (List.mem_of_getElem? (i := 45) rfl)
theorem dX4_readText_89 : decode cX4_readText 89 = .ok (.if_icmp .ne 11, 3) := daX4_readText (89, .if_icmp .ne 11, 3) (List.mem_of_getElem? (i := 46) rfl)
theorem dX4_readText_92 : decode cX4_readText 92 = .ok (.aload_n 0, 1) := daX4_readText (92, .aload_n 0, 1) (List.mem_of_getElem? (i := 47) rfl)
theorem dX4_readText_93 : decode cX4_readText 93 = .ok (.iconst 1, 1) := daX4_readText (93, .iconst 1, 1) (List.mem_of_getElem? (i := 48) rfl)
theorem dX4_readText_94 : decode cX4_readText 94 = .ok (.invokevirtual 57, 3) := daX4_readText (94, .invokevirtual 57, 3) (List.mem_of_getElem? (i := 49) rfl)
theorem dX4_readText_97 : decode cX4_readText 97 = .ok (.goto 7, 3) := daX4_readText (97, .goto 7, 3) (List.mem_of_getElem? (i := 50) rfl)
theorem dX4_readText_100 : decode cX4_readText 100 = .ok (.aload_n 0, 1) := daX4_readText (100, .aload_n 0, 1) (List.mem_of_getElem? (i := 51) rfl)
theorem dX4_readText_101 : decode cX4_readText 101 = .ok (.invokevirtual 61, 3) := daX4_readText (101, .invokevirtual 61, 3) (List.mem_of_getElem? (i := 52) rfl)
theorem dX4_readText_104 : decode cX4_readText 104 = .ok (.iinc 2 1, 3) := daX4_readText (104, .iinc 2 1, 3) (List.mem_of_getElem? (i := 53) rfl)
theorem dX4_readText_107 : decode cX4_readText 107 = .ok (.goto (-56), 3) := daX4_readText (107, .goto (-56), 3) (List.mem_of_getElem? (i := 54) rfl)
theorem dX4_readText_110 : decode cX4_readText 110 = .ok (.aload_n 0, 1) := daX4_readText (110, .aload_n 0, 1) (List.mem_of_getElem? (i := 55) rfl)
theorem dX4_readText_111 : decode cX4_readText 111 = .ok (.getfield 45, 3) := daX4_readText (111, .getfield 45, 3) (List.mem_of_getElem? (i := 56) rfl)
theorem dX4_readText_114 : decode cX4_readText 114 = .ok (.ifCond .ne 7, 3) := daX4_readText (114, .ifCond .ne 7, 3) (List.mem_of_getElem? (i := 57) rfl)
theorem dX4_readText_117 : decode cX4_readText 117 = .ok (.aload_n 0, 1) := daX4_readText (117, .aload_n 0, 1) (List.mem_of_getElem? (i := 58) rfl)
theorem dX4_readText_118 : decode cX4_readText 118 = .ok (.invokevirtual 64, 3) := daX4_readText (118, .invokevirtual 64, 3) (List.mem_of_getElem? (i := 59) rfl)
theorem dX4_readText_121 : decode cX4_readText 121 = .ok (.return_, 1) := daX4_readText (121, .return_, 1) (List.mem_of_getElem? (i := 60) rfl)
def rmX4_readText : Room := { frames := 8, cells := 0, slots := 0, locals := 170 }
theorem zdX4_readText : yX4_readText.cls = RX4 ∧ yX4_readText.cls ≠ "java/lang/invoke/MethodHandle" ∧ yX4_readText.cls ≠ "java/lang/invoke/VarHandle" ∧ (parseMethodDescriptor yX4_readText.desc).map (fun d => d.parameters.length) = some 1 := by decide +kernel
theorem kiX4_readText_X4 : ∀ w ∈ wsX40, w ∈ wsX4_readText := fun _ h => (List.mem_cons_of_mem _ (List.mem_append_left _ (List.mem_append_left _ (List.mem_append_left _ (List.mem_append_right _ h)))))
theorem kfX4_readText_20 : Cond.fieldLink RX4 20 "ShapeJudge$TextReader" "book" "LShapeJudge$Book;" ∈ wsX4_readText := (List.mem_of_getElem? (i := 1) rfl)
theorem kfX4_readText_14 : Cond.fieldLink RX4 14 "ShapeJudge$TextReader" "tokens" "LShapeJudge$Tokens;" ∈ wsX4_readText := (List.mem_of_getElem? (i := 2) rfl)
theorem kfX4_readText_32 : Cond.fieldLink RX4 32 "ShapeJudge$TextReader" "state" "I" ∈ wsX4_readText := (List.mem_of_getElem? (i := 3) rfl)
theorem kfX4_readText_36 : Cond.fieldLink RX4 36 "ShapeJudge$TextReader" "depth" "I" ∈ wsX4_readText := (List.mem_of_getElem? (i := 4) rfl)
theorem kfX4_readText_39 : Cond.fieldLink RX4 39 "ShapeJudge$TextReader" "commas" "I" ∈ wsX4_readText := (List.mem_of_getElem? (i := 5) rfl)
theorem kfX4_readText_42 : Cond.fieldLink RX4 42 "ShapeJudge$TextReader" "bars" "I" ∈ wsX4_readText := (List.mem_of_getElem? (i := 6) rfl)
theorem kfX4_readText_45 : Cond.fieldLink RX4 45 "ShapeJudge$TextReader" "faultKind" "I" ∈ wsX4_readText := (List.mem_of_getElem? (i := 7) rfl)
theorem kfX4_readText_48 : Cond.fieldLink RX4 48 "ShapeJudge$TextReader" "faultPlace" "I" ∈ wsX4_readText := (List.mem_of_getElem? (i := 8) rfl)
theorem kiX4_readText_X5 : ∀ w ∈ wsX50, w ∈ wsX4_readText := fun _ h => (List.mem_cons_of_mem _ (List.mem_append_left _ (List.mem_append_left _ (List.mem_append_right _ h))))
theorem kfX4_readText_54 : Cond.fieldLink RX4 54 "ShapeJudge$Tokens" "kind" "I" ∈ wsX4_readText := (List.mem_of_getElem? (i := 9) rfl)
def t_X4_readText_51  (i13 : Int32) (m14 : Mem) : Option ((Int32 × Mem) ⊕ (Mem)) :=
  (if 400 < i13 then (some (.inr m14)) else ((if (m14 9 8) = 0 then ((if (m14 9 2) = 14 then (some (.inr m14)) else ((s_X5_advance m14).bind fun m16 => (if (m16 10 2) = 1 then ((s_X4_fail m16 1).bind fun m21 => bn (i13 + 1) fun x22 => some (.inl (x22, m21))) else ((s_X4_takeToken m16).bind fun m18 => bn (i13 + 1) fun x19 => some (.inl (x19, m18))))))) else (some (.inr m14)))))
def l_X4_readText_51  (n : Nat) (i13 : Int32) (m14 : Mem) : Option (Mem) := zlp n (fun a => t_X4_readText_51  a.1 a.2) (i13, m14)
def s_X4_readText (m : Mem) (bb1 : Nat) : Option (Mem) :=
  bn (sto m 9 1 (nI bb1)) fun m1 => zbk (m1 9 1) fun b2 => (s_X0_clear m1 b2).bind fun m4 => (s_X5_rewind m4).bind fun m6 => bn (sto m6 9 2 0) fun m7 => bn (sto m7 9 3 0) fun m8 => bn (sto m8 9 4 0) fun m9 => bn (sto m9 9 5 0) fun m10 => bn (sto m10 9 8 0) fun m11 => bn (sto m11 9 9 0) fun m12 => ((l_X4_readText_51  FU 0 m12).bind fun m27 => (if (m27 9 8) = 0 then ((s_X4_linkShapes m27).bind fun m29 => some m29) else (some m27)))
set_option maxRecDepth 100000 in
set_option maxHeartbeats 4000000 in
theorem w_X4_readText_51 {K : ZK} (C : zOK MX K cX4_readText 3 none RX4 wsX4_readText rmX4_readText)   {o0 : Mem} (hk : zGo MX K o0 [(0, .ref ((zw K).2.1 9))] 110 []) : ∀ (n : Nat) (i13 : Int32) (m14 : Mem), l_X4_readText_51  n i13 m14 = some o0 → zGo MX K m14 [(0, .ref ((zw K).2.1 9)), (2, .int i13)] 51 [] := by
  intro n
  induction n with
  | zero =>
    intro i13 m14 hf
    cases hf
  | succ n ih =>
    intro i13 m14 hf
    obtain ⟨z, hf, hz⟩ := zlp_el hf
    replace hf : t_X4_readText_51  i13 m14 = some z := hf
    unfold t_X4_readText_51 at hf
    refine z_iload_n C 1 dX4_readText_51 rfl rfl ?_
    refine z_sipush C (v := 400) dX4_readText_52 rfl ?_
    refine z_icmp_gt (tgt := 110) C dX4_readText_55 (by decide) (fun c26 => ?_) (fun c26 => ?_)
    · replace hf := if_t c26 hf
      cases hf
      replace hz := zlz_r hz
      cases hz
      exact z_sub [0] rfl hk
    · replace hf := if_f c26 hf
      refine z_aload_n C 0 dX4_readText_58 rfl rfl ?_
      refine z_geti C (Nat.le_of_ble_eq_true rfl) rfl rfl 8 (Nat.le_of_ble_eq_true rfl) rfl kiX4_readText_X4 kfX4_readText_45 dX4_readText_59 ?_
      refine z_if_ne (tgt := 110) C dX4_readText_62 (by decide) (fun c25 => ?_) (fun c25 => ?_)
      · replace hf := if_f c25 hf
        cases hf
        replace hz := zlz_r hz
        cases hz
        exact z_sub [0] rfl hk
      · replace hf := if_t c25 hf
        refine z_aload_n C 0 dX4_readText_65 rfl rfl ?_
        refine z_geti C (Nat.le_of_ble_eq_true rfl) rfl rfl 2 (Nat.le_of_ble_eq_true rfl) rfl kiX4_readText_X4 kfX4_readText_32 dX4_readText_66 ?_
        refine z_bipush C (v := 14) dX4_readText_69 rfl ?_
        refine z_icmp_eq (tgt := 110) C dX4_readText_71 (by decide) (fun c24 => ?_) (fun c24 => ?_)
        · replace hf := if_t c24 hf
          cases hf
          replace hz := zlz_r hz
          cases hz
          exact z_sub [0] rfl hk
        · replace hf := if_f c24 hf
          refine z_aload_n C 0 dX4_readText_74 rfl rfl ?_
          refine z_getr C (t := 10) (Nat.le_of_ble_eq_true rfl) rfl rfl 0 (Nat.le_of_ble_eq_true rfl) rfl kiX4_readText_X4 kfX4_readText_14 dX4_readText_75 ?_
          obtain ⟨m16, hc15, hf⟩ := zb_el hf
          refine z_cVv C (c_X5_advance _ _ hc15) rfl gX4_readText_X5_advance rfl rfl zdX5_advance rfl (Nat.le_of_ble_eq_true rfl) rfl rfl rfl ⟨Nat.le_of_ble_eq_true rfl, Nat.le_of_ble_eq_true rfl⟩ (Nat.le_of_ble_eq_true rfl) dX4_readText_78 rfl ?_
          refine z_aload_n C 0 dX4_readText_81 rfl rfl ?_
          refine z_getr C (t := 10) (Nat.le_of_ble_eq_true rfl) rfl rfl 0 (Nat.le_of_ble_eq_true rfl) rfl kiX4_readText_X4 kfX4_readText_14 dX4_readText_82 ?_
          refine z_geti C (Nat.le_of_ble_eq_true rfl) rfl rfl 2 (Nat.le_of_ble_eq_true rfl) rfl kiX4_readText_X5 kfX4_readText_54 dX4_readText_85 ?_
          refine z_iconst C (v := 1) dX4_readText_88 rfl ?_
          refine z_icmp_ne (tgt := 100) C dX4_readText_89 (by decide) (fun c23 => ?_) (fun c23 => ?_)
          · replace hf := if_f c23 hf
            refine z_aload_n C 0 dX4_readText_100 rfl rfl ?_
            obtain ⟨m18, hc17, hf⟩ := zb_el hf
            refine z_cVv C (c_X4_takeToken _ _ hc17) rfl gX4_readText_X4_takeToken rfl rfl zdX4_takeToken rfl (Nat.le_of_ble_eq_true rfl) rfl rfl rfl ⟨Nat.le_of_ble_eq_true rfl, Nat.le_of_ble_eq_true rfl⟩ (Nat.le_of_ble_eq_true rfl) dX4_readText_101 rfl ?_
            obtain ⟨x19, e_x19⟩ : ∃ y : Int32, y = i13 + 1 := ⟨_, rfl⟩
            replace hf := bn_to e_x19 hf
            refine z_iinc C (lv2 := [(0, .ref ((zw K).2.1 9)), (2, .int x19)]) 1 [1, 0] dX4_readText_104 rfl rfl (Nat.le_of_ble_eq_true rfl) e_x19 rfl ?_
            refine z_goto (tgt := 51) C dX4_readText_107 (by decide) ?_
            cases hf
            exact z_sub [0, 1] rfl (ih x19 m18 hz)
          · replace hf := if_t c23 hf
            refine z_aload_n C 0 dX4_readText_92 rfl rfl ?_
            refine z_iconst C (v := 1) dX4_readText_93 rfl ?_
            obtain ⟨m21, hc20, hf⟩ := zb_el hf
            refine z_cVv C (c_X4_fail _ _ hc20) rfl gX4_readText_X4_fail rfl rfl zdX4_fail rfl (Nat.le_of_ble_eq_true rfl) rfl rfl rfl ⟨Nat.le_of_ble_eq_true rfl, Nat.le_of_ble_eq_true rfl⟩ (Nat.le_of_ble_eq_true rfl) dX4_readText_94 rfl ?_
            refine z_goto (tgt := 104) C dX4_readText_97 (by decide) ?_
            obtain ⟨x22, e_x22⟩ : ∃ y : Int32, y = i13 + 1 := ⟨_, rfl⟩
            replace hf := bn_to e_x22 hf
            refine z_iinc C (lv2 := [(0, .ref ((zw K).2.1 9)), (2, .int x22)]) 1 [1, 0] dX4_readText_104 rfl rfl (Nat.le_of_ble_eq_true rfl) e_x22 rfl ?_
            refine z_goto (tgt := 51) C dX4_readText_107 (by decide) ?_
            cases hf
            exact z_sub [0, 1] rfl (ih x22 m21 hz)
set_option maxRecDepth 100000 in
set_option maxHeartbeats 4000000 in
theorem c_X4_readText (l : Launch) (w : ZW) {m : Mem} {bb1 : Nat} {m9 : Mem} (hbb1 : isb bb1) (hf : s_X4_readText m bb1 = some m9) : zCv MX l w yX4_readText wsX4_readText rmX4_readText [.ref (w.2.1 9), .ref (w.2.1 bb1)] m m9 := by
  refine z_met_v MX_ok (own := RX4) (by decide +kernel) rfl rfl (Nat.le_of_ble_eq_true rfl) ?_
  intro K C hKw hKl hret
  subst hKw
  subst hKl
  unfold s_X4_readText at hf
  show zGo MX K m [(0, .ref ((zw K).2.1 9)), (1, .ref ((zw K).2.1 bb1))] 0 []
  refine z_aload_n C 0 dX4_readText_0 rfl rfl ?_
  refine z_aload_n C 1 dX4_readText_1 rfl rfl ?_
  refine z_putb C (b := bb1) (Nat.le_of_ble_eq_true rfl) rfl rfl 1 (Nat.le_of_ble_eq_true rfl) rfl kiX4_readText_X4 kfX4_readText_20 tyX4 tyX4_ok nmX4 rfl (Cr := "ShapeJudge$Book") rfl (isb_lt hbb1) dX4_readText_2 ?_
  refine z_nm (fun m1 e_m1 => ?_)
  replace hf := bn_to e_m1 hf
  refine z_aload_n C 0 dX4_readText_5 rfl rfl ?_
  obtain ⟨b2, hb2, e_b2, hf⟩ := zbk_el hf
  refine z_getb C (b := b2) (Nat.le_of_ble_eq_true rfl) rfl rfl 1 (Nat.le_of_ble_eq_true rfl) rfl kiX4_readText_X4 kfX4_readText_20 (isb_lt hb2) e_b2 dX4_readText_6 ?_
  obtain ⟨m4, hc3, hf⟩ := zb_el hf
  refine z_cVv C (c_X0_clear _ _ hb2 hc3) rfl gX4_readText_X0_clear rfl rfl zdX0_clear rfl (isb_k0 hb2) (isb_L0 hb2) rfl rfl ⟨Nat.le_of_ble_eq_true rfl, Nat.le_of_ble_eq_true rfl⟩ (Nat.le_of_ble_eq_true rfl) dX4_readText_9 rfl ?_
  refine z_aload_n C 0 dX4_readText_12 rfl rfl ?_
  refine z_getr C (t := 10) (Nat.le_of_ble_eq_true rfl) rfl rfl 0 (Nat.le_of_ble_eq_true rfl) rfl kiX4_readText_X4 kfX4_readText_14 dX4_readText_13 ?_
  obtain ⟨m6, hc5, hf⟩ := zb_el hf
  refine z_cVv C (c_X5_rewind _ _ hc5) rfl gX4_readText_X5_rewind rfl rfl zdX5_rewind rfl (Nat.le_of_ble_eq_true rfl) rfl rfl rfl ⟨Nat.le_of_ble_eq_true rfl, Nat.le_of_ble_eq_true rfl⟩ (Nat.le_of_ble_eq_true rfl) dX4_readText_16 rfl ?_
  refine z_aload_n C 0 dX4_readText_19 rfl rfl ?_
  refine z_iconst C (v := 0) dX4_readText_20 rfl ?_
  refine z_puti C (Nat.le_of_ble_eq_true rfl) rfl rfl 2 (Nat.le_of_ble_eq_true rfl) rfl kiX4_readText_X4 kfX4_readText_32 tyX4 tyX4_ok nmX4 rfl rfl dX4_readText_21 ?_
  refine z_nm (fun m7 e_m7 => ?_)
  replace hf := bn_to e_m7 hf
  refine z_aload_n C 0 dX4_readText_24 rfl rfl ?_
  refine z_iconst C (v := 0) dX4_readText_25 rfl ?_
  refine z_puti C (Nat.le_of_ble_eq_true rfl) rfl rfl 3 (Nat.le_of_ble_eq_true rfl) rfl kiX4_readText_X4 kfX4_readText_36 tyX4 tyX4_ok nmX4 rfl rfl dX4_readText_26 ?_
  refine z_nm (fun m8 e_m8 => ?_)
  replace hf := bn_to e_m8 hf
  refine z_aload_n C 0 dX4_readText_29 rfl rfl ?_
  refine z_iconst C (v := 0) dX4_readText_30 rfl ?_
  refine z_puti C (Nat.le_of_ble_eq_true rfl) rfl rfl 4 (Nat.le_of_ble_eq_true rfl) rfl kiX4_readText_X4 kfX4_readText_39 tyX4 tyX4_ok nmX4 rfl rfl dX4_readText_31 ?_
  refine z_nm (fun m9 e_m9 => ?_)
  replace hf := bn_to e_m9 hf
  refine z_aload_n C 0 dX4_readText_34 rfl rfl ?_
  refine z_iconst C (v := 0) dX4_readText_35 rfl ?_
  refine z_puti C (Nat.le_of_ble_eq_true rfl) rfl rfl 5 (Nat.le_of_ble_eq_true rfl) rfl kiX4_readText_X4 kfX4_readText_42 tyX4 tyX4_ok nmX4 rfl rfl dX4_readText_36 ?_
  refine z_nm (fun m10 e_m10 => ?_)
  replace hf := bn_to e_m10 hf
  refine z_aload_n C 0 dX4_readText_39 rfl rfl ?_
  refine z_iconst C (v := 0) dX4_readText_40 rfl ?_
  refine z_puti C (Nat.le_of_ble_eq_true rfl) rfl rfl 8 (Nat.le_of_ble_eq_true rfl) rfl kiX4_readText_X4 kfX4_readText_45 tyX4 tyX4_ok nmX4 rfl rfl dX4_readText_41 ?_
  refine z_nm (fun m11 e_m11 => ?_)
  replace hf := bn_to e_m11 hf
  refine z_aload_n C 0 dX4_readText_44 rfl rfl ?_
  refine z_iconst C (v := 0) dX4_readText_45 rfl ?_
  refine z_puti C (Nat.le_of_ble_eq_true rfl) rfl rfl 9 (Nat.le_of_ble_eq_true rfl) rfl kiX4_readText_X4 kfX4_readText_48 tyX4 tyX4_ok nmX4 rfl rfl dX4_readText_46 ?_
  refine z_nm (fun m12 e_m12 => ?_)
  replace hf := bn_to e_m12 hf
  refine z_iconst C (v := 0) dX4_readText_49 rfl ?_
  refine z_istore_n C (lv2 := [(0, .ref ((zw K).2.1 9)), (1, .ref ((zw K).2.1 bb1)), (2, .int 0)]) [1, 2, 0] dX4_readText_50 rfl (Nat.le_of_ble_eq_true rfl) rfl ?_
  obtain ⟨m27, hg, hf⟩ := zb_el hf
  refine z_sub [0, 2] rfl (w_X4_readText_51 C  ?_ _ _ _ hg)
  clear hg
  refine z_aload_n C 0 dX4_readText_110 rfl rfl ?_
  refine z_geti C (Nat.le_of_ble_eq_true rfl) rfl rfl 8 (Nat.le_of_ble_eq_true rfl) rfl kiX4_readText_X4 kfX4_readText_45 dX4_readText_111 ?_
  refine z_if_ne (tgt := 121) C dX4_readText_114 (by decide) (fun c30 => ?_) (fun c30 => ?_)
  · replace hf := if_f c30 hf
    cases hf
    exact hret _ _ dX4_readText_121
  · replace hf := if_t c30 hf
    refine z_aload_n C 0 dX4_readText_117 rfl rfl ?_
    obtain ⟨m29, hc28, hf⟩ := zb_el hf
    refine z_cVv C (c_X4_linkShapes _ _ hc28) rfl gX4_readText_X4_linkShapes rfl rfl zdX4_linkShapes rfl (Nat.le_of_ble_eq_true rfl) rfl rfl rfl ⟨Nat.le_of_ble_eq_true rfl, Nat.le_of_ble_eq_true rfl⟩ (Nat.le_of_ble_eq_true rfl) dX4_readText_118 rfl ?_
    cases hf
    exact hret _ _ dX4_readText_121
