set_option maxRecDepth 20000 in
theorem ggX7_surely_X7_areBoth : GoodIn wsX7_surely wsX7_areBoth := goodIn_sub (List.forall_mem_cons.mpr ⟨(List.mem_of_getElem? (i := 6) rfl), (List.forall_mem_append.mpr ⟨(List.forall_mem_cons.mpr ⟨(List.mem_of_getElem? (i := 7) rfl), (List.forall_mem_cons.mpr ⟨(List.mem_of_getElem? (i := 8) rfl), (List.forall_mem_cons.mpr ⟨(List.mem_of_getElem? (i := 9) rfl), (List.forall_mem_cons.mpr ⟨(List.mem_of_getElem? (i := 5) rfl), (List.forall_mem_cons.mpr ⟨(List.mem_of_getElem? (i := 10) rfl), (List.forall_mem_cons.mpr ⟨(List.mem_of_getElem? (i := 11) rfl), (List.forall_mem_cons.mpr ⟨(List.mem_of_getElem? (i := 12) rfl), (List.forall_mem_cons.mpr ⟨(List.mem_of_getElem? (i := 13) rfl), (List.forall_mem_cons.mpr ⟨(List.mem_of_getElem? (i := 14) rfl), (List.forall_mem_cons.mpr ⟨(List.mem_of_getElem? (i := 15) rfl), (List.forall_mem_cons.mpr ⟨(List.mem_of_getElem? (i := 16) rfl), (List.forall_mem_cons.mpr ⟨(List.mem_of_getElem? (i := 17) rfl), (List.forall_mem_cons.mpr ⟨(List.mem_of_getElem? (i := 18) rfl), (List.forall_mem_cons.mpr ⟨(List.mem_of_getElem? (i := 19) rfl), (fun _ h => absurd h List.not_mem_nil)⟩)⟩)⟩)⟩)⟩)⟩)⟩)⟩)⟩)⟩)⟩)⟩)⟩)⟩), (fun _ h => (List.mem_cons_of_mem _ (List.mem_append_right _ h)))⟩)⟩) (by decide +kernel)
set_option maxRecDepth 20000 in
theorem gX7_surely_X7_areBoth : GoodIn wsX7_surely (wsV RX7 312 RX7 yX7_areBoth wsX7_areBoth) := goodIn_app (goodIn_sub (List.forall_mem_cons.mpr ⟨(List.mem_of_getElem? (i := 2) rfl), (List.forall_mem_cons.mpr ⟨(List.mem_of_getElem? (i := 3) rfl), (List.forall_mem_cons.mpr ⟨(List.mem_of_getElem? (i := 4) rfl), (List.forall_mem_cons.mpr ⟨(List.mem_of_getElem? (i := 5) rfl), (fun _ h => absurd h List.not_mem_nil)⟩)⟩)⟩)⟩) (by decide +kernel)) ggX7_surely_X7_areBoth
set_option maxRecDepth 20000 in
theorem ggX7_surely_X7_read : GoodIn wsX7_surely wsX7_read := goodIn_sub (List.forall_mem_cons.mpr ⟨(List.mem_of_getElem? (i := 23) rfl), (List.forall_mem_append.mpr ⟨(List.forall_mem_append.mpr ⟨(show ∀ w ∈ wsX7_read_r1, w ∈ wsX7_surely from (List.forall_mem_cons.mpr ⟨(List.mem_of_getElem? (i := 24) rfl), (List.forall_mem_cons.mpr ⟨(List.mem_of_getElem? (i := 25) rfl), (List.forall_mem_cons.mpr ⟨(List.mem_of_getElem? (i := 1) rfl), (List.forall_mem_cons.mpr ⟨(List.mem_of_getElem? (i := 26) rfl), (List.forall_mem_cons.mpr ⟨(List.mem_of_getElem? (i := 27) rfl), (List.forall_mem_cons.mpr ⟨(List.mem_of_getElem? (i := 28) rfl), (List.forall_mem_cons.mpr ⟨(List.mem_of_getElem? (i := 5) rfl), (List.forall_mem_cons.mpr ⟨(List.mem_of_getElem? (i := 29) rfl), (List.forall_mem_cons.mpr ⟨(List.mem_of_getElem? (i := 30) rfl), (List.forall_mem_cons.mpr ⟨(List.mem_of_getElem? (i := 31) rfl), (List.forall_mem_cons.mpr ⟨(List.mem_of_getElem? (i := 32) rfl), (List.forall_mem_cons.mpr ⟨(List.mem_of_getElem? (i := 33) rfl), (List.forall_mem_cons.mpr ⟨(List.mem_of_getElem? (i := 34) rfl), (List.forall_mem_cons.mpr ⟨(List.mem_of_getElem? (i := 19) rfl), (List.forall_mem_cons.mpr ⟨(List.mem_of_getElem? (i := 35) rfl), (List.forall_mem_cons.mpr ⟨(List.mem_of_getElem? (i := 36) rfl), (List.forall_mem_cons.mpr ⟨(List.mem_of_getElem? (i := 37) rfl), (List.forall_mem_cons.mpr ⟨(List.mem_of_getElem? (i := 38) rfl), (List.forall_mem_cons.mpr ⟨(List.mem_of_getElem? (i := 39) rfl), (List.forall_mem_cons.mpr ⟨(List.mem_of_getElem? (i := 40) rfl), (List.forall_mem_cons.mpr ⟨(List.mem_of_getElem? (i := 41) rfl), (List.forall_mem_cons.mpr ⟨(List.mem_of_getElem? (i := 42) rfl), (List.forall_mem_cons.mpr ⟨(List.mem_of_getElem? (i := 11) rfl), (List.forall_mem_cons.mpr ⟨(List.mem_of_getElem? (i := 43) rfl), (fun _ h => absurd h List.not_mem_nil)⟩)⟩)⟩)⟩)⟩)⟩)⟩)⟩)⟩)⟩)⟩)⟩)⟩)⟩)⟩)⟩)⟩)⟩)⟩)⟩)⟩)⟩)⟩)⟩)), (List.forall_mem_append.mpr ⟨(show ∀ w ∈ wsX7_read_r2, w ∈ wsX7_surely from (List.forall_mem_cons.mpr ⟨(List.mem_of_getElem? (i := 44) rfl), (List.forall_mem_cons.mpr ⟨(List.mem_of_getElem? (i := 45) rfl), (List.forall_mem_cons.mpr ⟨(List.mem_of_getElem? (i := 46) rfl), (List.forall_mem_cons.mpr ⟨(List.mem_of_getElem? (i := 47) rfl), (List.forall_mem_cons.mpr ⟨(List.mem_of_getElem? (i := 48) rfl), (List.forall_mem_cons.mpr ⟨(List.mem_of_getElem? (i := 49) rfl), (List.forall_mem_cons.mpr ⟨(List.mem_of_getElem? (i := 50) rfl), (List.forall_mem_cons.mpr ⟨(List.mem_of_getElem? (i := 51) rfl), (List.forall_mem_cons.mpr ⟨(List.mem_of_getElem? (i := 52) rfl), (List.forall_mem_cons.mpr ⟨(List.mem_of_getElem? (i := 53) rfl), (List.forall_mem_cons.mpr ⟨(List.mem_of_getElem? (i := 54) rfl), (List.forall_mem_cons.mpr ⟨(List.mem_of_getElem? (i := 55) rfl), (List.forall_mem_cons.mpr ⟨(List.mem_of_getElem? (i := 56) rfl), (List.forall_mem_cons.mpr ⟨(List.mem_of_getElem? (i := 57) rfl), (List.forall_mem_cons.mpr ⟨(List.mem_of_getElem? (i := 58) rfl), (List.forall_mem_cons.mpr ⟨(List.mem_of_getElem? (i := 59) rfl), (List.forall_mem_cons.mpr ⟨(List.mem_of_getElem? (i := 60) rfl), (List.forall_mem_cons.mpr ⟨(List.mem_of_getElem? (i := 61) rfl), (List.forall_mem_cons.mpr ⟨(List.mem_of_getElem? (i := 62) rfl), (List.forall_mem_cons.mpr ⟨(List.mem_of_getElem? (i := 63) rfl), (List.forall_mem_cons.mpr ⟨(List.mem_of_getElem? (i := 64) rfl), (List.forall_mem_cons.mpr ⟨(List.mem_of_getElem? (i := 65) rfl), (List.forall_mem_cons.mpr ⟨(List.mem_of_getElem? (i := 66) rfl), (List.forall_mem_cons.mpr ⟨(List.mem_of_getElem? (i := 67) rfl), (fun _ h => absurd h List.not_mem_nil)⟩)⟩)⟩)⟩)⟩)⟩)⟩)⟩)⟩)⟩)⟩)⟩)⟩)⟩)⟩)⟩)⟩)⟩)⟩)⟩)⟩)⟩)⟩)⟩)), (show ∀ w ∈ wsX7_read_r3, w ∈ wsX7_surely from (List.forall_mem_cons.mpr ⟨(List.mem_of_getElem? (i := 68) rfl), (List.forall_mem_cons.mpr ⟨(List.mem_of_getElem? (i := 69) rfl), (List.forall_mem_cons.mpr ⟨(List.mem_of_getElem? (i := 70) rfl), (List.forall_mem_cons.mpr ⟨(List.mem_of_getElem? (i := 71) rfl), (List.forall_mem_cons.mpr ⟨(List.mem_of_getElem? (i := 72) rfl), (List.forall_mem_cons.mpr ⟨(List.mem_of_getElem? (i := 73) rfl), (List.forall_mem_cons.mpr ⟨(List.mem_of_getElem? (i := 74) rfl), (List.forall_mem_cons.mpr ⟨(List.mem_of_getElem? (i := 75) rfl), (List.forall_mem_cons.mpr ⟨(List.mem_of_getElem? (i := 76) rfl), (List.forall_mem_cons.mpr ⟨(List.mem_of_getElem? (i := 77) rfl), (List.forall_mem_cons.mpr ⟨(List.mem_of_getElem? (i := 12) rfl), (List.forall_mem_cons.mpr ⟨(List.mem_of_getElem? (i := 13) rfl), (List.forall_mem_cons.mpr ⟨(List.mem_of_getElem? (i := 14) rfl), (List.forall_mem_cons.mpr ⟨(List.mem_of_getElem? (i := 78) rfl), (List.forall_mem_cons.mpr ⟨(List.mem_of_getElem? (i := 79) rfl), (List.forall_mem_cons.mpr ⟨(List.mem_of_getElem? (i := 80) rfl), (List.forall_mem_cons.mpr ⟨(List.mem_of_getElem? (i := 81) rfl), (List.forall_mem_cons.mpr ⟨(List.mem_of_getElem? (i := 82) rfl), (List.forall_mem_cons.mpr ⟨(List.mem_of_getElem? (i := 83) rfl), (List.forall_mem_cons.mpr ⟨(List.mem_of_getElem? (i := 84) rfl), (fun _ h => absurd h List.not_mem_nil)⟩)⟩)⟩)⟩)⟩)⟩)⟩)⟩)⟩)⟩)⟩)⟩)⟩)⟩)⟩)⟩)⟩)⟩)⟩)⟩))⟩)⟩), (fun _ h => (List.mem_cons_of_mem _ (List.mem_append_right _ h)))⟩)⟩) (by decide +kernel)
set_option maxRecDepth 20000 in
theorem gX7_surely_X7_read : GoodIn wsX7_surely (wsV RX7 315 RX7 yX7_read wsX7_read) := goodIn_app (goodIn_sub (List.forall_mem_cons.mpr ⟨(List.mem_of_getElem? (i := 20) rfl), (List.forall_mem_cons.mpr ⟨(List.mem_of_getElem? (i := 21) rfl), (List.forall_mem_cons.mpr ⟨(List.mem_of_getElem? (i := 22) rfl), (List.forall_mem_cons.mpr ⟨(List.mem_of_getElem? (i := 5) rfl), (fun _ h => absurd h List.not_mem_nil)⟩)⟩)⟩)⟩) (by decide +kernel)) ggX7_surely_X7_read
theorem dX7_surely_0 : decode cX7_surely 0 = .ok (.aload_n 0, 1) := by decide +kernel
theorem dX7_surely_1 : decode cX7_surely 1 = .ok (.iload_n 1, 1) := by decide +kernel
theorem dX7_surely_2 : decode cX7_surely 2 = .ok (.iload_n 2, 1) := by decide +kernel
theorem dX7_surely_3 : decode cX7_surely 3 = .ok (.invokevirtual 312, 3) := by decide +kernel
theorem dX7_surely_6 : decode cX7_surely 6 = .ok (.ifCond .ne 5, 3) := by decide +kernel
theorem dX7_surely_9 : decode cX7_surely 9 = .ok (.iconst (-1), 1) := by decide +kernel
theorem dX7_surely_10 : decode cX7_surely 10 = .ok (.ireturn, 1) := by decide +kernel
theorem dX7_surely_11 : decode cX7_surely 11 = .ok (.aload_n 0, 1) := by decide +kernel
theorem dX7_surely_12 : decode cX7_surely 12 = .ok (.invokevirtual 315, 3) := by decide +kernel
theorem dX7_surely_15 : decode cX7_surely 15 = .ok (.aload_n 0, 1) := by decide +kernel
theorem dX7_surely_16 : decode cX7_surely 16 = .ok (.getfield 122, 3) := by decide +kernel
theorem dX7_surely_19 : decode cX7_surely 19 = .ok (.bipush 10, 2) := by decide +kernel
theorem dX7_surely_21 : decode cX7_surely 21 = .ok (.iload_n 2, 1) := by decide +kernel
theorem dX7_surely_22 : decode cX7_surely 22 = .ok (.imul, 1) := by decide +kernel
theorem dX7_surely_23 : decode cX7_surely 23 = .ok (.iload_n 1, 1) := by decide +kernel
theorem dX7_surely_24 : decode cX7_surely 24 = .ok (.iadd, 1) := by decide +kernel
theorem dX7_surely_25 : decode cX7_surely 25 = .ok (.baload, 1) := by decide +kernel
theorem dX7_surely_26 : decode cX7_surely 26 = .ok (.ifCond .eq 7, 3) := by decide +kernel
theorem dX7_surely_29 : decode cX7_surely 29 = .ok (.iconst 1, 1) := by decide +kernel
theorem dX7_surely_30 : decode cX7_surely 30 = .ok (.goto 4, 3) := by decide +kernel
theorem dX7_surely_33 : decode cX7_surely 33 = .ok (.iconst 0, 1) := by decide +kernel
theorem dX7_surely_34 : decode cX7_surely 34 = .ok (.ireturn, 1) := by decide +kernel
def rmX7_surely : Room := { frames := 6, cells := 0, slots := 0, locals := 153 }
theorem zdX7_surely : yX7_surely.cls = RX7 ∧ yX7_surely.cls ≠ "java/lang/invoke/MethodHandle" ∧ yX7_surely.cls ≠ "java/lang/invoke/VarHandle" ∧ (parseMethodDescriptor yX7_surely.desc).map (fun d => d.parameters.length) = some 2 := by decide +kernel
theorem kiX7_surely_X7 : ∀ w ∈ wsX70, w ∈ wsX7_surely := fun _ h => (List.mem_cons_of_mem _ (List.mem_append_right _ h))
theorem kfX7_surely_122 : Cond.fieldLink RX7 122 "ShapeJudgeModel" "sure" "[Z" ∈ wsX7_surely := (List.mem_of_getElem? (i := 1) rfl)
def s_X7_surely (m : Mem) (a1 : Int32) (a2 : Int32) : Option (Int32 × Mem) :=
  (s_X7_areBoth m a1 a2).bind fun r2 => (if r2 = 0 then (some ((-1), m)) else ((s_X7_read m).bind fun m4 => ck (zin (((10 : Int32) * a2) + a1) 60 = true) ((if (m4 38 (Int32.toNatClampNeg (((10 : Int32) * a2) + a1))) = 0 then (some (0, m4)) else (some (1, m4))))))
set_option maxRecDepth 100000 in
set_option maxHeartbeats 4000000 in
theorem c_X7_surely (l : Launch) (w : ZW) {m : Mem} {a1 : Int32} {a2 : Int32} {r9 : Int32} {m9 : Mem}  (hf : s_X7_surely m a1 a2 = some (r9, m9)) : zCi MM l w yX7_surely wsX7_surely rmX7_surely [.ref (w.2.1 0), .int a1, .int a2] m m9 r9 := by
  refine z_met_i MM_ok (own := RX7) (by decide +kernel) rfl rfl (Nat.le_of_ble_eq_true rfl) ?_
  intro K C hKw hKl hret
  subst hKw
  subst hKl
  unfold s_X7_surely at hf
  show zGo MM K m [(0, .ref ((zw K).2.1 0)), (1, .int a1), (2, .int a2)] 0 []
  refine z_aload_n C 0 dX7_surely_0 rfl rfl ?_
  refine z_iload_n C 1 dX7_surely_1 rfl rfl ?_
  refine z_iload_n C 2 dX7_surely_2 rfl rfl ?_
  obtain ⟨r2, hc1, hf⟩ := zb_el hf
  refine z_cVi C (c_X7_areBoth _ _ hc1) rfl gX7_surely_X7_areBoth rfl rfl zdX7_areBoth rfl (Nat.le_of_ble_eq_true rfl) rfl rfl rfl ⟨Nat.le_of_ble_eq_true rfl, Nat.le_of_ble_eq_true rfl⟩ (Nat.le_of_ble_eq_true rfl) dX7_surely_3 rfl ?_
  refine z_if_ne (tgt := 11) C dX7_surely_6 (by decide) (fun c7 => ?_) (fun c7 => ?_)
  · replace hf := if_f c7 hf
    refine z_aload_n C 0 dX7_surely_11 rfl rfl ?_
    obtain ⟨m4, hc3, hf⟩ := zb_el hf
    refine z_cVv C (c_X7_read _ _ hc3) rfl gX7_surely_X7_read rfl rfl zdX7_read rfl (Nat.le_of_ble_eq_true rfl) rfl rfl rfl ⟨Nat.le_of_ble_eq_true rfl, Nat.le_of_ble_eq_true rfl⟩ (Nat.le_of_ble_eq_true rfl) dX7_surely_12 rfl ?_
    refine z_aload_n C 0 dX7_surely_15 rfl rfl ?_
    refine z_getr C (t := 38) (Nat.le_of_ble_eq_true rfl) rfl rfl 49 (Nat.le_of_ble_eq_true rfl) rfl kiX7_surely_X7 kfX7_surely_122 dX7_surely_16 ?_
    refine z_bipush C (v := 10) dX7_surely_19 rfl ?_
    refine z_iload_n C 2 dX7_surely_21 rfl rfl ?_
    refine z_imul C dX7_surely_22 ?_
    refine z_iload_n C 1 dX7_surely_23 rfl rfl ?_
    refine z_iadd C dX7_surely_24 ?_
    obtain ⟨hi5, hf⟩ := ck_el hf
    refine z_zald C (k := 38) (Nat.le_of_ble_eq_true rfl) rfl hi5 dX7_surely_25 ?_
    refine z_if_eq (tgt := 33) C dX7_surely_26 (by decide) (fun c6 => ?_) (fun c6 => ?_)
    · replace hf := if_t c6 hf
      refine z_iconst C (v := 0) dX7_surely_33 rfl ?_
      obtain ⟨e1, e2⟩ := sp_el hf
      subst e1
      subst e2
      exact hret _ _ dX7_surely_34
    · replace hf := if_f c6 hf
      refine z_iconst C (v := 1) dX7_surely_29 rfl ?_
      refine z_goto (tgt := 34) C dX7_surely_30 (by decide) ?_
      obtain ⟨e1, e2⟩ := sp_el hf
      subst e1
      subst e2
      exact hret _ _ dX7_surely_34
  · replace hf := if_t c7 hf
    refine z_iconst C (v := (-1)) dX7_surely_9 (by decide) ?_
    obtain ⟨e1, e2⟩ := sp_el hf
    subst e1
    subst e2
    exact hret _ _ dX7_surely_10
set_option maxRecDepth 20000 in
theorem ggX7_told_X7_isShape : GoodIn wsX7_told wsX7_isShape := goodIn_sub (List.forall_mem_cons.mpr ⟨(List.mem_of_getElem? (i := 9) rfl), (List.forall_mem_append.mpr ⟨(List.forall_mem_cons.mpr ⟨(List.mem_of_getElem? (i := 10) rfl), (List.forall_mem_cons.mpr ⟨(List.mem_of_getElem? (i := 11) rfl), (List.forall_mem_cons.mpr ⟨(List.mem_of_getElem? (i := 12) rfl), (List.forall_mem_cons.mpr ⟨(List.mem_of_getElem? (i := 8) rfl), (List.forall_mem_cons.mpr ⟨(List.mem_of_getElem? (i := 13) rfl), (fun _ h => absurd h List.not_mem_nil)⟩)⟩)⟩)⟩)⟩), (fun _ h => (List.mem_cons_of_mem _ (List.mem_append_right _ h)))⟩)⟩) (by decide +kernel)
set_option maxRecDepth 20000 in
theorem gX7_told_X7_isShape : GoodIn wsX7_told (wsV RX7 309 RX7 yX7_isShape wsX7_isShape) := goodIn_app (goodIn_sub (List.forall_mem_cons.mpr ⟨(List.mem_of_getElem? (i := 5) rfl), (List.forall_mem_cons.mpr ⟨(List.mem_of_getElem? (i := 6) rfl), (List.forall_mem_cons.mpr ⟨(List.mem_of_getElem? (i := 7) rfl), (List.forall_mem_cons.mpr ⟨(List.mem_of_getElem? (i := 8) rfl), (fun _ h => absurd h List.not_mem_nil)⟩)⟩)⟩)⟩) (by decide +kernel)) ggX7_told_X7_isShape
set_option maxRecDepth 20000 in
theorem ggX7_told_X7_in : GoodIn wsX7_told wsX7_in := goodIn_sub (List.forall_mem_cons.mpr ⟨(List.mem_of_getElem? (i := 13) rfl), (fun _ h => absurd h List.not_mem_nil)⟩) (by decide +kernel)
set_option maxRecDepth 20000 in
theorem gX7_told_X7_in : GoodIn wsX7_told (va_wsS RX7 144 yX7_in wsX7_in) := goodIn_app (goodIn_sub (List.forall_mem_cons.mpr ⟨(List.mem_of_getElem? (i := 11) rfl), (List.forall_mem_cons.mpr ⟨(List.mem_of_getElem? (i := 12) rfl), (List.forall_mem_cons.mpr ⟨(List.mem_of_getElem? (i := 8) rfl), (fun _ h => absurd h List.not_mem_nil)⟩)⟩)⟩) (by decide +kernel)) ggX7_told_X7_in
theorem dX7_told_0 : decode cX7_told 0 = .ok (.aload_n 0, 1) := by decide +kernel
theorem dX7_told_1 : decode cX7_told 1 = .ok (.iload_n 1, 1) := by decide +kernel
theorem dX7_told_2 : decode cX7_told 2 = .ok (.invokevirtual 309, 3) := by decide +kernel
theorem dX7_told_5 : decode cX7_told 5 = .ok (.ifCond .eq 15, 3) := by decide +kernel
theorem dX7_told_8 : decode cX7_told 8 = .ok (.iload_n 2, 1) := by decide +kernel
theorem dX7_told_9 : decode cX7_told 9 = .ok (.i2l, 1) := by decide +kernel
theorem dX7_told_10 : decode cX7_told 10 = .ok (.lconst 0, 1) := by decide +kernel
theorem dX7_told_11 : decode cX7_told 11 = .ok (.ldc2_w 332, 3) := by decide +kernel
theorem dX7_told_14 : decode cX7_told 14 = .ok (.invokestatic 144, 3) := by decide +kernel
theorem dX7_told_17 : decode cX7_told 17 = .ok (.ifCond .ne 5, 3) := by decide +kernel
theorem dX7_told_20 : decode cX7_told 20 = .ok (.iconst (-1), 1) := by decide +kernel
theorem dX7_told_21 : decode cX7_told 21 = .ok (.ireturn, 1) := by decide +kernel
theorem dX7_told_22 : decode cX7_told 22 = .ok (.iload_n 2, 1) := by decide +kernel
theorem dX7_told_23 : decode cX7_told 23 = .ok (.ifCond .ne 12, 3) := by decide +kernel
theorem dX7_told_26 : decode cX7_told 26 = .ok (.aload_n 0, 1) := by decide +kernel
theorem dX7_told_27 : decode cX7_told 27 = .ok (.getfield 26, 3) := by decide +kernel
theorem dX7_told_30 : decode cX7_told 30 = .ok (.iload_n 1, 1) := by decide +kernel
theorem dX7_told_31 : decode cX7_told 31 = .ok (.iaload, 1) := by decide +kernel
theorem dX7_told_32 : decode cX7_told 32 = .ok (.goto 31, 3) := by decide +kernel
theorem dX7_told_35 : decode cX7_told 35 = .ok (.iload_n 2, 1) := by decide +kernel
theorem dX7_told_36 : decode cX7_told 36 = .ok (.iconst 1, 1) := by decide +kernel
theorem dX7_told_37 : decode cX7_told 37 = .ok (.if_icmp .ne 12, 3) := by decide +kernel
theorem dX7_told_40 : decode cX7_told 40 = .ok (.aload_n 0, 1) := by decide +kernel
theorem dX7_told_41 : decode cX7_told 41 = .ok (.getfield 32, 3) := by decide +kernel
theorem dX7_told_44 : decode cX7_told 44 = .ok (.iload_n 1, 1) := by decide +kernel
theorem dX7_told_45 : decode cX7_told 45 = .ok (.iaload, 1) := by decide +kernel
theorem dX7_told_46 : decode cX7_told 46 = .ok (.goto 17, 3) := by decide +kernel
theorem dX7_told_49 : decode cX7_told 49 = .ok (.aload_n 0, 1) := by decide +kernel
theorem dX7_told_50 : decode cX7_told 50 = .ok (.getfield 29, 3) := by decide +kernel
theorem dX7_told_53 : decode cX7_told 53 = .ok (.iload_n 1, 1) := by decide +kernel
theorem dX7_told_54 : decode cX7_told 54 = .ok (.baload, 1) := by decide +kernel
theorem dX7_told_55 : decode cX7_told 55 = .ok (.ifCond .eq 7, 3) := by decide +kernel
theorem dX7_told_58 : decode cX7_told 58 = .ok (.iconst 1, 1) := by decide +kernel
theorem dX7_told_59 : decode cX7_told 59 = .ok (.goto 4, 3) := by decide +kernel
theorem dX7_told_62 : decode cX7_told 62 = .ok (.iconst 0, 1) := by decide +kernel
theorem dX7_told_63 : decode cX7_told 63 = .ok (.ireturn, 1) := by decide +kernel
def rmX7_told : Room := { frames := 2, cells := 0, slots := 0, locals := 46 }
theorem zdX7_told : yX7_told.cls = RX7 ∧ yX7_told.cls ≠ "java/lang/invoke/MethodHandle" ∧ yX7_told.cls ≠ "java/lang/invoke/VarHandle" ∧ (parseMethodDescriptor yX7_told.desc).map (fun d => d.parameters.length) = some 2 := by decide +kernel
theorem kcX7_told_332 : Cond.constantLong RX7 332 (2) ∈ wsX7_told := (List.mem_of_getElem? (i := 1) rfl)
theorem kiX7_told_X7 : ∀ w ∈ wsX70, w ∈ wsX7_told := fun _ h => (List.mem_cons_of_mem _ (List.mem_append_right _ h))
theorem kfX7_told_29 : Cond.fieldLink RX7 29 "ShapeJudgeModel" "closed" "[Z" ∈ wsX7_told := (List.mem_of_getElem? (i := 4) rfl)
theorem kfX7_told_32 : Cond.fieldLink RX7 32 "ShapeJudgeModel" "parts" "[I" ∈ wsX7_told := (List.mem_of_getElem? (i := 3) rfl)
theorem kfX7_told_26 : Cond.fieldLink RX7 26 "ShapeJudgeModel" "words" "[I" ∈ wsX7_told := (List.mem_of_getElem? (i := 2) rfl)
def s_X7_told (m : Mem) (a1 : Int32) (a2 : Int32) : Option (Int32) :=
  (s_X7_isShape m a1).bind fun r2 => (if r2 = 0 then (some (-1)) else ((s_X7_in (a2.toInt64) 0 2).bind fun r4 => (if r4 = 0 then (some (-1)) else ((if a2 = 0 then (ck (zin a1 6 = true) (some (m 6 (Int32.toNatClampNeg a1)))) else ((if a2 = 1 then (ck (zin a1 6 = true) (some (m 8 (Int32.toNatClampNeg a1)))) else (ck (zin a1 6 = true) ((if (m 7 (Int32.toNatClampNeg a1)) = 0 then (some 0) else (some 1)))))))))))
set_option maxRecDepth 100000 in
set_option maxHeartbeats 4000000 in
theorem c_X7_told (l : Launch) (w : ZW) {m : Mem} {a1 : Int32} {a2 : Int32} {r9 : Int32}  (hf : s_X7_told m a1 a2 = some r9) : zCi MM l w yX7_told wsX7_told rmX7_told [.ref (w.2.1 0), .int a1, .int a2] m m r9 := by
  refine z_met_i MM_ok (own := RX7) (by decide +kernel) rfl rfl (Nat.le_of_ble_eq_true rfl) ?_
  intro K C hKw hKl hret
  subst hKw
  subst hKl
  unfold s_X7_told at hf
  show zGo MM K m [(0, .ref ((zw K).2.1 0)), (1, .int a1), (2, .int a2)] 0 []
  refine z_aload_n C 0 dX7_told_0 rfl rfl ?_
  refine z_iload_n C 1 dX7_told_1 rfl rfl ?_
  obtain ⟨r2, hc1, hf⟩ := zb_el hf
  refine z_cVi C (c_X7_isShape _ _ hc1) rfl gX7_told_X7_isShape rfl rfl zdX7_isShape rfl (Nat.le_of_ble_eq_true rfl) rfl rfl rfl ⟨Nat.le_of_ble_eq_true rfl, Nat.le_of_ble_eq_true rfl⟩ (Nat.le_of_ble_eq_true rfl) dX7_told_2 rfl ?_
  refine z_if_eq (tgt := 20) C dX7_told_5 (by decide) (fun c12 => ?_) (fun c12 => ?_)
  · replace hf := if_t c12 hf
    refine z_iconst C (v := (-1)) dX7_told_20 (by decide) ?_
    have e1 := Option.some.inj hf
    subst e1
    exact hret _ _ dX7_told_21
  · replace hf := if_f c12 hf
    refine z_iload_n C 2 dX7_told_8 rfl rfl ?_
    refine z_i2l C dX7_told_9 ?_
    refine z_lconst C (v := 0) dX7_told_10 rfl ?_
    refine z_ldc2 C (v := 2) dX7_told_11 kcX7_told_332 ?_
    obtain ⟨r4, hc3, hf⟩ := zb_el hf
    refine z_cSi C (c_X7_in _ _ hc3) rfl gX7_told_X7_in rfl rfl zdX7_in.2 rfl ⟨Nat.le_of_ble_eq_true rfl, Nat.le_of_ble_eq_true rfl⟩ (Nat.le_of_ble_eq_true rfl) dX7_told_14 rfl ?_
    refine z_if_ne (tgt := 22) C dX7_told_17 (by decide) (fun c11 => ?_) (fun c11 => ?_)
    · replace hf := if_f c11 hf
      refine z_iload_n C 2 dX7_told_22 rfl rfl ?_
      refine z_if_ne (tgt := 35) C dX7_told_23 (by decide) (fun c10 => ?_) (fun c10 => ?_)
      · replace hf := if_f c10 hf
        refine z_iload_n C 2 dX7_told_35 rfl rfl ?_
        refine z_iconst C (v := 1) dX7_told_36 rfl ?_
        refine z_icmp_ne (tgt := 49) C dX7_told_37 (by decide) (fun c8 => ?_) (fun c8 => ?_)
        · replace hf := if_f c8 hf
          refine z_aload_n C 0 dX7_told_49 rfl rfl ?_
          refine z_getr C (t := 7) (Nat.le_of_ble_eq_true rfl) rfl rfl 9 (Nat.le_of_ble_eq_true rfl) rfl kiX7_told_X7 kfX7_told_29 dX7_told_50 ?_
          refine z_iload_n C 1 dX7_told_53 rfl rfl ?_
          obtain ⟨hi5, hf⟩ := ck_el hf
          refine z_zald C (k := 7) (Nat.le_of_ble_eq_true rfl) rfl hi5 dX7_told_54 ?_
          refine z_if_eq (tgt := 62) C dX7_told_55 (by decide) (fun c6 => ?_) (fun c6 => ?_)
          · replace hf := if_t c6 hf
            refine z_iconst C (v := 0) dX7_told_62 rfl ?_
            have e1 := Option.some.inj hf
            subst e1
            exact hret _ _ dX7_told_63
          · replace hf := if_f c6 hf
            refine z_iconst C (v := 1) dX7_told_58 rfl ?_
            refine z_goto (tgt := 63) C dX7_told_59 (by decide) ?_
            have e1 := Option.some.inj hf
            subst e1
            exact hret _ _ dX7_told_63
        · replace hf := if_t c8 hf
          refine z_aload_n C 0 dX7_told_40 rfl rfl ?_
          refine z_getr C (t := 8) (Nat.le_of_ble_eq_true rfl) rfl rfl 10 (Nat.le_of_ble_eq_true rfl) rfl kiX7_told_X7 kfX7_told_32 dX7_told_41 ?_
          refine z_iload_n C 1 dX7_told_44 rfl rfl ?_
          obtain ⟨hi7, hf⟩ := ck_el hf
          refine z_iald C (k := 8) (Nat.le_of_ble_eq_true rfl) rfl hi7 dX7_told_45 ?_
          refine z_goto (tgt := 63) C dX7_told_46 (by decide) ?_
          have e1 := Option.some.inj hf
          subst e1
          exact hret _ _ dX7_told_63
      · replace hf := if_t c10 hf
        refine z_aload_n C 0 dX7_told_26 rfl rfl ?_
        refine z_getr C (t := 6) (Nat.le_of_ble_eq_true rfl) rfl rfl 8 (Nat.le_of_ble_eq_true rfl) rfl kiX7_told_X7 kfX7_told_26 dX7_told_27 ?_
        refine z_iload_n C 1 dX7_told_30 rfl rfl ?_
        obtain ⟨hi9, hf⟩ := ck_el hf
        refine z_iald C (k := 6) (Nat.le_of_ble_eq_true rfl) rfl hi9 dX7_told_31 ?_
        refine z_goto (tgt := 63) C dX7_told_32 (by decide) ?_
        have e1 := Option.some.inj hf
        subst e1
        exact hret _ _ dX7_told_63
    · replace hf := if_t c11 hf
      refine z_iconst C (v := (-1)) dX7_told_20 (by decide) ?_
      have e1 := Option.some.inj hf
      subst e1
      exact hret _ _ dX7_told_21
set_option maxRecDepth 20000 in
theorem ggX7_without_X7_bits : GoodIn wsX7_without wsX7_bits := goodIn_sub (List.forall_mem_cons.mpr ⟨(List.mem_of_getElem? (i := 13) rfl), (fun _ h => absurd h List.not_mem_nil)⟩) (by decide +kernel)
set_option maxRecDepth 20000 in
theorem gX7_without_X7_bits : GoodIn wsX7_without (va_wsS RX7 324 yX7_bits wsX7_bits) := goodIn_app (goodIn_sub (List.forall_mem_cons.mpr ⟨(List.mem_of_getElem? (i := 10) rfl), (List.forall_mem_cons.mpr ⟨(List.mem_of_getElem? (i := 11) rfl), (List.forall_mem_cons.mpr ⟨(List.mem_of_getElem? (i := 12) rfl), (fun _ h => absurd h List.not_mem_nil)⟩)⟩)⟩) (by decide +kernel)) ggX7_without_X7_bits
set_option maxRecDepth 20000 in
theorem ggX7_without_X7_read : GoodIn wsX7_without wsX7_read := goodIn_sub (List.forall_mem_cons.mpr ⟨(List.mem_of_getElem? (i := 17) rfl), (List.forall_mem_append.mpr ⟨(List.forall_mem_append.mpr ⟨(show ∀ w ∈ wsX7_read_r1, w ∈ wsX7_without from (List.forall_mem_cons.mpr ⟨(List.mem_of_getElem? (i := 8) rfl), (List.forall_mem_cons.mpr ⟨(List.mem_of_getElem? (i := 9) rfl), (List.forall_mem_cons.mpr ⟨(List.mem_of_getElem? (i := 18) rfl), (List.forall_mem_cons.mpr ⟨(List.mem_of_getElem? (i := 19) rfl), (List.forall_mem_cons.mpr ⟨(List.mem_of_getElem? (i := 20) rfl), (List.forall_mem_cons.mpr ⟨(List.mem_of_getElem? (i := 21) rfl), (List.forall_mem_cons.mpr ⟨(List.mem_of_getElem? (i := 12) rfl), (List.forall_mem_cons.mpr ⟨(List.mem_of_getElem? (i := 22) rfl), (List.forall_mem_cons.mpr ⟨(List.mem_of_getElem? (i := 23) rfl), (List.forall_mem_cons.mpr ⟨(List.mem_of_getElem? (i := 24) rfl), (List.forall_mem_cons.mpr ⟨(List.mem_of_getElem? (i := 25) rfl), (List.forall_mem_cons.mpr ⟨(List.mem_of_getElem? (i := 26) rfl), (List.forall_mem_cons.mpr ⟨(List.mem_of_getElem? (i := 27) rfl), (List.forall_mem_cons.mpr ⟨(List.mem_of_getElem? (i := 28) rfl), (List.forall_mem_cons.mpr ⟨(List.mem_of_getElem? (i := 29) rfl), (List.forall_mem_cons.mpr ⟨(List.mem_of_getElem? (i := 30) rfl), (List.forall_mem_cons.mpr ⟨(List.mem_of_getElem? (i := 31) rfl), (List.forall_mem_cons.mpr ⟨(List.mem_of_getElem? (i := 32) rfl), (List.forall_mem_cons.mpr ⟨(List.mem_of_getElem? (i := 33) rfl), (List.forall_mem_cons.mpr ⟨(List.mem_of_getElem? (i := 34) rfl), (List.forall_mem_cons.mpr ⟨(List.mem_of_getElem? (i := 35) rfl), (List.forall_mem_cons.mpr ⟨(List.mem_of_getElem? (i := 36) rfl), (List.forall_mem_cons.mpr ⟨(List.mem_of_getElem? (i := 37) rfl), (List.forall_mem_cons.mpr ⟨(List.mem_of_getElem? (i := 38) rfl), (fun _ h => absurd h List.not_mem_nil)⟩)⟩)⟩)⟩)⟩)⟩)⟩)⟩)⟩)⟩)⟩)⟩)⟩)⟩)⟩)⟩)⟩)⟩)⟩)⟩)⟩)⟩)⟩)⟩)), (List.forall_mem_append.mpr ⟨(show ∀ w ∈ wsX7_read_r2, w ∈ wsX7_without from (List.forall_mem_cons.mpr ⟨(List.mem_of_getElem? (i := 39) rfl), (List.forall_mem_cons.mpr ⟨(List.mem_of_getElem? (i := 40) rfl), (List.forall_mem_cons.mpr ⟨(List.mem_of_getElem? (i := 41) rfl), (List.forall_mem_cons.mpr ⟨(List.mem_of_getElem? (i := 42) rfl), (List.forall_mem_cons.mpr ⟨(List.mem_of_getElem? (i := 1) rfl), (List.forall_mem_cons.mpr ⟨(List.mem_of_getElem? (i := 43) rfl), (List.forall_mem_cons.mpr ⟨(List.mem_of_getElem? (i := 44) rfl), (List.forall_mem_cons.mpr ⟨(List.mem_of_getElem? (i := 45) rfl), (List.forall_mem_cons.mpr ⟨(List.mem_of_getElem? (i := 46) rfl), (List.forall_mem_cons.mpr ⟨(List.mem_of_getElem? (i := 3) rfl), (List.forall_mem_cons.mpr ⟨(List.mem_of_getElem? (i := 47) rfl), (List.forall_mem_cons.mpr ⟨(List.mem_of_getElem? (i := 48) rfl), (List.forall_mem_cons.mpr ⟨(List.mem_of_getElem? (i := 49) rfl), (List.forall_mem_cons.mpr ⟨(List.mem_of_getElem? (i := 50) rfl), (List.forall_mem_cons.mpr ⟨(List.mem_of_getElem? (i := 51) rfl), (List.forall_mem_cons.mpr ⟨(List.mem_of_getElem? (i := 52) rfl), (List.forall_mem_cons.mpr ⟨(List.mem_of_getElem? (i := 53) rfl), (List.forall_mem_cons.mpr ⟨(List.mem_of_getElem? (i := 54) rfl), (List.forall_mem_cons.mpr ⟨(List.mem_of_getElem? (i := 55) rfl), (List.forall_mem_cons.mpr ⟨(List.mem_of_getElem? (i := 56) rfl), (List.forall_mem_cons.mpr ⟨(List.mem_of_getElem? (i := 57) rfl), (List.forall_mem_cons.mpr ⟨(List.mem_of_getElem? (i := 58) rfl), (List.forall_mem_cons.mpr ⟨(List.mem_of_getElem? (i := 59) rfl), (List.forall_mem_cons.mpr ⟨(List.mem_of_getElem? (i := 60) rfl), (fun _ h => absurd h List.not_mem_nil)⟩)⟩)⟩)⟩)⟩)⟩)⟩)⟩)⟩)⟩)⟩)⟩)⟩)⟩)⟩)⟩)⟩)⟩)⟩)⟩)⟩)⟩)⟩)⟩)), (show ∀ w ∈ wsX7_read_r3, w ∈ wsX7_without from (List.forall_mem_cons.mpr ⟨(List.mem_of_getElem? (i := 61) rfl), (List.forall_mem_cons.mpr ⟨(List.mem_of_getElem? (i := 62) rfl), (List.forall_mem_cons.mpr ⟨(List.mem_of_getElem? (i := 63) rfl), (List.forall_mem_cons.mpr ⟨(List.mem_of_getElem? (i := 64) rfl), (List.forall_mem_cons.mpr ⟨(List.mem_of_getElem? (i := 65) rfl), (List.forall_mem_cons.mpr ⟨(List.mem_of_getElem? (i := 66) rfl), (List.forall_mem_cons.mpr ⟨(List.mem_of_getElem? (i := 5) rfl), (List.forall_mem_cons.mpr ⟨(List.mem_of_getElem? (i := 67) rfl), (List.forall_mem_cons.mpr ⟨(List.mem_of_getElem? (i := 68) rfl), (List.forall_mem_cons.mpr ⟨(List.mem_of_getElem? (i := 69) rfl), (List.forall_mem_cons.mpr ⟨(List.mem_of_getElem? (i := 70) rfl), (List.forall_mem_cons.mpr ⟨(List.mem_of_getElem? (i := 71) rfl), (List.forall_mem_cons.mpr ⟨(List.mem_of_getElem? (i := 72) rfl), (List.forall_mem_cons.mpr ⟨(List.mem_of_getElem? (i := 73) rfl), (List.forall_mem_cons.mpr ⟨(List.mem_of_getElem? (i := 74) rfl), (List.forall_mem_cons.mpr ⟨(List.mem_of_getElem? (i := 75) rfl), (List.forall_mem_cons.mpr ⟨(List.mem_of_getElem? (i := 76) rfl), (List.forall_mem_cons.mpr ⟨(List.mem_of_getElem? (i := 77) rfl), (List.forall_mem_cons.mpr ⟨(List.mem_of_getElem? (i := 78) rfl), (List.forall_mem_cons.mpr ⟨(List.mem_of_getElem? (i := 79) rfl), (fun _ h => absurd h List.not_mem_nil)⟩)⟩)⟩)⟩)⟩)⟩)⟩)⟩)⟩)⟩)⟩)⟩)⟩)⟩)⟩)⟩)⟩)⟩)⟩)⟩))⟩)⟩), (fun _ h => (List.mem_cons_of_mem _ (List.mem_append_right _ h)))⟩)⟩) (by decide +kernel)
set_option maxRecDepth 20000 in
theorem gX7_without_X7_read : GoodIn wsX7_without (wsV RX7 315 RX7 yX7_read wsX7_read) := goodIn_app (goodIn_sub (List.forall_mem_cons.mpr ⟨(List.mem_of_getElem? (i := 14) rfl), (List.forall_mem_cons.mpr ⟨(List.mem_of_getElem? (i := 15) rfl), (List.forall_mem_cons.mpr ⟨(List.mem_of_getElem? (i := 16) rfl), (List.forall_mem_cons.mpr ⟨(List.mem_of_getElem? (i := 12) rfl), (fun _ h => absurd h List.not_mem_nil)⟩)⟩)⟩)⟩) (by decide +kernel)) ggX7_without_X7_read
set_option maxRecDepth 100000 in
theorem daX7_without : ∀ q ∈ ([(0, .aload_n 0, 1), (1, .getfield 17, 3), (4, .iload_n 1, 1), (5, .iaload, 1), (6, .istore_n 3, 1), (7, .iconst 0, 1), (8, .istore 4, 2), (10, .iload 4, 2), (12, .iload_n 3, 1), (13, .if_icmp .ge 45, 3), (16, .aload_n 0, 1), (17, .getfield 134, 3), (20, .iload 4, 2), (22, .aload_n 0, 1), (23, .getfield 20, 3), (26, .iconst 5, 1), (27, .iload_n 1, 1), (28, .imul, 1), (29, .iload 4, 2), (31, .iadd, 1), (32, .iaload, 1), (33, .iastore, 1), (34, .aload_n 0, 1), (35, .getfield 137, 3), (38, .iload 4, 2), (40, .aload_n 0, 1), (41, .getfield 23, 3), (44, .iconst 5, 1), (45, .iload_n 1, 1), (46, .imul, 1), (47, .iload 4, 2), (49, .iadd, 1), (50, .iaload, 1), (51, .iastore, 1), (52, .iinc 4 1, 3), (55, .goto (-45), 3), (58, .aload_n 0, 1), (59, .bipush (-4), 2), (61, .putfield 318, 3), (64, .aload_n 0, 1), (65, .bipush (-4), 2), (67, .putfield 321, 3), (70, .iconst 0, 1), (71, .istore 4, 2), (73, .iload 4, 2), (75, .iconst 3, 1), (76, .if_icmp .ge 175, 3), (79, .aload_n 0, 1), (80, .getfield 318, 3), (83, .bipush (-4), 2), (85, .if_icmp .ne 166, 3), (88, .iconst 0, 1), (89, .istore 5, 2), (91, .iload 5, 2), (93, .iconst 1, 1), (94, .iload_n 3, 1), (95, .ishl, 1), (96, .if_icmp .ge 149, 3), (99, .aload_n 0, 1), (100, .getfield 318, 3), (103, .bipush (-4), 2), (105, .if_icmp .ne 140, 3), (108, .iload 5, 2), (110, .invokestatic 324, 3), (113, .iload 4, 2), (115, .if_icmp .ne 124, 3), (118, .aload_n 0, 1), (119, .getfield 17, 3), (122, .iload_n 1, 1), (123, .iconst 0, 1), (124, .iastore, 1), (125, .iconst 0, 1), (126, .istore 6, 2), (128, .iload 6, 2), (130, .iload_n 3, 1), (131, .if_icmp .ge 73, 3), (134, .iload 5, 2), (136, .iload 6, 2), (138, .ishr, 1), (139, .iconst 1, 1), (140, .iand, 1), (141, .ifCond .ne 57, 3), (144, .aload_n 0, 1), (145, .getfield 20, 3), (148, .iconst 5, 1), (149, .iload_n 1, 1), (150, .imul, 1), (151, .aload_n 0, 1), (152, .getfield 17, 3), (155, .iload_n 1, 1), (156, .iaload, 1), (157, .iadd, 1), (158, .aload_n 0, 1), (159, .getfield 134, 3), (162, .iload 6, 2), (164, .iaload, 1), (165, .iastore, 1), (166, .aload_n 0, 1), (167, .getfield 23, 3), (170, .iconst 5, 1), (171, .iload_n 1, 1), (172, .imul, 1), (173, .aload_n 0, 1), (174, .getfield 17, 3), (177, .iload_n 1, 1), (178, .iaload, 1), (179, .iadd, 1), (180, .aload_n 0, 1), (181, .getfield 137, 3), (184, .iload 6, 2), (186, .iaload, 1), (187, .iastore, 1), (188, .aload_n 0, 1), (189, .getfield 17, 3), (192, .iload_n 1, 1), (193, .dup2, 1), (194, .iaload, 1), (195, .iconst 1, 1), (196, .iadd, 1), (197, .iastore, 1), (198, .iinc 6 1, 3), (201, .goto (-73), 3), (204, .aload_n 0, 1), (205, .iconst 0, 1), (206, .putfield 148, 3), (209, .aload_n 0, 1), (210, .invokevirtual 315, 3), (213, .aload_n 0, 1), (214, .getfield 119, 3), (217, .bipush 10, 2), (219, .iload_n 2, 1), (220, .imul, 1), (221, .iload_n 1, 1), (222, .iadd, 1), (223, .baload, 1), (224, .ifCond .eq 15, 3), (227, .aload_n 0, 1), (228, .iload 4, 2), (230, .putfield 318, 3), (233, .aload_n 0, 1), (234, .iload 5, 2), (236, .putfield 321, 3), (239, .iinc 5 1, 3), (242, .goto (-151), 3), (245, .iinc 4 1, 3), (248, .goto (-175), 3), (251, .aload_n 0, 1), (252, .getfield 17, 3), (255, .iload_n 1, 1), (256, .iload_n 3, 1), (257, .iastore, 1), (258, .iconst 0, 1), (259, .istore 4, 2), (261, .iload 4, 2), (263, .iload_n 3, 1), (264, .if_icmp .ge 45, 3), (267, .aload_n 0, 1), (268, .getfield 20, 3), (271, .iconst 5, 1), (272, .iload_n 1, 1), (273, .imul, 1), (274, .iload 4, 2), (276, .iadd, 1), (277, .aload_n 0, 1), (278, .getfield 134, 3), (281, .iload 4, 2), (283, .iaload, 1), (284, .iastore, 1), (285, .aload_n 0, 1), (286, .getfield 23, 3), (289, .iconst 5, 1), (290, .iload_n 1, 1), (291, .imul, 1), (292, .iload 4, 2), (294, .iadd, 1), (295, .aload_n 0, 1), (296, .getfield 137, 3), (299, .iload 4, 2), (301, .iaload, 1), (302, .iastore, 1), (303, .iinc 4 1, 3), (306, .goto (-45), 3), (309, .aload_n 0, 1), (310, .iconst 0, 1), (311, .putfield 148, 3), (314, .return_, 1)] : List (Nat × Instr × Nat)), decode cX7_without q.1 = .ok q.2 := by decide +kernel
theorem dX7_without_0 : decode cX7_without 0 = .ok (.aload_n 0, 1) := daX7_without (0, .aload_n 0, 1) (List.mem_of_getElem? (i := 0) rfl)
theorem dX7_without_1 : decode cX7_without 1 = .ok (.getfield 17, 3) := daX7_without (1, .getfield 17, 3) (List.mem_of_getElem? (i := 1) rfl)
theorem dX7_without_4 : decode cX7_without 4 = .ok (.iload_n 1, 1) := daX7_without (4, .iload_n 1, 1) (List.mem_of_getElem? (i := 2) rfl)
theorem dX7_without_5 : decode cX7_without 5 = .ok (.iaload, 1) := daX7_without (5, .iaload, 1) (List.mem_of_getElem? (i := 3) rfl)
theorem dX7_without_6 : decode cX7_without 6 = .ok (.istore_n 3, 1) := daX7_without (6, .istore_n 3, 1) (List.mem_of_getElem? (i := 4) rfl)
theorem dX7_without_7 : decode cX7_without 7 = .ok (.iconst 0, 1) := daX7_without (7, .iconst 0, 1) (List.mem_of_getElem? (i := 5) rfl)
theorem dX7_without_8 : decode cX7_without 8 = .ok (.istore 4, 2) := daX7_without (8, .istore 4, 2) (List.mem_of_getElem? (i := 6) rfl)
theorem dX7_without_10 : decode cX7_without 10 = .ok (.iload 4, 2) := daX7_without (10, .iload 4, 2) (List.mem_of_getElem? (i := 7) rfl)
theorem dX7_without_12 : decode cX7_without 12 = .ok (.iload_n 3, 1) := daX7_without (12, .iload_n 3, 1) (List.mem_of_getElem? (i := 8) rfl)
theorem dX7_without_13 : decode cX7_without 13 = .ok (.if_icmp .ge 45, 3) := daX7_without (13, .if_icmp .ge 45, 3) (List.mem_of_getElem? (i := 9) rfl)
theorem dX7_without_16 : decode cX7_without 16 = .ok (.aload_n 0, 1) := daX7_without (16, .aload_n 0, 1) (List.mem_of_getElem? (i := 10) rfl)
theorem dX7_without_17 : decode cX7_without 17 = .ok (.getfield 134, 3) := daX7_without (17, .getfield 134, 3) (List.mem_of_getElem? (i := 11) rfl)
theorem dX7_without_20 : decode cX7_without 20 = .ok (.iload 4, 2) := daX7_without (20, .iload 4, 2) (List.mem_of_getElem? (i := 12) rfl)
theorem dX7_without_22 : decode cX7_without 22 = .ok (.aload_n 0, 1) := daX7_without (22, .aload_n 0, 1) (List.mem_of_getElem? (i := 13) rfl)
theorem dX7_without_23 : decode cX7_without 23 = .ok (.getfield 20, 3) := daX7_without (23, .getfield 20, 3) (List.mem_of_getElem? (i := 14) rfl)
theorem dX7_without_26 : decode cX7_without 26 = .ok (.iconst 5, 1) := daX7_without (26, .iconst 5, 1) (List.mem_of_getElem? (i := 15) rfl)
theorem dX7_without_27 : decode cX7_without 27 = .ok (.iload_n 1, 1) := daX7_without (27, .iload_n 1, 1) (List.mem_of_getElem? (i := 16) rfl)
theorem dX7_without_28 : decode cX7_without 28 = .ok (.imul, 1) := daX7_without (28, .imul, 1) (List.mem_of_getElem? (i := 17) rfl)
theorem dX7_without_29 : decode cX7_without 29 = .ok (.iload 4, 2) := daX7_without (29, .iload 4, 2) (List.mem_of_getElem? (i := 18) rfl)
theorem dX7_without_31 : decode cX7_without 31 = .ok (.iadd, 1) := daX7_without (31, .iadd, 1) (List.mem_of_getElem? (i := 19) rfl)
theorem dX7_without_32 : decode cX7_without 32 = .ok (.iaload, 1) := daX7_without (32, .iaload, 1) (List.mem_of_getElem? (i := 20) rfl)
theorem dX7_without_33 : decode cX7_without 33 = .ok (.iastore, 1) := daX7_without (33, .iastore, 1) (List.mem_of_getElem? (i := 21) rfl)
theorem dX7_without_34 : decode cX7_without 34 = .ok (.aload_n 0, 1) := daX7_without (34, .aload_n 0, 1) (List.mem_of_getElem? (i := 22) rfl)
theorem dX7_without_35 : decode cX7_without 35 = .ok (.getfield 137, 3) := daX7_without (35, .getfield 137, 3) (List.mem_of_getElem? (i := 23) rfl)
theorem dX7_without_38 : decode cX7_without 38 = .ok (.iload 4, 2) := daX7_without (38, .iload 4, 2) (List.mem_of_getElem? (i := 24) rfl)
theorem dX7_without_40 : decode cX7_without 40 = .ok (.aload_n 0, 1) := daX7_without (40, .aload_n 0, 1) (List.mem_of_getElem? (i := 25) rfl)
theorem dX7_without_41 : decode cX7_without 41 = .ok (.getfield 23, 3) := daX7_without (41, .getfield 23, 3) (List.mem_of_getElem? (i := 26) rfl)
theorem dX7_without_44 : decode cX7_without 44 = .ok (.iconst 5, 1) := daX7_without (44, .iconst 5, 1) (List.mem_of_getElem? (i := 27) rfl)
theorem dX7_without_45 : decode cX7_without 45 = .ok (.iload_n 1, 1) := daX7_without (45, .iload_n 1, 1) (List.mem_of_getElem? (i := 28) rfl)
theorem dX7_without_46 : decode cX7_without 46 = .ok (.imul, 1) := daX7_without (46, .imul, 1) (List.mem_of_getElem? (i := 29) rfl)
theorem dX7_without_47 : decode cX7_without 47 = .ok (.iload 4, 2) := daX7_without (47, .iload 4, 2) (List.mem_of_getElem? (i := 30) rfl)
theorem dX7_without_49 : decode cX7_without 49 = .ok (.iadd, 1) := daX7_without (49, .iadd, 1) (List.mem_of_getElem? (i := 31) rfl)
theorem dX7_without_50 : decode cX7_without 50 = .ok (.iaload, 1) := daX7_without (50, .iaload, 1) (List.mem_of_getElem? (i := 32) rfl)
theorem dX7_without_51 : decode cX7_without 51 = .ok (.iastore, 1) := daX7_without (51, .iastore, 1) (List.mem_of_getElem? (i := 33) rfl)
theorem dX7_without_52 : decode cX7_without 52 = .ok (.iinc 4 1, 3) := daX7_without (52, .iinc 4 1, 3) (List.mem_of_getElem? (i := 34) rfl)
theorem dX7_without_55 : decode cX7_without 55 = .ok (.goto (-45), 3) := daX7_without (55, .goto (-45), 3) (List.mem_of_getElem? (i := 35) rfl)
theorem dX7_without_58 : decode cX7_without 58 = .ok (.aload_n 0, 1) := daX7_without (58, .aload_n 0, 1) (List.mem_of_getElem? (i := 36) rfl)
theorem dX7_without_59 : decode cX7_without 59 = .ok (.bipush (-4), 2) := daX7_without (59, .bipush (-4), 2) (List.mem_of_getElem? (i := 37) rfl)
theorem dX7_without_61 : decode cX7_without 61 = .ok (.putfield 318, 3) := daX7_without (61, .putfield 318, 3) (List.mem_of_getElem? (i := 38) rfl)
theorem dX7_without_64 : decode cX7_without 64 = .ok (.aload_n 0, 1) := daX7_without (64, .aload_n 0, 1) (List.mem_of_getElem? (i := 39) rfl)
theorem dX7_without_65 : decode cX7_without 65 = .ok (.bipush (-4), 2) := daX7_without (65, .bipush (-4), 2) (List.mem_of_getElem? (i := 40) rfl)
theorem dX7_without_67 : decode cX7_without 67 = .ok (.putfield 321, 3) := daX7_without (67, .putfield 321, 3) (List.mem_of_getElem? (i := 41) rfl)
theorem dX7_without_70 : decode cX7_without 70 = .ok (.iconst 0, 1) := daX7_without (70, .iconst 0, 1) (List.mem_of_getElem? (i := 42) rfl)
theorem dX7_without_71 : decode cX7_without 71 = .ok (.istore 4, 2) := daX7_without (71, .istore 4, 2) (List.mem_of_getElem? (i := 43) rfl)
theorem dX7_without_73 : decode cX7_without 73 = .ok (.iload 4, 2) := daX7_without (73, .iload 4, 2) (List.mem_of_getElem? (i := 44) rfl)
theorem dX7_without_75 : decode cX7_without 75 = .ok (.iconst 3, 1) := daX7_without (75, .iconst 3, 1) (List.mem_of_getElem? (i := 45) rfl)
theorem dX7_without_76 : decode cX7_without 76 = .ok (.if_icmp .ge 175, 3) := daX7_without (76, .if_icmp .ge 175, 3) (List.mem_of_getElem? (i := 46) rfl)
theorem dX7_without_79 : decode cX7_without 79 = .ok (.aload_n 0, 1) := daX7_without (79, .aload_n 0, 1) (List.mem_of_getElem? (i := 47) rfl)
theorem dX7_without_80 : decode cX7_without 80 = .ok (.getfield 318, 3) := daX7_without (80, .getfield 318, 3) (List.mem_of_getElem? (i := 48) rfl)
theorem dX7_without_83 : decode cX7_without 83 = .ok (.bipush (-4), 2) := daX7_without (83, .bipush (-4), 2) (List.mem_of_getElem? (i := 49) rfl)
theorem dX7_without_85 : decode cX7_without 85 = .ok (.if_icmp .ne 166, 3) := daX7_without (85, .if_icmp .ne 166, 3) (List.mem_of_getElem? (i := 50) rfl)
theorem dX7_without_88 : decode cX7_without 88 = .ok (.iconst 0, 1) := daX7_without (88, .iconst 0, 1) (List.mem_of_getElem? (i := 51) rfl)
theorem dX7_without_89 : decode cX7_without 89 = .ok (.istore 5, 2) := daX7_without (89, .istore 5, 2) (List.mem_of_getElem? (i := 52) rfl)
theorem dX7_without_91 : decode cX7_without 91 = .ok (.iload 5, 2) := daX7_without (91, .iload 5, 2) (List.mem_of_getElem? (i := 53) rfl)
theorem dX7_without_93 : decode cX7_without 93 = .ok (.iconst 1, 1) := daX7_without (93, .iconst 1, 1) (List.mem_of_getElem? (i := 54) rfl)
theorem dX7_without_94 : decode cX7_without 94 = .ok (.iload_n 3, 1) := daX7_without (94, .iload_n 3, 1) (List.mem_of_getElem? (i := 55) rfl)
theorem dX7_without_95 : decode cX7_without 95 = .ok (.ishl, 1) := daX7_without (95, .ishl, 1) (List.mem_of_getElem? (i := 56) rfl)
theorem dX7_without_96 : decode cX7_without 96 = .ok (.if_icmp .ge 149, 3) := daX7_without (96, .if_icmp .ge 149, 3) (List.mem_of_getElem? (i := 57) rfl)
theorem dX7_without_99 : decode cX7_without 99 = .ok (.aload_n 0, 1) := daX7_without (99, .aload_n 0, 1) (List.mem_of_getElem? (i := 58) rfl)
theorem dX7_without_100 : decode cX7_without 100 = .ok (.getfield 318, 3) := daX7_without (100, .getfield 318, 3) (List.mem_of_getElem? (i := 59) rfl)
theorem dX7_without_103 : decode cX7_without 103 = .ok (.bipush (-4), 2) := daX7_without (103, .bipush (-4), 2) (List.mem_of_getElem? (i := 60) rfl)
theorem dX7_without_105 : decode cX7_without 105 = .ok (.if_icmp .ne 140, 3) := daX7_without (105, .if_icmp .ne 140, 3) (List.mem_of_getElem? (i := 61) rfl)
theorem dX7_without_108 : decode cX7_without 108 = .ok (.iload 5, 2) := daX7_without (108, .iload 5, 2) (List.mem_of_getElem? (i := 62) rfl)
theorem dX7_without_110 : decode cX7_without 110 = .ok (.invokestatic 324, 3) := daX7_without (110, .invokestatic 324, 3) (List.mem_of_getElem? (i := 63) rfl)
theorem dX7_without_113 : decode cX7_without 113 = .ok (.iload 4, 2) := daX7_without (113, .iload 4, 2) (List.mem_of_getElem? (i := 64) rfl)
theorem dX7_without_115 : decode cX7_without 115 = .ok (.if_icmp .ne 124, 3) := daX7_without (115, .if_icmp .ne 124, 3) (List.mem_of_getElem? (i := 65) rfl)
theorem dX7_without_118 : decode cX7_without 118 = .ok (.aload_n 0, 1) := daX7_without (118, .aload_n 0, 1) (List.mem_of_getElem? (i := 66) rfl)
theorem dX7_without_119 : decode cX7_without 119 = .ok (.getfield 17, 3) := daX7_without (119, .getfield 17, 3) (List.mem_of_getElem? (i := 67) rfl)
theorem dX7_without_122 : decode cX7_without 122 = .ok (.iload_n 1, 1) := daX7_without (122, .iload_n 1, 1) (List.mem_of_getElem? (i := 68) rfl)
theorem dX7_without_123 : decode cX7_without 123 = .ok (.iconst 0, 1) := daX7_without (123, .iconst 0, 1) (List.mem_of_getElem? (i := 69) rfl)
theorem dX7_without_124 : decode cX7_without 124 = .ok (.iastore, 1) := daX7_without (124, .iastore, 1) (List.mem_of_getElem? (i := 70) rfl)
theorem dX7_without_125 : decode cX7_without 125 = .ok (.iconst 0, 1) := daX7_without (125, .iconst 0, 1) (List.mem_of_getElem? (i := 71) rfl)
theorem dX7_without_126 : decode cX7_without 126 = .ok (.istore 6, 2) := daX7_without (126, .istore 6, 2) (List.mem_of_getElem? (i := 72) rfl)
theorem dX7_without_128 : decode cX7_without 128 = .ok (.iload 6, 2) := daX7_without (128, .iload 6, 2) (List.mem_of_getElem? (i := 73) rfl)
theorem dX7_without_130 : decode cX7_without 130 = .ok (.iload_n 3, 1) := daX7_without (130, .iload_n 3, 1) (List.mem_of_getElem? (i := 74) rfl)
theorem dX7_without_131 : decode cX7_without 131 = .ok (.if_icmp .ge 73, 3) := daX7_without (131, .if_icmp .ge 73, 3) (List.mem_of_getElem? (i := 75) rfl)
theorem dX7_without_134 : decode cX7_without 134 = .ok (.iload 5, 2) := daX7_without (134, .iload 5, 2) (List.mem_of_getElem? (i := 76) rfl)
theorem dX7_without_136 : decode cX7_without 136 = .ok (.iload 6, 2) := daX7_without (136, .iload 6, 2) (List.mem_of_getElem? (i := 77) rfl)
theorem dX7_without_138 : decode cX7_without 138 = .ok (.ishr, 1) := daX7_without (138, .ishr, 1) (List.mem_of_getElem? (i := 78) rfl)
theorem dX7_without_139 : decode cX7_without 139 = .ok (.iconst 1, 1) := daX7_without (139, .iconst 1, 1) (List.mem_of_getElem? (i := 79) rfl)
theorem dX7_without_140 : decode cX7_without 140 = .ok (.iand, 1) := daX7_without (140, .iand, 1) (List.mem_of_getElem? (i := 80) rfl)
theorem dX7_without_141 : decode cX7_without 141 = .ok (.ifCond .ne 57, 3) := daX7_without (141, .ifCond .ne 57, 3) (List.mem_of_getElem? (i := 81) rfl)
theorem dX7_without_144 : decode cX7_without 144 = .ok (.aload_n 0, 1) := daX7_without (144, .aload_n 0, 1) (List.mem_of_getElem? (i := 82) rfl)
theorem dX7_without_145 : decode cX7_without 145 = .ok (.getfield 20, 3) := daX7_without (145, .getfield 20, 3) (List.mem_of_getElem? (i := 83) rfl)
theorem dX7_without_148 : decode cX7_without 148 = .ok (.iconst 5, 1) := daX7_without (148, .iconst 5, 1) (List.mem_of_getElem? (i := 84) rfl)
theorem dX7_without_149 : decode cX7_without 149 = .ok (.iload_n 1, 1) := daX7_without (149, .iload_n 1, 1) (List.mem_of_getElem? (i := 85) rfl)
theorem dX7_without_150 : decode cX7_without 150 = .ok (.imul, 1) := daX7_without (150, .imul, 1) (List.mem_of_getElem? (i := 86) rfl)
theorem dX7_without_151 : decode cX7_without 151 = .ok (.aload_n 0, 1) := daX7_without (151, .aload_n 0, 1) (List.mem_of_getElem? (i := 87) rfl)
theorem dX7_without_152 : decode cX7_without 152 = .ok (.getfield 17, 3) := daX7_without (152, .getfield 17, 3) (List.mem_of_getElem? (i := 88) rfl)
theorem dX7_without_155 : decode cX7_without 155 = .ok (.iload_n 1, 1) := daX7_without (155, .iload_n 1, 1) (List.mem_of_getElem? (i := 89) rfl)
theorem dX7_without_156 : decode cX7_without 156 = .ok (.iaload, 1) := daX7_without (156, .iaload, 1) (List.mem_of_getElem? (i := 90) rfl)
theorem dX7_without_157 : decode cX7_without 157 = .ok (.iadd, 1) := daX7_without (157, .iadd, 1) (List.mem_of_getElem? (i := 91) rfl)
theorem dX7_without_158 : decode cX7_without 158 = .ok (.aload_n 0, 1) := daX7_without (158, .aload_n 0, 1) (List.mem_of_getElem? (i := 92) rfl)
theorem dX7_without_159 : decode cX7_without 159 = .ok (.getfield 134, 3) := daX7_without (159, .getfield 134, 3) (List.mem_of_getElem? (i := 93) rfl)
theorem dX7_without_162 : decode cX7_without 162 = .ok (.iload 6, 2) := daX7_without (162, .iload 6, 2) (List.mem_of_getElem? (i := 94) rfl)
theorem dX7_without_164 : decode cX7_without 164 = .ok (.iaload, 1) := daX7_without (164, .iaload, 1) (List.mem_of_getElem? (i := 95) rfl)
theorem dX7_without_165 : decode cX7_without 165 = .ok (.iastore, 1) := daX7_without (165, .iastore, 1) (List.mem_of_getElem? (i := 96) rfl)
theorem dX7_without_166 : decode cX7_without 166 = .ok (.aload_n 0, 1) := daX7_without (166, .aload_n 0, 1) (List.mem_of_getElem? (i := 97) rfl)
theorem dX7_without_167 : decode cX7_without 167 = .ok (.getfield 23, 3) := daX7_without (167, .getfield 23, 3) (List.mem_of_getElem? (i := 98) rfl)
theorem dX7_without_170 : decode cX7_without 170 = .ok (.iconst 5, 1) := daX7_without (170, .iconst 5, 1) (List.mem_of_getElem? (i := 99) rfl)
theorem dX7_without_171 : decode cX7_without 171 = .ok (.iload_n 1, 1) := daX7_without (171, .iload_n 1, 1) (List.mem_of_getElem? (i := 100) rfl)
theorem dX7_without_172 : decode cX7_without 172 = .ok (.imul, 1) := daX7_without (172, .imul, 1) (List.mem_of_getElem? (i := 101) rfl)
theorem dX7_without_173 : decode cX7_without 173 = .ok (.aload_n 0, 1) := daX7_without (173, .aload_n 0, 1) (List.mem_of_getElem? (i := 102) rfl)
theorem dX7_without_174 : decode cX7_without 174 = .ok (.getfield 17, 3) := daX7_without (174, .getfield 17, 3) (List.mem_of_getElem? (i := 103) rfl)
theorem dX7_without_177 : decode cX7_without 177 = .ok (.iload_n 1, 1) := daX7_without (177, .iload_n 1, 1) (List.mem_of_getElem? (i := 104) rfl)
theorem dX7_without_178 : decode cX7_without 178 = .ok (.iaload, 1) := daX7_without (178, .iaload, 1) (List.mem_of_getElem? (i := 105) rfl)
theorem dX7_without_179 : decode cX7_without 179 = .ok (.iadd, 1) := daX7_without (179, .iadd, 1) (List.mem_of_getElem? (i := 106) rfl)
theorem dX7_without_180 : decode cX7_without 180 = .ok (.aload_n 0, 1) := daX7_without (180, .aload_n 0, 1) (List.mem_of_getElem? (i := 107) rfl)
theorem dX7_without_181 : decode cX7_without 181 = .ok (.getfield 137, 3) := daX7_without (181, .getfield 137, 3) (List.mem_of_getElem? (i := 108) rfl)
theorem dX7_without_184 : decode cX7_without 184 = .ok (.iload 6, 2) := daX7_without (184, .iload 6, 2) (List.mem_of_getElem? (i := 109) rfl)
theorem dX7_without_186 : decode cX7_without 186 = .ok (.iaload, 1) := daX7_without (186, .iaload, 1) (List.mem_of_getElem? (i := 110) rfl)
theorem dX7_without_187 : decode cX7_without 187 = .ok (.iastore, 1) := daX7_without (187, .iastore, 1) (List.mem_of_getElem? (i := 111) rfl)
theorem dX7_without_188 : decode cX7_without 188 = .ok (.aload_n 0, 1) := daX7_without (188, .aload_n 0, 1) (List.mem_of_getElem? (i := 112) rfl)
theorem dX7_without_189 : decode cX7_without 189 = .ok (.getfield 17, 3) := daX7_without (189, .getfield 17, 3) (List.mem_of_getElem? (i := 113) rfl)
theorem dX7_without_192 : decode cX7_without 192 = .ok (.iload_n 1, 1) := daX7_without (192, .iload_n 1, 1) (List.mem_of_getElem? (i := 114) rfl)
theorem dX7_without_193 : decode cX7_without 193 = .ok (.dup2, 1) := daX7_without (193, .dup2, 1) (List.mem_of_getElem? (i := 115) rfl)
theorem dX7_without_194 : decode cX7_without 194 = .ok (.iaload, 1) := daX7_without (194, .iaload, 1) (List.mem_of_getElem? (i := 116) rfl)
theorem dX7_without_195 : decode cX7_without 195 = .ok (.iconst 1, 1) := daX7_without (195, .iconst 1, 1) (List.mem_of_getElem? (i := 117) rfl)
theorem dX7_without_196 : decode cX7_without 196 = .ok (.iadd, 1) := daX7_without (196, .iadd, 1) (List.mem_of_getElem? (i := 118) rfl)
theorem dX7_without_197 : decode cX7_without 197 = .ok (.iastore, 1) := daX7_without (197, .iastore, 1) (List.mem_of_getElem? (i := 119) rfl)
theorem dX7_without_198 : decode cX7_without 198 = .ok (.iinc 6 1, 3) := daX7_without (198, .iinc 6 1, 3) (List.mem_of_getElem? (i := 120) rfl)
theorem dX7_without_201 : decode cX7_without 201 = .ok (.goto (-73), 3) := daX7_without (201, .goto (-73), 3) (List.mem_of_getElem? (i := 121) rfl)
theorem dX7_without_204 : decode cX7_without 204 = .ok (.aload_n 0, 1) := daX7_without (204, .aload_n 0, 1) (List.mem_of_getElem? (i := 122) rfl)
theorem dX7_without_205 : decode cX7_without 205 = .ok (.iconst 0, 1) := daX7_without (205, .iconst 0, 1) (List.mem_of_getElem? (i := 123) rfl)
theorem dX7_without_206 : decode cX7_without 206 = .ok (.putfield 148, 3) := daX7_without (206, .putfield 148, 3) (List.mem_of_getElem? (i := 124) rfl)
theorem dX7_without_209 : decode cX7_without 209 = .ok (.aload_n 0, 1) := daX7_without (209, .aload_n 0, 1) (List.mem_of_getElem? (i := 125) rfl)
theorem dX7_without_210 : decode cX7_without 210 = .ok (.invokevirtual 315, 3) := daX7_without (210, .invokevirtual 315, 3) (List.mem_of_getElem? (i := 126) rfl)
theorem dX7_without_213 : decode cX7_without 213 = .ok (.aload_n 0, 1) := daX7_without (213, .aload_n 0, 1) (List.mem_of_getElem? (i := 127) rfl)
theorem dX7_without_214 : decode cX7_without 214 = .ok (.getfield 119, 3) := daX7_without (214, .getfield 119, 3) (List.mem_of_getElem? (i := 128) rfl)
theorem dX7_without_217 : decode cX7_without 217 = .ok (.bipush 10, 2) := daX7_without (217, .bipush 10, 2) (List.mem_of_getElem? (i := 129) rfl)
theorem dX7_without_219 : decode cX7_without 219 = .ok (.iload_n 2, 1) := daX7_without (219, .iload_n 2, 1) (List.mem_of_getElem? (i := 130) rfl)
theorem dX7_without_220 : decode cX7_without 220 = .ok (.imul, 1) := daX7_without (220, .imul, 1) (List.mem_of_getElem? (i := 131) rfl)
theorem dX7_without_221 : decode cX7_without 221 = .ok (.iload_n 1, 1) := daX7_without (221, .iload_n 1, 1) (List.mem_of_getElem? (i := 132) rfl)
theorem dX7_without_222 : decode cX7_without 222 = .ok (.iadd, 1) := daX7_without (222, .iadd, 1) (List.mem_of_getElem? (i := 133) rfl)
theorem dX7_without_223 : decode cX7_without 223 = .ok (.baload, 1) := daX7_without (223, .baload, 1) (List.mem_of_getElem? (i := 134) rfl)
theorem dX7_without_224 : decode cX7_without 224 = .ok (.ifCond .eq 15, 3) := daX7_without (224, .ifCond .eq 15, 3) (List.mem_of_getElem? (i := 135) rfl)
theorem dX7_without_227 : decode cX7_without 227 = .ok (.aload_n 0, 1) := daX7_without (227, .aload_n 0, 1) (List.mem_of_getElem? (i := 136) rfl)
theorem dX7_without_228 : decode cX7_without 228 = .ok (.iload 4, 2) := daX7_without (228, .iload 4, 2) (List.mem_of_getElem? (i := 137) rfl)
theorem dX7_without_230 : decode cX7_without 230 = .ok (.putfield 318, 3) := daX7_without (230, .putfield 318, 3) (List.mem_of_getElem? (i := 138) rfl)
theorem dX7_without_233 : decode cX7_without 233 = .ok (.aload_n 0, 1) := daX7_without (233, .aload_n 0, 1) (List.mem_of_getElem? (i := 139) rfl)
theorem dX7_without_234 : decode cX7_without 234 = .ok (.iload 5, 2) := daX7_without (234, .iload 5, 2) (List.mem_of_getElem? (i := 140) rfl)
theorem dX7_without_236 : decode cX7_without 236 = .ok (.putfield 321, 3) := daX7_without (236, .putfield 321, 3) (List.mem_of_getElem? (i := 141) rfl)
theorem dX7_without_239 : decode cX7_without 239 = .ok (.iinc 5 1, 3) := daX7_without (239, .iinc 5 1, 3) (List.mem_of_getElem? (i := 142) rfl)
theorem dX7_without_242 : decode cX7_without 242 = .ok (.goto (-151), 3) := daX7_without (242, .goto (-151), 3) (List.mem_of_getElem? (i := 143) rfl)
theorem dX7_without_245 : decode cX7_without 245 = .ok (.iinc 4 1, 3) := daX7_without (245, .iinc 4 1, 3) (List.mem_of_getElem? (i := 144) rfl)
theorem dX7_without_248 : decode cX7_without 248 = .ok (.goto (-175), 3) := daX7_without (248, .goto (-175), 3) (List.mem_of_getElem? (i := 145) rfl)
theorem dX7_without_251 : decode cX7_without 251 = .ok (.aload_n 0, 1) := daX7_without (251, .aload_n 0, 1) (List.mem_of_getElem? (i := 146) rfl)
theorem dX7_without_252 : decode cX7_without 252 = .ok (.getfield 17, 3) := daX7_without (252, .getfield 17, 3) (List.mem_of_getElem? (i := 147) rfl)
theorem dX7_without_255 : decode cX7_without 255 = .ok (.iload_n 1, 1) := daX7_without (255, .iload_n 1, 1) (List.mem_of_getElem? (i := 148) rfl)
theorem dX7_without_256 : decode cX7_without 256 = .ok (.iload_n 3, 1) := daX7_without (256, .iload_n 3, 1) (List.mem_of_getElem? (i := 149) rfl)
theorem dX7_without_257 : decode cX7_without 257 = .ok (.iastore, 1) := daX7_without (257, .iastore, 1) (List.mem_of_getElem? (i := 150) rfl)
theorem dX7_without_258 : decode cX7_without 258 = .ok (.iconst 0, 1) := daX7_without (258, .iconst 0, 1) (List.mem_of_getElem? (i := 151) rfl)
theorem dX7_without_259 : decode cX7_without 259 = .ok (.istore 4, 2) := daX7_without (259, .istore 4, 2) (List.mem_of_getElem? (i := 152) rfl)
theorem dX7_without_261 : decode cX7_without 261 = .ok (.iload 4, 2) := daX7_without (261, .iload 4, 2) (List.mem_of_getElem? (i := 153) rfl)
theorem dX7_without_263 : decode cX7_without 263 = .ok (.iload_n 3, 1) := daX7_without (263, .iload_n 3, 1) (List.mem_of_getElem? (i := 154) rfl)
theorem dX7_without_264 : decode cX7_without 264 = .ok (.if_icmp .ge 45, 3) := daX7_without (264, .if_icmp .ge 45, 3) (List.mem_of_getElem? (i := 155) rfl)
theorem dX7_without_267 : decode cX7_without 267 = .ok (.aload_n 0, 1) := daX7_without (267, .aload_n 0, 1) (List.mem_of_getElem? (i := 156) rfl)
theorem dX7_without_268 : decode cX7_without 268 = .ok (.getfield 20, 3) := daX7_without (268, .getfield 20, 3) (List.mem_of_getElem? (i := 157) rfl)
theorem dX7_without_271 : decode cX7_without 271 = .ok (.iconst 5, 1) := daX7_without (271, .iconst 5, 1) (List.mem_of_getElem? (i := 158) rfl)
theorem dX7_without_272 : decode cX7_without 272 = .ok (.iload_n 1, 1) := daX7_without (272, .iload_n 1, 1) (List.mem_of_getElem? (i := 159) rfl)
theorem dX7_without_273 : decode cX7_without 273 = .ok (.imul, 1) := daX7_without (273, .imul, 1) (List.mem_of_getElem? (i := 160) rfl)
theorem dX7_without_274 : decode cX7_without 274 = .ok (.iload 4, 2) := daX7_without (274, .iload 4, 2) (List.mem_of_getElem? (i := 161) rfl)
theorem dX7_without_276 : decode cX7_without 276 = .ok (.iadd, 1) := daX7_without (276, .iadd, 1) (List.mem_of_getElem? (i := 162) rfl)
theorem dX7_without_277 : decode cX7_without 277 = .ok (.aload_n 0, 1) := daX7_without (277, .aload_n 0, 1) (List.mem_of_getElem? (i := 163) rfl)
theorem dX7_without_278 : decode cX7_without 278 = .ok (.getfield 134, 3) := daX7_without (278, .getfield 134, 3) (List.mem_of_getElem? (i := 164) rfl)
theorem dX7_without_281 : decode cX7_without 281 = .ok (.iload 4, 2) := daX7_without (281, .iload 4, 2) (List.mem_of_getElem? (i := 165) rfl)
theorem dX7_without_283 : decode cX7_without 283 = .ok (.iaload, 1) := daX7_without (283, .iaload, 1) (List.mem_of_getElem? (i := 166) rfl)
theorem dX7_without_284 : decode cX7_without 284 = .ok (.iastore, 1) := daX7_without (284, .iastore, 1) (List.mem_of_getElem? (i := 167) rfl)
theorem dX7_without_285 : decode cX7_without 285 = .ok (.aload_n 0, 1) := daX7_without (285, .aload_n 0, 1) (List.mem_of_getElem? (i := 168) rfl)
theorem dX7_without_286 : decode cX7_without 286 = .ok (.getfield 23, 3) := daX7_without (286, .getfield 23, 3) (List.mem_of_getElem? (i := 169) rfl)
theorem dX7_without_289 : decode cX7_without 289 = .ok (.iconst 5, 1) := daX7_without (289, .iconst 5, 1) (List.mem_of_getElem? (i := 170) rfl)
theorem dX7_without_290 : decode cX7_without 290 = .ok (.iload_n 1, 1) := daX7_without (290, .iload_n 1, 1) (List.mem_of_getElem? (i := 171) rfl)
theorem dX7_without_291 : decode cX7_without 291 = .ok (.imul, 1) := daX7_without (291, .imul, 1) (List.mem_of_getElem? (i := 172) rfl)
theorem dX7_without_292 : decode cX7_without 292 = .ok (.iload 4, 2) := daX7_without (292, .iload 4, 2) (List.mem_of_getElem? (i := 173) rfl)
theorem dX7_without_294 : decode cX7_without 294 = .ok (.iadd, 1) := daX7_without (294, .iadd, 1) (List.mem_of_getElem? (i := 174) rfl)
theorem dX7_without_295 : decode cX7_without 295 = .ok (.aload_n 0, 1) := daX7_without (295, .aload_n 0, 1) (List.mem_of_getElem? (i := 175) rfl)
theorem dX7_without_296 : decode cX7_without 296 = .ok (.getfield 137, 3) := daX7_without (296, .getfield 137, 3) (List.mem_of_getElem? (i := 176) rfl)
theorem dX7_without_299 : decode cX7_without 299 = .ok (.iload 4, 2) := daX7_without (299, .iload 4, 2) (List.mem_of_getElem? (i := 177) rfl)
theorem dX7_without_301 : decode cX7_without 301 = .ok (.iaload, 1) := daX7_without (301, .iaload, 1) (List.mem_of_getElem? (i := 178) rfl)
theorem dX7_without_302 : decode cX7_without 302 = .ok (.iastore, 1) := daX7_without (302, .iastore, 1) (List.mem_of_getElem? (i := 179) rfl)
theorem dX7_without_303 : decode cX7_without 303 = .ok (.iinc 4 1, 3) := daX7_without (303, .iinc 4 1, 3) (List.mem_of_getElem? (i := 180) rfl)
theorem dX7_without_306 : decode cX7_without 306 = .ok (.goto (-45), 3) := daX7_without (306, .goto (-45), 3) (List.mem_of_getElem? (i := 181) rfl)
theorem dX7_without_309 : decode cX7_without 309 = .ok (.aload_n 0, 1) := daX7_without (309, .aload_n 0, 1) (List.mem_of_getElem? (i := 182) rfl)
theorem dX7_without_310 : decode cX7_without 310 = .ok (.iconst 0, 1) := daX7_without (310, .iconst 0, 1) (List.mem_of_getElem? (i := 183) rfl)
theorem dX7_without_311 : decode cX7_without 311 = .ok (.putfield 148, 3) := daX7_without (311, .putfield 148, 3) (List.mem_of_getElem? (i := 184) rfl)
theorem dX7_without_314 : decode cX7_without 314 = .ok (.return_, 1) := daX7_without (314, .return_, 1) (List.mem_of_getElem? (i := 185) rfl)
def rmX7_without : Room := { frames := 6, cells := 0, slots := 0, locals := 153 }
theorem zdX7_without : yX7_without.cls = RX7 ∧ yX7_without.cls ≠ "java/lang/invoke/MethodHandle" ∧ yX7_without.cls ≠ "java/lang/invoke/VarHandle" ∧ (parseMethodDescriptor yX7_without.desc).map (fun d => d.parameters.length) = some 2 := by decide +kernel
theorem kiX7_without_X7 : ∀ w ∈ wsX70, w ∈ wsX7_without := fun _ h => (List.mem_cons_of_mem _ (List.mem_append_right _ h))
theorem kfX7_without_17 : Cond.fieldLink RX7 17 "ShapeJudgeModel" "many" "[I" ∈ wsX7_without := (List.mem_of_getElem? (i := 1) rfl)
theorem kfX7_without_134 : Cond.fieldLink RX7 134 "ShapeJudgeModel" "keptNames" "[I" ∈ wsX7_without := (List.mem_of_getElem? (i := 2) rfl)
theorem kfX7_without_20 : Cond.fieldLink RX7 20 "ShapeJudgeModel" "names" "[I" ∈ wsX7_without := (List.mem_of_getElem? (i := 3) rfl)
theorem kfX7_without_137 : Cond.fieldLink RX7 137 "ShapeJudgeModel" "keptTos" "[I" ∈ wsX7_without := (List.mem_of_getElem? (i := 4) rfl)
theorem kfX7_without_23 : Cond.fieldLink RX7 23 "ShapeJudgeModel" "tos" "[I" ∈ wsX7_without := (List.mem_of_getElem? (i := 5) rfl)
theorem kfX7_without_318 : Cond.fieldLink RX7 318 "ShapeJudgeModel" "withoutMany" "I" ∈ wsX7_without := (List.mem_of_getElem? (i := 6) rfl)
theorem kfX7_without_321 : Cond.fieldLink RX7 321 "ShapeJudgeModel" "withoutSet" "I" ∈ wsX7_without := (List.mem_of_getElem? (i := 7) rfl)
theorem kfX7_without_148 : Cond.fieldLink RX7 148 "ShapeJudgeModel" "isRead" "Z" ∈ wsX7_without := (List.mem_of_getElem? (i := 8) rfl)
theorem kfX7_without_119 : Cond.fieldLink RX7 119 "ShapeJudgeModel" "fitting" "[Z" ∈ wsX7_without := (List.mem_of_getElem? (i := 9) rfl)
def t_X7_without_10 (a1 : Int32) (x2 : Int32) (i3 : Int32) (m4 : Mem) : Option ((Int32 × Mem) ⊕ (Mem)) :=
  (if x2 ≤ i3 then (some (.inr m4)) else (ck (zin (((5 : Int32) * a1) + i3) 50 = true) (ck (zin i3 5 = true) (bn (sto m4 42 (Int32.toNatClampNeg i3) (m4 4 (Int32.toNatClampNeg (((5 : Int32) * a1) + i3)))) fun m7 => ck (zin (((5 : Int32) * a1) + i3) 50 = true) (ck (zin i3 5 = true) (bn (sto m7 43 (Int32.toNatClampNeg i3) (m7 5 (Int32.toNatClampNeg (((5 : Int32) * a1) + i3)))) fun m10 => bn (i3 + 1) fun x11 => some (.inl (x11, m10))))))))
def l_X7_without_10 (a1 : Int32) (x2 : Int32) (n : Nat) (i3 : Int32) (m4 : Mem) : Option (Mem) := zlp n (fun a => t_X7_without_10 a1 x2 a.1 a.2) (i3, m4)
def t_X7_without_128 (a1 : Int32) (x2 : Int32) (i18 : Int32) (i25 : Int32) (m26 : Mem) : Option ((Int32 × Mem) ⊕ (Mem)) :=
  (if x2 ≤ i25 then (some (.inr m26)) else ((if ((i18 >>> (i25 &&& 31)) &&& 1) = 0 then (ck (zin a1 10 = true) (ck (zin i25 5 = true) (ck (zin (((5 : Int32) * a1) + (m26 3 (Int32.toNatClampNeg a1))) 50 = true) (bn (sto m26 4 (Int32.toNatClampNeg (((5 : Int32) * a1) + (m26 3 (Int32.toNatClampNeg a1)))) (m26 42 (Int32.toNatClampNeg i25))) fun m31 => ck (zin a1 10 = true) (ck (zin i25 5 = true) (ck (zin (((5 : Int32) * a1) + (m31 3 (Int32.toNatClampNeg a1))) 50 = true) (bn (sto m31 5 (Int32.toNatClampNeg (((5 : Int32) * a1) + (m31 3 (Int32.toNatClampNeg a1)))) (m31 43 (Int32.toNatClampNeg i25))) fun m35 => ck (zin a1 10 = true) (ck (zin a1 10 = true) (bn (sto m35 3 (Int32.toNatClampNeg a1) ((m35 3 (Int32.toNatClampNeg a1)) + 1)) fun m38 => bn (i25 + 1) fun x39 => some (.inl (x39, m38))))))))))) else (bn (i25 + 1) fun x27 => some (.inl (x27, m26))))))
def l_X7_without_128 (a1 : Int32) (x2 : Int32) (i18 : Int32) (n : Nat) (i25 : Int32) (m26 : Mem) : Option (Mem) := zlp n (fun a => t_X7_without_128 a1 x2 i18 a.1 a.2) (i25, m26)
def t_X7_without_91 (a1 : Int32) (a2 : Int32) (x2 : Int32) (i16 : Int32) (i18 : Int32) (m19 : Mem) : Option ((Int32 × Mem) ⊕ (Mem)) :=
  (if ((1 : Int32) <<< (x2 &&& 31)) ≤ i18 then (some (.inr m19)) else ((if (m19 0 53) = (-4) then ((s_X7_bits i18).bind fun r21 => (if r21 = i16 then (ck (zin a1 10 = true) (bn (sto m19 3 (Int32.toNatClampNeg a1) 0) fun m24 => ((l_X7_without_128 a1 x2 i18 FU 0 m24).bind fun m42 => bn (sto m42 0 6 0) fun m43 => (s_X7_read m43).bind fun m45 => ck (zin (((10 : Int32) * a2) + a1) 60 = true) ((if (m45 37 (Int32.toNatClampNeg (((10 : Int32) * a2) + a1))) = 0 then (bn (i18 + 1) fun x47 => some (.inl (x47, m45))) else (bn (sto m45 0 53 i16) fun m48 => bn (sto m48 0 54 i18) fun m49 => bn (i18 + 1) fun x50 => some (.inl (x50, m49)))))))) else (bn (i18 + 1) fun x22 => some (.inl (x22, m19))))) else (some (.inr m19)))))
def l_X7_without_91 (a1 : Int32) (a2 : Int32) (x2 : Int32) (i16 : Int32) (n : Nat) (i18 : Int32) (m19 : Mem) : Option (Mem) := zlp n (fun a => t_X7_without_91 a1 a2 x2 i16 a.1 a.2) (i18, m19)
def t_X7_without_73 (a1 : Int32) (a2 : Int32) (x2 : Int32) (i16 : Int32) (m17 : Mem) : Option ((Int32 × Mem) ⊕ (Mem)) :=
  (if 3 ≤ i16 then (some (.inr m17)) else ((if (m17 0 53) = (-4) then (((l_X7_without_91 a1 a2 x2 i16 FU 0 m17).bind fun m55 => bn (i16 + 1) fun x56 => some (.inl (x56, m55)))) else (some (.inr m17)))))
def l_X7_without_73 (a1 : Int32) (a2 : Int32) (x2 : Int32) (n : Nat) (i16 : Int32) (m17 : Mem) : Option (Mem) := zlp n (fun a => t_X7_without_73 a1 a2 x2 a.1 a.2) (i16, m17)
def t_X7_without_261 (a1 : Int32) (x2 : Int32) (i62 : Int32) (m63 : Mem) : Option ((Int32 × Mem) ⊕ (Mem)) :=
  (if x2 ≤ i62 then (some (.inr m63)) else (ck (zin i62 5 = true) (ck (zin (((5 : Int32) * a1) + i62) 50 = true) (bn (sto m63 4 (Int32.toNatClampNeg (((5 : Int32) * a1) + i62)) (m63 42 (Int32.toNatClampNeg i62))) fun m66 => ck (zin i62 5 = true) (ck (zin (((5 : Int32) * a1) + i62) 50 = true) (bn (sto m66 5 (Int32.toNatClampNeg (((5 : Int32) * a1) + i62)) (m66 43 (Int32.toNatClampNeg i62))) fun m69 => bn (i62 + 1) fun x70 => some (.inl (x70, m69))))))))
def l_X7_without_261 (a1 : Int32) (x2 : Int32) (n : Nat) (i62 : Int32) (m63 : Mem) : Option (Mem) := zlp n (fun a => t_X7_without_261 a1 x2 a.1 a.2) (i62, m63)
def s_X7_without (m : Mem) (a1 : Int32) (a2 : Int32) : Option (Mem) :=
  ck (zin a1 10 = true) (bn (m 3 (Int32.toNatClampNeg a1)) fun x2 => ((l_X7_without_10 a1 x2 FU 0 m).bind fun m13 => bn (sto m13 0 53 (-4)) fun m14 => bn (sto m14 0 54 (-4)) fun m15 => ((l_X7_without_73 a1 a2 x2 FU 0 m15).bind fun m59 => ck (zin a1 10 = true) (bn (sto m59 3 (Int32.toNatClampNeg a1) x2) fun m61 => ((l_X7_without_261 a1 x2 FU 0 m61).bind fun m72 => bn (sto m72 0 6 0) fun m73 => some m73)))))
set_option maxRecDepth 100000 in
set_option maxHeartbeats 4000000 in
theorem w_X7_without_10 {K : ZK} (C : zOK MM K cX7_without 7 none RX7 wsX7_without rmX7_without) {a1 : Int32} {a2 : Int32} {x2 : Int32}  {o0 : Mem} (hk : zGo MM K o0 [(0, .ref ((zw K).2.1 0)), (1, .int a1), (2, .int a2), (3, .int x2)] 58 []) : ∀ (n : Nat) (i3 : Int32) (m4 : Mem), l_X7_without_10 a1 x2 n i3 m4 = some o0 → zGo MM K m4 [(0, .ref ((zw K).2.1 0)), (1, .int a1), (2, .int a2), (3, .int x2), (4, .int i3)] 10 [] := by
  intro n
  induction n with
  | zero =>
    intro i3 m4 hf
    cases hf
  | succ n ih =>
    intro i3 m4 hf
    obtain ⟨z, hf, hz⟩ := zlp_el hf
    replace hf : t_X7_without_10 a1 x2 i3 m4 = some z := hf
    unfold t_X7_without_10 at hf
    refine z_iload C 4 dX7_without_10 rfl ?_
    refine z_iload_n C 3 dX7_without_12 rfl rfl ?_
    refine z_icmp_ge (tgt := 58) C dX7_without_13 (by decide) (fun c12 => ?_) (fun c12 => ?_)
    · replace hf := if_t c12 hf
      cases hf
      replace hz := zlz_r hz
      cases hz
      exact z_sub [0, 1, 2, 3] rfl hk
    · replace hf := if_f c12 hf
      refine z_aload_n C 0 dX7_without_16 rfl rfl ?_
      refine z_getr C (t := 42) (Nat.le_of_ble_eq_true rfl) rfl rfl 55 (Nat.le_of_ble_eq_true rfl) rfl kiX7_without_X7 kfX7_without_134 dX7_without_17 ?_
      refine z_iload C 4 dX7_without_20 rfl ?_
      refine z_aload_n C 0 dX7_without_22 rfl rfl ?_
      refine z_getr C (t := 4) (Nat.le_of_ble_eq_true rfl) rfl rfl 4 (Nat.le_of_ble_eq_true rfl) rfl kiX7_without_X7 kfX7_without_20 dX7_without_23 ?_
      refine z_iconst C (v := 5) dX7_without_26 rfl ?_
      refine z_iload_n C 1 dX7_without_27 rfl rfl ?_
      refine z_imul C dX7_without_28 ?_
      refine z_iload C 4 dX7_without_29 rfl ?_
      refine z_iadd C dX7_without_31 ?_
      obtain ⟨hi5, hf⟩ := ck_el hf
      refine z_iald C (k := 4) (Nat.le_of_ble_eq_true rfl) rfl hi5 dX7_without_32 ?_
      obtain ⟨hi6, hf⟩ := ck_el hf
      refine z_iast C (k := 42) (Nat.le_of_ble_eq_true rfl) rfl hi6 dX7_without_33 ?_
      refine z_nm (fun m7 e_m7 => ?_)
      replace hf := bn_to e_m7 hf
      refine z_aload_n C 0 dX7_without_34 rfl rfl ?_
      refine z_getr C (t := 43) (Nat.le_of_ble_eq_true rfl) rfl rfl 56 (Nat.le_of_ble_eq_true rfl) rfl kiX7_without_X7 kfX7_without_137 dX7_without_35 ?_
      refine z_iload C 4 dX7_without_38 rfl ?_
      refine z_aload_n C 0 dX7_without_40 rfl rfl ?_
      refine z_getr C (t := 5) (Nat.le_of_ble_eq_true rfl) rfl rfl 5 (Nat.le_of_ble_eq_true rfl) rfl kiX7_without_X7 kfX7_without_23 dX7_without_41 ?_
      refine z_iconst C (v := 5) dX7_without_44 rfl ?_
      refine z_iload_n C 1 dX7_without_45 rfl rfl ?_
      refine z_imul C dX7_without_46 ?_
      refine z_iload C 4 dX7_without_47 rfl ?_
      refine z_iadd C dX7_without_49 ?_
      obtain ⟨hi8, hf⟩ := ck_el hf
      refine z_iald C (k := 5) (Nat.le_of_ble_eq_true rfl) rfl hi8 dX7_without_50 ?_
      obtain ⟨hi9, hf⟩ := ck_el hf
      refine z_iast C (k := 43) (Nat.le_of_ble_eq_true rfl) rfl hi9 dX7_without_51 ?_
      refine z_nm (fun m10 e_m10 => ?_)
      replace hf := bn_to e_m10 hf
      obtain ⟨x11, e_x11⟩ : ∃ y : Int32, y = i3 + 1 := ⟨_, rfl⟩
      replace hf := bn_to e_x11 hf
      refine z_iinc C (lv2 := [(0, .ref ((zw K).2.1 0)), (1, .int a1), (2, .int a2), (3, .int x2), (4, .int x11)]) 4 [1, 2, 3, 4, 0] dX7_without_52 rfl rfl (Nat.le_of_ble_eq_true rfl) e_x11 rfl ?_
      refine z_goto (tgt := 10) C dX7_without_55 (by decide) ?_
      cases hf
      exact z_sub [0, 1, 2, 3, 4] rfl (ih x11 m10 hz)
set_option maxRecDepth 100000 in
set_option maxHeartbeats 4000000 in
theorem w_X7_without_128 {K : ZK} (C : zOK MM K cX7_without 7 none RX7 wsX7_without rmX7_without) {a1 : Int32} {a2 : Int32} {x2 : Int32} {i16 : Int32} {i18 : Int32}  {o0 : Mem} (hk : zGo MM K o0 [(0, .ref ((zw K).2.1 0)), (1, .int a1), (2, .int a2), (3, .int x2), (4, .int i16), (5, .int i18)] 204 []) : ∀ (n : Nat) (i25 : Int32) (m26 : Mem), l_X7_without_128 a1 x2 i18 n i25 m26 = some o0 → zGo MM K m26 [(0, .ref ((zw K).2.1 0)), (1, .int a1), (2, .int a2), (3, .int x2), (4, .int i16), (5, .int i18), (6, .int i25)] 128 [] := by
  intro n
  induction n with
  | zero =>
    intro i25 m26 hf
    cases hf
  | succ n ih =>
    intro i25 m26 hf
    obtain ⟨z, hf, hz⟩ := zlp_el hf
    replace hf : t_X7_without_128 a1 x2 i18 i25 m26 = some z := hf
    unfold t_X7_without_128 at hf
    refine z_iload C 6 dX7_without_128 rfl ?_
    refine z_iload_n C 3 dX7_without_130 rfl rfl ?_
    refine z_icmp_ge (tgt := 204) C dX7_without_131 (by decide) (fun c41 => ?_) (fun c41 => ?_)
    · replace hf := if_t c41 hf
      cases hf
      replace hz := zlz_r hz
      cases hz
      exact z_sub [0, 1, 2, 3, 4, 5] rfl hk
    · replace hf := if_f c41 hf
      refine z_iload C 5 dX7_without_134 rfl ?_
      refine z_iload C 6 dX7_without_136 rfl ?_
      refine z_ishr C dX7_without_138 ?_
      refine z_iconst C (v := 1) dX7_without_139 rfl ?_
      refine z_iand C dX7_without_140 ?_
      refine z_if_ne (tgt := 198) C dX7_without_141 (by decide) (fun c40 => ?_) (fun c40 => ?_)
      · replace hf := if_f c40 hf
        obtain ⟨x27, e_x27⟩ : ∃ y : Int32, y = i25 + 1 := ⟨_, rfl⟩
        replace hf := bn_to e_x27 hf
        refine z_iinc C (lv2 := [(0, .ref ((zw K).2.1 0)), (1, .int a1), (2, .int a2), (3, .int x2), (4, .int i16), (5, .int i18), (6, .int x27)]) 6 [1, 2, 3, 4, 5, 6, 0] dX7_without_198 rfl rfl (Nat.le_of_ble_eq_true rfl) e_x27 rfl ?_
        refine z_goto (tgt := 128) C dX7_without_201 (by decide) ?_
        cases hf
        exact z_sub [0, 1, 2, 3, 4, 5, 6] rfl (ih x27 m26 hz)
      · replace hf := if_t c40 hf
        refine z_aload_n C 0 dX7_without_144 rfl rfl ?_
        refine z_getr C (t := 4) (Nat.le_of_ble_eq_true rfl) rfl rfl 4 (Nat.le_of_ble_eq_true rfl) rfl kiX7_without_X7 kfX7_without_20 dX7_without_145 ?_
        refine z_iconst C (v := 5) dX7_without_148 rfl ?_
        refine z_iload_n C 1 dX7_without_149 rfl rfl ?_
        refine z_imul C dX7_without_150 ?_
        refine z_aload_n C 0 dX7_without_151 rfl rfl ?_
        refine z_getr C (t := 3) (Nat.le_of_ble_eq_true rfl) rfl rfl 3 (Nat.le_of_ble_eq_true rfl) rfl kiX7_without_X7 kfX7_without_17 dX7_without_152 ?_
        refine z_iload_n C 1 dX7_without_155 rfl rfl ?_
        obtain ⟨hi28, hf⟩ := ck_el hf
        refine z_iald C (k := 3) (Nat.le_of_ble_eq_true rfl) rfl hi28 dX7_without_156 ?_
        refine z_iadd C dX7_without_157 ?_
        refine z_aload_n C 0 dX7_without_158 rfl rfl ?_
        refine z_getr C (t := 42) (Nat.le_of_ble_eq_true rfl) rfl rfl 55 (Nat.le_of_ble_eq_true rfl) rfl kiX7_without_X7 kfX7_without_134 dX7_without_159 ?_
        refine z_iload C 6 dX7_without_162 rfl ?_
        obtain ⟨hi29, hf⟩ := ck_el hf
        refine z_iald C (k := 42) (Nat.le_of_ble_eq_true rfl) rfl hi29 dX7_without_164 ?_
        obtain ⟨hi30, hf⟩ := ck_el hf
        refine z_iast C (k := 4) (Nat.le_of_ble_eq_true rfl) rfl hi30 dX7_without_165 ?_
        refine z_nm (fun m31 e_m31 => ?_)
        replace hf := bn_to e_m31 hf
        refine z_aload_n C 0 dX7_without_166 rfl rfl ?_
        refine z_getr C (t := 5) (Nat.le_of_ble_eq_true rfl) rfl rfl 5 (Nat.le_of_ble_eq_true rfl) rfl kiX7_without_X7 kfX7_without_23 dX7_without_167 ?_
        refine z_iconst C (v := 5) dX7_without_170 rfl ?_
        refine z_iload_n C 1 dX7_without_171 rfl rfl ?_
        refine z_imul C dX7_without_172 ?_
        refine z_aload_n C 0 dX7_without_173 rfl rfl ?_
        refine z_getr C (t := 3) (Nat.le_of_ble_eq_true rfl) rfl rfl 3 (Nat.le_of_ble_eq_true rfl) rfl kiX7_without_X7 kfX7_without_17 dX7_without_174 ?_
        refine z_iload_n C 1 dX7_without_177 rfl rfl ?_
        obtain ⟨hi32, hf⟩ := ck_el hf
        refine z_iald C (k := 3) (Nat.le_of_ble_eq_true rfl) rfl hi32 dX7_without_178 ?_
        refine z_iadd C dX7_without_179 ?_
        refine z_aload_n C 0 dX7_without_180 rfl rfl ?_
        refine z_getr C (t := 43) (Nat.le_of_ble_eq_true rfl) rfl rfl 56 (Nat.le_of_ble_eq_true rfl) rfl kiX7_without_X7 kfX7_without_137 dX7_without_181 ?_
        refine z_iload C 6 dX7_without_184 rfl ?_
        obtain ⟨hi33, hf⟩ := ck_el hf
        refine z_iald C (k := 43) (Nat.le_of_ble_eq_true rfl) rfl hi33 dX7_without_186 ?_
        obtain ⟨hi34, hf⟩ := ck_el hf
        refine z_iast C (k := 5) (Nat.le_of_ble_eq_true rfl) rfl hi34 dX7_without_187 ?_
        refine z_nm (fun m35 e_m35 => ?_)
        replace hf := bn_to e_m35 hf
        refine z_aload_n C 0 dX7_without_188 rfl rfl ?_
        refine z_getr C (t := 3) (Nat.le_of_ble_eq_true rfl) rfl rfl 3 (Nat.le_of_ble_eq_true rfl) rfl kiX7_without_X7 kfX7_without_17 dX7_without_189 ?_
        refine z_iload_n C 1 dX7_without_192 rfl rfl ?_
        refine z_dup2 C dX7_without_193 ?_
        obtain ⟨hi36, hf⟩ := ck_el hf
        refine z_iald C (k := 3) (Nat.le_of_ble_eq_true rfl) rfl hi36 dX7_without_194 ?_
        refine z_iconst C (v := 1) dX7_without_195 rfl ?_
        refine z_iadd C dX7_without_196 ?_
        obtain ⟨hi37, hf⟩ := ck_el hf
        refine z_iast C (k := 3) (Nat.le_of_ble_eq_true rfl) rfl hi37 dX7_without_197 ?_
        refine z_nm (fun m38 e_m38 => ?_)
        replace hf := bn_to e_m38 hf
        obtain ⟨x39, e_x39⟩ : ∃ y : Int32, y = i25 + 1 := ⟨_, rfl⟩
        replace hf := bn_to e_x39 hf
        refine z_iinc C (lv2 := [(0, .ref ((zw K).2.1 0)), (1, .int a1), (2, .int a2), (3, .int x2), (4, .int i16), (5, .int i18), (6, .int x39)]) 6 [1, 2, 3, 4, 5, 6, 0] dX7_without_198 rfl rfl (Nat.le_of_ble_eq_true rfl) e_x39 rfl ?_
        refine z_goto (tgt := 128) C dX7_without_201 (by decide) ?_
        cases hf
        exact z_sub [0, 1, 2, 3, 4, 5, 6] rfl (ih x39 m38 hz)
set_option maxRecDepth 100000 in
set_option maxHeartbeats 4000000 in
theorem w_X7_without_91 {K : ZK} (C : zOK MM K cX7_without 7 none RX7 wsX7_without rmX7_without) {a1 : Int32} {a2 : Int32} {x2 : Int32} {i16 : Int32}  {o0 : Mem} (hk : zGo MM K o0 [(0, .ref ((zw K).2.1 0)), (1, .int a1), (2, .int a2), (3, .int x2), (4, .int i16)] 245 []) : ∀ (n : Nat) (i18 : Int32) (m19 : Mem), l_X7_without_91 a1 a2 x2 i16 n i18 m19 = some o0 → zGo MM K m19 [(0, .ref ((zw K).2.1 0)), (1, .int a1), (2, .int a2), (3, .int x2), (4, .int i16), (5, .int i18)] 91 [] := by
  intro n
  induction n with
  | zero =>
    intro i18 m19 hf
    cases hf
  | succ n ih =>
    intro i18 m19 hf
    obtain ⟨z, hf, hz⟩ := zlp_el hf
    replace hf : t_X7_without_91 a1 a2 x2 i16 i18 m19 = some z := hf
    unfold t_X7_without_91 at hf
    refine z_iload C 5 dX7_without_91 rfl ?_
    refine z_iconst C (v := 1) dX7_without_93 rfl ?_
    refine z_iload_n C 3 dX7_without_94 rfl rfl ?_
    refine z_ishl C dX7_without_95 ?_
    refine z_icmp_ge (tgt := 245) C dX7_without_96 (by decide) (fun c54 => ?_) (fun c54 => ?_)
    · replace hf := if_t c54 hf
      cases hf
      replace hz := zlz_r hz
      cases hz
      exact z_sub [0, 1, 2, 3, 4] rfl hk
    · replace hf := if_f c54 hf
      refine z_aload_n C 0 dX7_without_99 rfl rfl ?_
      refine z_geti C (Nat.le_of_ble_eq_true rfl) rfl rfl 53 (Nat.le_of_ble_eq_true rfl) rfl kiX7_without_X7 kfX7_without_318 dX7_without_100 ?_
      refine z_bipush C (v := (-4)) dX7_without_103 (by decide) ?_
      refine z_icmp_ne (tgt := 245) C dX7_without_105 (by decide) (fun c53 => ?_) (fun c53 => ?_)
      · replace hf := if_f c53 hf
        cases hf
        replace hz := zlz_r hz
        cases hz
        exact z_sub [0, 1, 2, 3, 4] rfl hk
      · replace hf := if_t c53 hf
        refine z_iload C 5 dX7_without_108 rfl ?_
        obtain ⟨r21, hc20, hf⟩ := zb_el hf
        refine z_cSi C (c_X7_bits _ _ hc20) rfl gX7_without_X7_bits rfl rfl zdX7_bits.2 rfl ⟨Nat.le_of_ble_eq_true rfl, Nat.le_of_ble_eq_true rfl⟩ (Nat.le_of_ble_eq_true rfl) dX7_without_110 rfl ?_
        refine z_iload C 4 dX7_without_113 rfl ?_
        refine z_icmp_ne (tgt := 239) C dX7_without_115 (by decide) (fun c52 => ?_) (fun c52 => ?_)
        · replace hf := if_f c52 hf
          obtain ⟨x22, e_x22⟩ : ∃ y : Int32, y = i18 + 1 := ⟨_, rfl⟩
          replace hf := bn_to e_x22 hf
          refine z_iinc C (lv2 := [(0, .ref ((zw K).2.1 0)), (1, .int a1), (2, .int a2), (3, .int x2), (4, .int i16), (5, .int x22)]) 5 [1, 2, 3, 4, 5, 0] dX7_without_239 rfl rfl (Nat.le_of_ble_eq_true rfl) e_x22 rfl ?_
          refine z_goto (tgt := 91) C dX7_without_242 (by decide) ?_
          cases hf
          exact z_sub [0, 1, 2, 3, 4, 5] rfl (ih x22 m19 hz)
        · replace hf := if_t c52 hf
          refine z_aload_n C 0 dX7_without_118 rfl rfl ?_
          refine z_getr C (t := 3) (Nat.le_of_ble_eq_true rfl) rfl rfl 3 (Nat.le_of_ble_eq_true rfl) rfl kiX7_without_X7 kfX7_without_17 dX7_without_119 ?_
          refine z_iload_n C 1 dX7_without_122 rfl rfl ?_
          refine z_iconst C (v := 0) dX7_without_123 rfl ?_
          obtain ⟨hi23, hf⟩ := ck_el hf
          refine z_iast C (k := 3) (Nat.le_of_ble_eq_true rfl) rfl hi23 dX7_without_124 ?_
          refine z_nm (fun m24 e_m24 => ?_)
          replace hf := bn_to e_m24 hf
          refine z_iconst C (v := 0) dX7_without_125 rfl ?_
          refine z_istore C (lv2 := [(0, .ref ((zw K).2.1 0)), (1, .int a1), (2, .int a2), (3, .int x2), (4, .int i16), (5, .int i18), (6, .int 0)]) [1, 2, 3, 4, 5, 6, 0] dX7_without_126 (Nat.le_of_ble_eq_true rfl) rfl ?_
          obtain ⟨m42, hg, hf⟩ := zb_el hf
          refine z_sub [0, 1, 2, 3, 4, 5, 6] rfl (w_X7_without_128 C  ?_ _ _ _ hg)
          clear hg
          refine z_aload_n C 0 dX7_without_204 rfl rfl ?_
          refine z_iconst C (v := 0) dX7_without_205 rfl ?_
          refine z_putz C (Nat.le_of_ble_eq_true rfl) rfl rfl 6 (Nat.le_of_ble_eq_true rfl) rfl kiX7_without_X7 kfX7_without_148 tyX7 tyX7_ok nmX7 rfl rfl (Or.inl rfl) dX7_without_206 ?_
          refine z_nm (fun m43 e_m43 => ?_)
          replace hf := bn_to e_m43 hf
          refine z_aload_n C 0 dX7_without_209 rfl rfl ?_
          obtain ⟨m45, hc44, hf⟩ := zb_el hf
          refine z_cVv C (c_X7_read _ _ hc44) rfl gX7_without_X7_read rfl rfl zdX7_read rfl (Nat.le_of_ble_eq_true rfl) rfl rfl rfl ⟨Nat.le_of_ble_eq_true rfl, Nat.le_of_ble_eq_true rfl⟩ (Nat.le_of_ble_eq_true rfl) dX7_without_210 rfl ?_
          refine z_aload_n C 0 dX7_without_213 rfl rfl ?_
          refine z_getr C (t := 37) (Nat.le_of_ble_eq_true rfl) rfl rfl 48 (Nat.le_of_ble_eq_true rfl) rfl kiX7_without_X7 kfX7_without_119 dX7_without_214 ?_
          refine z_bipush C (v := 10) dX7_without_217 rfl ?_
          refine z_iload_n C 2 dX7_without_219 rfl rfl ?_
          refine z_imul C dX7_without_220 ?_
          refine z_iload_n C 1 dX7_without_221 rfl rfl ?_
          refine z_iadd C dX7_without_222 ?_
          obtain ⟨hi46, hf⟩ := ck_el hf
          refine z_zald C (k := 37) (Nat.le_of_ble_eq_true rfl) rfl hi46 dX7_without_223 ?_
          refine z_if_eq (tgt := 239) C dX7_without_224 (by decide) (fun c51 => ?_) (fun c51 => ?_)
          · replace hf := if_t c51 hf
            obtain ⟨x47, e_x47⟩ : ∃ y : Int32, y = i18 + 1 := ⟨_, rfl⟩
            replace hf := bn_to e_x47 hf
            refine z_iinc C (lv2 := [(0, .ref ((zw K).2.1 0)), (1, .int a1), (2, .int a2), (3, .int x2), (4, .int i16), (5, .int x47)]) 5 [1, 2, 3, 4, 5, 0] dX7_without_239 rfl rfl (Nat.le_of_ble_eq_true rfl) e_x47 rfl ?_
            refine z_goto (tgt := 91) C dX7_without_242 (by decide) ?_
            cases hf
            exact z_sub [0, 1, 2, 3, 4, 5] rfl (ih x47 m45 hz)
          · replace hf := if_f c51 hf
            refine z_aload_n C 0 dX7_without_227 rfl rfl ?_
            refine z_iload C 4 dX7_without_228 rfl ?_
            refine z_puti C (Nat.le_of_ble_eq_true rfl) rfl rfl 53 (Nat.le_of_ble_eq_true rfl) rfl kiX7_without_X7 kfX7_without_318 tyX7 tyX7_ok nmX7 rfl rfl dX7_without_230 ?_
            refine z_nm (fun m48 e_m48 => ?_)
            replace hf := bn_to e_m48 hf
            refine z_aload_n C 0 dX7_without_233 rfl rfl ?_
            refine z_iload C 5 dX7_without_234 rfl ?_
            refine z_puti C (Nat.le_of_ble_eq_true rfl) rfl rfl 54 (Nat.le_of_ble_eq_true rfl) rfl kiX7_without_X7 kfX7_without_321 tyX7 tyX7_ok nmX7 rfl rfl dX7_without_236 ?_
            refine z_nm (fun m49 e_m49 => ?_)
            replace hf := bn_to e_m49 hf
            obtain ⟨x50, e_x50⟩ : ∃ y : Int32, y = i18 + 1 := ⟨_, rfl⟩
            replace hf := bn_to e_x50 hf
            refine z_iinc C (lv2 := [(0, .ref ((zw K).2.1 0)), (1, .int a1), (2, .int a2), (3, .int x2), (4, .int i16), (5, .int x50)]) 5 [1, 2, 3, 4, 5, 0] dX7_without_239 rfl rfl (Nat.le_of_ble_eq_true rfl) e_x50 rfl ?_
            refine z_goto (tgt := 91) C dX7_without_242 (by decide) ?_
            cases hf
            exact z_sub [0, 1, 2, 3, 4, 5] rfl (ih x50 m49 hz)
set_option maxRecDepth 100000 in
set_option maxHeartbeats 4000000 in
theorem w_X7_without_73 {K : ZK} (C : zOK MM K cX7_without 7 none RX7 wsX7_without rmX7_without) {a1 : Int32} {a2 : Int32} {x2 : Int32}  {o0 : Mem} (hk : zGo MM K o0 [(0, .ref ((zw K).2.1 0)), (1, .int a1), (3, .int x2)] 251 []) : ∀ (n : Nat) (i16 : Int32) (m17 : Mem), l_X7_without_73 a1 a2 x2 n i16 m17 = some o0 → zGo MM K m17 [(0, .ref ((zw K).2.1 0)), (1, .int a1), (2, .int a2), (3, .int x2), (4, .int i16)] 73 [] := by
  intro n
  induction n with
  | zero =>
    intro i16 m17 hf
    cases hf
  | succ n ih =>
    intro i16 m17 hf
    obtain ⟨z, hf, hz⟩ := zlp_el hf
    replace hf : t_X7_without_73 a1 a2 x2 i16 m17 = some z := hf
    unfold t_X7_without_73 at hf
    refine z_iload C 4 dX7_without_73 rfl ?_
    refine z_iconst C (v := 3) dX7_without_75 rfl ?_
    refine z_icmp_ge (tgt := 251) C dX7_without_76 (by decide) (fun c58 => ?_) (fun c58 => ?_)
    · replace hf := if_t c58 hf
      cases hf
      replace hz := zlz_r hz
      cases hz
      exact z_sub [0, 1, 3] rfl hk
    · replace hf := if_f c58 hf
      refine z_aload_n C 0 dX7_without_79 rfl rfl ?_
      refine z_geti C (Nat.le_of_ble_eq_true rfl) rfl rfl 53 (Nat.le_of_ble_eq_true rfl) rfl kiX7_without_X7 kfX7_without_318 dX7_without_80 ?_
      refine z_bipush C (v := (-4)) dX7_without_83 (by decide) ?_
      refine z_icmp_ne (tgt := 251) C dX7_without_85 (by decide) (fun c57 => ?_) (fun c57 => ?_)
      · replace hf := if_f c57 hf
        cases hf
        replace hz := zlz_r hz
        cases hz
        exact z_sub [0, 1, 3] rfl hk
      · replace hf := if_t c57 hf
        refine z_iconst C (v := 0) dX7_without_88 rfl ?_
        refine z_istore C (lv2 := [(0, .ref ((zw K).2.1 0)), (1, .int a1), (2, .int a2), (3, .int x2), (4, .int i16), (5, .int 0)]) [1, 2, 3, 4, 5, 0] dX7_without_89 (Nat.le_of_ble_eq_true rfl) rfl ?_
        obtain ⟨m55, hg, hf⟩ := zb_el hf
        refine z_sub [0, 1, 2, 3, 4, 5] rfl (w_X7_without_91 C  ?_ _ _ _ hg)
        clear hg
        obtain ⟨x56, e_x56⟩ : ∃ y : Int32, y = i16 + 1 := ⟨_, rfl⟩
        replace hf := bn_to e_x56 hf
        refine z_iinc C (lv2 := [(0, .ref ((zw K).2.1 0)), (1, .int a1), (2, .int a2), (3, .int x2), (4, .int x56)]) 4 [1, 2, 3, 4, 0] dX7_without_245 rfl rfl (Nat.le_of_ble_eq_true rfl) e_x56 rfl ?_
        refine z_goto (tgt := 73) C dX7_without_248 (by decide) ?_
        cases hf
        exact z_sub [0, 1, 2, 3, 4] rfl (ih x56 m55 hz)
set_option maxRecDepth 100000 in
set_option maxHeartbeats 4000000 in
theorem w_X7_without_261 {K : ZK} (C : zOK MM K cX7_without 7 none RX7 wsX7_without rmX7_without) {a1 : Int32} {x2 : Int32}  {o0 : Mem} (hk : zGo MM K o0 [(0, .ref ((zw K).2.1 0))] 309 []) : ∀ (n : Nat) (i62 : Int32) (m63 : Mem), l_X7_without_261 a1 x2 n i62 m63 = some o0 → zGo MM K m63 [(0, .ref ((zw K).2.1 0)), (1, .int a1), (3, .int x2), (4, .int i62)] 261 [] := by
  intro n
  induction n with
  | zero =>
    intro i62 m63 hf
    cases hf
  | succ n ih =>
    intro i62 m63 hf
    obtain ⟨z, hf, hz⟩ := zlp_el hf
    replace hf : t_X7_without_261 a1 x2 i62 m63 = some z := hf
    unfold t_X7_without_261 at hf
    refine z_iload C 3 dX7_without_261 rfl ?_
    refine z_iload_n C 2 dX7_without_263 rfl rfl ?_
    refine z_icmp_ge (tgt := 309) C dX7_without_264 (by decide) (fun c71 => ?_) (fun c71 => ?_)
    · replace hf := if_t c71 hf
      cases hf
      replace hz := zlz_r hz
      cases hz
      exact z_sub [0] rfl hk
    · replace hf := if_f c71 hf
      refine z_aload_n C 0 dX7_without_267 rfl rfl ?_
      refine z_getr C (t := 4) (Nat.le_of_ble_eq_true rfl) rfl rfl 4 (Nat.le_of_ble_eq_true rfl) rfl kiX7_without_X7 kfX7_without_20 dX7_without_268 ?_
      refine z_iconst C (v := 5) dX7_without_271 rfl ?_
      refine z_iload_n C 1 dX7_without_272 rfl rfl ?_
      refine z_imul C dX7_without_273 ?_
      refine z_iload C 3 dX7_without_274 rfl ?_
      refine z_iadd C dX7_without_276 ?_
      refine z_aload_n C 0 dX7_without_277 rfl rfl ?_
      refine z_getr C (t := 42) (Nat.le_of_ble_eq_true rfl) rfl rfl 55 (Nat.le_of_ble_eq_true rfl) rfl kiX7_without_X7 kfX7_without_134 dX7_without_278 ?_
      refine z_iload C 3 dX7_without_281 rfl ?_
      obtain ⟨hi64, hf⟩ := ck_el hf
      refine z_iald C (k := 42) (Nat.le_of_ble_eq_true rfl) rfl hi64 dX7_without_283 ?_
      obtain ⟨hi65, hf⟩ := ck_el hf
      refine z_iast C (k := 4) (Nat.le_of_ble_eq_true rfl) rfl hi65 dX7_without_284 ?_
      refine z_nm (fun m66 e_m66 => ?_)
      replace hf := bn_to e_m66 hf
      refine z_aload_n C 0 dX7_without_285 rfl rfl ?_
      refine z_getr C (t := 5) (Nat.le_of_ble_eq_true rfl) rfl rfl 5 (Nat.le_of_ble_eq_true rfl) rfl kiX7_without_X7 kfX7_without_23 dX7_without_286 ?_
      refine z_iconst C (v := 5) dX7_without_289 rfl ?_
      refine z_iload_n C 1 dX7_without_290 rfl rfl ?_
      refine z_imul C dX7_without_291 ?_
      refine z_iload C 3 dX7_without_292 rfl ?_
      refine z_iadd C dX7_without_294 ?_
      refine z_aload_n C 0 dX7_without_295 rfl rfl ?_
      refine z_getr C (t := 43) (Nat.le_of_ble_eq_true rfl) rfl rfl 56 (Nat.le_of_ble_eq_true rfl) rfl kiX7_without_X7 kfX7_without_137 dX7_without_296 ?_
      refine z_iload C 3 dX7_without_299 rfl ?_
      obtain ⟨hi67, hf⟩ := ck_el hf
      refine z_iald C (k := 43) (Nat.le_of_ble_eq_true rfl) rfl hi67 dX7_without_301 ?_
      obtain ⟨hi68, hf⟩ := ck_el hf
      refine z_iast C (k := 5) (Nat.le_of_ble_eq_true rfl) rfl hi68 dX7_without_302 ?_
      refine z_nm (fun m69 e_m69 => ?_)
      replace hf := bn_to e_m69 hf
      obtain ⟨x70, e_x70⟩ : ∃ y : Int32, y = i62 + 1 := ⟨_, rfl⟩
      replace hf := bn_to e_x70 hf
      refine z_iinc C (lv2 := [(0, .ref ((zw K).2.1 0)), (1, .int a1), (3, .int x2), (4, .int x70)]) 3 [1, 2, 3, 0] dX7_without_303 rfl rfl (Nat.le_of_ble_eq_true rfl) e_x70 rfl ?_
      refine z_goto (tgt := 261) C dX7_without_306 (by decide) ?_
      cases hf
      exact z_sub [0, 1, 2, 3] rfl (ih x70 m69 hz)
set_option maxRecDepth 100000 in
set_option maxHeartbeats 4000000 in
theorem c_X7_without (l : Launch) (w : ZW) {m : Mem} {a1 : Int32} {a2 : Int32} {m9 : Mem}  (hf : s_X7_without m a1 a2 = some m9) : zCv MM l w yX7_without wsX7_without rmX7_without [.ref (w.2.1 0), .int a1, .int a2] m m9 := by
  refine z_met_v MM_ok (own := RX7) (by decide +kernel) rfl rfl (Nat.le_of_ble_eq_true rfl) ?_
  intro K C hKw hKl hret
  subst hKw
  subst hKl
  unfold s_X7_without at hf
  show zGo MM K m [(0, .ref ((zw K).2.1 0)), (1, .int a1), (2, .int a2)] 0 []
  refine z_aload_n C 0 dX7_without_0 rfl rfl ?_
  refine z_getr C (t := 3) (Nat.le_of_ble_eq_true rfl) rfl rfl 3 (Nat.le_of_ble_eq_true rfl) rfl kiX7_without_X7 kfX7_without_17 dX7_without_1 ?_
  refine z_iload_n C 1 dX7_without_4 rfl rfl ?_
  obtain ⟨hi1, hf⟩ := ck_el hf
  refine z_iald C (k := 3) (Nat.le_of_ble_eq_true rfl) rfl hi1 dX7_without_5 ?_
  refine z_topi (fun x2 e_x2 => ?_)
  replace hf := bn_to e_x2 hf
  refine z_istore_n C (lv2 := [(0, .ref ((zw K).2.1 0)), (1, .int a1), (2, .int a2), (3, .int x2)]) [1, 2, 3, 0] dX7_without_6 rfl (Nat.le_of_ble_eq_true rfl) rfl ?_
  refine z_iconst C (v := 0) dX7_without_7 rfl ?_
  refine z_istore C (lv2 := [(0, .ref ((zw K).2.1 0)), (1, .int a1), (2, .int a2), (3, .int x2), (4, .int 0)]) [1, 2, 3, 4, 0] dX7_without_8 (Nat.le_of_ble_eq_true rfl) rfl ?_
  obtain ⟨m13, hg, hf⟩ := zb_el hf
  refine z_sub [0, 1, 2, 3, 4] rfl (w_X7_without_10 C  ?_ _ _ _ hg)
  clear hg
  refine z_aload_n C 0 dX7_without_58 rfl rfl ?_
  refine z_bipush C (v := (-4)) dX7_without_59 (by decide) ?_
  refine z_puti C (Nat.le_of_ble_eq_true rfl) rfl rfl 53 (Nat.le_of_ble_eq_true rfl) rfl kiX7_without_X7 kfX7_without_318 tyX7 tyX7_ok nmX7 rfl rfl dX7_without_61 ?_
  refine z_nm (fun m14 e_m14 => ?_)
  replace hf := bn_to e_m14 hf
  refine z_aload_n C 0 dX7_without_64 rfl rfl ?_
  refine z_bipush C (v := (-4)) dX7_without_65 (by decide) ?_
  refine z_puti C (Nat.le_of_ble_eq_true rfl) rfl rfl 54 (Nat.le_of_ble_eq_true rfl) rfl kiX7_without_X7 kfX7_without_321 tyX7 tyX7_ok nmX7 rfl rfl dX7_without_67 ?_
  refine z_nm (fun m15 e_m15 => ?_)
  replace hf := bn_to e_m15 hf
  refine z_iconst C (v := 0) dX7_without_70 rfl ?_
  refine z_istore C (lv2 := [(0, .ref ((zw K).2.1 0)), (1, .int a1), (2, .int a2), (3, .int x2), (4, .int 0)]) [1, 2, 3, 4, 0] dX7_without_71 (Nat.le_of_ble_eq_true rfl) rfl ?_
  obtain ⟨m59, hg, hf⟩ := zb_el hf
  refine z_sub [0, 1, 2, 3, 4] rfl (w_X7_without_73 C  ?_ _ _ _ hg)
  clear hg
  refine z_aload_n C 0 dX7_without_251 rfl rfl ?_
  refine z_getr C (t := 3) (Nat.le_of_ble_eq_true rfl) rfl rfl 3 (Nat.le_of_ble_eq_true rfl) rfl kiX7_without_X7 kfX7_without_17 dX7_without_252 ?_
  refine z_iload_n C 1 dX7_without_255 rfl rfl ?_
  refine z_iload_n C 2 dX7_without_256 rfl rfl ?_
  obtain ⟨hi60, hf⟩ := ck_el hf
  refine z_iast C (k := 3) (Nat.le_of_ble_eq_true rfl) rfl hi60 dX7_without_257 ?_
  refine z_nm (fun m61 e_m61 => ?_)
  replace hf := bn_to e_m61 hf
  refine z_iconst C (v := 0) dX7_without_258 rfl ?_
  refine z_istore C (lv2 := [(0, .ref ((zw K).2.1 0)), (1, .int a1), (3, .int x2), (4, .int 0)]) [1, 2, 3, 0] dX7_without_259 (Nat.le_of_ble_eq_true rfl) rfl ?_
  obtain ⟨m72, hg, hf⟩ := zb_el hf
  refine z_sub [0, 1, 2, 3] rfl (w_X7_without_261 C  ?_ _ _ _ hg)
  clear hg
  refine z_aload_n C 0 dX7_without_309 rfl rfl ?_
  refine z_iconst C (v := 0) dX7_without_310 rfl ?_
  refine z_putz C (Nat.le_of_ble_eq_true rfl) rfl rfl 6 (Nat.le_of_ble_eq_true rfl) rfl kiX7_without_X7 kfX7_without_148 tyX7 tyX7_ok nmX7 rfl rfl (Or.inl rfl) dX7_without_311 ?_
  refine z_nm (fun m73 e_m73 => ?_)
  replace hf := bn_to e_m73 hf
  have e1 := Option.some.inj hf
  subst e1
  exact hret _ _ dX7_without_314
set_option maxRecDepth 20000 in
theorem ggX7_tooMany_X7_areBoth : GoodIn wsX7_tooMany wsX7_areBoth := goodIn_sub (List.forall_mem_cons.mpr ⟨(List.mem_of_getElem? (i := 6) rfl), (List.forall_mem_append.mpr ⟨(List.forall_mem_cons.mpr ⟨(List.mem_of_getElem? (i := 7) rfl), (List.forall_mem_cons.mpr ⟨(List.mem_of_getElem? (i := 8) rfl), (List.forall_mem_cons.mpr ⟨(List.mem_of_getElem? (i := 9) rfl), (List.forall_mem_cons.mpr ⟨(List.mem_of_getElem? (i := 5) rfl), (List.forall_mem_cons.mpr ⟨(List.mem_of_getElem? (i := 10) rfl), (List.forall_mem_cons.mpr ⟨(List.mem_of_getElem? (i := 11) rfl), (List.forall_mem_cons.mpr ⟨(List.mem_of_getElem? (i := 12) rfl), (List.forall_mem_cons.mpr ⟨(List.mem_of_getElem? (i := 13) rfl), (List.forall_mem_cons.mpr ⟨(List.mem_of_getElem? (i := 14) rfl), (List.forall_mem_cons.mpr ⟨(List.mem_of_getElem? (i := 15) rfl), (List.forall_mem_cons.mpr ⟨(List.mem_of_getElem? (i := 16) rfl), (List.forall_mem_cons.mpr ⟨(List.mem_of_getElem? (i := 17) rfl), (List.forall_mem_cons.mpr ⟨(List.mem_of_getElem? (i := 18) rfl), (List.forall_mem_cons.mpr ⟨(List.mem_of_getElem? (i := 19) rfl), (fun _ h => absurd h List.not_mem_nil)⟩)⟩)⟩)⟩)⟩)⟩)⟩)⟩)⟩)⟩)⟩)⟩)⟩)⟩), (fun _ h => (List.mem_cons_of_mem _ (List.mem_append_right _ h)))⟩)⟩) (by decide +kernel)
set_option maxRecDepth 20000 in
theorem gX7_tooMany_X7_areBoth : GoodIn wsX7_tooMany (wsV RX7 312 RX7 yX7_areBoth wsX7_areBoth) := goodIn_app (goodIn_sub (List.forall_mem_cons.mpr ⟨(List.mem_of_getElem? (i := 2) rfl), (List.forall_mem_cons.mpr ⟨(List.mem_of_getElem? (i := 3) rfl), (List.forall_mem_cons.mpr ⟨(List.mem_of_getElem? (i := 4) rfl), (List.forall_mem_cons.mpr ⟨(List.mem_of_getElem? (i := 5) rfl), (fun _ h => absurd h List.not_mem_nil)⟩)⟩)⟩)⟩) (by decide +kernel)) ggX7_tooMany_X7_areBoth
set_option maxRecDepth 20000 in
theorem ggX7_tooMany_X7_without : GoodIn wsX7_tooMany wsX7_without := goodIn_sub (List.forall_mem_cons.mpr ⟨(List.mem_of_getElem? (i := 23) rfl), (List.forall_mem_append.mpr ⟨(List.forall_mem_append.mpr ⟨(show ∀ w ∈ wsX7_without_r1, w ∈ wsX7_tooMany from (List.forall_mem_cons.mpr ⟨(List.mem_of_getElem? (i := 24) rfl), (List.forall_mem_cons.mpr ⟨(List.mem_of_getElem? (i := 25) rfl), (List.forall_mem_cons.mpr ⟨(List.mem_of_getElem? (i := 26) rfl), (List.forall_mem_cons.mpr ⟨(List.mem_of_getElem? (i := 27) rfl), (List.forall_mem_cons.mpr ⟨(List.mem_of_getElem? (i := 28) rfl), (List.forall_mem_cons.mpr ⟨(List.mem_of_getElem? (i := 1) rfl), (List.forall_mem_cons.mpr ⟨(List.mem_of_getElem? (i := 29) rfl), (List.forall_mem_cons.mpr ⟨(List.mem_of_getElem? (i := 30) rfl), (List.forall_mem_cons.mpr ⟨(List.mem_of_getElem? (i := 31) rfl), (List.forall_mem_cons.mpr ⟨(List.mem_of_getElem? (i := 32) rfl), (List.forall_mem_cons.mpr ⟨(List.mem_of_getElem? (i := 33) rfl), (List.forall_mem_cons.mpr ⟨(List.mem_of_getElem? (i := 5) rfl), (List.forall_mem_cons.mpr ⟨(List.mem_of_getElem? (i := 34) rfl), (List.forall_mem_cons.mpr ⟨(List.mem_of_getElem? (i := 35) rfl), (List.forall_mem_cons.mpr ⟨(List.mem_of_getElem? (i := 36) rfl), (List.forall_mem_cons.mpr ⟨(List.mem_of_getElem? (i := 37) rfl), (List.forall_mem_cons.mpr ⟨(List.mem_of_getElem? (i := 38) rfl), (List.forall_mem_cons.mpr ⟨(List.mem_of_getElem? (i := 39) rfl), (List.forall_mem_cons.mpr ⟨(List.mem_of_getElem? (i := 40) rfl), (List.forall_mem_cons.mpr ⟨(List.mem_of_getElem? (i := 41) rfl), (List.forall_mem_cons.mpr ⟨(List.mem_of_getElem? (i := 42) rfl), (List.forall_mem_cons.mpr ⟨(List.mem_of_getElem? (i := 43) rfl), (List.forall_mem_cons.mpr ⟨(List.mem_of_getElem? (i := 44) rfl), (List.forall_mem_cons.mpr ⟨(List.mem_of_getElem? (i := 45) rfl), (fun _ h => absurd h List.not_mem_nil)⟩)⟩)⟩)⟩)⟩)⟩)⟩)⟩)⟩)⟩)⟩)⟩)⟩)⟩)⟩)⟩)⟩)⟩)⟩)⟩)⟩)⟩)⟩)⟩)), (List.forall_mem_append.mpr ⟨(show ∀ w ∈ wsX7_without_r2, w ∈ wsX7_tooMany from (List.forall_mem_cons.mpr ⟨(List.mem_of_getElem? (i := 46) rfl), (List.forall_mem_cons.mpr ⟨(List.mem_of_getElem? (i := 47) rfl), (List.forall_mem_cons.mpr ⟨(List.mem_of_getElem? (i := 48) rfl), (List.forall_mem_cons.mpr ⟨(List.mem_of_getElem? (i := 19) rfl), (List.forall_mem_cons.mpr ⟨(List.mem_of_getElem? (i := 49) rfl), (List.forall_mem_cons.mpr ⟨(List.mem_of_getElem? (i := 50) rfl), (List.forall_mem_cons.mpr ⟨(List.mem_of_getElem? (i := 51) rfl), (List.forall_mem_cons.mpr ⟨(List.mem_of_getElem? (i := 52) rfl), (List.forall_mem_cons.mpr ⟨(List.mem_of_getElem? (i := 53) rfl), (List.forall_mem_cons.mpr ⟨(List.mem_of_getElem? (i := 54) rfl), (List.forall_mem_cons.mpr ⟨(List.mem_of_getElem? (i := 55) rfl), (List.forall_mem_cons.mpr ⟨(List.mem_of_getElem? (i := 56) rfl), (List.forall_mem_cons.mpr ⟨(List.mem_of_getElem? (i := 11) rfl), (List.forall_mem_cons.mpr ⟨(List.mem_of_getElem? (i := 57) rfl), (List.forall_mem_cons.mpr ⟨(List.mem_of_getElem? (i := 58) rfl), (List.forall_mem_cons.mpr ⟨(List.mem_of_getElem? (i := 59) rfl), (List.forall_mem_cons.mpr ⟨(List.mem_of_getElem? (i := 60) rfl), (List.forall_mem_cons.mpr ⟨(List.mem_of_getElem? (i := 61) rfl), (List.forall_mem_cons.mpr ⟨(List.mem_of_getElem? (i := 62) rfl), (List.forall_mem_cons.mpr ⟨(List.mem_of_getElem? (i := 63) rfl), (List.forall_mem_cons.mpr ⟨(List.mem_of_getElem? (i := 64) rfl), (List.forall_mem_cons.mpr ⟨(List.mem_of_getElem? (i := 65) rfl), (List.forall_mem_cons.mpr ⟨(List.mem_of_getElem? (i := 66) rfl), (List.forall_mem_cons.mpr ⟨(List.mem_of_getElem? (i := 67) rfl), (fun _ h => absurd h List.not_mem_nil)⟩)⟩)⟩)⟩)⟩)⟩)⟩)⟩)⟩)⟩)⟩)⟩)⟩)⟩)⟩)⟩)⟩)⟩)⟩)⟩)⟩)⟩)⟩)⟩)), (List.forall_mem_append.mpr ⟨(show ∀ w ∈ wsX7_without_r3, w ∈ wsX7_tooMany from (List.forall_mem_cons.mpr ⟨(List.mem_of_getElem? (i := 68) rfl), (List.forall_mem_cons.mpr ⟨(List.mem_of_getElem? (i := 69) rfl), (List.forall_mem_cons.mpr ⟨(List.mem_of_getElem? (i := 70) rfl), (List.forall_mem_cons.mpr ⟨(List.mem_of_getElem? (i := 71) rfl), (List.forall_mem_cons.mpr ⟨(List.mem_of_getElem? (i := 72) rfl), (List.forall_mem_cons.mpr ⟨(List.mem_of_getElem? (i := 73) rfl), (List.forall_mem_cons.mpr ⟨(List.mem_of_getElem? (i := 74) rfl), (List.forall_mem_cons.mpr ⟨(List.mem_of_getElem? (i := 75) rfl), (List.forall_mem_cons.mpr ⟨(List.mem_of_getElem? (i := 76) rfl), (List.forall_mem_cons.mpr ⟨(List.mem_of_getElem? (i := 77) rfl), (List.forall_mem_cons.mpr ⟨(List.mem_of_getElem? (i := 78) rfl), (List.forall_mem_cons.mpr ⟨(List.mem_of_getElem? (i := 79) rfl), (List.forall_mem_cons.mpr ⟨(List.mem_of_getElem? (i := 80) rfl), (List.forall_mem_cons.mpr ⟨(List.mem_of_getElem? (i := 81) rfl), (List.forall_mem_cons.mpr ⟨(List.mem_of_getElem? (i := 82) rfl), (List.forall_mem_cons.mpr ⟨(List.mem_of_getElem? (i := 83) rfl), (List.forall_mem_cons.mpr ⟨(List.mem_of_getElem? (i := 84) rfl), (List.forall_mem_cons.mpr ⟨(List.mem_of_getElem? (i := 85) rfl), (List.forall_mem_cons.mpr ⟨(List.mem_of_getElem? (i := 86) rfl), (List.forall_mem_cons.mpr ⟨(List.mem_of_getElem? (i := 87) rfl), (List.forall_mem_cons.mpr ⟨(List.mem_of_getElem? (i := 88) rfl), (List.forall_mem_cons.mpr ⟨(List.mem_of_getElem? (i := 12) rfl), (List.forall_mem_cons.mpr ⟨(List.mem_of_getElem? (i := 13) rfl), (List.forall_mem_cons.mpr ⟨(List.mem_of_getElem? (i := 14) rfl), (fun _ h => absurd h List.not_mem_nil)⟩)⟩)⟩)⟩)⟩)⟩)⟩)⟩)⟩)⟩)⟩)⟩)⟩)⟩)⟩)⟩)⟩)⟩)⟩)⟩)⟩)⟩)⟩)⟩)), (show ∀ w ∈ wsX7_without_r4, w ∈ wsX7_tooMany from (List.forall_mem_cons.mpr ⟨(List.mem_of_getElem? (i := 89) rfl), (List.forall_mem_cons.mpr ⟨(List.mem_of_getElem? (i := 90) rfl), (List.forall_mem_cons.mpr ⟨(List.mem_of_getElem? (i := 91) rfl), (List.forall_mem_cons.mpr ⟨(List.mem_of_getElem? (i := 92) rfl), (List.forall_mem_cons.mpr ⟨(List.mem_of_getElem? (i := 93) rfl), (List.forall_mem_cons.mpr ⟨(List.mem_of_getElem? (i := 94) rfl), (List.forall_mem_cons.mpr ⟨(List.mem_of_getElem? (i := 95) rfl), (fun _ h => absurd h List.not_mem_nil)⟩)⟩)⟩)⟩)⟩)⟩)⟩))⟩)⟩)⟩), (fun _ h => (List.mem_cons_of_mem _ (List.mem_append_right _ h)))⟩)⟩) (by decide +kernel)
set_option maxRecDepth 20000 in
theorem gX7_tooMany_X7_without : GoodIn wsX7_tooMany (wsV RX7 327 RX7 yX7_without wsX7_without) := goodIn_app (goodIn_sub (List.forall_mem_cons.mpr ⟨(List.mem_of_getElem? (i := 20) rfl), (List.forall_mem_cons.mpr ⟨(List.mem_of_getElem? (i := 21) rfl), (List.forall_mem_cons.mpr ⟨(List.mem_of_getElem? (i := 22) rfl), (List.forall_mem_cons.mpr ⟨(List.mem_of_getElem? (i := 5) rfl), (fun _ h => absurd h List.not_mem_nil)⟩)⟩)⟩)⟩) (by decide +kernel)) ggX7_tooMany_X7_without
theorem dX7_tooMany_0 : decode cX7_tooMany 0 = .ok (.aload_n 0, 1) := by decide +kernel
theorem dX7_tooMany_1 : decode cX7_tooMany 1 = .ok (.iload_n 1, 1) := by decide +kernel
theorem dX7_tooMany_2 : decode cX7_tooMany 2 = .ok (.iload_n 2, 1) := by decide +kernel
theorem dX7_tooMany_3 : decode cX7_tooMany 3 = .ok (.invokevirtual 312, 3) := by decide +kernel
theorem dX7_tooMany_6 : decode cX7_tooMany 6 = .ok (.ifCond .ne 5, 3) := by decide +kernel
theorem dX7_tooMany_9 : decode cX7_tooMany 9 = .ok (.iconst (-1), 1) := by decide +kernel
theorem dX7_tooMany_10 : decode cX7_tooMany 10 = .ok (.ireturn, 1) := by decide +kernel
theorem dX7_tooMany_11 : decode cX7_tooMany 11 = .ok (.aload_n 0, 1) := by decide +kernel
theorem dX7_tooMany_12 : decode cX7_tooMany 12 = .ok (.iload_n 1, 1) := by decide +kernel
theorem dX7_tooMany_13 : decode cX7_tooMany 13 = .ok (.iload_n 2, 1) := by decide +kernel
theorem dX7_tooMany_14 : decode cX7_tooMany 14 = .ok (.invokevirtual 327, 3) := by decide +kernel
theorem dX7_tooMany_17 : decode cX7_tooMany 17 = .ok (.aload_n 0, 1) := by decide +kernel
theorem dX7_tooMany_18 : decode cX7_tooMany 18 = .ok (.getfield 318, 3) := by decide +kernel
theorem dX7_tooMany_21 : decode cX7_tooMany 21 = .ok (.ireturn, 1) := by decide +kernel
def rmX7_tooMany : Room := { frames := 7, cells := 0, slots := 0, locals := 179 }
theorem zdX7_tooMany : yX7_tooMany.cls = RX7 ∧ yX7_tooMany.cls ≠ "java/lang/invoke/MethodHandle" ∧ yX7_tooMany.cls ≠ "java/lang/invoke/VarHandle" ∧ (parseMethodDescriptor yX7_tooMany.desc).map (fun d => d.parameters.length) = some 2 := by decide +kernel
theorem kiX7_tooMany_X7 : ∀ w ∈ wsX70, w ∈ wsX7_tooMany := fun _ h => (List.mem_cons_of_mem _ (List.mem_append_right _ h))
theorem kfX7_tooMany_318 : Cond.fieldLink RX7 318 "ShapeJudgeModel" "withoutMany" "I" ∈ wsX7_tooMany := (List.mem_of_getElem? (i := 1) rfl)
def s_X7_tooMany (m : Mem) (a1 : Int32) (a2 : Int32) : Option (Int32 × Mem) :=
  (s_X7_areBoth m a1 a2).bind fun r2 => (if r2 = 0 then (some ((-1), m)) else ((s_X7_without m a1 a2).bind fun m4 => some ((m4 0 53), m4)))
set_option maxRecDepth 100000 in
set_option maxHeartbeats 4000000 in
theorem c_X7_tooMany (l : Launch) (w : ZW) {m : Mem} {a1 : Int32} {a2 : Int32} {r9 : Int32} {m9 : Mem}  (hf : s_X7_tooMany m a1 a2 = some (r9, m9)) : zCi MM l w yX7_tooMany wsX7_tooMany rmX7_tooMany [.ref (w.2.1 0), .int a1, .int a2] m m9 r9 := by
  refine z_met_i MM_ok (own := RX7) (by decide +kernel) rfl rfl (Nat.le_of_ble_eq_true rfl) ?_
  intro K C hKw hKl hret
  subst hKw
  subst hKl
  unfold s_X7_tooMany at hf
  show zGo MM K m [(0, .ref ((zw K).2.1 0)), (1, .int a1), (2, .int a2)] 0 []
  refine z_aload_n C 0 dX7_tooMany_0 rfl rfl ?_
  refine z_iload_n C 1 dX7_tooMany_1 rfl rfl ?_
  refine z_iload_n C 2 dX7_tooMany_2 rfl rfl ?_
  obtain ⟨r2, hc1, hf⟩ := zb_el hf
  refine z_cVi C (c_X7_areBoth _ _ hc1) rfl gX7_tooMany_X7_areBoth rfl rfl zdX7_areBoth rfl (Nat.le_of_ble_eq_true rfl) rfl rfl rfl ⟨Nat.le_of_ble_eq_true rfl, Nat.le_of_ble_eq_true rfl⟩ (Nat.le_of_ble_eq_true rfl) dX7_tooMany_3 rfl ?_
  refine z_if_ne (tgt := 11) C dX7_tooMany_6 (by decide) (fun c5 => ?_) (fun c5 => ?_)
  · replace hf := if_f c5 hf
    refine z_aload_n C 0 dX7_tooMany_11 rfl rfl ?_
    refine z_iload_n C 1 dX7_tooMany_12 rfl rfl ?_
    refine z_iload_n C 2 dX7_tooMany_13 rfl rfl ?_
    obtain ⟨m4, hc3, hf⟩ := zb_el hf
    refine z_cVv C (c_X7_without _ _ hc3) rfl gX7_tooMany_X7_without rfl rfl zdX7_without rfl (Nat.le_of_ble_eq_true rfl) rfl rfl rfl ⟨Nat.le_of_ble_eq_true rfl, Nat.le_of_ble_eq_true rfl⟩ (Nat.le_of_ble_eq_true rfl) dX7_tooMany_14 rfl ?_
    refine z_aload_n C 0 dX7_tooMany_17 rfl rfl ?_
    refine z_geti C (Nat.le_of_ble_eq_true rfl) rfl rfl 53 (Nat.le_of_ble_eq_true rfl) rfl kiX7_tooMany_X7 kfX7_tooMany_318 dX7_tooMany_18 ?_
    obtain ⟨e1, e2⟩ := sp_el hf
    subst e1
    subst e2
    exact hret _ _ dX7_tooMany_21
  · replace hf := if_t c5 hf
    refine z_iconst C (v := (-1)) dX7_tooMany_9 (by decide) ?_
    obtain ⟨e1, e2⟩ := sp_el hf
    subst e1
    subst e2
    exact hret _ _ dX7_tooMany_10
set_option maxRecDepth 20000 in
theorem ggX7_value_X7_isNode : GoodIn wsX7_value wsX7_isNode := goodIn_sub (List.forall_mem_cons.mpr ⟨(List.mem_of_getElem? (i := 8) rfl), (List.forall_mem_append.mpr ⟨(List.forall_mem_cons.mpr ⟨(List.mem_of_getElem? (i := 9) rfl), (List.forall_mem_cons.mpr ⟨(List.mem_of_getElem? (i := 10) rfl), (List.forall_mem_cons.mpr ⟨(List.mem_of_getElem? (i := 11) rfl), (List.forall_mem_cons.mpr ⟨(List.mem_of_getElem? (i := 7) rfl), (List.forall_mem_cons.mpr ⟨(List.mem_of_getElem? (i := 12) rfl), (fun _ h => absurd h List.not_mem_nil)⟩)⟩)⟩)⟩)⟩), (fun _ h => (List.mem_cons_of_mem _ (List.mem_append_right _ h)))⟩)⟩) (by decide +kernel)
set_option maxRecDepth 20000 in
theorem gX7_value_X7_isNode : GoodIn wsX7_value (wsV RX7 152 RX7 yX7_isNode wsX7_isNode) := goodIn_app (goodIn_sub (List.forall_mem_cons.mpr ⟨(List.mem_of_getElem? (i := 4) rfl), (List.forall_mem_cons.mpr ⟨(List.mem_of_getElem? (i := 5) rfl), (List.forall_mem_cons.mpr ⟨(List.mem_of_getElem? (i := 6) rfl), (List.forall_mem_cons.mpr ⟨(List.mem_of_getElem? (i := 7) rfl), (fun _ h => absurd h List.not_mem_nil)⟩)⟩)⟩)⟩) (by decide +kernel)) ggX7_value_X7_isNode
theorem dX7_value_0 : decode cX7_value 0 = .ok (.aload_n 0, 1) := by decide +kernel
theorem dX7_value_1 : decode cX7_value 1 = .ok (.iload_n 1, 1) := by decide +kernel
theorem dX7_value_2 : decode cX7_value 2 = .ok (.invokevirtual 152, 3) := by decide +kernel
theorem dX7_value_5 : decode cX7_value 5 = .ok (.ifCond .ne 5, 3) := by decide +kernel
theorem dX7_value_8 : decode cX7_value 8 = .ok (.iconst (-1), 1) := by decide +kernel
theorem dX7_value_9 : decode cX7_value 9 = .ok (.ireturn, 1) := by decide +kernel
theorem dX7_value_10 : decode cX7_value 10 = .ok (.aload_n 0, 1) := by decide +kernel
theorem dX7_value_11 : decode cX7_value 11 = .ok (.getfield 7, 3) := by decide +kernel
theorem dX7_value_14 : decode cX7_value 14 = .ok (.iload_n 1, 1) := by decide +kernel
theorem dX7_value_15 : decode cX7_value 15 = .ok (.iload_n 2, 1) := by decide +kernel
theorem dX7_value_16 : decode cX7_value 16 = .ok (.bastore, 1) := by decide +kernel
theorem dX7_value_17 : decode cX7_value 17 = .ok (.aload_n 0, 1) := by decide +kernel
theorem dX7_value_18 : decode cX7_value 18 = .ok (.getfield 13, 3) := by decide +kernel
theorem dX7_value_21 : decode cX7_value 21 = .ok (.iload_n 1, 1) := by decide +kernel
theorem dX7_value_22 : decode cX7_value 22 = .ok (.iload_n 3, 1) := by decide +kernel
theorem dX7_value_23 : decode cX7_value 23 = .ok (.iastore, 1) := by decide +kernel
theorem dX7_value_24 : decode cX7_value 24 = .ok (.aload_n 0, 1) := by decide +kernel
theorem dX7_value_25 : decode cX7_value 25 = .ok (.iconst 0, 1) := by decide +kernel
theorem dX7_value_26 : decode cX7_value 26 = .ok (.putfield 148, 3) := by decide +kernel
theorem dX7_value_29 : decode cX7_value 29 = .ok (.iconst 1, 1) := by decide +kernel
theorem dX7_value_30 : decode cX7_value 30 = .ok (.ireturn, 1) := by decide +kernel
def rmX7_value : Room := { frames := 2, cells := 0, slots := 0, locals := 46 }
theorem zdX7_value : yX7_value.cls = RX7 ∧ yX7_value.cls ≠ "java/lang/invoke/MethodHandle" ∧ yX7_value.cls ≠ "java/lang/invoke/VarHandle" ∧ (parseMethodDescriptor yX7_value.desc).map (fun d => d.parameters.length) = some 3 := by decide +kernel
theorem kiX7_value_X7 : ∀ w ∈ wsX70, w ∈ wsX7_value := fun _ h => (List.mem_cons_of_mem _ (List.mem_append_right _ h))
theorem kfX7_value_7 : Cond.fieldLink RX7 7 "ShapeJudgeModel" "hasValue" "[Z" ∈ wsX7_value := (List.mem_of_getElem? (i := 1) rfl)
theorem kfX7_value_13 : Cond.fieldLink RX7 13 "ShapeJudgeModel" "values" "[I" ∈ wsX7_value := (List.mem_of_getElem? (i := 2) rfl)
theorem kfX7_value_148 : Cond.fieldLink RX7 148 "ShapeJudgeModel" "isRead" "Z" ∈ wsX7_value := (List.mem_of_getElem? (i := 3) rfl)
def s_X7_value (m : Mem) (a1 : Int32) (a2 : Int32) (a3 : Int32) : Option (Int32 × Mem) :=
  (s_X7_isNode m a1).bind fun r2 => (if r2 = 0 then (some ((-1), m)) else (ck (zin a1 10 = true) (bn (sto m 1 (Int32.toNatClampNeg a1) (vp_nar .boolean a2)) fun m4 => ck (zin a1 10 = true) (bn (sto m4 2 (Int32.toNatClampNeg a1) a3) fun m6 => bn (sto m6 0 6 0) fun m7 => some (1, m7)))))
set_option maxRecDepth 100000 in
set_option maxHeartbeats 4000000 in
theorem c_X7_value (l : Launch) (w : ZW) {m : Mem} {a1 : Int32} {a2 : Int32} {a3 : Int32} {r9 : Int32} {m9 : Mem}  (hf : s_X7_value m a1 a2 a3 = some (r9, m9)) : zCi MM l w yX7_value wsX7_value rmX7_value [.ref (w.2.1 0), .int a1, .int a2, .int a3] m m9 r9 := by
  refine z_met_i MM_ok (own := RX7) (by decide +kernel) rfl rfl (Nat.le_of_ble_eq_true rfl) ?_
  intro K C hKw hKl hret
  subst hKw
  subst hKl
  unfold s_X7_value at hf
  show zGo MM K m [(0, .ref ((zw K).2.1 0)), (1, .int a1), (2, .int a2), (3, .int a3)] 0 []
  refine z_aload_n C 0 dX7_value_0 rfl rfl ?_
  refine z_iload_n C 1 dX7_value_1 rfl rfl ?_
  obtain ⟨r2, hc1, hf⟩ := zb_el hf
  refine z_cVi C (c_X7_isNode _ _ hc1) rfl gX7_value_X7_isNode rfl rfl zdX7_isNode rfl (Nat.le_of_ble_eq_true rfl) rfl rfl rfl ⟨Nat.le_of_ble_eq_true rfl, Nat.le_of_ble_eq_true rfl⟩ (Nat.le_of_ble_eq_true rfl) dX7_value_2 rfl ?_
  refine z_if_ne (tgt := 10) C dX7_value_5 (by decide) (fun c8 => ?_) (fun c8 => ?_)
  · replace hf := if_f c8 hf
    refine z_aload_n C 0 dX7_value_10 rfl rfl ?_
    refine z_getr C (t := 1) (Nat.le_of_ble_eq_true rfl) rfl rfl 1 (Nat.le_of_ble_eq_true rfl) rfl kiX7_value_X7 kfX7_value_7 dX7_value_11 ?_
    refine z_iload_n C 1 dX7_value_14 rfl rfl ?_
    refine z_iload_n C 2 dX7_value_15 rfl rfl ?_
    obtain ⟨hi3, hf⟩ := ck_el hf
    refine z_zast C (k := 1) (Nat.le_of_ble_eq_true rfl) rfl hi3 dX7_value_16 ?_
    refine z_nm (fun m4 e_m4 => ?_)
    replace hf := bn_to e_m4 hf
    refine z_aload_n C 0 dX7_value_17 rfl rfl ?_
    refine z_getr C (t := 2) (Nat.le_of_ble_eq_true rfl) rfl rfl 2 (Nat.le_of_ble_eq_true rfl) rfl kiX7_value_X7 kfX7_value_13 dX7_value_18 ?_
    refine z_iload_n C 1 dX7_value_21 rfl rfl ?_
    refine z_iload_n C 3 dX7_value_22 rfl rfl ?_
    obtain ⟨hi5, hf⟩ := ck_el hf
    refine z_iast C (k := 2) (Nat.le_of_ble_eq_true rfl) rfl hi5 dX7_value_23 ?_
    refine z_nm (fun m6 e_m6 => ?_)
    replace hf := bn_to e_m6 hf
    refine z_aload_n C 0 dX7_value_24 rfl rfl ?_
    refine z_iconst C (v := 0) dX7_value_25 rfl ?_
    refine z_putz C (Nat.le_of_ble_eq_true rfl) rfl rfl 6 (Nat.le_of_ble_eq_true rfl) rfl kiX7_value_X7 kfX7_value_148 tyX7 tyX7_ok nmX7 rfl rfl (Or.inl rfl) dX7_value_26 ?_
    refine z_nm (fun m7 e_m7 => ?_)
    replace hf := bn_to e_m7 hf
    refine z_iconst C (v := 1) dX7_value_29 rfl ?_
    obtain ⟨e1, e2⟩ := sp_el hf
    subst e1
    subst e2
    exact hret _ _ dX7_value_30
  · replace hf := if_t c8 hf
    refine z_iconst C (v := (-1)) dX7_value_8 (by decide) ?_
    obtain ⟨e1, e2⟩ := sp_el hf
    subst e1
    subst e2
    exact hret _ _ dX7_value_9
set_option maxRecDepth 20000 in
theorem ggX7_wanted_X7_areBoth : GoodIn wsX7_wanted wsX7_areBoth := goodIn_sub (List.forall_mem_cons.mpr ⟨(List.mem_of_getElem? (i := 7) rfl), (List.forall_mem_append.mpr ⟨(List.forall_mem_cons.mpr ⟨(List.mem_of_getElem? (i := 8) rfl), (List.forall_mem_cons.mpr ⟨(List.mem_of_getElem? (i := 9) rfl), (List.forall_mem_cons.mpr ⟨(List.mem_of_getElem? (i := 10) rfl), (List.forall_mem_cons.mpr ⟨(List.mem_of_getElem? (i := 6) rfl), (List.forall_mem_cons.mpr ⟨(List.mem_of_getElem? (i := 11) rfl), (List.forall_mem_cons.mpr ⟨(List.mem_of_getElem? (i := 12) rfl), (List.forall_mem_cons.mpr ⟨(List.mem_of_getElem? (i := 13) rfl), (List.forall_mem_cons.mpr ⟨(List.mem_of_getElem? (i := 14) rfl), (List.forall_mem_cons.mpr ⟨(List.mem_of_getElem? (i := 15) rfl), (List.forall_mem_cons.mpr ⟨(List.mem_of_getElem? (i := 16) rfl), (List.forall_mem_cons.mpr ⟨(List.mem_of_getElem? (i := 17) rfl), (List.forall_mem_cons.mpr ⟨(List.mem_of_getElem? (i := 18) rfl), (List.forall_mem_cons.mpr ⟨(List.mem_of_getElem? (i := 19) rfl), (List.forall_mem_cons.mpr ⟨(List.mem_of_getElem? (i := 20) rfl), (fun _ h => absurd h List.not_mem_nil)⟩)⟩)⟩)⟩)⟩)⟩)⟩)⟩)⟩)⟩)⟩)⟩)⟩)⟩), (fun _ h => (List.mem_cons_of_mem _ (List.mem_append_right _ h)))⟩)⟩) (by decide +kernel)
set_option maxRecDepth 20000 in
theorem gX7_wanted_X7_areBoth : GoodIn wsX7_wanted (wsV RX7 312 RX7 yX7_areBoth wsX7_areBoth) := goodIn_app (goodIn_sub (List.forall_mem_cons.mpr ⟨(List.mem_of_getElem? (i := 3) rfl), (List.forall_mem_cons.mpr ⟨(List.mem_of_getElem? (i := 4) rfl), (List.forall_mem_cons.mpr ⟨(List.mem_of_getElem? (i := 5) rfl), (List.forall_mem_cons.mpr ⟨(List.mem_of_getElem? (i := 6) rfl), (fun _ h => absurd h List.not_mem_nil)⟩)⟩)⟩)⟩) (by decide +kernel)) ggX7_wanted_X7_areBoth
set_option maxRecDepth 20000 in
theorem ggX7_wanted_X7_isWanted : GoodIn wsX7_wanted wsX7_isWanted := goodIn_sub (List.forall_mem_cons.mpr ⟨(List.mem_of_getElem? (i := 24) rfl), (List.forall_mem_append.mpr ⟨(List.forall_mem_cons.mpr ⟨(List.mem_of_getElem? (i := 25) rfl), (List.forall_mem_cons.mpr ⟨(List.mem_of_getElem? (i := 26) rfl), (fun _ h => absurd h List.not_mem_nil)⟩)⟩), (fun _ h => (List.mem_cons_of_mem _ (List.mem_append_right _ h)))⟩)⟩) (by decide +kernel)
set_option maxRecDepth 20000 in
theorem gX7_wanted_X7_isWanted : GoodIn wsX7_wanted (wsV RX7 284 RX7 yX7_isWanted wsX7_isWanted) := goodIn_app (goodIn_sub (List.forall_mem_cons.mpr ⟨(List.mem_of_getElem? (i := 21) rfl), (List.forall_mem_cons.mpr ⟨(List.mem_of_getElem? (i := 22) rfl), (List.forall_mem_cons.mpr ⟨(List.mem_of_getElem? (i := 23) rfl), (List.forall_mem_cons.mpr ⟨(List.mem_of_getElem? (i := 6) rfl), (fun _ h => absurd h List.not_mem_nil)⟩)⟩)⟩)⟩) (by decide +kernel)) ggX7_wanted_X7_isWanted
theorem dX7_wanted_0 : decode cX7_wanted 0 = .ok (.aload_n 0, 1) := by decide +kernel
theorem dX7_wanted_1 : decode cX7_wanted 1 = .ok (.iload_n 1, 1) := by decide +kernel
theorem dX7_wanted_2 : decode cX7_wanted 2 = .ok (.iload_n 2, 1) := by decide +kernel
theorem dX7_wanted_3 : decode cX7_wanted 3 = .ok (.invokevirtual 312, 3) := by decide +kernel
theorem dX7_wanted_6 : decode cX7_wanted 6 = .ok (.ifCond .ne 5, 3) := by decide +kernel
theorem dX7_wanted_9 : decode cX7_wanted 9 = .ok (.iconst (-1), 1) := by decide +kernel
theorem dX7_wanted_10 : decode cX7_wanted 10 = .ok (.ireturn, 1) := by decide +kernel
theorem dX7_wanted_11 : decode cX7_wanted 11 = .ok (.iconst 0, 1) := by decide +kernel
theorem dX7_wanted_12 : decode cX7_wanted 12 = .ok (.istore_n 3, 1) := by decide +kernel
theorem dX7_wanted_13 : decode cX7_wanted 13 = .ok (.iconst 0, 1) := by decide +kernel
theorem dX7_wanted_14 : decode cX7_wanted 14 = .ok (.istore 4, 2) := by decide +kernel
theorem dX7_wanted_16 : decode cX7_wanted 16 = .ok (.iload 4, 2) := by decide +kernel
theorem dX7_wanted_18 : decode cX7_wanted 18 = .ok (.aload_n 0, 1) := by decide +kernel
theorem dX7_wanted_19 : decode cX7_wanted 19 = .ok (.getfield 17, 3) := by decide +kernel
theorem dX7_wanted_22 : decode cX7_wanted 22 = .ok (.iload_n 1, 1) := by decide +kernel
theorem dX7_wanted_23 : decode cX7_wanted 23 = .ok (.iaload, 1) := by decide +kernel
theorem dX7_wanted_24 : decode cX7_wanted 24 = .ok (.if_icmp .ge 36, 3) := by decide +kernel
theorem dX7_wanted_27 : decode cX7_wanted 27 = .ok (.iload_n 3, 1) := by decide +kernel
theorem dX7_wanted_28 : decode cX7_wanted 28 = .ok (.aload_n 0, 1) := by decide +kernel
theorem dX7_wanted_29 : decode cX7_wanted 29 = .ok (.iload_n 2, 1) := by decide +kernel
theorem dX7_wanted_30 : decode cX7_wanted 30 = .ok (.aload_n 0, 1) := by decide +kernel
theorem dX7_wanted_31 : decode cX7_wanted 31 = .ok (.getfield 20, 3) := by decide +kernel
theorem dX7_wanted_34 : decode cX7_wanted 34 = .ok (.iconst 5, 1) := by decide +kernel
theorem dX7_wanted_35 : decode cX7_wanted 35 = .ok (.iload_n 1, 1) := by decide +kernel
theorem dX7_wanted_36 : decode cX7_wanted 36 = .ok (.imul, 1) := by decide +kernel
theorem dX7_wanted_37 : decode cX7_wanted 37 = .ok (.iload 4, 2) := by decide +kernel
theorem dX7_wanted_39 : decode cX7_wanted 39 = .ok (.iadd, 1) := by decide +kernel
theorem dX7_wanted_40 : decode cX7_wanted 40 = .ok (.iaload, 1) := by decide +kernel
theorem dX7_wanted_41 : decode cX7_wanted 41 = .ok (.invokevirtual 284, 3) := by decide +kernel
theorem dX7_wanted_44 : decode cX7_wanted 44 = .ok (.ifCond .eq 7, 3) := by decide +kernel
theorem dX7_wanted_47 : decode cX7_wanted 47 = .ok (.iconst 1, 1) := by decide +kernel
theorem dX7_wanted_48 : decode cX7_wanted 48 = .ok (.goto 4, 3) := by decide +kernel
theorem dX7_wanted_51 : decode cX7_wanted 51 = .ok (.iconst 0, 1) := by decide +kernel
theorem dX7_wanted_52 : decode cX7_wanted 52 = .ok (.iadd, 1) := by decide +kernel
theorem dX7_wanted_53 : decode cX7_wanted 53 = .ok (.istore_n 3, 1) := by decide +kernel
theorem dX7_wanted_54 : decode cX7_wanted 54 = .ok (.iinc 4 1, 3) := by decide +kernel
theorem dX7_wanted_57 : decode cX7_wanted 57 = .ok (.goto (-41), 3) := by decide +kernel
theorem dX7_wanted_60 : decode cX7_wanted 60 = .ok (.iload_n 3, 1) := by decide +kernel
theorem dX7_wanted_61 : decode cX7_wanted 61 = .ok (.ireturn, 1) := by decide +kernel
def rmX7_wanted : Room := { frames := 3, cells := 0, slots := 0, locals := 68 }
theorem zdX7_wanted : yX7_wanted.cls = RX7 ∧ yX7_wanted.cls ≠ "java/lang/invoke/MethodHandle" ∧ yX7_wanted.cls ≠ "java/lang/invoke/VarHandle" ∧ (parseMethodDescriptor yX7_wanted.desc).map (fun d => d.parameters.length) = some 2 := by decide +kernel
theorem kiX7_wanted_X7 : ∀ w ∈ wsX70, w ∈ wsX7_wanted := fun _ h => (List.mem_cons_of_mem _ (List.mem_append_right _ h))
theorem kfX7_wanted_17 : Cond.fieldLink RX7 17 "ShapeJudgeModel" "many" "[I" ∈ wsX7_wanted := (List.mem_of_getElem? (i := 1) rfl)
theorem kfX7_wanted_20 : Cond.fieldLink RX7 20 "ShapeJudgeModel" "names" "[I" ∈ wsX7_wanted := (List.mem_of_getElem? (i := 2) rfl)
def t_X7_wanted_16 (m : Mem) (a1 : Int32) (a2 : Int32) (i3 : Int32) (i4 : Int32) : Option ((Int32 × Int32) ⊕ (Int32)) :=
  ck (zin a1 10 = true) ((if (m 3 (Int32.toNatClampNeg a1)) ≤ i4 then (some (.inr i3)) else (ck (zin (((5 : Int32) * a1) + i4) 50 = true) ((s_X7_isWanted m a2 (m 4 (Int32.toNatClampNeg (((5 : Int32) * a1) + i4)))).bind fun r8 => (if r8 = 0 then (bn (i3 + 0) fun x9 => bn (i4 + 1) fun x10 => some (.inl (x9, x10))) else (bn (i3 + 1) fun x11 => bn (i4 + 1) fun x12 => some (.inl (x11, x12))))))))
def l_X7_wanted_16 (m : Mem) (a1 : Int32) (a2 : Int32) (n : Nat) (i3 : Int32) (i4 : Int32) : Option (Int32) := zlp n (fun a => t_X7_wanted_16 m a1 a2 a.1 a.2) (i3, i4)
def s_X7_wanted (m : Mem) (a1 : Int32) (a2 : Int32) : Option (Int32) :=
  (s_X7_areBoth m a1 a2).bind fun r2 => (if r2 = 0 then (some (-1)) else (((l_X7_wanted_16 m a1 a2 FU 0 0).bind fun y15 => some y15)))
set_option maxRecDepth 100000 in
set_option maxHeartbeats 4000000 in
theorem w_X7_wanted_16 {K : ZK} (C : zOK MM K cX7_wanted 5 (some .int) RX7 wsX7_wanted rmX7_wanted) {m : Mem} {a1 : Int32} {a2 : Int32}  {o0 : Int32} (hk : zGo MM K m [(3, .int o0)] 60 []) : ∀ (n : Nat) (i3 : Int32) (i4 : Int32), l_X7_wanted_16 m a1 a2 n i3 i4 = some o0 → zGo MM K m [(0, .ref ((zw K).2.1 0)), (1, .int a1), (2, .int a2), (3, .int i3), (4, .int i4)] 16 [] := by
  intro n
  induction n with
  | zero =>
    intro i3 i4 hf
    cases hf
  | succ n ih =>
    intro i3 i4 hf
    obtain ⟨z, hf, hz⟩ := zlp_el hf
    replace hf : t_X7_wanted_16 m a1 a2 i3 i4 = some z := hf
    unfold t_X7_wanted_16 at hf
    refine z_iload C 4 dX7_wanted_16 rfl ?_
    refine z_aload_n C 0 dX7_wanted_18 rfl rfl ?_
    refine z_getr C (t := 3) (Nat.le_of_ble_eq_true rfl) rfl rfl 3 (Nat.le_of_ble_eq_true rfl) rfl kiX7_wanted_X7 kfX7_wanted_17 dX7_wanted_19 ?_
    refine z_iload_n C 1 dX7_wanted_22 rfl rfl ?_
    obtain ⟨hi5, hf⟩ := ck_el hf
    refine z_iald C (k := 3) (Nat.le_of_ble_eq_true rfl) rfl hi5 dX7_wanted_23 ?_
    refine z_icmp_ge (tgt := 60) C dX7_wanted_24 (by decide) (fun c14 => ?_) (fun c14 => ?_)
    · replace hf := if_t c14 hf
      cases hf
      replace hz := zlz_r hz
      cases hz
      exact z_sub [3] rfl hk
    · replace hf := if_f c14 hf
      refine z_iload_n C 3 dX7_wanted_27 rfl rfl ?_
      refine z_aload_n C 0 dX7_wanted_28 rfl rfl ?_
      refine z_iload_n C 2 dX7_wanted_29 rfl rfl ?_
      refine z_aload_n C 0 dX7_wanted_30 rfl rfl ?_
      refine z_getr C (t := 4) (Nat.le_of_ble_eq_true rfl) rfl rfl 4 (Nat.le_of_ble_eq_true rfl) rfl kiX7_wanted_X7 kfX7_wanted_20 dX7_wanted_31 ?_
      refine z_iconst C (v := 5) dX7_wanted_34 rfl ?_
      refine z_iload_n C 1 dX7_wanted_35 rfl rfl ?_
      refine z_imul C dX7_wanted_36 ?_
      refine z_iload C 4 dX7_wanted_37 rfl ?_
      refine z_iadd C dX7_wanted_39 ?_
      obtain ⟨hi6, hf⟩ := ck_el hf
      refine z_iald C (k := 4) (Nat.le_of_ble_eq_true rfl) rfl hi6 dX7_wanted_40 ?_
      obtain ⟨r8, hc7, hf⟩ := zb_el hf
      refine z_cVi C (c_X7_isWanted _ _ hc7) rfl gX7_wanted_X7_isWanted rfl rfl zdX7_isWanted rfl (Nat.le_of_ble_eq_true rfl) rfl rfl rfl ⟨Nat.le_of_ble_eq_true rfl, Nat.le_of_ble_eq_true rfl⟩ (Nat.le_of_ble_eq_true rfl) dX7_wanted_41 rfl ?_
      refine z_if_eq (tgt := 51) C dX7_wanted_44 (by decide) (fun c13 => ?_) (fun c13 => ?_)
      · replace hf := if_t c13 hf
        refine z_iconst C (v := 0) dX7_wanted_51 rfl ?_
        refine z_iadd C dX7_wanted_52 ?_
        refine z_topi (fun x9 e_x9 => ?_)
        replace hf := bn_to e_x9 hf
        refine z_istore_n C (lv2 := [(0, .ref ((zw K).2.1 0)), (1, .int a1), (2, .int a2), (3, .int x9), (4, .int i4)]) [1, 2, 3, 0, 4] dX7_wanted_53 rfl (Nat.le_of_ble_eq_true rfl) rfl ?_
        obtain ⟨x10, e_x10⟩ : ∃ y : Int32, y = i4 + 1 := ⟨_, rfl⟩
        replace hf := bn_to e_x10 hf
        refine z_iinc C (lv2 := [(0, .ref ((zw K).2.1 0)), (1, .int a1), (2, .int a2), (3, .int x9), (4, .int x10)]) 4 [1, 2, 3, 4, 0] dX7_wanted_54 rfl rfl (Nat.le_of_ble_eq_true rfl) e_x10 rfl ?_
        refine z_goto (tgt := 16) C dX7_wanted_57 (by decide) ?_
        cases hf
        exact z_sub [0, 1, 2, 3, 4] rfl (ih x9 x10 hz)
      · replace hf := if_f c13 hf
        refine z_iconst C (v := 1) dX7_wanted_47 rfl ?_
        refine z_goto (tgt := 52) C dX7_wanted_48 (by decide) ?_
        refine z_iadd C dX7_wanted_52 ?_
        refine z_topi (fun x11 e_x11 => ?_)
        replace hf := bn_to e_x11 hf
        refine z_istore_n C (lv2 := [(0, .ref ((zw K).2.1 0)), (1, .int a1), (2, .int a2), (3, .int x11), (4, .int i4)]) [1, 2, 3, 0, 4] dX7_wanted_53 rfl (Nat.le_of_ble_eq_true rfl) rfl ?_
        obtain ⟨x12, e_x12⟩ : ∃ y : Int32, y = i4 + 1 := ⟨_, rfl⟩
        replace hf := bn_to e_x12 hf
        refine z_iinc C (lv2 := [(0, .ref ((zw K).2.1 0)), (1, .int a1), (2, .int a2), (3, .int x11), (4, .int x12)]) 4 [1, 2, 3, 4, 0] dX7_wanted_54 rfl rfl (Nat.le_of_ble_eq_true rfl) e_x12 rfl ?_
        refine z_goto (tgt := 16) C dX7_wanted_57 (by decide) ?_
        cases hf
        exact z_sub [0, 1, 2, 3, 4] rfl (ih x11 x12 hz)
set_option maxRecDepth 100000 in
set_option maxHeartbeats 4000000 in
theorem c_X7_wanted (l : Launch) (w : ZW) {m : Mem} {a1 : Int32} {a2 : Int32} {r9 : Int32}  (hf : s_X7_wanted m a1 a2 = some r9) : zCi MM l w yX7_wanted wsX7_wanted rmX7_wanted [.ref (w.2.1 0), .int a1, .int a2] m m r9 := by
  refine z_met_i MM_ok (own := RX7) (by decide +kernel) rfl rfl (Nat.le_of_ble_eq_true rfl) ?_
  intro K C hKw hKl hret
  subst hKw
  subst hKl
  unfold s_X7_wanted at hf
  show zGo MM K m [(0, .ref ((zw K).2.1 0)), (1, .int a1), (2, .int a2)] 0 []
  refine z_aload_n C 0 dX7_wanted_0 rfl rfl ?_
  refine z_iload_n C 1 dX7_wanted_1 rfl rfl ?_
  refine z_iload_n C 2 dX7_wanted_2 rfl rfl ?_
  obtain ⟨r2, hc1, hf⟩ := zb_el hf
  refine z_cVi C (c_X7_areBoth _ _ hc1) rfl gX7_wanted_X7_areBoth rfl rfl zdX7_areBoth rfl (Nat.le_of_ble_eq_true rfl) rfl rfl rfl ⟨Nat.le_of_ble_eq_true rfl, Nat.le_of_ble_eq_true rfl⟩ (Nat.le_of_ble_eq_true rfl) dX7_wanted_3 rfl ?_
  refine z_if_ne (tgt := 11) C dX7_wanted_6 (by decide) (fun c16 => ?_) (fun c16 => ?_)
  · replace hf := if_f c16 hf
    refine z_iconst C (v := 0) dX7_wanted_11 rfl ?_
    refine z_istore_n C (lv2 := [(0, .ref ((zw K).2.1 0)), (1, .int a1), (2, .int a2), (3, .int 0)]) [1, 2, 3, 0] dX7_wanted_12 rfl (Nat.le_of_ble_eq_true rfl) rfl ?_
    refine z_iconst C (v := 0) dX7_wanted_13 rfl ?_
    refine z_istore C (lv2 := [(0, .ref ((zw K).2.1 0)), (1, .int a1), (2, .int a2), (3, .int 0), (4, .int 0)]) [1, 2, 3, 4, 0] dX7_wanted_14 (Nat.le_of_ble_eq_true rfl) rfl ?_
    obtain ⟨y15, hg, hf⟩ := zb_el hf
    refine z_sub [0, 1, 2, 3, 4] rfl (w_X7_wanted_16 C  ?_ _ _ _ hg)
    clear hg
    refine z_iload_n C 0 dX7_wanted_60 rfl rfl ?_
    have e1 := Option.some.inj hf
    subst e1
    exact hret _ _ dX7_wanted_61
  · replace hf := if_t c16 hf
    refine z_iconst C (v := (-1)) dX7_wanted_9 (by decide) ?_
    have e1 := Option.some.inj hf
    subst e1
    exact hret _ _ dX7_wanted_10
set_option maxRecDepth 20000 in
theorem ggX7_which_X7_areBoth : GoodIn wsX7_which wsX7_areBoth := goodIn_sub (List.forall_mem_cons.mpr ⟨(List.mem_of_getElem? (i := 6) rfl), (List.forall_mem_append.mpr ⟨(List.forall_mem_cons.mpr ⟨(List.mem_of_getElem? (i := 7) rfl), (List.forall_mem_cons.mpr ⟨(List.mem_of_getElem? (i := 8) rfl), (List.forall_mem_cons.mpr ⟨(List.mem_of_getElem? (i := 9) rfl), (List.forall_mem_cons.mpr ⟨(List.mem_of_getElem? (i := 5) rfl), (List.forall_mem_cons.mpr ⟨(List.mem_of_getElem? (i := 10) rfl), (List.forall_mem_cons.mpr ⟨(List.mem_of_getElem? (i := 11) rfl), (List.forall_mem_cons.mpr ⟨(List.mem_of_getElem? (i := 12) rfl), (List.forall_mem_cons.mpr ⟨(List.mem_of_getElem? (i := 13) rfl), (List.forall_mem_cons.mpr ⟨(List.mem_of_getElem? (i := 14) rfl), (List.forall_mem_cons.mpr ⟨(List.mem_of_getElem? (i := 15) rfl), (List.forall_mem_cons.mpr ⟨(List.mem_of_getElem? (i := 16) rfl), (List.forall_mem_cons.mpr ⟨(List.mem_of_getElem? (i := 17) rfl), (List.forall_mem_cons.mpr ⟨(List.mem_of_getElem? (i := 18) rfl), (List.forall_mem_cons.mpr ⟨(List.mem_of_getElem? (i := 19) rfl), (fun _ h => absurd h List.not_mem_nil)⟩)⟩)⟩)⟩)⟩)⟩)⟩)⟩)⟩)⟩)⟩)⟩)⟩)⟩), (fun _ h => (List.mem_cons_of_mem _ (List.mem_append_right _ h)))⟩)⟩) (by decide +kernel)
set_option maxRecDepth 20000 in
theorem gX7_which_X7_areBoth : GoodIn wsX7_which (wsV RX7 312 RX7 yX7_areBoth wsX7_areBoth) := goodIn_app (goodIn_sub (List.forall_mem_cons.mpr ⟨(List.mem_of_getElem? (i := 2) rfl), (List.forall_mem_cons.mpr ⟨(List.mem_of_getElem? (i := 3) rfl), (List.forall_mem_cons.mpr ⟨(List.mem_of_getElem? (i := 4) rfl), (List.forall_mem_cons.mpr ⟨(List.mem_of_getElem? (i := 5) rfl), (fun _ h => absurd h List.not_mem_nil)⟩)⟩)⟩)⟩) (by decide +kernel)) ggX7_which_X7_areBoth
set_option maxRecDepth 20000 in
theorem ggX7_which_X7_without : GoodIn wsX7_which wsX7_without := goodIn_sub (List.forall_mem_cons.mpr ⟨(List.mem_of_getElem? (i := 23) rfl), (List.forall_mem_append.mpr ⟨(List.forall_mem_append.mpr ⟨(show ∀ w ∈ wsX7_without_r1, w ∈ wsX7_which from (List.forall_mem_cons.mpr ⟨(List.mem_of_getElem? (i := 24) rfl), (List.forall_mem_cons.mpr ⟨(List.mem_of_getElem? (i := 25) rfl), (List.forall_mem_cons.mpr ⟨(List.mem_of_getElem? (i := 26) rfl), (List.forall_mem_cons.mpr ⟨(List.mem_of_getElem? (i := 27) rfl), (List.forall_mem_cons.mpr ⟨(List.mem_of_getElem? (i := 28) rfl), (List.forall_mem_cons.mpr ⟨(List.mem_of_getElem? (i := 29) rfl), (List.forall_mem_cons.mpr ⟨(List.mem_of_getElem? (i := 1) rfl), (List.forall_mem_cons.mpr ⟨(List.mem_of_getElem? (i := 30) rfl), (List.forall_mem_cons.mpr ⟨(List.mem_of_getElem? (i := 31) rfl), (List.forall_mem_cons.mpr ⟨(List.mem_of_getElem? (i := 32) rfl), (List.forall_mem_cons.mpr ⟨(List.mem_of_getElem? (i := 33) rfl), (List.forall_mem_cons.mpr ⟨(List.mem_of_getElem? (i := 5) rfl), (List.forall_mem_cons.mpr ⟨(List.mem_of_getElem? (i := 34) rfl), (List.forall_mem_cons.mpr ⟨(List.mem_of_getElem? (i := 35) rfl), (List.forall_mem_cons.mpr ⟨(List.mem_of_getElem? (i := 36) rfl), (List.forall_mem_cons.mpr ⟨(List.mem_of_getElem? (i := 37) rfl), (List.forall_mem_cons.mpr ⟨(List.mem_of_getElem? (i := 38) rfl), (List.forall_mem_cons.mpr ⟨(List.mem_of_getElem? (i := 39) rfl), (List.forall_mem_cons.mpr ⟨(List.mem_of_getElem? (i := 40) rfl), (List.forall_mem_cons.mpr ⟨(List.mem_of_getElem? (i := 41) rfl), (List.forall_mem_cons.mpr ⟨(List.mem_of_getElem? (i := 42) rfl), (List.forall_mem_cons.mpr ⟨(List.mem_of_getElem? (i := 43) rfl), (List.forall_mem_cons.mpr ⟨(List.mem_of_getElem? (i := 44) rfl), (List.forall_mem_cons.mpr ⟨(List.mem_of_getElem? (i := 45) rfl), (fun _ h => absurd h List.not_mem_nil)⟩)⟩)⟩)⟩)⟩)⟩)⟩)⟩)⟩)⟩)⟩)⟩)⟩)⟩)⟩)⟩)⟩)⟩)⟩)⟩)⟩)⟩)⟩)⟩)), (List.forall_mem_append.mpr ⟨(show ∀ w ∈ wsX7_without_r2, w ∈ wsX7_which from (List.forall_mem_cons.mpr ⟨(List.mem_of_getElem? (i := 46) rfl), (List.forall_mem_cons.mpr ⟨(List.mem_of_getElem? (i := 47) rfl), (List.forall_mem_cons.mpr ⟨(List.mem_of_getElem? (i := 48) rfl), (List.forall_mem_cons.mpr ⟨(List.mem_of_getElem? (i := 19) rfl), (List.forall_mem_cons.mpr ⟨(List.mem_of_getElem? (i := 49) rfl), (List.forall_mem_cons.mpr ⟨(List.mem_of_getElem? (i := 50) rfl), (List.forall_mem_cons.mpr ⟨(List.mem_of_getElem? (i := 51) rfl), (List.forall_mem_cons.mpr ⟨(List.mem_of_getElem? (i := 52) rfl), (List.forall_mem_cons.mpr ⟨(List.mem_of_getElem? (i := 53) rfl), (List.forall_mem_cons.mpr ⟨(List.mem_of_getElem? (i := 54) rfl), (List.forall_mem_cons.mpr ⟨(List.mem_of_getElem? (i := 55) rfl), (List.forall_mem_cons.mpr ⟨(List.mem_of_getElem? (i := 56) rfl), (List.forall_mem_cons.mpr ⟨(List.mem_of_getElem? (i := 11) rfl), (List.forall_mem_cons.mpr ⟨(List.mem_of_getElem? (i := 57) rfl), (List.forall_mem_cons.mpr ⟨(List.mem_of_getElem? (i := 58) rfl), (List.forall_mem_cons.mpr ⟨(List.mem_of_getElem? (i := 59) rfl), (List.forall_mem_cons.mpr ⟨(List.mem_of_getElem? (i := 60) rfl), (List.forall_mem_cons.mpr ⟨(List.mem_of_getElem? (i := 61) rfl), (List.forall_mem_cons.mpr ⟨(List.mem_of_getElem? (i := 62) rfl), (List.forall_mem_cons.mpr ⟨(List.mem_of_getElem? (i := 63) rfl), (List.forall_mem_cons.mpr ⟨(List.mem_of_getElem? (i := 64) rfl), (List.forall_mem_cons.mpr ⟨(List.mem_of_getElem? (i := 65) rfl), (List.forall_mem_cons.mpr ⟨(List.mem_of_getElem? (i := 66) rfl), (List.forall_mem_cons.mpr ⟨(List.mem_of_getElem? (i := 67) rfl), (fun _ h => absurd h List.not_mem_nil)⟩)⟩)⟩)⟩)⟩)⟩)⟩)⟩)⟩)⟩)⟩)⟩)⟩)⟩)⟩)⟩)⟩)⟩)⟩)⟩)⟩)⟩)⟩)⟩)), (List.forall_mem_append.mpr ⟨(show ∀ w ∈ wsX7_without_r3, w ∈ wsX7_which from (List.forall_mem_cons.mpr ⟨(List.mem_of_getElem? (i := 68) rfl), (List.forall_mem_cons.mpr ⟨(List.mem_of_getElem? (i := 69) rfl), (List.forall_mem_cons.mpr ⟨(List.mem_of_getElem? (i := 70) rfl), (List.forall_mem_cons.mpr ⟨(List.mem_of_getElem? (i := 71) rfl), (List.forall_mem_cons.mpr ⟨(List.mem_of_getElem? (i := 72) rfl), (List.forall_mem_cons.mpr ⟨(List.mem_of_getElem? (i := 73) rfl), (List.forall_mem_cons.mpr ⟨(List.mem_of_getElem? (i := 74) rfl), (List.forall_mem_cons.mpr ⟨(List.mem_of_getElem? (i := 75) rfl), (List.forall_mem_cons.mpr ⟨(List.mem_of_getElem? (i := 76) rfl), (List.forall_mem_cons.mpr ⟨(List.mem_of_getElem? (i := 77) rfl), (List.forall_mem_cons.mpr ⟨(List.mem_of_getElem? (i := 78) rfl), (List.forall_mem_cons.mpr ⟨(List.mem_of_getElem? (i := 79) rfl), (List.forall_mem_cons.mpr ⟨(List.mem_of_getElem? (i := 80) rfl), (List.forall_mem_cons.mpr ⟨(List.mem_of_getElem? (i := 81) rfl), (List.forall_mem_cons.mpr ⟨(List.mem_of_getElem? (i := 82) rfl), (List.forall_mem_cons.mpr ⟨(List.mem_of_getElem? (i := 83) rfl), (List.forall_mem_cons.mpr ⟨(List.mem_of_getElem? (i := 84) rfl), (List.forall_mem_cons.mpr ⟨(List.mem_of_getElem? (i := 85) rfl), (List.forall_mem_cons.mpr ⟨(List.mem_of_getElem? (i := 86) rfl), (List.forall_mem_cons.mpr ⟨(List.mem_of_getElem? (i := 87) rfl), (List.forall_mem_cons.mpr ⟨(List.mem_of_getElem? (i := 88) rfl), (List.forall_mem_cons.mpr ⟨(List.mem_of_getElem? (i := 12) rfl), (List.forall_mem_cons.mpr ⟨(List.mem_of_getElem? (i := 13) rfl), (List.forall_mem_cons.mpr ⟨(List.mem_of_getElem? (i := 14) rfl), (fun _ h => absurd h List.not_mem_nil)⟩)⟩)⟩)⟩)⟩)⟩)⟩)⟩)⟩)⟩)⟩)⟩)⟩)⟩)⟩)⟩)⟩)⟩)⟩)⟩)⟩)⟩)⟩)⟩)), (show ∀ w ∈ wsX7_without_r4, w ∈ wsX7_which from (List.forall_mem_cons.mpr ⟨(List.mem_of_getElem? (i := 89) rfl), (List.forall_mem_cons.mpr ⟨(List.mem_of_getElem? (i := 90) rfl), (List.forall_mem_cons.mpr ⟨(List.mem_of_getElem? (i := 91) rfl), (List.forall_mem_cons.mpr ⟨(List.mem_of_getElem? (i := 92) rfl), (List.forall_mem_cons.mpr ⟨(List.mem_of_getElem? (i := 93) rfl), (List.forall_mem_cons.mpr ⟨(List.mem_of_getElem? (i := 94) rfl), (List.forall_mem_cons.mpr ⟨(List.mem_of_getElem? (i := 95) rfl), (fun _ h => absurd h List.not_mem_nil)⟩)⟩)⟩)⟩)⟩)⟩)⟩))⟩)⟩)⟩), (fun _ h => (List.mem_cons_of_mem _ (List.mem_append_right _ h)))⟩)⟩) (by decide +kernel)
set_option maxRecDepth 20000 in
theorem gX7_which_X7_without : GoodIn wsX7_which (wsV RX7 327 RX7 yX7_without wsX7_without) := goodIn_app (goodIn_sub (List.forall_mem_cons.mpr ⟨(List.mem_of_getElem? (i := 20) rfl), (List.forall_mem_cons.mpr ⟨(List.mem_of_getElem? (i := 21) rfl), (List.forall_mem_cons.mpr ⟨(List.mem_of_getElem? (i := 22) rfl), (List.forall_mem_cons.mpr ⟨(List.mem_of_getElem? (i := 5) rfl), (fun _ h => absurd h List.not_mem_nil)⟩)⟩)⟩)⟩) (by decide +kernel)) ggX7_which_X7_without
theorem dX7_which_0 : decode cX7_which 0 = .ok (.aload_n 0, 1) := by decide +kernel
theorem dX7_which_1 : decode cX7_which 1 = .ok (.iload_n 1, 1) := by decide +kernel
theorem dX7_which_2 : decode cX7_which 2 = .ok (.iload_n 2, 1) := by decide +kernel
theorem dX7_which_3 : decode cX7_which 3 = .ok (.invokevirtual 312, 3) := by decide +kernel
theorem dX7_which_6 : decode cX7_which 6 = .ok (.ifCond .ne 5, 3) := by decide +kernel
theorem dX7_which_9 : decode cX7_which 9 = .ok (.iconst (-1), 1) := by decide +kernel
theorem dX7_which_10 : decode cX7_which 10 = .ok (.ireturn, 1) := by decide +kernel
theorem dX7_which_11 : decode cX7_which 11 = .ok (.aload_n 0, 1) := by decide +kernel
theorem dX7_which_12 : decode cX7_which 12 = .ok (.iload_n 1, 1) := by decide +kernel
theorem dX7_which_13 : decode cX7_which 13 = .ok (.iload_n 2, 1) := by decide +kernel
theorem dX7_which_14 : decode cX7_which 14 = .ok (.invokevirtual 327, 3) := by decide +kernel
theorem dX7_which_17 : decode cX7_which 17 = .ok (.aload_n 0, 1) := by decide +kernel
theorem dX7_which_18 : decode cX7_which 18 = .ok (.getfield 321, 3) := by decide +kernel
theorem dX7_which_21 : decode cX7_which 21 = .ok (.ireturn, 1) := by decide +kernel
def rmX7_which : Room := { frames := 7, cells := 0, slots := 0, locals := 179 }
theorem zdX7_which : yX7_which.cls = RX7 ∧ yX7_which.cls ≠ "java/lang/invoke/MethodHandle" ∧ yX7_which.cls ≠ "java/lang/invoke/VarHandle" ∧ (parseMethodDescriptor yX7_which.desc).map (fun d => d.parameters.length) = some 2 := by decide +kernel
theorem kiX7_which_X7 : ∀ w ∈ wsX70, w ∈ wsX7_which := fun _ h => (List.mem_cons_of_mem _ (List.mem_append_right _ h))
theorem kfX7_which_321 : Cond.fieldLink RX7 321 "ShapeJudgeModel" "withoutSet" "I" ∈ wsX7_which := (List.mem_of_getElem? (i := 1) rfl)
def s_X7_which (m : Mem) (a1 : Int32) (a2 : Int32) : Option (Int32 × Mem) :=
  (s_X7_areBoth m a1 a2).bind fun r2 => (if r2 = 0 then (some ((-1), m)) else ((s_X7_without m a1 a2).bind fun m4 => some ((m4 0 54), m4)))
set_option maxRecDepth 100000 in
set_option maxHeartbeats 4000000 in
theorem c_X7_which (l : Launch) (w : ZW) {m : Mem} {a1 : Int32} {a2 : Int32} {r9 : Int32} {m9 : Mem}  (hf : s_X7_which m a1 a2 = some (r9, m9)) : zCi MM l w yX7_which wsX7_which rmX7_which [.ref (w.2.1 0), .int a1, .int a2] m m9 r9 := by
  refine z_met_i MM_ok (own := RX7) (by decide +kernel) rfl rfl (Nat.le_of_ble_eq_true rfl) ?_
  intro K C hKw hKl hret
  subst hKw
  subst hKl
  unfold s_X7_which at hf
  show zGo MM K m [(0, .ref ((zw K).2.1 0)), (1, .int a1), (2, .int a2)] 0 []
  refine z_aload_n C 0 dX7_which_0 rfl rfl ?_
  refine z_iload_n C 1 dX7_which_1 rfl rfl ?_
  refine z_iload_n C 2 dX7_which_2 rfl rfl ?_
  obtain ⟨r2, hc1, hf⟩ := zb_el hf
  refine z_cVi C (c_X7_areBoth _ _ hc1) rfl gX7_which_X7_areBoth rfl rfl zdX7_areBoth rfl (Nat.le_of_ble_eq_true rfl) rfl rfl rfl ⟨Nat.le_of_ble_eq_true rfl, Nat.le_of_ble_eq_true rfl⟩ (Nat.le_of_ble_eq_true rfl) dX7_which_3 rfl ?_
  refine z_if_ne (tgt := 11) C dX7_which_6 (by decide) (fun c5 => ?_) (fun c5 => ?_)
  · replace hf := if_f c5 hf
    refine z_aload_n C 0 dX7_which_11 rfl rfl ?_
    refine z_iload_n C 1 dX7_which_12 rfl rfl ?_
    refine z_iload_n C 2 dX7_which_13 rfl rfl ?_
    obtain ⟨m4, hc3, hf⟩ := zb_el hf
    refine z_cVv C (c_X7_without _ _ hc3) rfl gX7_which_X7_without rfl rfl zdX7_without rfl (Nat.le_of_ble_eq_true rfl) rfl rfl rfl ⟨Nat.le_of_ble_eq_true rfl, Nat.le_of_ble_eq_true rfl⟩ (Nat.le_of_ble_eq_true rfl) dX7_which_14 rfl ?_
    refine z_aload_n C 0 dX7_which_17 rfl rfl ?_
    refine z_geti C (Nat.le_of_ble_eq_true rfl) rfl rfl 54 (Nat.le_of_ble_eq_true rfl) rfl kiX7_which_X7 kfX7_which_321 dX7_which_18 ?_
    obtain ⟨e1, e2⟩ := sp_el hf
    subst e1
    subst e2
    exact hret _ _ dX7_which_21
  · replace hf := if_t c5 hf
    refine z_iconst C (v := (-1)) dX7_which_9 (by decide) ?_
    obtain ⟨e1, e2⟩ := sp_el hf
    subst e1
    subst e2
    exact hret _ _ dX7_which_10
