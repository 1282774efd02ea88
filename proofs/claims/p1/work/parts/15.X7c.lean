def rmX7_is : Room := { frames := 0, cells := 0, slots := 0, locals := 0 }
theorem zdX7_is : yX7_is.cls = RX7 ∧ yX7_is.cls ≠ "java/lang/invoke/MethodHandle" ∧ yX7_is.cls ≠ "java/lang/invoke/VarHandle" ∧ (parseMethodDescriptor yX7_is.desc).map (fun d => d.parameters.length) = some 1 := by decide +kernel
theorem kiX7_is_X7 : ∀ w ∈ wsX70, w ∈ wsX7_is := by decide +kernel
theorem kfX7_is_177 : Cond.fieldLink RX7 177 "ShapeJudgeModel" "fault" "I" ∈ wsX7_is := by decide +kernel
theorem kfX7_is_193 : Cond.fieldLink RX7 193 "ShapeJudgeModel" "sort" "I" ∈ wsX7_is := by decide +kernel
theorem kfX7_is_200 : Cond.fieldLink RX7 200 "ShapeJudgeModel" "value" "I" ∈ wsX7_is := by decide +kernel
def s_X7_is (m : Mem) (a1 : Int32) : Option (Int32) :=
  (if (m 0 42) = 0 then ((if (m 0 40) = 4 then ((if (m 0 41) = a1 then (some 1) else (some 0))) else (some 0))) else (some 0))
set_option maxRecDepth 100000 in
set_option maxHeartbeats 4000000 in
theorem c_X7_is (l : Launch) (w : ZW) {m : Mem} {a1 : Int32} {r9 : Int32}  (hf : s_X7_is m a1 = some r9) : zCi MM l w yX7_is wsX7_is rmX7_is [.ref (w.2.1 0), .int a1] m m r9 := by
  refine z_met_z MM_ok (own := RX7) (by decide +kernel) rfl rfl (Nat.le_of_ble_eq_true rfl) ?_
  intro K C hKw hKl hret
  subst hKw
  subst hKl
  unfold s_X7_is at hf
  show zGo MM K m [(0, .ref ((zw K).2.1 0)), (1, .int a1)] 0 []
  refine z_aload_n C 0 dX7_is_0 rfl rfl ?_
  refine z_geti C (Nat.le_of_ble_eq_true rfl) rfl rfl 42 (Nat.le_of_ble_eq_true rfl) rfl kiX7_is_X7 kfX7_is_177 dX7_is_1 ?_
  refine z_if_ne (tgt := 27) C dX7_is_4 (by decide) (fun c3 => ?_) (fun c3 => ?_)
  · replace hf := if_f c3 hf
    refine z_iconst C (v := 0) dX7_is_27 rfl ?_
    cases hf
    exact hret _ _ dX7_is_28 (Or.inl rfl)
  · replace hf := if_t c3 hf
    refine z_aload_n C 0 dX7_is_7 rfl rfl ?_
    refine z_geti C (Nat.le_of_ble_eq_true rfl) rfl rfl 40 (Nat.le_of_ble_eq_true rfl) rfl kiX7_is_X7 kfX7_is_193 dX7_is_8 ?_
    refine z_iconst C (v := 4) dX7_is_11 rfl ?_
    refine z_icmp_ne (tgt := 27) C dX7_is_12 (by decide) (fun c2 => ?_) (fun c2 => ?_)
    · replace hf := if_f c2 hf
      refine z_iconst C (v := 0) dX7_is_27 rfl ?_
      cases hf
      exact hret _ _ dX7_is_28 (Or.inl rfl)
    · replace hf := if_t c2 hf
      refine z_aload_n C 0 dX7_is_15 rfl rfl ?_
      refine z_geti C (Nat.le_of_ble_eq_true rfl) rfl rfl 41 (Nat.le_of_ble_eq_true rfl) rfl kiX7_is_X7 kfX7_is_200 dX7_is_16 ?_
      refine z_iload_n C 1 dX7_is_19 rfl rfl ?_
      refine z_icmp_ne (tgt := 27) C dX7_is_20 (by decide) (fun c1 => ?_) (fun c1 => ?_)
      · replace hf := if_f c1 hf
        refine z_iconst C (v := 0) dX7_is_27 rfl ?_
        cases hf
        exact hret _ _ dX7_is_28 (Or.inl rfl)
      · replace hf := if_t c1 hf
        refine z_iconst C (v := 1) dX7_is_23 rfl ?_
        refine z_goto (tgt := 28) C dX7_is_24 (by decide) ?_
        cases hf
        exact hret _ _ dX7_is_28 (Or.inr rfl)
def rmX7_look : Room := { frames := 0, cells := 0, slots := 0, locals := 0 }
theorem zdX7_look : yX7_look.cls = RX7 ∧ yX7_look.cls ≠ "java/lang/invoke/MethodHandle" ∧ yX7_look.cls ≠ "java/lang/invoke/VarHandle" ∧ (parseMethodDescriptor yX7_look.desc).map (fun d => d.parameters.length) = some 1 := by decide +kernel
theorem kiX7_look_X7 : ∀ w ∈ wsX70, w ∈ wsX7_look := by decide +kernel
theorem kfX7_look_170 : Cond.fieldLink RX7 170 "ShapeJudgeModel" "taped" "I" ∈ wsX7_look := by decide +kernel
theorem kfX7_look_107 : Cond.fieldLink RX7 107 "ShapeJudgeModel" "tape" "[I" ∈ wsX7_look := by decide +kernel
def s_X7_look (m : Mem) (a1 : Int32) : Option (Int32) :=
  (if (m 0 37) ≤ a1 then (some (-1)) else (ck (zin a1 400 = true) (some (m 33 (Int32.toNatClampNeg a1)))))
set_option maxRecDepth 100000 in
set_option maxHeartbeats 4000000 in
theorem c_X7_look (l : Launch) (w : ZW) {m : Mem} {a1 : Int32} {r9 : Int32}  (hf : s_X7_look m a1 = some r9) : zCi MM l w yX7_look wsX7_look rmX7_look [.ref (w.2.1 0), .int a1] m m r9 := by
  refine z_met_i MM_ok (own := RX7) (by decide +kernel) rfl rfl (Nat.le_of_ble_eq_true rfl) ?_
  intro K C hKw hKl hret
  subst hKw
  subst hKl
  unfold s_X7_look at hf
  show zGo MM K m [(0, .ref ((zw K).2.1 0)), (1, .int a1)] 0 []
  refine z_iload_n C 1 dX7_look_0 rfl rfl ?_
  refine z_aload_n C 0 dX7_look_1 rfl rfl ?_
  refine z_geti C (Nat.le_of_ble_eq_true rfl) rfl rfl 37 (Nat.le_of_ble_eq_true rfl) rfl kiX7_look_X7 kfX7_look_170 dX7_look_2 ?_
  refine z_icmp_ge (tgt := 17) C dX7_look_5 (by decide) (fun c2 => ?_) (fun c2 => ?_)
  · replace hf := if_t c2 hf
    refine z_iconst C (v := (-1)) dX7_look_17 (by decide) ?_
    cases hf
    exact hret _ _ dX7_look_18
  · replace hf := if_f c2 hf
    refine z_aload_n C 0 dX7_look_8 rfl rfl ?_
    refine z_getr C (t := 33) (Nat.le_of_ble_eq_true rfl) rfl rfl 36 (Nat.le_of_ble_eq_true rfl) rfl kiX7_look_X7 kfX7_look_107 dX7_look_9 ?_
    refine z_iload_n C 1 dX7_look_12 rfl rfl ?_
    obtain ⟨hi1, hf⟩ := ck_el hf
    refine z_iald C (k := 33) (Nat.le_of_ble_eq_true rfl) rfl hi1 dX7_look_13 ?_
    refine z_goto (tgt := 18) C dX7_look_14 (by decide) ?_
    cases hf
    exact hret _ _ dX7_look_18
def rmX7_isClosed : Room := { frames := 1, cells := 0, slots := 0, locals := 21 }
theorem zdX7_isClosed : yX7_isClosed.cls = RX7 ∧ yX7_isClosed.cls ≠ "java/lang/invoke/MethodHandle" ∧ yX7_isClosed.cls ≠ "java/lang/invoke/VarHandle" ∧ (parseMethodDescriptor yX7_isClosed.desc).map (fun d => d.parameters.length) = some 0 := by decide +kernel
theorem kiX7_isClosed_X7 : ∀ w ∈ wsX70, w ∈ wsX7_isClosed := by decide +kernel
theorem kfX7_isClosed_183 : Cond.fieldLink RX7 183 "ShapeJudgeModel" "at" "I" ∈ wsX7_isClosed := by decide +kernel
theorem kfX7_isClosed_186 : Cond.fieldLink RX7 186 "ShapeJudgeModel" "from" "I" ∈ wsX7_isClosed := by decide +kernel
def s_X7_isClosed (m : Mem)  : Option (Int32) :=
  (if ((m 0 38) - (m 0 39)) = 6 then ((s_X7_look m (m 0 39)).bind fun r2 => (if r2 = 99 then ((s_X7_look m ((m 0 39) + 1)).bind fun r4 => (if r4 = 108 then ((s_X7_look m ((m 0 39) + 2)).bind fun r6 => (if r6 = 111 then ((s_X7_look m ((m 0 39) + 3)).bind fun r8 => (if r8 = 115 then ((s_X7_look m ((m 0 39) + 4)).bind fun r10 => (if r10 = 101 then ((s_X7_look m ((m 0 39) + 5)).bind fun r12 => (if r12 = 100 then (some 1) else (some 0))) else (some 0))) else (some 0))) else (some 0))) else (some 0))) else (some 0))) else (some 0))
set_option maxRecDepth 100000 in
set_option maxHeartbeats 4000000 in
theorem c_X7_isClosed (l : Launch) (w : ZW) {m : Mem}  {r9 : Int32}  (hf : s_X7_isClosed m  = some r9) : zCi MM l w yX7_isClosed wsX7_isClosed rmX7_isClosed [.ref (w.2.1 0)] m m r9 := by
  refine z_met_z MM_ok (own := RX7) (by decide +kernel) rfl rfl (Nat.le_of_ble_eq_true rfl) ?_
  intro K C hKw hKl hret
  subst hKw
  subst hKl
  unfold s_X7_isClosed at hf
  show zGo MM K m [(0, .ref ((zw K).2.1 0))] 0 []
  refine z_aload_n C 0 dX7_isClosed_0 rfl rfl ?_
  refine z_geti C (Nat.le_of_ble_eq_true rfl) rfl rfl 38 (Nat.le_of_ble_eq_true rfl) rfl kiX7_isClosed_X7 kfX7_isClosed_183 dX7_isClosed_1 ?_
  refine z_aload_n C 0 dX7_isClosed_4 rfl rfl ?_
  refine z_geti C (Nat.le_of_ble_eq_true rfl) rfl rfl 39 (Nat.le_of_ble_eq_true rfl) rfl kiX7_isClosed_X7 kfX7_isClosed_186 dX7_isClosed_5 ?_
  refine z_isub C dX7_isClosed_8 ?_
  refine z_bipush C (v := 6) dX7_isClosed_9 rfl ?_
  refine z_icmp_ne (tgt := 106) C dX7_isClosed_11 (by decide) (fun c19 => ?_) (fun c19 => ?_)
  · replace hf := if_f c19 hf
    refine z_iconst C (v := 0) dX7_isClosed_106 rfl ?_
    cases hf
    exact hret _ _ dX7_isClosed_107 (Or.inl rfl)
  · replace hf := if_t c19 hf
    refine z_aload_n C 0 dX7_isClosed_14 rfl rfl ?_
    refine z_aload_n C 0 dX7_isClosed_15 rfl rfl ?_
    refine z_geti C (Nat.le_of_ble_eq_true rfl) rfl rfl 39 (Nat.le_of_ble_eq_true rfl) rfl kiX7_isClosed_X7 kfX7_isClosed_186 dX7_isClosed_16 ?_
    obtain ⟨r2, hc1, hf⟩ := zb_el hf
    refine z_cVi C (c_X7_look _ _ hc1) rfl gX7_isClosed_X7_look rfl rfl zdX7_look rfl (Nat.le_of_ble_eq_true rfl) rfl rfl rfl ⟨Nat.le_of_ble_eq_true rfl, Nat.le_of_ble_eq_true rfl⟩ (Nat.le_of_ble_eq_true rfl) dX7_isClosed_19 rfl ?_
    refine z_bipush C (v := 99) dX7_isClosed_22 rfl ?_
    refine z_icmp_ne (tgt := 106) C dX7_isClosed_24 (by decide) (fun c18 => ?_) (fun c18 => ?_)
    · replace hf := if_f c18 hf
      refine z_iconst C (v := 0) dX7_isClosed_106 rfl ?_
      cases hf
      exact hret _ _ dX7_isClosed_107 (Or.inl rfl)
    · replace hf := if_t c18 hf
      refine z_aload_n C 0 dX7_isClosed_27 rfl rfl ?_
      refine z_aload_n C 0 dX7_isClosed_28 rfl rfl ?_
      refine z_geti C (Nat.le_of_ble_eq_true rfl) rfl rfl 39 (Nat.le_of_ble_eq_true rfl) rfl kiX7_isClosed_X7 kfX7_isClosed_186 dX7_isClosed_29 ?_
      refine z_iconst C (v := 1) dX7_isClosed_32 rfl ?_
      refine z_iadd C dX7_isClosed_33 ?_
      obtain ⟨r4, hc3, hf⟩ := zb_el hf
      refine z_cVi C (c_X7_look _ _ hc3) rfl gX7_isClosed_X7_look rfl rfl zdX7_look rfl (Nat.le_of_ble_eq_true rfl) rfl rfl rfl ⟨Nat.le_of_ble_eq_true rfl, Nat.le_of_ble_eq_true rfl⟩ (Nat.le_of_ble_eq_true rfl) dX7_isClosed_34 rfl ?_
      refine z_bipush C (v := 108) dX7_isClosed_37 rfl ?_
      refine z_icmp_ne (tgt := 106) C dX7_isClosed_39 (by decide) (fun c17 => ?_) (fun c17 => ?_)
      · replace hf := if_f c17 hf
        refine z_iconst C (v := 0) dX7_isClosed_106 rfl ?_
        cases hf
        exact hret _ _ dX7_isClosed_107 (Or.inl rfl)
      · replace hf := if_t c17 hf
        refine z_aload_n C 0 dX7_isClosed_42 rfl rfl ?_
        refine z_aload_n C 0 dX7_isClosed_43 rfl rfl ?_
        refine z_geti C (Nat.le_of_ble_eq_true rfl) rfl rfl 39 (Nat.le_of_ble_eq_true rfl) rfl kiX7_isClosed_X7 kfX7_isClosed_186 dX7_isClosed_44 ?_
        refine z_iconst C (v := 2) dX7_isClosed_47 rfl ?_
        refine z_iadd C dX7_isClosed_48 ?_
        obtain ⟨r6, hc5, hf⟩ := zb_el hf
        refine z_cVi C (c_X7_look _ _ hc5) rfl gX7_isClosed_X7_look rfl rfl zdX7_look rfl (Nat.le_of_ble_eq_true rfl) rfl rfl rfl ⟨Nat.le_of_ble_eq_true rfl, Nat.le_of_ble_eq_true rfl⟩ (Nat.le_of_ble_eq_true rfl) dX7_isClosed_49 rfl ?_
        refine z_bipush C (v := 111) dX7_isClosed_52 rfl ?_
        refine z_icmp_ne (tgt := 106) C dX7_isClosed_54 (by decide) (fun c16 => ?_) (fun c16 => ?_)
        · replace hf := if_f c16 hf
          refine z_iconst C (v := 0) dX7_isClosed_106 rfl ?_
          cases hf
          exact hret _ _ dX7_isClosed_107 (Or.inl rfl)
        · replace hf := if_t c16 hf
          refine z_aload_n C 0 dX7_isClosed_57 rfl rfl ?_
          refine z_aload_n C 0 dX7_isClosed_58 rfl rfl ?_
          refine z_geti C (Nat.le_of_ble_eq_true rfl) rfl rfl 39 (Nat.le_of_ble_eq_true rfl) rfl kiX7_isClosed_X7 kfX7_isClosed_186 dX7_isClosed_59 ?_
          refine z_iconst C (v := 3) dX7_isClosed_62 rfl ?_
          refine z_iadd C dX7_isClosed_63 ?_
          obtain ⟨r8, hc7, hf⟩ := zb_el hf
          refine z_cVi C (c_X7_look _ _ hc7) rfl gX7_isClosed_X7_look rfl rfl zdX7_look rfl (Nat.le_of_ble_eq_true rfl) rfl rfl rfl ⟨Nat.le_of_ble_eq_true rfl, Nat.le_of_ble_eq_true rfl⟩ (Nat.le_of_ble_eq_true rfl) dX7_isClosed_64 rfl ?_
          refine z_bipush C (v := 115) dX7_isClosed_67 rfl ?_
          refine z_icmp_ne (tgt := 106) C dX7_isClosed_69 (by decide) (fun c15 => ?_) (fun c15 => ?_)
          · replace hf := if_f c15 hf
            refine z_iconst C (v := 0) dX7_isClosed_106 rfl ?_
            cases hf
            exact hret _ _ dX7_isClosed_107 (Or.inl rfl)
          · replace hf := if_t c15 hf
            refine z_aload_n C 0 dX7_isClosed_72 rfl rfl ?_
            refine z_aload_n C 0 dX7_isClosed_73 rfl rfl ?_
            refine z_geti C (Nat.le_of_ble_eq_true rfl) rfl rfl 39 (Nat.le_of_ble_eq_true rfl) rfl kiX7_isClosed_X7 kfX7_isClosed_186 dX7_isClosed_74 ?_
            refine z_iconst C (v := 4) dX7_isClosed_77 rfl ?_
            refine z_iadd C dX7_isClosed_78 ?_
            obtain ⟨r10, hc9, hf⟩ := zb_el hf
            refine z_cVi C (c_X7_look _ _ hc9) rfl gX7_isClosed_X7_look rfl rfl zdX7_look rfl (Nat.le_of_ble_eq_true rfl) rfl rfl rfl ⟨Nat.le_of_ble_eq_true rfl, Nat.le_of_ble_eq_true rfl⟩ (Nat.le_of_ble_eq_true rfl) dX7_isClosed_79 rfl ?_
            refine z_bipush C (v := 101) dX7_isClosed_82 rfl ?_
            refine z_icmp_ne (tgt := 106) C dX7_isClosed_84 (by decide) (fun c14 => ?_) (fun c14 => ?_)
            · replace hf := if_f c14 hf
              refine z_iconst C (v := 0) dX7_isClosed_106 rfl ?_
              cases hf
              exact hret _ _ dX7_isClosed_107 (Or.inl rfl)
            · replace hf := if_t c14 hf
              refine z_aload_n C 0 dX7_isClosed_87 rfl rfl ?_
              refine z_aload_n C 0 dX7_isClosed_88 rfl rfl ?_
              refine z_geti C (Nat.le_of_ble_eq_true rfl) rfl rfl 39 (Nat.le_of_ble_eq_true rfl) rfl kiX7_isClosed_X7 kfX7_isClosed_186 dX7_isClosed_89 ?_
              refine z_iconst C (v := 5) dX7_isClosed_92 rfl ?_
              refine z_iadd C dX7_isClosed_93 ?_
              obtain ⟨r12, hc11, hf⟩ := zb_el hf
              refine z_cVi C (c_X7_look _ _ hc11) rfl gX7_isClosed_X7_look rfl rfl zdX7_look rfl (Nat.le_of_ble_eq_true rfl) rfl rfl rfl ⟨Nat.le_of_ble_eq_true rfl, Nat.le_of_ble_eq_true rfl⟩ (Nat.le_of_ble_eq_true rfl) dX7_isClosed_94 rfl ?_
              refine z_bipush C (v := 100) dX7_isClosed_97 rfl ?_
              refine z_icmp_ne (tgt := 106) C dX7_isClosed_99 (by decide) (fun c13 => ?_) (fun c13 => ?_)
              · replace hf := if_f c13 hf
                refine z_iconst C (v := 0) dX7_isClosed_106 rfl ?_
                cases hf
                exact hret _ _ dX7_isClosed_107 (Or.inl rfl)
              · replace hf := if_t c13 hf
                refine z_iconst C (v := 1) dX7_isClosed_102 rfl ?_
                refine z_goto (tgt := 107) C dX7_isClosed_103 (by decide) ?_
                cases hf
                exact hret _ _ dX7_isClosed_107 (Or.inr rfl)
def rmX7_isSign : Room := { frames := 0, cells := 0, slots := 0, locals := 0 }
theorem zdX7_isSign : yX7_isSign.cls = RX7 ∧ yX7_isSign.cls ≠ "java/lang/invoke/MethodHandle" ∧ yX7_isSign.cls ≠ "java/lang/invoke/VarHandle" ∧ (parseMethodDescriptor yX7_isSign.desc).map (fun d => d.parameters.length) = some 1 := by decide +kernel
def s_X7_isSign (a1 : Int32) : Option (Int32) :=
  (if a1 = 61 then (some 1) else ((if a1 = 59 then (some 1) else ((if a1 = 44 then (some 1) else ((if a1 = 124 then (some 1) else ((if a1 = 40 then (some 1) else ((if a1 = 41 then (some 1) else ((if a1 = 91 then (some 1) else ((if a1 = 93 then (some 1) else ((if a1 = 64 then (some 1) else ((if a1 = 33 then (some 1) else ((if a1 = 46 then (some 1) else (some 0))))))))))))))))))))))
set_option maxRecDepth 100000 in
set_option maxHeartbeats 4000000 in
theorem c_X7_isSign (l : Launch) (w : ZW) {m : Mem} {a1 : Int32} {r9 : Int32}  (hf : s_X7_isSign a1 = some r9) : zCi MM l w yX7_isSign wsX7_isSign rmX7_isSign [.int a1] m m r9 := by
  refine z_met_z MM_ok (own := RX7) (by decide +kernel) rfl rfl (Nat.le_of_ble_eq_true rfl) ?_
  intro K C hKw hKl hret
  subst hKw
  subst hKl
  unfold s_X7_isSign at hf
  show zGo MM K m [(0, .int a1)] 0 []
  refine z_iload_n C 0 dX7_isSign_0 rfl rfl ?_
  refine z_bipush C (v := 61) dX7_isSign_1 rfl ?_
  refine z_icmp_eq (tgt := 66) C dX7_isSign_3 (by decide) (fun c11 => ?_) (fun c11 => ?_)
  · replace hf := if_t c11 hf
    refine z_iconst C (v := 1) dX7_isSign_66 rfl ?_
    refine z_goto (tgt := 71) C dX7_isSign_67 (by decide) ?_
    cases hf
    exact hret _ _ dX7_isSign_71 (Or.inr rfl)
  · replace hf := if_f c11 hf
    refine z_iload_n C 0 dX7_isSign_6 rfl rfl ?_
    refine z_bipush C (v := 59) dX7_isSign_7 rfl ?_
    refine z_icmp_eq (tgt := 66) C dX7_isSign_9 (by decide) (fun c10 => ?_) (fun c10 => ?_)
    · replace hf := if_t c10 hf
      refine z_iconst C (v := 1) dX7_isSign_66 rfl ?_
      refine z_goto (tgt := 71) C dX7_isSign_67 (by decide) ?_
      cases hf
      exact hret _ _ dX7_isSign_71 (Or.inr rfl)
    · replace hf := if_f c10 hf
      refine z_iload_n C 0 dX7_isSign_12 rfl rfl ?_
      refine z_bipush C (v := 44) dX7_isSign_13 rfl ?_
      refine z_icmp_eq (tgt := 66) C dX7_isSign_15 (by decide) (fun c9 => ?_) (fun c9 => ?_)
      · replace hf := if_t c9 hf
        refine z_iconst C (v := 1) dX7_isSign_66 rfl ?_
        refine z_goto (tgt := 71) C dX7_isSign_67 (by decide) ?_
        cases hf
        exact hret _ _ dX7_isSign_71 (Or.inr rfl)
      · replace hf := if_f c9 hf
        refine z_iload_n C 0 dX7_isSign_18 rfl rfl ?_
        refine z_bipush C (v := 124) dX7_isSign_19 rfl ?_
        refine z_icmp_eq (tgt := 66) C dX7_isSign_21 (by decide) (fun c8 => ?_) (fun c8 => ?_)
        · replace hf := if_t c8 hf
          refine z_iconst C (v := 1) dX7_isSign_66 rfl ?_
          refine z_goto (tgt := 71) C dX7_isSign_67 (by decide) ?_
          cases hf
          exact hret _ _ dX7_isSign_71 (Or.inr rfl)
        · replace hf := if_f c8 hf
          refine z_iload_n C 0 dX7_isSign_24 rfl rfl ?_
          refine z_bipush C (v := 40) dX7_isSign_25 rfl ?_
          refine z_icmp_eq (tgt := 66) C dX7_isSign_27 (by decide) (fun c7 => ?_) (fun c7 => ?_)
          · replace hf := if_t c7 hf
            refine z_iconst C (v := 1) dX7_isSign_66 rfl ?_
            refine z_goto (tgt := 71) C dX7_isSign_67 (by decide) ?_
            cases hf
            exact hret _ _ dX7_isSign_71 (Or.inr rfl)
          · replace hf := if_f c7 hf
            refine z_iload_n C 0 dX7_isSign_30 rfl rfl ?_
            refine z_bipush C (v := 41) dX7_isSign_31 rfl ?_
            refine z_icmp_eq (tgt := 66) C dX7_isSign_33 (by decide) (fun c6 => ?_) (fun c6 => ?_)
            · replace hf := if_t c6 hf
              refine z_iconst C (v := 1) dX7_isSign_66 rfl ?_
              refine z_goto (tgt := 71) C dX7_isSign_67 (by decide) ?_
              cases hf
              exact hret _ _ dX7_isSign_71 (Or.inr rfl)
            · replace hf := if_f c6 hf
              refine z_iload_n C 0 dX7_isSign_36 rfl rfl ?_
              refine z_bipush C (v := 91) dX7_isSign_37 rfl ?_
              refine z_icmp_eq (tgt := 66) C dX7_isSign_39 (by decide) (fun c5 => ?_) (fun c5 => ?_)
              · replace hf := if_t c5 hf
                refine z_iconst C (v := 1) dX7_isSign_66 rfl ?_
                refine z_goto (tgt := 71) C dX7_isSign_67 (by decide) ?_
                cases hf
                exact hret _ _ dX7_isSign_71 (Or.inr rfl)
              · replace hf := if_f c5 hf
                refine z_iload_n C 0 dX7_isSign_42 rfl rfl ?_
                refine z_bipush C (v := 93) dX7_isSign_43 rfl ?_
                refine z_icmp_eq (tgt := 66) C dX7_isSign_45 (by decide) (fun c4 => ?_) (fun c4 => ?_)
                · replace hf := if_t c4 hf
                  refine z_iconst C (v := 1) dX7_isSign_66 rfl ?_
                  refine z_goto (tgt := 71) C dX7_isSign_67 (by decide) ?_
                  cases hf
                  exact hret _ _ dX7_isSign_71 (Or.inr rfl)
                · replace hf := if_f c4 hf
                  refine z_iload_n C 0 dX7_isSign_48 rfl rfl ?_
                  refine z_bipush C (v := 64) dX7_isSign_49 rfl ?_
                  refine z_icmp_eq (tgt := 66) C dX7_isSign_51 (by decide) (fun c3 => ?_) (fun c3 => ?_)
                  · replace hf := if_t c3 hf
                    refine z_iconst C (v := 1) dX7_isSign_66 rfl ?_
                    refine z_goto (tgt := 71) C dX7_isSign_67 (by decide) ?_
                    cases hf
                    exact hret _ _ dX7_isSign_71 (Or.inr rfl)
                  · replace hf := if_f c3 hf
                    refine z_iload_n C 0 dX7_isSign_54 rfl rfl ?_
                    refine z_bipush C (v := 33) dX7_isSign_55 rfl ?_
                    refine z_icmp_eq (tgt := 66) C dX7_isSign_57 (by decide) (fun c2 => ?_) (fun c2 => ?_)
                    · replace hf := if_t c2 hf
                      refine z_iconst C (v := 1) dX7_isSign_66 rfl ?_
                      refine z_goto (tgt := 71) C dX7_isSign_67 (by decide) ?_
                      cases hf
                      exact hret _ _ dX7_isSign_71 (Or.inr rfl)
                    · replace hf := if_f c2 hf
                      refine z_iload_n C 0 dX7_isSign_60 rfl rfl ?_
                      refine z_bipush C (v := 46) dX7_isSign_61 rfl ?_
                      refine z_icmp_ne (tgt := 70) C dX7_isSign_63 (by decide) (fun c1 => ?_) (fun c1 => ?_)
                      · replace hf := if_f c1 hf
                        refine z_iconst C (v := 0) dX7_isSign_70 rfl ?_
                        cases hf
                        exact hret _ _ dX7_isSign_71 (Or.inl rfl)
                      · replace hf := if_t c1 hf
                        refine z_iconst C (v := 1) dX7_isSign_66 rfl ?_
                        refine z_goto (tgt := 71) C dX7_isSign_67 (by decide) ?_
                        cases hf
                        exact hret _ _ dX7_isSign_71 (Or.inr rfl)
def rmX7_next : Room := { frames := 2, cells := 0, slots := 0, locals := 41 }
theorem zdX7_next : yX7_next.cls = RX7 ∧ yX7_next.cls ≠ "java/lang/invoke/MethodHandle" ∧ yX7_next.cls ≠ "java/lang/invoke/VarHandle" ∧ (parseMethodDescriptor yX7_next.desc).map (fun d => d.parameters.length) = some 0 := by decide +kernel
theorem kiX7_next_X7 : ∀ w ∈ wsX70, w ∈ wsX7_next := by decide +kernel
theorem kfX7_next_183 : Cond.fieldLink RX7 183 "ShapeJudgeModel" "at" "I" ∈ wsX7_next := by decide +kernel
theorem kfX7_next_186 : Cond.fieldLink RX7 186 "ShapeJudgeModel" "from" "I" ∈ wsX7_next := by decide +kernel
theorem kcX7_next_196 : Cond.constantLong RX7 196 (65) ∈ wsX7_next := by decide +kernel
theorem kcX7_next_198 : Cond.constantLong RX7 198 (90) ∈ wsX7_next := by decide +kernel
theorem kfX7_next_193 : Cond.fieldLink RX7 193 "ShapeJudgeModel" "sort" "I" ∈ wsX7_next := by decide +kernel
theorem kfX7_next_200 : Cond.fieldLink RX7 200 "ShapeJudgeModel" "value" "I" ∈ wsX7_next := by decide +kernel
theorem kcX7_next_203 : Cond.constantLong RX7 203 (48) ∈ wsX7_next := by decide +kernel
theorem kcX7_next_205 : Cond.constantLong RX7 205 (57) ∈ wsX7_next := by decide +kernel
theorem kcX7_next_211 : Cond.constantLong RX7 211 (97) ∈ wsX7_next := by decide +kernel
theorem kcX7_next_213 : Cond.constantLong RX7 213 (122) ∈ wsX7_next := by decide +kernel
def t_X7_next_0  (m1 : Mem) : Option ((Mem) ⊕ (Mem)) :=
  (s_X7_look m1 (m1 0 38)).bind fun r3 => (if r3 = 32 then (bn (sto m1 0 38 ((m1 0 38) + 1)) fun m4 => some (.inl m4)) else (some (.inr m1)))
def l_X7_next_0  (n : Nat) (m1 : Mem) : Option (Mem) := zlp n (fun a => t_X7_next_0  a) m1
def t_X7_next_147 (x15 : Int32) (m17 : Mem) : Option ((Mem) ⊕ (Mem)) :=
  (s_X7_look m17 (m17 0 38)).bind fun r19 => (s_X7_in (r19.toInt64) 48 57).bind fun r21 => (if r21 = 0 then (some (.inr m17)) else ((if 4 ≤ ((m17 0 38) - x15) then (bn (sto m17 0 41 (m17 0 41)) fun m22 => bn (sto m22 0 38 ((m22 0 38) + 1)) fun m23 => some (.inl m23)) else ((s_X7_look m17 (m17 0 38)).bind fun r25 => bn (sto m17 0 41 ((((10 : Int32) * (m17 0 41)) + r25) - 48)) fun m26 => bn (sto m26 0 38 ((m26 0 38) + 1)) fun m27 => some (.inl m27)))))
def l_X7_next_147 (x15 : Int32) (n : Nat) (m17 : Mem) : Option (Mem) := zlp n (fun a => t_X7_next_147 x15 a) m17
def t_X7_next_147 (x89 : Int32) (m91 : Mem) : Option ((Mem) ⊕ (Mem)) :=
  (s_X7_look m91 (m91 0 38)).bind fun r93 => (s_X7_in (r93.toInt64) 48 57).bind fun r95 => (if r95 = 0 then (some (.inr m91)) else ((if 4 ≤ ((m91 0 38) - x89) then (bn (sto m91 0 41 (m91 0 41)) fun m96 => bn (sto m96 0 38 ((m96 0 38) + 1)) fun m97 => some (.inl m97)) else ((s_X7_look m91 (m91 0 38)).bind fun r99 => bn (sto m91 0 41 ((((10 : Int32) * (m91 0 41)) + r99) - 48)) fun m100 => bn (sto m100 0 38 ((m100 0 38) + 1)) fun m101 => some (.inl m101)))))
def l_X7_next_147 (x89 : Int32) (n : Nat) (m91 : Mem) : Option (Mem) := zlp n (fun a => t_X7_next_147 x89 a) m91
def s_X7_next (m : Mem)  : Option (Mem) :=
  ((l_X7_next_0  FU m).bind fun m6 => bn (sto m6 0 39 (m6 0 38)) fun m7 => (s_X7_look m7 (m7 0 38)).bind fun r9 => (if 0 ≤ r9 then ((s_X7_in (r9.toInt64) 65 90).bind fun r11 => (if r11 = 0 then ((if r9 = 45 then (bn (sto m7 0 40 2) fun m12 => (((if r9 = 45 then (some 1) else (some 0)) : Option (Int32)).bind fun y13 => bn (sto m12 0 38 ((m12 0 38) + y13)) fun m14 => bn (m14 0 38) fun x15 => bn (sto m14 0 41 0) fun m16 => ((l_X7_next_147 x15 FU m16).bind fun m30 => (((if r9 = 45 then (some (-(m30 0 41))) else (some (m30 0 41))) : Option (Int32)).bind fun y31 => bn (sto m30 0 41 y31) fun m32 => (if (m32 0 38) = x15 then ((s_X7_fails m32 1 (m32 0 39)).bind fun m34 => some m34) else ((if ((m32 0 38) - x15) ≤ 4 then (some m32) else ((s_X7_fails m32 1 (m32 0 39)).bind fun m36 => some m36)))))))) else ((s_X7_in (r9.toInt64) 48 57).bind fun r42 => (if r42 = 0 then ((s_X7_in (r9.toInt64) 97 122).bind fun r44 => (if r44 = 0 then ((if r9 = 46 then ((s_X7_look m7 ((m7 0 38) + 1)).bind fun r54 => (if r54 = 46 then ((s_X7_look m7 ((m7 0 38) + 2)).bind fun r64 => (if r64 = 46 then (bn (sto m7 0 40 5) fun m73 => bn (sto m73 0 38 ((m73 0 38) + 3)) fun m74 => some m74) else ((s_X7_isSign r9).bind fun r66 => (if r66 = 0 then ((s_X7_fails m7 1 (m7 0 39)).bind fun m68 => some m68) else (bn (sto m7 0 40 4) fun m69 => bn (sto m69 0 41 r9) fun m70 => bn (sto m70 0 38 ((m70 0 38) + 1)) fun m71 => some m71))))) else ((s_X7_isSign r9).bind fun r56 => (if r56 = 0 then ((s_X7_fails m7 1 (m7 0 39)).bind fun m58 => some m58) else (bn (sto m7 0 40 4) fun m59 => bn (sto m59 0 41 r9) fun m60 => bn (sto m60 0 38 ((m60 0 38) + 1)) fun m61 => some m61))))) else ((s_X7_isSign r9).bind fun r46 => (if r46 = 0 then ((s_X7_fails m7 1 (m7 0 39)).bind fun m48 => some m48) else (bn (sto m7 0 40 4) fun m49 => bn (sto m49 0 41 r9) fun m50 => bn (sto m50 0 38 ((m50 0 38) + 1)) fun m51 => some m51))))) else (bn (sto m7 0 40 3) fun m78 => bn (sto m78 0 38 ((m78 0 38) + 6)) fun m79 => (s_X7_isClosed m79).bind fun r81 => (if r81 = 0 then ((s_X7_fails m79 1 (m79 0 39)).bind fun m83 => some m83) else (some m79))))) else (bn (sto m7 0 40 2) fun m86 => (((if r9 = 45 then (some 1) else (some 0)) : Option (Int32)).bind fun y87 => bn (sto m86 0 38 ((m86 0 38) + y87)) fun m88 => bn (m88 0 38) fun x89 => bn (sto m88 0 41 0) fun m90 => ((l_X7_next_147 x89 FU m90).bind fun m104 => (((if r9 = 45 then (some (-(m104 0 41))) else (some (m104 0 41))) : Option (Int32)).bind fun y105 => bn (sto m104 0 41 y105) fun m106 => (if (m106 0 38) = x89 then ((s_X7_fails m106 1 (m106 0 39)).bind fun m108 => some m108) else ((if ((m106 0 38) - x89) ≤ 4 then (some m106) else ((s_X7_fails m106 1 (m106 0 39)).bind fun m110 => some m110)))))))))))) else (bn (sto m7 0 40 1) fun m117 => bn (sto m117 0 41 r9) fun m118 => bn (sto m118 0 38 ((m118 0 38) + 1)) fun m119 => some m119))) else (bn (sto m7 0 40 0) fun m121 => some m121)))
set_option maxRecDepth 100000 in
set_option maxHeartbeats 4000000 in
theorem w_X7_next_0 {K : ZK} (C : zOK MM K cX7_next 3 none RX7 wsX7_next rmX7_next)   {o0 : Mem} (hk : zGo MM K o0 [(0, .ref ((zw K).2.1 0))] 26 []) : ∀ (n : Nat) (m1 : Mem), l_X7_next_0  n m1 = some o0 → zGo MM K m1 [(0, .ref ((zw K).2.1 0))] 0 [] := by
  intro n
  induction n with
  | zero =>
    intro m1 hf
    cases hf
  | succ n ih =>
    intro m1 hf
    obtain ⟨z, hf, hz⟩ := zlp_el hf
    replace hf : t_X7_next_0  m1 = some z := hf
    unfold t_X7_next_0 at hf
    refine z_aload_n C 0 dX7_next_0 rfl rfl ?_
    refine z_aload_n C 0 dX7_next_1 rfl rfl ?_
    refine z_geti C (Nat.le_of_ble_eq_true rfl) rfl rfl 38 (Nat.le_of_ble_eq_true rfl) rfl kiX7_next_X7 kfX7_next_183 dX7_next_2 ?_
    obtain ⟨r3, hc2, hf⟩ := zb_el hf
    refine z_cVi C (c_X7_look _ _ hc2) rfl gX7_next_X7_look rfl rfl zdX7_look rfl (Nat.le_of_ble_eq_true rfl) rfl rfl rfl ⟨Nat.le_of_ble_eq_true rfl, Nat.le_of_ble_eq_true rfl⟩ (Nat.le_of_ble_eq_true rfl) dX7_next_5 rfl ?_
    refine z_bipush C (v := 32) dX7_next_8 rfl ?_
    refine z_icmp_ne (tgt := 26) C dX7_next_10 (by decide) (fun c5 => ?_) (fun c5 => ?_)
    · replace hf := if_f c5 hf
      cases hf
      replace hz := zlz_r hz
      cases hz
      exact z_sub [0] rfl hk
    · replace hf := if_t c5 hf
      refine z_aload_n C 0 dX7_next_13 rfl rfl ?_
      refine z_dup_a C dX7_next_14 ?_
      refine z_geti C (Nat.le_of_ble_eq_true rfl) rfl rfl 38 (Nat.le_of_ble_eq_true rfl) rfl kiX7_next_X7 kfX7_next_183 dX7_next_15 ?_
      refine z_iconst C (v := 1) dX7_next_18 rfl ?_
      refine z_iadd C dX7_next_19 ?_
      refine z_puti C (Nat.le_of_ble_eq_true rfl) rfl rfl 38 (Nat.le_of_ble_eq_true rfl) rfl kiX7_next_X7 kfX7_next_183 tyX7 tyX7_ok nmX7 rfl rfl dX7_next_20 ?_
      refine z_nm (fun m4 e_m4 => ?_)
      replace hf := bn_to e_m4 hf
      refine z_goto (tgt := 0) C dX7_next_23 (by decide) ?_
      cases hf
      exact z_sub [0] rfl (ih m4 hz)
set_option maxRecDepth 100000 in
set_option maxHeartbeats 4000000 in
theorem w_X7_next_147 {K : ZK} (C : zOK MM K cX7_next 3 none RX7 wsX7_next rmX7_next) {r9 : Int32} {x15 : Int32}  {o0 : Mem} (hk : zGo MM K o0 [(0, .ref ((zw K).2.1 0)), (1, .int r9), (2, .int x15)] 221 []) : ∀ (n : Nat) (m17 : Mem), l_X7_next_147 x15 n m17 = some o0 → zGo MM K m17 [(0, .ref ((zw K).2.1 0)), (1, .int r9), (2, .int x15)] 147 [] := by
  intro n
  induction n with
  | zero =>
    intro m17 hf
    cases hf
  | succ n ih =>
    intro m17 hf
    obtain ⟨z, hf, hz⟩ := zlp_el hf
    replace hf : t_X7_next_147 x15 m17 = some z := hf
    unfold t_X7_next_147 at hf
    refine z_aload_n C 0 dX7_next_147 rfl rfl ?_
    refine z_aload_n C 0 dX7_next_148 rfl rfl ?_
    refine z_geti C (Nat.le_of_ble_eq_true rfl) rfl rfl 38 (Nat.le_of_ble_eq_true rfl) rfl kiX7_next_X7 kfX7_next_183 dX7_next_149 ?_
    obtain ⟨r19, hc18, hf⟩ := zb_el hf
    refine z_cVi C (c_X7_look _ _ hc18) rfl gX7_next_X7_look rfl rfl zdX7_look rfl (Nat.le_of_ble_eq_true rfl) rfl rfl rfl ⟨Nat.le_of_ble_eq_true rfl, Nat.le_of_ble_eq_true rfl⟩ (Nat.le_of_ble_eq_true rfl) dX7_next_152 rfl ?_
    refine z_i2l C dX7_next_155 ?_
    refine z_ldc2 C (v := 48) dX7_next_156 kcX7_next_203 ?_
    refine z_ldc2 C (v := 57) dX7_next_159 kcX7_next_205 ?_
    obtain ⟨r21, hc20, hf⟩ := zb_el hf
    refine z_cSi C (c_X7_in _ _ hc20) rfl gX7_next_X7_in rfl rfl zdX7_in.2 rfl ⟨Nat.le_of_ble_eq_true rfl, Nat.le_of_ble_eq_true rfl⟩ (Nat.le_of_ble_eq_true rfl) dX7_next_162 rfl ?_
    refine z_if_eq (tgt := 221) C dX7_next_165 (by decide) (fun c29 => ?_) (fun c29 => ?_)
    · replace hf := if_t c29 hf
      cases hf
      replace hz := zlz_r hz
      cases hz
      exact z_sub [0, 1, 2] rfl hk
    · replace hf := if_f c29 hf
      refine z_aload_n C 0 dX7_next_168 rfl rfl ?_
      refine z_aload_n C 0 dX7_next_169 rfl rfl ?_
      refine z_geti C (Nat.le_of_ble_eq_true rfl) rfl rfl 38 (Nat.le_of_ble_eq_true rfl) rfl kiX7_next_X7 kfX7_next_183 dX7_next_170 ?_
      refine z_iload_n C 2 dX7_next_173 rfl rfl ?_
      refine z_isub C dX7_next_174 ?_
      refine z_iconst C (v := 4) dX7_next_175 rfl ?_
      refine z_icmp_ge (tgt := 201) C dX7_next_176 (by decide) (fun c28 => ?_) (fun c28 => ?_)
      · replace hf := if_t c28 hf
        refine z_aload_n C 0 dX7_next_201 rfl rfl ?_
        refine z_geti C (Nat.le_of_ble_eq_true rfl) rfl rfl 41 (Nat.le_of_ble_eq_true rfl) rfl kiX7_next_X7 kfX7_next_200 dX7_next_202 ?_
        refine z_puti C (Nat.le_of_ble_eq_true rfl) rfl rfl 41 (Nat.le_of_ble_eq_true rfl) rfl kiX7_next_X7 kfX7_next_200 tyX7 tyX7_ok nmX7 rfl rfl dX7_next_205 ?_
        refine z_nm (fun m22 e_m22 => ?_)
        replace hf := bn_to e_m22 hf
        refine z_aload_n C 0 dX7_next_208 rfl rfl ?_
        refine z_dup_a C dX7_next_209 ?_
        refine z_geti C (Nat.le_of_ble_eq_true rfl) rfl rfl 38 (Nat.le_of_ble_eq_true rfl) rfl kiX7_next_X7 kfX7_next_183 dX7_next_210 ?_
        refine z_iconst C (v := 1) dX7_next_213 rfl ?_
        refine z_iadd C dX7_next_214 ?_
        refine z_puti C (Nat.le_of_ble_eq_true rfl) rfl rfl 38 (Nat.le_of_ble_eq_true rfl) rfl kiX7_next_X7 kfX7_next_183 tyX7 tyX7_ok nmX7 rfl rfl dX7_next_215 ?_
        refine z_nm (fun m23 e_m23 => ?_)
        replace hf := bn_to e_m23 hf
        refine z_goto (tgt := 147) C dX7_next_218 (by decide) ?_
        cases hf
        exact z_sub [0, 1, 2] rfl (ih m23 hz)
      · replace hf := if_f c28 hf
        refine z_bipush C (v := 10) dX7_next_179 rfl ?_
        refine z_aload_n C 0 dX7_next_181 rfl rfl ?_
        refine z_geti C (Nat.le_of_ble_eq_true rfl) rfl rfl 41 (Nat.le_of_ble_eq_true rfl) rfl kiX7_next_X7 kfX7_next_200 dX7_next_182 ?_
        refine z_imul C dX7_next_185 ?_
        refine z_aload_n C 0 dX7_next_186 rfl rfl ?_
        refine z_aload_n C 0 dX7_next_187 rfl rfl ?_
        refine z_geti C (Nat.le_of_ble_eq_true rfl) rfl rfl 38 (Nat.le_of_ble_eq_true rfl) rfl kiX7_next_X7 kfX7_next_183 dX7_next_188 ?_
        obtain ⟨r25, hc24, hf⟩ := zb_el hf
        refine z_cVi C (c_X7_look _ _ hc24) rfl gX7_next_X7_look rfl rfl zdX7_look rfl (Nat.le_of_ble_eq_true rfl) rfl rfl rfl ⟨Nat.le_of_ble_eq_true rfl, Nat.le_of_ble_eq_true rfl⟩ (Nat.le_of_ble_eq_true rfl) dX7_next_191 rfl ?_
        refine z_iadd C dX7_next_194 ?_
        refine z_bipush C (v := 48) dX7_next_195 rfl ?_
        refine z_isub C dX7_next_197 ?_
        refine z_goto (tgt := 205) C dX7_next_198 (by decide) ?_
        refine z_puti C (Nat.le_of_ble_eq_true rfl) rfl rfl 41 (Nat.le_of_ble_eq_true rfl) rfl kiX7_next_X7 kfX7_next_200 tyX7 tyX7_ok nmX7 rfl rfl dX7_next_205 ?_
        refine z_nm (fun m26 e_m26 => ?_)
        replace hf := bn_to e_m26 hf
        refine z_aload_n C 0 dX7_next_208 rfl rfl ?_
        refine z_dup_a C dX7_next_209 ?_
        refine z_geti C (Nat.le_of_ble_eq_true rfl) rfl rfl 38 (Nat.le_of_ble_eq_true rfl) rfl kiX7_next_X7 kfX7_next_183 dX7_next_210 ?_
        refine z_iconst C (v := 1) dX7_next_213 rfl ?_
        refine z_iadd C dX7_next_214 ?_
        refine z_puti C (Nat.le_of_ble_eq_true rfl) rfl rfl 38 (Nat.le_of_ble_eq_true rfl) rfl kiX7_next_X7 kfX7_next_183 tyX7 tyX7_ok nmX7 rfl rfl dX7_next_215 ?_
        refine z_nm (fun m27 e_m27 => ?_)
        replace hf := bn_to e_m27 hf
        refine z_goto (tgt := 147) C dX7_next_218 (by decide) ?_
        cases hf
        exact z_sub [0, 1, 2] rfl (ih m27 hz)
set_option maxRecDepth 100000 in
set_option maxHeartbeats 4000000 in
theorem w_X7_next_147 {K : ZK} (C : zOK MM K cX7_next 3 none RX7 wsX7_next rmX7_next) {r9 : Int32} {x89 : Int32}  {o0 : Mem} (hk : zGo MM K o0 [(0, .ref ((zw K).2.1 0)), (1, .int r9), (2, .int x89)] 221 []) : ∀ (n : Nat) (m91 : Mem), l_X7_next_147 x89 n m91 = some o0 → zGo MM K m91 [(0, .ref ((zw K).2.1 0)), (1, .int r9), (2, .int x89)] 147 [] := by
  intro n
  induction n with
  | zero =>
    intro m91 hf
    cases hf
  | succ n ih =>
    intro m91 hf
    obtain ⟨z, hf, hz⟩ := zlp_el hf
    replace hf : t_X7_next_147 x89 m91 = some z := hf
    unfold t_X7_next_147 at hf
    refine z_aload_n C 0 dX7_next_147 rfl rfl ?_
    refine z_aload_n C 0 dX7_next_148 rfl rfl ?_
    refine z_geti C (Nat.le_of_ble_eq_true rfl) rfl rfl 38 (Nat.le_of_ble_eq_true rfl) rfl kiX7_next_X7 kfX7_next_183 dX7_next_149 ?_
    obtain ⟨r93, hc92, hf⟩ := zb_el hf
    refine z_cVi C (c_X7_look _ _ hc92) rfl gX7_next_X7_look rfl rfl zdX7_look rfl (Nat.le_of_ble_eq_true rfl) rfl rfl rfl ⟨Nat.le_of_ble_eq_true rfl, Nat.le_of_ble_eq_true rfl⟩ (Nat.le_of_ble_eq_true rfl) dX7_next_152 rfl ?_
    refine z_i2l C dX7_next_155 ?_
    refine z_ldc2 C (v := 48) dX7_next_156 kcX7_next_203 ?_
    refine z_ldc2 C (v := 57) dX7_next_159 kcX7_next_205 ?_
    obtain ⟨r95, hc94, hf⟩ := zb_el hf
    refine z_cSi C (c_X7_in _ _ hc94) rfl gX7_next_X7_in rfl rfl zdX7_in.2 rfl ⟨Nat.le_of_ble_eq_true rfl, Nat.le_of_ble_eq_true rfl⟩ (Nat.le_of_ble_eq_true rfl) dX7_next_162 rfl ?_
    refine z_if_eq (tgt := 221) C dX7_next_165 (by decide) (fun c103 => ?_) (fun c103 => ?_)
    · replace hf := if_t c103 hf
      cases hf
      replace hz := zlz_r hz
      cases hz
      exact z_sub [0, 1, 2] rfl hk
    · replace hf := if_f c103 hf
      refine z_aload_n C 0 dX7_next_168 rfl rfl ?_
      refine z_aload_n C 0 dX7_next_169 rfl rfl ?_
      refine z_geti C (Nat.le_of_ble_eq_true rfl) rfl rfl 38 (Nat.le_of_ble_eq_true rfl) rfl kiX7_next_X7 kfX7_next_183 dX7_next_170 ?_
      refine z_iload_n C 2 dX7_next_173 rfl rfl ?_
      refine z_isub C dX7_next_174 ?_
      refine z_iconst C (v := 4) dX7_next_175 rfl ?_
      refine z_icmp_ge (tgt := 201) C dX7_next_176 (by decide) (fun c102 => ?_) (fun c102 => ?_)
      · replace hf := if_t c102 hf
        refine z_aload_n C 0 dX7_next_201 rfl rfl ?_
        refine z_geti C (Nat.le_of_ble_eq_true rfl) rfl rfl 41 (Nat.le_of_ble_eq_true rfl) rfl kiX7_next_X7 kfX7_next_200 dX7_next_202 ?_
        refine z_puti C (Nat.le_of_ble_eq_true rfl) rfl rfl 41 (Nat.le_of_ble_eq_true rfl) rfl kiX7_next_X7 kfX7_next_200 tyX7 tyX7_ok nmX7 rfl rfl dX7_next_205 ?_
        refine z_nm (fun m96 e_m96 => ?_)
        replace hf := bn_to e_m96 hf
        refine z_aload_n C 0 dX7_next_208 rfl rfl ?_
        refine z_dup_a C dX7_next_209 ?_
        refine z_geti C (Nat.le_of_ble_eq_true rfl) rfl rfl 38 (Nat.le_of_ble_eq_true rfl) rfl kiX7_next_X7 kfX7_next_183 dX7_next_210 ?_
        refine z_iconst C (v := 1) dX7_next_213 rfl ?_
        refine z_iadd C dX7_next_214 ?_
        refine z_puti C (Nat.le_of_ble_eq_true rfl) rfl rfl 38 (Nat.le_of_ble_eq_true rfl) rfl kiX7_next_X7 kfX7_next_183 tyX7 tyX7_ok nmX7 rfl rfl dX7_next_215 ?_
        refine z_nm (fun m97 e_m97 => ?_)
        replace hf := bn_to e_m97 hf
        refine z_goto (tgt := 147) C dX7_next_218 (by decide) ?_
        cases hf
        exact z_sub [0, 1, 2] rfl (ih m97 hz)
      · replace hf := if_f c102 hf
        refine z_bipush C (v := 10) dX7_next_179 rfl ?_
        refine z_aload_n C 0 dX7_next_181 rfl rfl ?_
        refine z_geti C (Nat.le_of_ble_eq_true rfl) rfl rfl 41 (Nat.le_of_ble_eq_true rfl) rfl kiX7_next_X7 kfX7_next_200 dX7_next_182 ?_
        refine z_imul C dX7_next_185 ?_
        refine z_aload_n C 0 dX7_next_186 rfl rfl ?_
        refine z_aload_n C 0 dX7_next_187 rfl rfl ?_
        refine z_geti C (Nat.le_of_ble_eq_true rfl) rfl rfl 38 (Nat.le_of_ble_eq_true rfl) rfl kiX7_next_X7 kfX7_next_183 dX7_next_188 ?_
        obtain ⟨r99, hc98, hf⟩ := zb_el hf
        refine z_cVi C (c_X7_look _ _ hc98) rfl gX7_next_X7_look rfl rfl zdX7_look rfl (Nat.le_of_ble_eq_true rfl) rfl rfl rfl ⟨Nat.le_of_ble_eq_true rfl, Nat.le_of_ble_eq_true rfl⟩ (Nat.le_of_ble_eq_true rfl) dX7_next_191 rfl ?_
        refine z_iadd C dX7_next_194 ?_
        refine z_bipush C (v := 48) dX7_next_195 rfl ?_
        refine z_isub C dX7_next_197 ?_
        refine z_goto (tgt := 205) C dX7_next_198 (by decide) ?_
        refine z_puti C (Nat.le_of_ble_eq_true rfl) rfl rfl 41 (Nat.le_of_ble_eq_true rfl) rfl kiX7_next_X7 kfX7_next_200 tyX7 tyX7_ok nmX7 rfl rfl dX7_next_205 ?_
        refine z_nm (fun m100 e_m100 => ?_)
        replace hf := bn_to e_m100 hf
        refine z_aload_n C 0 dX7_next_208 rfl rfl ?_
        refine z_dup_a C dX7_next_209 ?_
        refine z_geti C (Nat.le_of_ble_eq_true rfl) rfl rfl 38 (Nat.le_of_ble_eq_true rfl) rfl kiX7_next_X7 kfX7_next_183 dX7_next_210 ?_
        refine z_iconst C (v := 1) dX7_next_213 rfl ?_
        refine z_iadd C dX7_next_214 ?_
        refine z_puti C (Nat.le_of_ble_eq_true rfl) rfl rfl 38 (Nat.le_of_ble_eq_true rfl) rfl kiX7_next_X7 kfX7_next_183 tyX7 tyX7_ok nmX7 rfl rfl dX7_next_215 ?_
        refine z_nm (fun m101 e_m101 => ?_)
        replace hf := bn_to e_m101 hf
        refine z_goto (tgt := 147) C dX7_next_218 (by decide) ?_
        cases hf
        exact z_sub [0, 1, 2] rfl (ih m101 hz)
set_option maxRecDepth 100000 in
set_option maxHeartbeats 4000000 in
theorem c_X7_next (l : Launch) (w : ZW) {m : Mem}  {m9 : Mem}  (hf : s_X7_next m  = some m9) : zCv MM l w yX7_next wsX7_next rmX7_next [.ref (w.2.1 0)] m m9 := by
  refine z_met_v MM_ok (own := RX7) (by decide +kernel) rfl rfl (Nat.le_of_ble_eq_true rfl) ?_
  intro K C hKw hKl hret
  subst hKw
  subst hKl
  unfold s_X7_next at hf
  show zGo MM K m [(0, .ref ((zw K).2.1 0))] 0 []
  obtain ⟨m6, hg, hf⟩ := zb_el hf
  refine z_sub [0] rfl (w_X7_next_0 C  ?_ _ _ hg)
  clear hg
  refine z_aload_n C 0 dX7_next_26 rfl rfl ?_
  refine z_aload_n C 0 dX7_next_27 rfl rfl ?_
  refine z_geti C (Nat.le_of_ble_eq_true rfl) rfl rfl 38 (Nat.le_of_ble_eq_true rfl) rfl kiX7_next_X7 kfX7_next_183 dX7_next_28 ?_
  refine z_puti C (Nat.le_of_ble_eq_true rfl) rfl rfl 39 (Nat.le_of_ble_eq_true rfl) rfl kiX7_next_X7 kfX7_next_186 tyX7 tyX7_ok nmX7 rfl rfl dX7_next_31 ?_
  refine z_nm (fun m7 e_m7 => ?_)
  replace hf := bn_to e_m7 hf
  refine z_aload_n C 0 dX7_next_34 rfl rfl ?_
  refine z_aload_n C 0 dX7_next_35 rfl rfl ?_
  refine z_geti C (Nat.le_of_ble_eq_true rfl) rfl rfl 38 (Nat.le_of_ble_eq_true rfl) rfl kiX7_next_X7 kfX7_next_183 dX7_next_36 ?_
  obtain ⟨r9, hc8, hf⟩ := zb_el hf
  refine z_cVi C (c_X7_look _ _ hc8) rfl gX7_next_X7_look rfl rfl zdX7_look rfl (Nat.le_of_ble_eq_true rfl) rfl rfl rfl ⟨Nat.le_of_ble_eq_true rfl, Nat.le_of_ble_eq_true rfl⟩ (Nat.le_of_ble_eq_true rfl) dX7_next_39 rfl ?_
  refine z_istore_n C (lv2 := [(0, .ref ((zw K).2.1 0)), (1, .int r9)]) [1, 0] dX7_next_42 rfl (Nat.le_of_ble_eq_true rfl) rfl ?_
  refine z_iload_n C 1 dX7_next_43 rfl rfl ?_
  refine z_if_ge (tgt := 55) C dX7_next_44 (by decide) (fun c122 => ?_) (fun c122 => ?_)
  · replace hf := if_t c122 hf
    refine z_iload_n C 1 dX7_next_55 rfl rfl ?_
    refine z_i2l C dX7_next_56 ?_
    refine z_ldc2 C (v := 65) dX7_next_57 kcX7_next_196 ?_
    refine z_ldc2 C (v := 90) dX7_next_60 kcX7_next_198 ?_
    obtain ⟨r11, hc10, hf⟩ := zb_el hf
    refine z_cSi C (c_X7_in _ _ hc10) rfl gX7_next_X7_in rfl rfl zdX7_in.2 rfl ⟨Nat.le_of_ble_eq_true rfl, Nat.le_of_ble_eq_true rfl⟩ (Nat.le_of_ble_eq_true rfl) dX7_next_63 rfl ?_
    refine z_if_eq (tgt := 92) C dX7_next_66 (by decide) (fun c120 => ?_) (fun c120 => ?_)
    · replace hf := if_t c120 hf
      refine z_iload_n C 1 dX7_next_92 rfl rfl ?_
      refine z_bipush C (v := 45) dX7_next_93 rfl ?_
      refine z_icmp_eq (tgt := 112) C dX7_next_95 (by decide) (fun c116 => ?_) (fun c116 => ?_)
      · replace hf := if_t c116 hf
        refine z_aload_n C 0 dX7_next_112 rfl rfl ?_
        refine z_iconst C (v := 2) dX7_next_113 rfl ?_
        refine z_puti C (Nat.le_of_ble_eq_true rfl) rfl rfl 40 (Nat.le_of_ble_eq_true rfl) rfl kiX7_next_X7 kfX7_next_193 tyX7 tyX7_ok nmX7 rfl rfl dX7_next_114 ?_
        refine z_nm (fun m12 e_m12 => ?_)
        replace hf := bn_to e_m12 hf
        refine z_aload_n C 0 dX7_next_117 rfl rfl ?_
        refine z_dup_a C dX7_next_118 ?_
        refine z_geti C (Nat.le_of_ble_eq_true rfl) rfl rfl 38 (Nat.le_of_ble_eq_true rfl) rfl kiX7_next_X7 kfX7_next_183 dX7_next_119 ?_
        refine z_iload_n C 1 dX7_next_122 rfl rfl ?_
        refine z_bipush C (v := 45) dX7_next_123 rfl ?_
        obtain ⟨y13, hg, hf⟩ := zb_el hf
        have hj : zGo MM K m12 [(0, .ref ((zw K).2.1 0)), (1, .int r9)] 133 [.int y13, .int (m12 0 38), .ref ((zw K).2.1 0)] := by
          refine z_iadd C dX7_next_133 ?_
          refine z_puti C (Nat.le_of_ble_eq_true rfl) rfl rfl 38 (Nat.le_of_ble_eq_true rfl) rfl kiX7_next_X7 kfX7_next_183 tyX7 tyX7_ok nmX7 rfl rfl dX7_next_134 ?_
          refine z_nm (fun m14 e_m14 => ?_)
          replace hf := bn_to e_m14 hf
          refine z_aload_n C 0 dX7_next_137 rfl rfl ?_
          refine z_geti C (Nat.le_of_ble_eq_true rfl) rfl rfl 38 (Nat.le_of_ble_eq_true rfl) rfl kiX7_next_X7 kfX7_next_183 dX7_next_138 ?_
          refine z_topi (fun x15 e_x15 => ?_)
          replace hf := bn_to e_x15 hf
          refine z_istore_n C (lv2 := [(0, .ref ((zw K).2.1 0)), (1, .int r9), (2, .int x15)]) [1, 2, 0] dX7_next_141 rfl (Nat.le_of_ble_eq_true rfl) rfl ?_
          refine z_aload_n C 0 dX7_next_142 rfl rfl ?_
          refine z_iconst C (v := 0) dX7_next_143 rfl ?_
          refine z_puti C (Nat.le_of_ble_eq_true rfl) rfl rfl 41 (Nat.le_of_ble_eq_true rfl) rfl kiX7_next_X7 kfX7_next_200 tyX7 tyX7_ok nmX7 rfl rfl dX7_next_144 ?_
          refine z_nm (fun m16 e_m16 => ?_)
          replace hf := bn_to e_m16 hf
          obtain ⟨m30, hg, hf⟩ := zb_el hf
          refine z_sub [0, 1, 2] rfl (w_X7_next_147 C  ?_ _ _ hg)
          clear hg
          refine z_aload_n C 0 dX7_next_221 rfl rfl ?_
          refine z_iload_n C 1 dX7_next_222 rfl rfl ?_
          refine z_bipush C (v := 45) dX7_next_223 rfl ?_
          obtain ⟨y31, hg, hf⟩ := zb_el hf
          have hj : zGo MM K m30 [(0, .ref ((zw K).2.1 0)), (2, .int x15)] 240 [.int y31, .ref ((zw K).2.1 0)] := by
            refine z_puti C (Nat.le_of_ble_eq_true rfl) rfl rfl 41 (Nat.le_of_ble_eq_true rfl) rfl kiX7_next_X7 kfX7_next_200 tyX7 tyX7_ok nmX7 rfl rfl dX7_next_240 ?_
            refine z_nm (fun m32 e_m32 => ?_)
            replace hf := bn_to e_m32 hf
            refine z_aload_n C 0 dX7_next_243 rfl rfl ?_
            refine z_geti C (Nat.le_of_ble_eq_true rfl) rfl rfl 38 (Nat.le_of_ble_eq_true rfl) rfl kiX7_next_X7 kfX7_next_183 dX7_next_244 ?_
            refine z_iload_n C 1 dX7_next_247 rfl rfl ?_
            refine z_icmp_eq (tgt := 261) C dX7_next_248 (by decide) (fun c38 => ?_) (fun c38 => ?_)
            · replace hf := if_t c38 hf
              refine z_aload_n C 0 dX7_next_261 rfl rfl ?_
              refine z_iconst C (v := 1) dX7_next_262 rfl ?_
              refine z_aload_n C 0 dX7_next_263 rfl rfl ?_
              refine z_geti C (Nat.le_of_ble_eq_true rfl) rfl rfl 39 (Nat.le_of_ble_eq_true rfl) rfl kiX7_next_X7 kfX7_next_186 dX7_next_264 ?_
              obtain ⟨m34, hc33, hf⟩ := zb_el hf
              refine z_cVv C (c_X7_fails _ _ hc33) rfl gX7_next_X7_fails rfl rfl zdX7_fails rfl (Nat.le_of_ble_eq_true rfl) rfl rfl rfl ⟨Nat.le_of_ble_eq_true rfl, Nat.le_of_ble_eq_true rfl⟩ (Nat.le_of_ble_eq_true rfl) dX7_next_267 rfl ?_
              refine z_goto (tgt := 415) C dX7_next_270 (by decide) ?_
              cases hf
              exact hret _ _ dX7_next_415
            · replace hf := if_f c38 hf
              refine z_aload_n C 0 dX7_next_251 rfl rfl ?_
              refine z_geti C (Nat.le_of_ble_eq_true rfl) rfl rfl 38 (Nat.le_of_ble_eq_true rfl) rfl kiX7_next_X7 kfX7_next_183 dX7_next_252 ?_
              refine z_iload_n C 1 dX7_next_255 rfl rfl ?_
              refine z_isub C dX7_next_256 ?_
              refine z_iconst C (v := 4) dX7_next_257 rfl ?_
              refine z_icmp_le (tgt := 270) C dX7_next_258 (by decide) (fun c37 => ?_) (fun c37 => ?_)
              · replace hf := if_t c37 hf
                refine z_goto (tgt := 415) C dX7_next_270 (by decide) ?_
                cases hf
                exact hret _ _ dX7_next_415
              · replace hf := if_f c37 hf
                refine z_aload_n C 0 dX7_next_261 rfl rfl ?_
                refine z_iconst C (v := 1) dX7_next_262 rfl ?_
                refine z_aload_n C 0 dX7_next_263 rfl rfl ?_
                refine z_geti C (Nat.le_of_ble_eq_true rfl) rfl rfl 39 (Nat.le_of_ble_eq_true rfl) rfl kiX7_next_X7 kfX7_next_186 dX7_next_264 ?_
                obtain ⟨m36, hc35, hf⟩ := zb_el hf
                refine z_cVv C (c_X7_fails _ _ hc35) rfl gX7_next_X7_fails rfl rfl zdX7_fails rfl (Nat.le_of_ble_eq_true rfl) rfl rfl rfl ⟨Nat.le_of_ble_eq_true rfl, Nat.le_of_ble_eq_true rfl⟩ (Nat.le_of_ble_eq_true rfl) dX7_next_267 rfl ?_
                refine z_goto (tgt := 415) C dX7_next_270 (by decide) ?_
                cases hf
                exact hret _ _ dX7_next_415
          replace hf := hg
          clear hg
          refine z_icmp_ne (tgt := 236) C dX7_next_225 (by decide) (fun c39 => ?_) (fun c39 => ?_)
          · replace hf := if_f c39 hf
            refine z_aload_n C 0 dX7_next_236 rfl rfl ?_
            refine z_geti C (Nat.le_of_ble_eq_true rfl) rfl rfl 41 (Nat.le_of_ble_eq_true rfl) rfl kiX7_next_X7 kfX7_next_200 dX7_next_237 ?_
            cases hf
            exact z_sub [0, 2] rfl hj
          · replace hf := if_t c39 hf
            refine z_aload_n C 0 dX7_next_228 rfl rfl ?_
            refine z_geti C (Nat.le_of_ble_eq_true rfl) rfl rfl 41 (Nat.le_of_ble_eq_true rfl) rfl kiX7_next_X7 kfX7_next_200 dX7_next_229 ?_
            refine z_ineg C dX7_next_232 ?_
            refine z_goto (tgt := 240) C dX7_next_233 (by decide) ?_
            cases hf
            exact z_sub [0, 2] rfl hj
        replace hf := hg
        clear hg
        refine z_icmp_ne (tgt := 132) C dX7_next_125 (by decide) (fun c40 => ?_) (fun c40 => ?_)
        · replace hf := if_f c40 hf
          refine z_iconst C (v := 0) dX7_next_132 rfl ?_
          cases hf
          exact z_sub [0, 1] rfl hj
        · replace hf := if_t c40 hf
          refine z_iconst C (v := 1) dX7_next_128 rfl ?_
          refine z_goto (tgt := 133) C dX7_next_129 (by decide) ?_
          cases hf
          exact z_sub [0, 1] rfl hj
      · replace hf := if_f c116 hf
        refine z_iload_n C 1 dX7_next_98 rfl rfl ?_
        refine z_i2l C dX7_next_99 ?_
        refine z_ldc2 C (v := 48) dX7_next_100 kcX7_next_203 ?_
        refine z_ldc2 C (v := 57) dX7_next_103 kcX7_next_205 ?_
        obtain ⟨r42, hc41, hf⟩ := zb_el hf
        refine z_cSi C (c_X7_in _ _ hc41) rfl gX7_next_X7_in rfl rfl zdX7_in.2 rfl ⟨Nat.le_of_ble_eq_true rfl, Nat.le_of_ble_eq_true rfl⟩ (Nat.le_of_ble_eq_true rfl) dX7_next_106 rfl ?_
        refine z_if_eq (tgt := 273) C dX7_next_109 (by decide) (fun c115 => ?_) (fun c115 => ?_)
        · replace hf := if_t c115 hf
          refine z_iload_n C 1 dX7_next_273 rfl rfl ?_
          refine z_i2l C dX7_next_274 ?_
          refine z_ldc2 C (v := 97) dX7_next_275 kcX7_next_211 ?_
          refine z_ldc2 C (v := 122) dX7_next_278 kcX7_next_213 ?_
          obtain ⟨r44, hc43, hf⟩ := zb_el hf
          refine z_cSi C (c_X7_in _ _ hc43) rfl gX7_next_X7_in rfl rfl zdX7_in.2 rfl ⟨Nat.le_of_ble_eq_true rfl, Nat.le_of_ble_eq_true rfl⟩ (Nat.le_of_ble_eq_true rfl) dX7_next_281 rfl ?_
          refine z_if_eq (tgt := 322) C dX7_next_284 (by decide) (fun c85 => ?_) (fun c85 => ?_)
          · replace hf := if_t c85 hf
            refine z_iload_n C 1 dX7_next_322 rfl rfl ?_
            refine z_bipush C (v := 46) dX7_next_323 rfl ?_
            refine z_icmp_ne (tgt := 376) C dX7_next_325 (by decide) (fun c77 => ?_) (fun c77 => ?_)
            · replace hf := if_f c77 hf
              refine z_iload_n C 1 dX7_next_376 rfl rfl ?_
              obtain ⟨r46, hc45, hf⟩ := zb_el hf
              refine z_cSi C (c_X7_isSign _ _ hc45) rfl gX7_next_X7_isSign rfl rfl zdX7_isSign.2 rfl ⟨Nat.le_of_ble_eq_true rfl, Nat.le_of_ble_eq_true rfl⟩ (Nat.le_of_ble_eq_true rfl) dX7_next_377 rfl ?_
              refine z_if_eq (tgt := 406) C dX7_next_380 (by decide) (fun c52 => ?_) (fun c52 => ?_)
              · replace hf := if_t c52 hf
                refine z_aload_n C 0 dX7_next_406 rfl rfl ?_
                refine z_iconst C (v := 1) dX7_next_407 rfl ?_
                refine z_aload_n C 0 dX7_next_408 rfl rfl ?_
                refine z_geti C (Nat.le_of_ble_eq_true rfl) rfl rfl 39 (Nat.le_of_ble_eq_true rfl) rfl kiX7_next_X7 kfX7_next_186 dX7_next_409 ?_
                obtain ⟨m48, hc47, hf⟩ := zb_el hf
                refine z_cVv C (c_X7_fails _ _ hc47) rfl gX7_next_X7_fails rfl rfl zdX7_fails rfl (Nat.le_of_ble_eq_true rfl) rfl rfl rfl ⟨Nat.le_of_ble_eq_true rfl, Nat.le_of_ble_eq_true rfl⟩ (Nat.le_of_ble_eq_true rfl) dX7_next_412 rfl ?_
                cases hf
                exact hret _ _ dX7_next_415
              · replace hf := if_f c52 hf
                refine z_aload_n C 0 dX7_next_383 rfl rfl ?_
                refine z_iconst C (v := 4) dX7_next_384 rfl ?_
                refine z_puti C (Nat.le_of_ble_eq_true rfl) rfl rfl 40 (Nat.le_of_ble_eq_true rfl) rfl kiX7_next_X7 kfX7_next_193 tyX7 tyX7_ok nmX7 rfl rfl dX7_next_385 ?_
                refine z_nm (fun m49 e_m49 => ?_)
                replace hf := bn_to e_m49 hf
                refine z_aload_n C 0 dX7_next_388 rfl rfl ?_
                refine z_iload_n C 1 dX7_next_389 rfl rfl ?_
                refine z_puti C (Nat.le_of_ble_eq_true rfl) rfl rfl 41 (Nat.le_of_ble_eq_true rfl) rfl kiX7_next_X7 kfX7_next_200 tyX7 tyX7_ok nmX7 rfl rfl dX7_next_390 ?_
                refine z_nm (fun m50 e_m50 => ?_)
                replace hf := bn_to e_m50 hf
                refine z_aload_n C 0 dX7_next_393 rfl rfl ?_
                refine z_dup_a C dX7_next_394 ?_
                refine z_geti C (Nat.le_of_ble_eq_true rfl) rfl rfl 38 (Nat.le_of_ble_eq_true rfl) rfl kiX7_next_X7 kfX7_next_183 dX7_next_395 ?_
                refine z_iconst C (v := 1) dX7_next_398 rfl ?_
                refine z_iadd C dX7_next_399 ?_
                refine z_puti C (Nat.le_of_ble_eq_true rfl) rfl rfl 38 (Nat.le_of_ble_eq_true rfl) rfl kiX7_next_X7 kfX7_next_183 tyX7 tyX7_ok nmX7 rfl rfl dX7_next_400 ?_
                refine z_nm (fun m51 e_m51 => ?_)
                replace hf := bn_to e_m51 hf
                refine z_goto (tgt := 415) C dX7_next_403 (by decide) ?_
                cases hf
                exact hret _ _ dX7_next_415
            · replace hf := if_t c77 hf
              refine z_aload_n C 0 dX7_next_328 rfl rfl ?_
              refine z_aload_n C 0 dX7_next_329 rfl rfl ?_
              refine z_geti C (Nat.le_of_ble_eq_true rfl) rfl rfl 38 (Nat.le_of_ble_eq_true rfl) rfl kiX7_next_X7 kfX7_next_183 dX7_next_330 ?_
              refine z_iconst C (v := 1) dX7_next_333 rfl ?_
              refine z_iadd C dX7_next_334 ?_
              obtain ⟨r54, hc53, hf⟩ := zb_el hf
              refine z_cVi C (c_X7_look _ _ hc53) rfl gX7_next_X7_look rfl rfl zdX7_look rfl (Nat.le_of_ble_eq_true rfl) rfl rfl rfl ⟨Nat.le_of_ble_eq_true rfl, Nat.le_of_ble_eq_true rfl⟩ (Nat.le_of_ble_eq_true rfl) dX7_next_335 rfl ?_
              refine z_bipush C (v := 46) dX7_next_338 rfl ?_
              refine z_icmp_ne (tgt := 376) C dX7_next_340 (by decide) (fun c76 => ?_) (fun c76 => ?_)
              · replace hf := if_f c76 hf
                refine z_iload_n C 1 dX7_next_376 rfl rfl ?_
                obtain ⟨r56, hc55, hf⟩ := zb_el hf
                refine z_cSi C (c_X7_isSign _ _ hc55) rfl gX7_next_X7_isSign rfl rfl zdX7_isSign.2 rfl ⟨Nat.le_of_ble_eq_true rfl, Nat.le_of_ble_eq_true rfl⟩ (Nat.le_of_ble_eq_true rfl) dX7_next_377 rfl ?_
                refine z_if_eq (tgt := 406) C dX7_next_380 (by decide) (fun c62 => ?_) (fun c62 => ?_)
                · replace hf := if_t c62 hf
                  refine z_aload_n C 0 dX7_next_406 rfl rfl ?_
                  refine z_iconst C (v := 1) dX7_next_407 rfl ?_
                  refine z_aload_n C 0 dX7_next_408 rfl rfl ?_
                  refine z_geti C (Nat.le_of_ble_eq_true rfl) rfl rfl 39 (Nat.le_of_ble_eq_true rfl) rfl kiX7_next_X7 kfX7_next_186 dX7_next_409 ?_
                  obtain ⟨m58, hc57, hf⟩ := zb_el hf
                  refine z_cVv C (c_X7_fails _ _ hc57) rfl gX7_next_X7_fails rfl rfl zdX7_fails rfl (Nat.le_of_ble_eq_true rfl) rfl rfl rfl ⟨Nat.le_of_ble_eq_true rfl, Nat.le_of_ble_eq_true rfl⟩ (Nat.le_of_ble_eq_true rfl) dX7_next_412 rfl ?_
                  cases hf
                  exact hret _ _ dX7_next_415
                · replace hf := if_f c62 hf
                  refine z_aload_n C 0 dX7_next_383 rfl rfl ?_
                  refine z_iconst C (v := 4) dX7_next_384 rfl ?_
                  refine z_puti C (Nat.le_of_ble_eq_true rfl) rfl rfl 40 (Nat.le_of_ble_eq_true rfl) rfl kiX7_next_X7 kfX7_next_193 tyX7 tyX7_ok nmX7 rfl rfl dX7_next_385 ?_
                  refine z_nm (fun m59 e_m59 => ?_)
                  replace hf := bn_to e_m59 hf
                  refine z_aload_n C 0 dX7_next_388 rfl rfl ?_
                  refine z_iload_n C 1 dX7_next_389 rfl rfl ?_
                  refine z_puti C (Nat.le_of_ble_eq_true rfl) rfl rfl 41 (Nat.le_of_ble_eq_true rfl) rfl kiX7_next_X7 kfX7_next_200 tyX7 tyX7_ok nmX7 rfl rfl dX7_next_390 ?_
                  refine z_nm (fun m60 e_m60 => ?_)
                  replace hf := bn_to e_m60 hf
                  refine z_aload_n C 0 dX7_next_393 rfl rfl ?_
                  refine z_dup_a C dX7_next_394 ?_
                  refine z_geti C (Nat.le_of_ble_eq_true rfl) rfl rfl 38 (Nat.le_of_ble_eq_true rfl) rfl kiX7_next_X7 kfX7_next_183 dX7_next_395 ?_
                  refine z_iconst C (v := 1) dX7_next_398 rfl ?_
                  refine z_iadd C dX7_next_399 ?_
                  refine z_puti C (Nat.le_of_ble_eq_true rfl) rfl rfl 38 (Nat.le_of_ble_eq_true rfl) rfl kiX7_next_X7 kfX7_next_183 tyX7 tyX7_ok nmX7 rfl rfl dX7_next_400 ?_
                  refine z_nm (fun m61 e_m61 => ?_)
                  replace hf := bn_to e_m61 hf
                  refine z_goto (tgt := 415) C dX7_next_403 (by decide) ?_
                  cases hf
                  exact hret _ _ dX7_next_415
              · replace hf := if_t c76 hf
                refine z_aload_n C 0 dX7_next_343 rfl rfl ?_
                refine z_aload_n C 0 dX7_next_344 rfl rfl ?_
                refine z_geti C (Nat.le_of_ble_eq_true rfl) rfl rfl 38 (Nat.le_of_ble_eq_true rfl) rfl kiX7_next_X7 kfX7_next_183 dX7_next_345 ?_
                refine z_iconst C (v := 2) dX7_next_348 rfl ?_
                refine z_iadd C dX7_next_349 ?_
                obtain ⟨r64, hc63, hf⟩ := zb_el hf
                refine z_cVi C (c_X7_look _ _ hc63) rfl gX7_next_X7_look rfl rfl zdX7_look rfl (Nat.le_of_ble_eq_true rfl) rfl rfl rfl ⟨Nat.le_of_ble_eq_true rfl, Nat.le_of_ble_eq_true rfl⟩ (Nat.le_of_ble_eq_true rfl) dX7_next_350 rfl ?_
                refine z_bipush C (v := 46) dX7_next_353 rfl ?_
                refine z_icmp_ne (tgt := 376) C dX7_next_355 (by decide) (fun c75 => ?_) (fun c75 => ?_)
                · replace hf := if_f c75 hf
                  refine z_iload_n C 1 dX7_next_376 rfl rfl ?_
                  obtain ⟨r66, hc65, hf⟩ := zb_el hf
                  refine z_cSi C (c_X7_isSign _ _ hc65) rfl gX7_next_X7_isSign rfl rfl zdX7_isSign.2 rfl ⟨Nat.le_of_ble_eq_true rfl, Nat.le_of_ble_eq_true rfl⟩ (Nat.le_of_ble_eq_true rfl) dX7_next_377 rfl ?_
                  refine z_if_eq (tgt := 406) C dX7_next_380 (by decide) (fun c72 => ?_) (fun c72 => ?_)
                  · replace hf := if_t c72 hf
                    refine z_aload_n C 0 dX7_next_406 rfl rfl ?_
                    refine z_iconst C (v := 1) dX7_next_407 rfl ?_
                    refine z_aload_n C 0 dX7_next_408 rfl rfl ?_
                    refine z_geti C (Nat.le_of_ble_eq_true rfl) rfl rfl 39 (Nat.le_of_ble_eq_true rfl) rfl kiX7_next_X7 kfX7_next_186 dX7_next_409 ?_
                    obtain ⟨m68, hc67, hf⟩ := zb_el hf
                    refine z_cVv C (c_X7_fails _ _ hc67) rfl gX7_next_X7_fails rfl rfl zdX7_fails rfl (Nat.le_of_ble_eq_true rfl) rfl rfl rfl ⟨Nat.le_of_ble_eq_true rfl, Nat.le_of_ble_eq_true rfl⟩ (Nat.le_of_ble_eq_true rfl) dX7_next_412 rfl ?_
                    cases hf
                    exact hret _ _ dX7_next_415
                  · replace hf := if_f c72 hf
                    refine z_aload_n C 0 dX7_next_383 rfl rfl ?_
                    refine z_iconst C (v := 4) dX7_next_384 rfl ?_
                    refine z_puti C (Nat.le_of_ble_eq_true rfl) rfl rfl 40 (Nat.le_of_ble_eq_true rfl) rfl kiX7_next_X7 kfX7_next_193 tyX7 tyX7_ok nmX7 rfl rfl dX7_next_385 ?_
                    refine z_nm (fun m69 e_m69 => ?_)
                    replace hf := bn_to e_m69 hf
                    refine z_aload_n C 0 dX7_next_388 rfl rfl ?_
                    refine z_iload_n C 1 dX7_next_389 rfl rfl ?_
                    refine z_puti C (Nat.le_of_ble_eq_true rfl) rfl rfl 41 (Nat.le_of_ble_eq_true rfl) rfl kiX7_next_X7 kfX7_next_200 tyX7 tyX7_ok nmX7 rfl rfl dX7_next_390 ?_
                    refine z_nm (fun m70 e_m70 => ?_)
                    replace hf := bn_to e_m70 hf
                    refine z_aload_n C 0 dX7_next_393 rfl rfl ?_
                    refine z_dup_a C dX7_next_394 ?_
                    refine z_geti C (Nat.le_of_ble_eq_true rfl) rfl rfl 38 (Nat.le_of_ble_eq_true rfl) rfl kiX7_next_X7 kfX7_next_183 dX7_next_395 ?_
                    refine z_iconst C (v := 1) dX7_next_398 rfl ?_
                    refine z_iadd C dX7_next_399 ?_
                    refine z_puti C (Nat.le_of_ble_eq_true rfl) rfl rfl 38 (Nat.le_of_ble_eq_true rfl) rfl kiX7_next_X7 kfX7_next_183 tyX7 tyX7_ok nmX7 rfl rfl dX7_next_400 ?_
                    refine z_nm (fun m71 e_m71 => ?_)
                    replace hf := bn_to e_m71 hf
                    refine z_goto (tgt := 415) C dX7_next_403 (by decide) ?_
                    cases hf
                    exact hret _ _ dX7_next_415
                · replace hf := if_t c75 hf
                  refine z_aload_n C 0 dX7_next_358 rfl rfl ?_
                  refine z_iconst C (v := 5) dX7_next_359 rfl ?_
                  refine z_puti C (Nat.le_of_ble_eq_true rfl) rfl rfl 40 (Nat.le_of_ble_eq_true rfl) rfl kiX7_next_X7 kfX7_next_193 tyX7 tyX7_ok nmX7 rfl rfl dX7_next_360 ?_
                  refine z_nm (fun m73 e_m73 => ?_)
                  replace hf := bn_to e_m73 hf
                  refine z_aload_n C 0 dX7_next_363 rfl rfl ?_
                  refine z_dup_a C dX7_next_364 ?_
                  refine z_geti C (Nat.le_of_ble_eq_true rfl) rfl rfl 38 (Nat.le_of_ble_eq_true rfl) rfl kiX7_next_X7 kfX7_next_183 dX7_next_365 ?_
                  refine z_iconst C (v := 3) dX7_next_368 rfl ?_
                  refine z_iadd C dX7_next_369 ?_
                  refine z_puti C (Nat.le_of_ble_eq_true rfl) rfl rfl 38 (Nat.le_of_ble_eq_true rfl) rfl kiX7_next_X7 kfX7_next_183 tyX7 tyX7_ok nmX7 rfl rfl dX7_next_370 ?_
                  refine z_nm (fun m74 e_m74 => ?_)
                  replace hf := bn_to e_m74 hf
                  refine z_goto (tgt := 415) C dX7_next_373 (by decide) ?_
                  cases hf
                  exact hret _ _ dX7_next_415
          · replace hf := if_f c85 hf
            refine z_aload_n C 0 dX7_next_287 rfl rfl ?_
            refine z_iconst C (v := 3) dX7_next_288 rfl ?_
            refine z_puti C (Nat.le_of_ble_eq_true rfl) rfl rfl 40 (Nat.le_of_ble_eq_true rfl) rfl kiX7_next_X7 kfX7_next_193 tyX7 tyX7_ok nmX7 rfl rfl dX7_next_289 ?_
            refine z_nm (fun m78 e_m78 => ?_)
            replace hf := bn_to e_m78 hf
            refine z_aload_n C 0 dX7_next_292 rfl rfl ?_
            refine z_dup_a C dX7_next_293 ?_
            refine z_geti C (Nat.le_of_ble_eq_true rfl) rfl rfl 38 (Nat.le_of_ble_eq_true rfl) rfl kiX7_next_X7 kfX7_next_183 dX7_next_294 ?_
            refine z_bipush C (v := 6) dX7_next_297 rfl ?_
            refine z_iadd C dX7_next_299 ?_
            refine z_puti C (Nat.le_of_ble_eq_true rfl) rfl rfl 38 (Nat.le_of_ble_eq_true rfl) rfl kiX7_next_X7 kfX7_next_183 tyX7 tyX7_ok nmX7 rfl rfl dX7_next_300 ?_
            refine z_nm (fun m79 e_m79 => ?_)
            replace hf := bn_to e_m79 hf
            refine z_aload_n C 0 dX7_next_303 rfl rfl ?_
            obtain ⟨r81, hc80, hf⟩ := zb_el hf
            refine z_cVi C (c_X7_isClosed _ _ hc80) rfl gX7_next_X7_isClosed rfl rfl zdX7_isClosed rfl (Nat.le_of_ble_eq_true rfl) rfl rfl rfl ⟨Nat.le_of_ble_eq_true rfl, Nat.le_of_ble_eq_true rfl⟩ (Nat.le_of_ble_eq_true rfl) dX7_next_304 rfl ?_
            refine z_if_ne (tgt := 415) C dX7_next_307 (by decide) (fun c84 => ?_) (fun c84 => ?_)
            · replace hf := if_f c84 hf
              cases hf
              exact hret _ _ dX7_next_415
            · replace hf := if_t c84 hf
              refine z_aload_n C 0 dX7_next_310 rfl rfl ?_
              refine z_iconst C (v := 1) dX7_next_311 rfl ?_
              refine z_aload_n C 0 dX7_next_312 rfl rfl ?_
              refine z_geti C (Nat.le_of_ble_eq_true rfl) rfl rfl 39 (Nat.le_of_ble_eq_true rfl) rfl kiX7_next_X7 kfX7_next_186 dX7_next_313 ?_
              obtain ⟨m83, hc82, hf⟩ := zb_el hf
              refine z_cVv C (c_X7_fails _ _ hc82) rfl gX7_next_X7_fails rfl rfl zdX7_fails rfl (Nat.le_of_ble_eq_true rfl) rfl rfl rfl ⟨Nat.le_of_ble_eq_true rfl, Nat.le_of_ble_eq_true rfl⟩ (Nat.le_of_ble_eq_true rfl) dX7_next_316 rfl ?_
              refine z_goto (tgt := 415) C dX7_next_319 (by decide) ?_
              cases hf
              exact hret _ _ dX7_next_415
        · replace hf := if_f c115 hf
          refine z_aload_n C 0 dX7_next_112 rfl rfl ?_
          refine z_iconst C (v := 2) dX7_next_113 rfl ?_
          refine z_puti C (Nat.le_of_ble_eq_true rfl) rfl rfl 40 (Nat.le_of_ble_eq_true rfl) rfl kiX7_next_X7 kfX7_next_193 tyX7 tyX7_ok nmX7 rfl rfl dX7_next_114 ?_
          refine z_nm (fun m86 e_m86 => ?_)
          replace hf := bn_to e_m86 hf
          refine z_aload_n C 0 dX7_next_117 rfl rfl ?_
          refine z_dup_a C dX7_next_118 ?_
          refine z_geti C (Nat.le_of_ble_eq_true rfl) rfl rfl 38 (Nat.le_of_ble_eq_true rfl) rfl kiX7_next_X7 kfX7_next_183 dX7_next_119 ?_
          refine z_iload_n C 1 dX7_next_122 rfl rfl ?_
          refine z_bipush C (v := 45) dX7_next_123 rfl ?_
          obtain ⟨y87, hg, hf⟩ := zb_el hf
          have hj : zGo MM K m86 [(0, .ref ((zw K).2.1 0)), (1, .int r9)] 133 [.int y87, .int (m86 0 38), .ref ((zw K).2.1 0)] := by
            refine z_iadd C dX7_next_133 ?_
            refine z_puti C (Nat.le_of_ble_eq_true rfl) rfl rfl 38 (Nat.le_of_ble_eq_true rfl) rfl kiX7_next_X7 kfX7_next_183 tyX7 tyX7_ok nmX7 rfl rfl dX7_next_134 ?_
            refine z_nm (fun m88 e_m88 => ?_)
            replace hf := bn_to e_m88 hf
            refine z_aload_n C 0 dX7_next_137 rfl rfl ?_
            refine z_geti C (Nat.le_of_ble_eq_true rfl) rfl rfl 38 (Nat.le_of_ble_eq_true rfl) rfl kiX7_next_X7 kfX7_next_183 dX7_next_138 ?_
            refine z_topi (fun x89 e_x89 => ?_)
            replace hf := bn_to e_x89 hf
            refine z_istore_n C (lv2 := [(0, .ref ((zw K).2.1 0)), (1, .int r9), (2, .int x89)]) [1, 2, 0] dX7_next_141 rfl (Nat.le_of_ble_eq_true rfl) rfl ?_
            refine z_aload_n C 0 dX7_next_142 rfl rfl ?_
            refine z_iconst C (v := 0) dX7_next_143 rfl ?_
            refine z_puti C (Nat.le_of_ble_eq_true rfl) rfl rfl 41 (Nat.le_of_ble_eq_true rfl) rfl kiX7_next_X7 kfX7_next_200 tyX7 tyX7_ok nmX7 rfl rfl dX7_next_144 ?_
            refine z_nm (fun m90 e_m90 => ?_)
            replace hf := bn_to e_m90 hf
            obtain ⟨m104, hg, hf⟩ := zb_el hf
            refine z_sub [0, 1, 2] rfl (w_X7_next_147 C  ?_ _ _ hg)
            clear hg
            refine z_aload_n C 0 dX7_next_221 rfl rfl ?_
            refine z_iload_n C 1 dX7_next_222 rfl rfl ?_
            refine z_bipush C (v := 45) dX7_next_223 rfl ?_
            obtain ⟨y105, hg, hf⟩ := zb_el hf
            have hj : zGo MM K m104 [(0, .ref ((zw K).2.1 0)), (2, .int x89)] 240 [.int y105, .ref ((zw K).2.1 0)] := by
              refine z_puti C (Nat.le_of_ble_eq_true rfl) rfl rfl 41 (Nat.le_of_ble_eq_true rfl) rfl kiX7_next_X7 kfX7_next_200 tyX7 tyX7_ok nmX7 rfl rfl dX7_next_240 ?_
              refine z_nm (fun m106 e_m106 => ?_)
              replace hf := bn_to e_m106 hf
              refine z_aload_n C 0 dX7_next_243 rfl rfl ?_
              refine z_geti C (Nat.le_of_ble_eq_true rfl) rfl rfl 38 (Nat.le_of_ble_eq_true rfl) rfl kiX7_next_X7 kfX7_next_183 dX7_next_244 ?_
              refine z_iload_n C 1 dX7_next_247 rfl rfl ?_
              refine z_icmp_eq (tgt := 261) C dX7_next_248 (by decide) (fun c112 => ?_) (fun c112 => ?_)
              · replace hf := if_t c112 hf
                refine z_aload_n C 0 dX7_next_261 rfl rfl ?_
                refine z_iconst C (v := 1) dX7_next_262 rfl ?_
                refine z_aload_n C 0 dX7_next_263 rfl rfl ?_
                refine z_geti C (Nat.le_of_ble_eq_true rfl) rfl rfl 39 (Nat.le_of_ble_eq_true rfl) rfl kiX7_next_X7 kfX7_next_186 dX7_next_264 ?_
                obtain ⟨m108, hc107, hf⟩ := zb_el hf
                refine z_cVv C (c_X7_fails _ _ hc107) rfl gX7_next_X7_fails rfl rfl zdX7_fails rfl (Nat.le_of_ble_eq_true rfl) rfl rfl rfl ⟨Nat.le_of_ble_eq_true rfl, Nat.le_of_ble_eq_true rfl⟩ (Nat.le_of_ble_eq_true rfl) dX7_next_267 rfl ?_
                refine z_goto (tgt := 415) C dX7_next_270 (by decide) ?_
                cases hf
                exact hret _ _ dX7_next_415
              · replace hf := if_f c112 hf
                refine z_aload_n C 0 dX7_next_251 rfl rfl ?_
                refine z_geti C (Nat.le_of_ble_eq_true rfl) rfl rfl 38 (Nat.le_of_ble_eq_true rfl) rfl kiX7_next_X7 kfX7_next_183 dX7_next_252 ?_
                refine z_iload_n C 1 dX7_next_255 rfl rfl ?_
                refine z_isub C dX7_next_256 ?_
                refine z_iconst C (v := 4) dX7_next_257 rfl ?_
                refine z_icmp_le (tgt := 270) C dX7_next_258 (by decide) (fun c111 => ?_) (fun c111 => ?_)
                · replace hf := if_t c111 hf
                  refine z_goto (tgt := 415) C dX7_next_270 (by decide) ?_
                  cases hf
                  exact hret _ _ dX7_next_415
                · replace hf := if_f c111 hf
                  refine z_aload_n C 0 dX7_next_261 rfl rfl ?_
                  refine z_iconst C (v := 1) dX7_next_262 rfl ?_
                  refine z_aload_n C 0 dX7_next_263 rfl rfl ?_
                  refine z_geti C (Nat.le_of_ble_eq_true rfl) rfl rfl 39 (Nat.le_of_ble_eq_true rfl) rfl kiX7_next_X7 kfX7_next_186 dX7_next_264 ?_
                  obtain ⟨m110, hc109, hf⟩ := zb_el hf
                  refine z_cVv C (c_X7_fails _ _ hc109) rfl gX7_next_X7_fails rfl rfl zdX7_fails rfl (Nat.le_of_ble_eq_true rfl) rfl rfl rfl ⟨Nat.le_of_ble_eq_true rfl, Nat.le_of_ble_eq_true rfl⟩ (Nat.le_of_ble_eq_true rfl) dX7_next_267 rfl ?_
                  refine z_goto (tgt := 415) C dX7_next_270 (by decide) ?_
                  cases hf
                  exact hret _ _ dX7_next_415
            replace hf := hg
            clear hg
            refine z_icmp_ne (tgt := 236) C dX7_next_225 (by decide) (fun c113 => ?_) (fun c113 => ?_)
            · replace hf := if_f c113 hf
              refine z_aload_n C 0 dX7_next_236 rfl rfl ?_
              refine z_geti C (Nat.le_of_ble_eq_true rfl) rfl rfl 41 (Nat.le_of_ble_eq_true rfl) rfl kiX7_next_X7 kfX7_next_200 dX7_next_237 ?_
              cases hf
              exact z_sub [0, 2] rfl hj
            · replace hf := if_t c113 hf
              refine z_aload_n C 0 dX7_next_228 rfl rfl ?_
              refine z_geti C (Nat.le_of_ble_eq_true rfl) rfl rfl 41 (Nat.le_of_ble_eq_true rfl) rfl kiX7_next_X7 kfX7_next_200 dX7_next_229 ?_
              refine z_ineg C dX7_next_232 ?_
              refine z_goto (tgt := 240) C dX7_next_233 (by decide) ?_
              cases hf
              exact z_sub [0, 2] rfl hj
          replace hf := hg
          clear hg
          refine z_icmp_ne (tgt := 132) C dX7_next_125 (by decide) (fun c114 => ?_) (fun c114 => ?_)
          · replace hf := if_f c114 hf
            refine z_iconst C (v := 0) dX7_next_132 rfl ?_
            cases hf
            exact z_sub [0, 1] rfl hj
          · replace hf := if_t c114 hf
            refine z_iconst C (v := 1) dX7_next_128 rfl ?_
            refine z_goto (tgt := 133) C dX7_next_129 (by decide) ?_
            cases hf
            exact z_sub [0, 1] rfl hj
    · replace hf := if_f c120 hf
      refine z_aload_n C 0 dX7_next_69 rfl rfl ?_
      refine z_iconst C (v := 1) dX7_next_70 rfl ?_
      refine z_puti C (Nat.le_of_ble_eq_true rfl) rfl rfl 40 (Nat.le_of_ble_eq_true rfl) rfl kiX7_next_X7 kfX7_next_193 tyX7 tyX7_ok nmX7 rfl rfl dX7_next_71 ?_
      refine z_nm (fun m117 e_m117 => ?_)
      replace hf := bn_to e_m117 hf
      refine z_aload_n C 0 dX7_next_74 rfl rfl ?_
      refine z_iload_n C 1 dX7_next_75 rfl rfl ?_
      refine z_puti C (Nat.le_of_ble_eq_true rfl) rfl rfl 41 (Nat.le_of_ble_eq_true rfl) rfl kiX7_next_X7 kfX7_next_200 tyX7 tyX7_ok nmX7 rfl rfl dX7_next_76 ?_
      refine z_nm (fun m118 e_m118 => ?_)
      replace hf := bn_to e_m118 hf
      refine z_aload_n C 0 dX7_next_79 rfl rfl ?_
      refine z_dup_a C dX7_next_80 ?_
      refine z_geti C (Nat.le_of_ble_eq_true rfl) rfl rfl 38 (Nat.le_of_ble_eq_true rfl) rfl kiX7_next_X7 kfX7_next_183 dX7_next_81 ?_
      refine z_iconst C (v := 1) dX7_next_84 rfl ?_
      refine z_iadd C dX7_next_85 ?_
      refine z_puti C (Nat.le_of_ble_eq_true rfl) rfl rfl 38 (Nat.le_of_ble_eq_true rfl) rfl kiX7_next_X7 kfX7_next_183 tyX7 tyX7_ok nmX7 rfl rfl dX7_next_86 ?_
      refine z_nm (fun m119 e_m119 => ?_)
      replace hf := bn_to e_m119 hf
      refine z_goto (tgt := 415) C dX7_next_89 (by decide) ?_
      cases hf
      exact hret _ _ dX7_next_415
  · replace hf := if_f c122 hf
    refine z_aload_n C 0 dX7_next_47 rfl rfl ?_
    refine z_iconst C (v := 0) dX7_next_48 rfl ?_
    refine z_puti C (Nat.le_of_ble_eq_true rfl) rfl rfl 40 (Nat.le_of_ble_eq_true rfl) rfl kiX7_next_X7 kfX7_next_193 tyX7 tyX7_ok nmX7 rfl rfl dX7_next_49 ?_
    refine z_nm (fun m121 e_m121 => ?_)
    replace hf := bn_to e_m121 hf
    refine z_goto (tgt := 415) C dX7_next_52 (by decide) ?_
    cases hf
    exact hret _ _ dX7_next_415
def rmX7_node : Room := { frames := 0, cells := 0, slots := 0, locals := 0 }
theorem zdX7_node : yX7_node.cls = RX7 ∧ yX7_node.cls ≠ "java/lang/invoke/MethodHandle" ∧ yX7_node.cls ≠ "java/lang/invoke/VarHandle" ∧ (parseMethodDescriptor yX7_node.desc).map (fun d => d.parameters.length) = some 2 := by decide +kernel
theorem kiX7_node_X7 : ∀ w ∈ wsX70, w ∈ wsX7_node := by decide +kernel
theorem kfX7_node_140 : Cond.fieldLink RX7 140 "ShapeJudgeModel" "nodes" "I" ∈ wsX7_node := by decide +kernel
theorem kfX7_node_7 : Cond.fieldLink RX7 7 "ShapeJudgeModel" "hasValue" "[Z" ∈ wsX7_node := by decide +kernel
theorem kfX7_node_13 : Cond.fieldLink RX7 13 "ShapeJudgeModel" "values" "[I" ∈ wsX7_node := by decide +kernel
theorem kfX7_node_17 : Cond.fieldLink RX7 17 "ShapeJudgeModel" "many" "[I" ∈ wsX7_node := by decide +kernel
theorem kfX7_node_148 : Cond.fieldLink RX7 148 "ShapeJudgeModel" "isRead" "Z" ∈ wsX7_node := by decide +kernel
def s_X7_node (m : Mem) (a1 : Int32) (a2 : Int32) : Option (Int32 × Mem) :=
  (if (m 0 0) = 10 then (some ((-3), m)) else (ck (zin (m 0 0) 10 = true) (bn (sto m 1 (Int32.toNatClampNeg (m 0 0)) (vp_nar .boolean a1)) fun m2 => ck (zin (m2 0 0) 10 = true) (bn (sto m2 2 (Int32.toNatClampNeg (m2 0 0)) a2) fun m4 => ck (zin (m4 0 0) 10 = true) (bn (sto m4 3 (Int32.toNatClampNeg (m4 0 0)) 0) fun m6 => bn (sto m6 0 0 ((m6 0 0) + 1)) fun m7 => bn (sto m7 0 6 0) fun m8 => some (((m8 0 0) - 1), m8))))))
set_option maxRecDepth 100000 in
set_option maxHeartbeats 4000000 in
theorem c_X7_node (l : Launch) (w : ZW) {m : Mem} {a1 : Int32} {a2 : Int32} {r9 : Int32} {m9 : Mem}  (hf : s_X7_node m a1 a2 = some (r9, m9)) : zCi MM l w yX7_node wsX7_node rmX7_node [.ref (w.2.1 0), .int a1, .int a2] m m9 r9 := by
  refine z_met_i MM_ok (own := RX7) (by decide +kernel) rfl rfl (Nat.le_of_ble_eq_true rfl) ?_
  intro K C hKw hKl hret
  subst hKw
  subst hKl
  unfold s_X7_node at hf
  show zGo MM K m [(0, .ref ((zw K).2.1 0)), (1, .int a1), (2, .int a2)] 0 []
  refine z_aload_n C 0 dX7_node_0 rfl rfl ?_
  refine z_geti C (Nat.le_of_ble_eq_true rfl) rfl rfl 0 (Nat.le_of_ble_eq_true rfl) rfl kiX7_node_X7 kfX7_node_140 dX7_node_1 ?_
  refine z_bipush C (v := 10) dX7_node_4 rfl ?_
  refine z_icmp_ne (tgt := 12) C dX7_node_6 (by decide) (fun c9 => ?_) (fun c9 => ?_)
  · replace hf := if_f c9 hf
    refine z_aload_n C 0 dX7_node_12 rfl rfl ?_
    refine z_getr C (t := 1) (Nat.le_of_ble_eq_true rfl) rfl rfl 1 (Nat.le_of_ble_eq_true rfl) rfl kiX7_node_X7 kfX7_node_7 dX7_node_13 ?_
    refine z_aload_n C 0 dX7_node_16 rfl rfl ?_
    refine z_geti C (Nat.le_of_ble_eq_true rfl) rfl rfl 0 (Nat.le_of_ble_eq_true rfl) rfl kiX7_node_X7 kfX7_node_140 dX7_node_17 ?_
    refine z_iload_n C 1 dX7_node_20 rfl rfl ?_
    obtain ⟨hi1, hf⟩ := ck_el hf
    refine z_zast C (k := 1) (Nat.le_of_ble_eq_true rfl) rfl hi1 dX7_node_21 ?_
    refine z_nm (fun m2 e_m2 => ?_)
    replace hf := bn_to e_m2 hf
    refine z_aload_n C 0 dX7_node_22 rfl rfl ?_
    refine z_getr C (t := 2) (Nat.le_of_ble_eq_true rfl) rfl rfl 2 (Nat.le_of_ble_eq_true rfl) rfl kiX7_node_X7 kfX7_node_13 dX7_node_23 ?_
    refine z_aload_n C 0 dX7_node_26 rfl rfl ?_
    refine z_geti C (Nat.le_of_ble_eq_true rfl) rfl rfl 0 (Nat.le_of_ble_eq_true rfl) rfl kiX7_node_X7 kfX7_node_140 dX7_node_27 ?_
    refine z_iload_n C 2 dX7_node_30 rfl rfl ?_
    obtain ⟨hi3, hf⟩ := ck_el hf
    refine z_iast C (k := 2) (Nat.le_of_ble_eq_true rfl) rfl hi3 dX7_node_31 ?_
    refine z_nm (fun m4 e_m4 => ?_)
    replace hf := bn_to e_m4 hf
    refine z_aload_n C 0 dX7_node_32 rfl rfl ?_
    refine z_getr C (t := 3) (Nat.le_of_ble_eq_true rfl) rfl rfl 3 (Nat.le_of_ble_eq_true rfl) rfl kiX7_node_X7 kfX7_node_17 dX7_node_33 ?_
    refine z_aload_n C 0 dX7_node_36 rfl rfl ?_
    refine z_geti C (Nat.le_of_ble_eq_true rfl) rfl rfl 0 (Nat.le_of_ble_eq_true rfl) rfl kiX7_node_X7 kfX7_node_140 dX7_node_37 ?_
    refine z_iconst C (v := 0) dX7_node_40 rfl ?_
    obtain ⟨hi5, hf⟩ := ck_el hf
    refine z_iast C (k := 3) (Nat.le_of_ble_eq_true rfl) rfl hi5 dX7_node_41 ?_
    refine z_nm (fun m6 e_m6 => ?_)
    replace hf := bn_to e_m6 hf
    refine z_aload_n C 0 dX7_node_42 rfl rfl ?_
    refine z_dup_a C dX7_node_43 ?_
    refine z_geti C (Nat.le_of_ble_eq_true rfl) rfl rfl 0 (Nat.le_of_ble_eq_true rfl) rfl kiX7_node_X7 kfX7_node_140 dX7_node_44 ?_
    refine z_iconst C (v := 1) dX7_node_47 rfl ?_
    refine z_iadd C dX7_node_48 ?_
    refine z_puti C (Nat.le_of_ble_eq_true rfl) rfl rfl 0 (Nat.le_of_ble_eq_true rfl) rfl kiX7_node_X7 kfX7_node_140 tyX7 tyX7_ok nmX7 rfl rfl dX7_node_49 ?_
    refine z_nm (fun m7 e_m7 => ?_)
    replace hf := bn_to e_m7 hf
    refine z_aload_n C 0 dX7_node_52 rfl rfl ?_
    refine z_iconst C (v := 0) dX7_node_53 rfl ?_
    refine z_putz C (Nat.le_of_ble_eq_true rfl) rfl rfl 6 (Nat.le_of_ble_eq_true rfl) rfl kiX7_node_X7 kfX7_node_148 tyX7 tyX7_ok nmX7 rfl rfl (Or.inl rfl) dX7_node_54 ?_
    refine z_nm (fun m8 e_m8 => ?_)
    replace hf := bn_to e_m8 hf
    refine z_aload_n C 0 dX7_node_57 rfl rfl ?_
    refine z_geti C (Nat.le_of_ble_eq_true rfl) rfl rfl 0 (Nat.le_of_ble_eq_true rfl) rfl kiX7_node_X7 kfX7_node_140 dX7_node_58 ?_
    refine z_iconst C (v := 1) dX7_node_61 rfl ?_
    refine z_isub C dX7_node_62 ?_
    cases hf
    exact hret _ _ dX7_node_63
  · replace hf := if_t c9 hf
    refine z_bipush C (v := (-3)) dX7_node_9 (by decide) ?_
    cases hf
    exact hret _ _ dX7_node_11
def rmX7_taken : Room := { frames := 3, cells := 0, slots := 0, locals := 63 }
theorem zdX7_taken : yX7_taken.cls = RX7 ∧ yX7_taken.cls ≠ "java/lang/invoke/MethodHandle" ∧ yX7_taken.cls ≠ "java/lang/invoke/VarHandle" ∧ (parseMethodDescriptor yX7_taken.desc).map (fun d => d.parameters.length) = some 1 := by decide +kernel
theorem kiX7_taken_X7 : ∀ w ∈ wsX70, w ∈ wsX7_taken := by decide +kernel
theorem kfX7_taken_177 : Cond.fieldLink RX7 177 "ShapeJudgeModel" "fault" "I" ∈ wsX7_taken := by decide +kernel
theorem kfX7_taken_200 : Cond.fieldLink RX7 200 "ShapeJudgeModel" "value" "I" ∈ wsX7_taken := by decide +kernel
theorem kfX7_taken_186 : Cond.fieldLink RX7 186 "ShapeJudgeModel" "from" "I" ∈ wsX7_taken := by decide +kernel
theorem kfX7_taken_222 : Cond.fieldLink RX7 222 "ShapeJudgeModel" "takenAt" "I" ∈ wsX7_taken := by decide +kernel
theorem kfX7_taken_193 : Cond.fieldLink RX7 193 "ShapeJudgeModel" "sort" "I" ∈ wsX7_taken := by decide +kernel
def s_X7_taken (m : Mem) (a1 : Int32) : Option (Int32 × Mem) :=
  (((if (m 0 42) = 0 then ((if (m 0 40) = a1 then (some m) else ((s_X7_fails m 2 (m 0 39)).bind fun m8 => some m8))) else (some m)) : Option (Mem)).bind fun m1 => bn (m1 0 41) fun x2 => bn (sto m1 0 44 (m1 0 39)) fun m3 => (if (m3 0 42) = 0 then ((s_X7_next m3).bind fun m5 => some (x2, m5)) else (some (x2, m3))))
set_option maxRecDepth 100000 in
set_option maxHeartbeats 4000000 in
theorem c_X7_taken (l : Launch) (w : ZW) {m : Mem} {a1 : Int32} {r9 : Int32} {m9 : Mem}  (hf : s_X7_taken m a1 = some (r9, m9)) : zCi MM l w yX7_taken wsX7_taken rmX7_taken [.ref (w.2.1 0), .int a1] m m9 r9 := by
  refine z_met_i MM_ok (own := RX7) (by decide +kernel) rfl rfl (Nat.le_of_ble_eq_true rfl) ?_
  intro K C hKw hKl hret
  subst hKw
  subst hKl
  unfold s_X7_taken at hf
  show zGo MM K m [(0, .ref ((zw K).2.1 0)), (1, .int a1)] 0 []
  refine z_aload_n C 0 dX7_taken_0 rfl rfl ?_
  refine z_geti C (Nat.le_of_ble_eq_true rfl) rfl rfl 42 (Nat.le_of_ble_eq_true rfl) rfl kiX7_taken_X7 kfX7_taken_177 dX7_taken_1 ?_
  obtain ⟨m1, hg, hf⟩ := zb_el hf
  have hj : zGo MM K m1 [(0, .ref ((zw K).2.1 0))] 24 [] := by
    refine z_aload_n C 0 dX7_taken_24 rfl rfl ?_
    refine z_geti C (Nat.le_of_ble_eq_true rfl) rfl rfl 41 (Nat.le_of_ble_eq_true rfl) rfl kiX7_taken_X7 kfX7_taken_200 dX7_taken_25 ?_
    refine z_topi (fun x2 e_x2 => ?_)
    replace hf := bn_to e_x2 hf
    refine z_istore_n C (lv2 := [(0, .ref ((zw K).2.1 0)), (2, .int x2)]) [1, 0] dX7_taken_28 rfl (Nat.le_of_ble_eq_true rfl) rfl ?_
    refine z_aload_n C 0 dX7_taken_29 rfl rfl ?_
    refine z_aload_n C 0 dX7_taken_30 rfl rfl ?_
    refine z_geti C (Nat.le_of_ble_eq_true rfl) rfl rfl 39 (Nat.le_of_ble_eq_true rfl) rfl kiX7_taken_X7 kfX7_taken_186 dX7_taken_31 ?_
    refine z_puti C (Nat.le_of_ble_eq_true rfl) rfl rfl 44 (Nat.le_of_ble_eq_true rfl) rfl kiX7_taken_X7 kfX7_taken_222 tyX7 tyX7_ok nmX7 rfl rfl dX7_taken_34 ?_
    refine z_nm (fun m3 e_m3 => ?_)
    replace hf := bn_to e_m3 hf
    refine z_aload_n C 0 dX7_taken_37 rfl rfl ?_
    refine z_geti C (Nat.le_of_ble_eq_true rfl) rfl rfl 42 (Nat.le_of_ble_eq_true rfl) rfl kiX7_taken_X7 kfX7_taken_177 dX7_taken_38 ?_
    refine z_if_ne (tgt := 48) C dX7_taken_41 (by decide) (fun c6 => ?_) (fun c6 => ?_)
    · replace hf := if_f c6 hf
      refine z_iload_n C 1 dX7_taken_48 rfl rfl ?_
      cases hf
      exact hret _ _ dX7_taken_49
    · replace hf := if_t c6 hf
      refine z_aload_n C 0 dX7_taken_44 rfl rfl ?_
      obtain ⟨m5, hc4, hf⟩ := zb_el hf
      refine z_cVv C (c_X7_next _ _ hc4) rfl gX7_taken_X7_next rfl rfl zdX7_next rfl (Nat.le_of_ble_eq_true rfl) rfl rfl rfl ⟨Nat.le_of_ble_eq_true rfl, Nat.le_of_ble_eq_true rfl⟩ (Nat.le_of_ble_eq_true rfl) dX7_taken_45 rfl ?_
      refine z_iload_n C 1 dX7_taken_48 rfl rfl ?_
      cases hf
      exact hret _ _ dX7_taken_49
  replace hf := hg
  clear hg
  refine z_if_ne (tgt := 24) C dX7_taken_4 (by decide) (fun c10 => ?_) (fun c10 => ?_)
  · replace hf := if_f c10 hf
    cases hf
    exact z_sub [0] rfl hj
  · replace hf := if_t c10 hf
    refine z_aload_n C 0 dX7_taken_7 rfl rfl ?_
    refine z_geti C (Nat.le_of_ble_eq_true rfl) rfl rfl 40 (Nat.le_of_ble_eq_true rfl) rfl kiX7_taken_X7 kfX7_taken_193 dX7_taken_8 ?_
    refine z_iload_n C 1 dX7_taken_11 rfl rfl ?_
    refine z_icmp_eq (tgt := 24) C dX7_taken_12 (by decide) (fun c9 => ?_) (fun c9 => ?_)
    · replace hf := if_t c9 hf
      cases hf
      exact z_sub [0] rfl hj
    · replace hf := if_f c9 hf
      refine z_aload_n C 0 dX7_taken_15 rfl rfl ?_
      refine z_iconst C (v := 2) dX7_taken_16 rfl ?_
      refine z_aload_n C 0 dX7_taken_17 rfl rfl ?_
      refine z_geti C (Nat.le_of_ble_eq_true rfl) rfl rfl 39 (Nat.le_of_ble_eq_true rfl) rfl kiX7_taken_X7 kfX7_taken_186 dX7_taken_18 ?_
      obtain ⟨m8, hc7, hf⟩ := zb_el hf
      refine z_cVv C (c_X7_fails _ _ hc7) rfl gX7_taken_X7_fails rfl rfl zdX7_fails rfl (Nat.le_of_ble_eq_true rfl) rfl rfl rfl ⟨Nat.le_of_ble_eq_true rfl, Nat.le_of_ble_eq_true rfl⟩ (Nat.le_of_ble_eq_true rfl) dX7_taken_21 rfl ?_
      cases hf
      exact z_sub [0] rfl hj
def rmX7_number : Room := { frames := 4, cells := 0, slots := 0, locals := 85 }
theorem zdX7_number : yX7_number.cls = RX7 ∧ yX7_number.cls ≠ "java/lang/invoke/MethodHandle" ∧ yX7_number.cls ≠ "java/lang/invoke/VarHandle" ∧ (parseMethodDescriptor yX7_number.desc).map (fun d => d.parameters.length) = some 2 := by decide +kernel
theorem kiX7_number_X7 : ∀ w ∈ wsX70, w ∈ wsX7_number := by decide +kernel
theorem kfX7_number_177 : Cond.fieldLink RX7 177 "ShapeJudgeModel" "fault" "I" ∈ wsX7_number := by decide +kernel
theorem kfX7_number_193 : Cond.fieldLink RX7 193 "ShapeJudgeModel" "sort" "I" ∈ wsX7_number := by decide +kernel
theorem kfX7_number_200 : Cond.fieldLink RX7 200 "ShapeJudgeModel" "value" "I" ∈ wsX7_number := by decide +kernel
theorem kfX7_number_186 : Cond.fieldLink RX7 186 "ShapeJudgeModel" "from" "I" ∈ wsX7_number := by decide +kernel
def s_X7_number (m : Mem) (a1 : Int32) (a2 : Int32) : Option (Int32 × Mem) :=
  (if (m 0 42) = 0 then ((if (m 0 40) = 2 then ((s_X7_in (m 0 41).toInt64 (a1.toInt64) (a2.toInt64)).bind fun r8 => (if r8 = 0 then ((s_X7_fails m 3 (m 0 39)).bind fun m13 => zb2 (s_X7_taken m13 2) fun r15 m16 => some (r15, m16)) else (zb2 (s_X7_taken m 2) fun r10 m11 => some (r10, m11)))) else (zb2 (s_X7_taken m 2) fun r5 m6 => some (r5, m6)))) else (zb2 (s_X7_taken m 2) fun r2 m3 => some (r2, m3)))
set_option maxRecDepth 100000 in
set_option maxHeartbeats 4000000 in
theorem c_X7_number (l : Launch) (w : ZW) {m : Mem} {a1 : Int32} {a2 : Int32} {r9 : Int32} {m9 : Mem}  (hf : s_X7_number m a1 a2 = some (r9, m9)) : zCi MM l w yX7_number wsX7_number rmX7_number [.ref (w.2.1 0), .int a1, .int a2] m m9 r9 := by
  refine z_met_i MM_ok (own := RX7) (by decide +kernel) rfl rfl (Nat.le_of_ble_eq_true rfl) ?_
  intro K C hKw hKl hret
  subst hKw
  subst hKl
  unfold s_X7_number at hf
  show zGo MM K m [(0, .ref ((zw K).2.1 0)), (1, .int a1), (2, .int a2)] 0 []
  refine z_aload_n C 0 dX7_number_0 rfl rfl ?_
  refine z_geti C (Nat.le_of_ble_eq_true rfl) rfl rfl 42 (Nat.le_of_ble_eq_true rfl) rfl kiX7_number_X7 kfX7_number_177 dX7_number_1 ?_
  refine z_if_ne (tgt := 39) C dX7_number_4 (by decide) (fun c19 => ?_) (fun c19 => ?_)
  · replace hf := if_f c19 hf
    refine z_aload_n C 0 dX7_number_39 rfl rfl ?_
    refine z_iconst C (v := 2) dX7_number_40 rfl ?_
    obtain ⟨r2, m3, hc1, hf⟩ := zb2_el hf
    refine z_cVi C (c_X7_taken _ _ hc1) rfl gX7_number_X7_taken rfl rfl zdX7_taken rfl (Nat.le_of_ble_eq_true rfl) rfl rfl rfl ⟨Nat.le_of_ble_eq_true rfl, Nat.le_of_ble_eq_true rfl⟩ (Nat.le_of_ble_eq_true rfl) dX7_number_41 rfl ?_
    cases hf
    exact hret _ _ dX7_number_44
  · replace hf := if_t c19 hf
    refine z_aload_n C 0 dX7_number_7 rfl rfl ?_
    refine z_geti C (Nat.le_of_ble_eq_true rfl) rfl rfl 40 (Nat.le_of_ble_eq_true rfl) rfl kiX7_number_X7 kfX7_number_193 dX7_number_8 ?_
    refine z_iconst C (v := 2) dX7_number_11 rfl ?_
    refine z_icmp_ne (tgt := 39) C dX7_number_12 (by decide) (fun c18 => ?_) (fun c18 => ?_)
    · replace hf := if_f c18 hf
      refine z_aload_n C 0 dX7_number_39 rfl rfl ?_
      refine z_iconst C (v := 2) dX7_number_40 rfl ?_
      obtain ⟨r5, m6, hc4, hf⟩ := zb2_el hf
      refine z_cVi C (c_X7_taken _ _ hc4) rfl gX7_number_X7_taken rfl rfl zdX7_taken rfl (Nat.le_of_ble_eq_true rfl) rfl rfl rfl ⟨Nat.le_of_ble_eq_true rfl, Nat.le_of_ble_eq_true rfl⟩ (Nat.le_of_ble_eq_true rfl) dX7_number_41 rfl ?_
      cases hf
      exact hret _ _ dX7_number_44
    · replace hf := if_t c18 hf
      refine z_aload_n C 0 dX7_number_15 rfl rfl ?_
      refine z_geti C (Nat.le_of_ble_eq_true rfl) rfl rfl 41 (Nat.le_of_ble_eq_true rfl) rfl kiX7_number_X7 kfX7_number_200 dX7_number_16 ?_
      refine z_i2l C dX7_number_19 ?_
      refine z_iload_n C 1 dX7_number_20 rfl rfl ?_
      refine z_i2l C dX7_number_21 ?_
      refine z_iload_n C 2 dX7_number_22 rfl rfl ?_
      refine z_i2l C dX7_number_23 ?_
      obtain ⟨r8, hc7, hf⟩ := zb_el hf
      refine z_cSi C (c_X7_in _ _ hc7) rfl gX7_number_X7_in rfl rfl zdX7_in.2 rfl ⟨Nat.le_of_ble_eq_true rfl, Nat.le_of_ble_eq_true rfl⟩ (Nat.le_of_ble_eq_true rfl) dX7_number_24 rfl ?_
      refine z_if_ne (tgt := 39) C dX7_number_27 (by decide) (fun c17 => ?_) (fun c17 => ?_)
      · replace hf := if_f c17 hf
        refine z_aload_n C 0 dX7_number_39 rfl rfl ?_
        refine z_iconst C (v := 2) dX7_number_40 rfl ?_
        obtain ⟨r10, m11, hc9, hf⟩ := zb2_el hf
        refine z_cVi C (c_X7_taken _ _ hc9) rfl gX7_number_X7_taken rfl rfl zdX7_taken rfl (Nat.le_of_ble_eq_true rfl) rfl rfl rfl ⟨Nat.le_of_ble_eq_true rfl, Nat.le_of_ble_eq_true rfl⟩ (Nat.le_of_ble_eq_true rfl) dX7_number_41 rfl ?_
        cases hf
        exact hret _ _ dX7_number_44
      · replace hf := if_t c17 hf
        refine z_aload_n C 0 dX7_number_30 rfl rfl ?_
        refine z_iconst C (v := 3) dX7_number_31 rfl ?_
        refine z_aload_n C 0 dX7_number_32 rfl rfl ?_
        refine z_geti C (Nat.le_of_ble_eq_true rfl) rfl rfl 39 (Nat.le_of_ble_eq_true rfl) rfl kiX7_number_X7 kfX7_number_186 dX7_number_33 ?_
        obtain ⟨m13, hc12, hf⟩ := zb_el hf
        refine z_cVv C (c_X7_fails _ _ hc12) rfl gX7_number_X7_fails rfl rfl zdX7_fails rfl (Nat.le_of_ble_eq_true rfl) rfl rfl rfl ⟨Nat.le_of_ble_eq_true rfl, Nat.le_of_ble_eq_true rfl⟩ (Nat.le_of_ble_eq_true rfl) dX7_number_36 rfl ?_
        refine z_aload_n C 0 dX7_number_39 rfl rfl ?_
        refine z_iconst C (v := 2) dX7_number_40 rfl ?_
        obtain ⟨r15, m16, hc14, hf⟩ := zb2_el hf
        refine z_cVi C (c_X7_taken _ _ hc14) rfl gX7_number_X7_taken rfl rfl zdX7_taken rfl (Nat.le_of_ble_eq_true rfl) rfl rfl rfl ⟨Nat.le_of_ble_eq_true rfl, Nat.le_of_ble_eq_true rfl⟩ (Nat.le_of_ble_eq_true rfl) dX7_number_41 rfl ?_
        cases hf
        exact hret _ _ dX7_number_44
def rmX7_part : Room := { frames := 2, cells := 0, slots := 0, locals := 46 }
theorem zdX7_part : yX7_part.cls = RX7 ∧ yX7_part.cls ≠ "java/lang/invoke/MethodHandle" ∧ yX7_part.cls ≠ "java/lang/invoke/VarHandle" ∧ (parseMethodDescriptor yX7_part.desc).map (fun d => d.parameters.length) = some 3 := by decide +kernel
theorem kiX7_part_X7 : ∀ w ∈ wsX70, w ∈ wsX7_part := by decide +kernel
theorem kfX7_part_32 : Cond.fieldLink RX7 32 "ShapeJudgeModel" "parts" "[I" ∈ wsX7_part := by decide +kernel
theorem kcX7_part_330 : Cond.constantLong RX7 330 (3) ∈ wsX7_part := by decide +kernel
theorem kfX7_part_44 : Cond.fieldLink RX7 44 "ShapeJudgeModel" "pSecond" "[I" ∈ wsX7_part := by decide +kernel
theorem kfX7_part_41 : Cond.fieldLink RX7 41 "ShapeJudgeModel" "pFirst" "[I" ∈ wsX7_part := by decide +kernel
theorem kfX7_part_38 : Cond.fieldLink RX7 38 "ShapeJudgeModel" "pTest" "[I" ∈ wsX7_part := by decide +kernel
theorem kfX7_part_35 : Cond.fieldLink RX7 35 "ShapeJudgeModel" "pName" "[I" ∈ wsX7_part := by decide +kernel
def s_X7_part (m : Mem) (a1 : Int32) (a2 : Int32) (a3 : Int32) : Option (Int32) :=
  (s_X7_isShape m a1).bind fun r2 => (if r2 = 0 then (some (-1)) else (ck (zin a1 6 = true) ((s_X7_in (a2.toInt64) 0 ((m 8 (Int32.toNatClampNeg a1)) - 1).toInt64).bind fun r5 => (if r5 = 0 then (some (-1)) else ((s_X7_in (a3.toInt64) 0 3).bind fun r7 => (if r7 = 0 then (some (-1)) else (bn (((6 : Int32) * a1) + a2) fun x8 => (if a3 = 0 then (ck (zin x8 36 = true) (some (m 9 (Int32.toNatClampNeg x8)))) else ((if a3 = 1 then (ck (zin x8 36 = true) (some (m 10 (Int32.toNatClampNeg x8)))) else ((if a3 = 2 then (ck (zin x8 36 = true) (some (m 11 (Int32.toNatClampNeg x8)))) else (ck (zin x8 36 = true) (some (m 12 (Int32.toNatClampNeg x8))))))))))))))))
set_option maxRecDepth 100000 in
set_option maxHeartbeats 4000000 in
theorem c_X7_part (l : Launch) (w : ZW) {m : Mem} {a1 : Int32} {a2 : Int32} {a3 : Int32} {r9 : Int32}  (hf : s_X7_part m a1 a2 a3 = some r9) : zCi MM l w yX7_part wsX7_part rmX7_part [.ref (w.2.1 0), .int a1, .int a2, .int a3] m m r9 := by
  refine z_met_i MM_ok (own := RX7) (by decide +kernel) rfl rfl (Nat.le_of_ble_eq_true rfl) ?_
  intro K C hKw hKl hret
  subst hKw
  subst hKl
  unfold s_X7_part at hf
  show zGo MM K m [(0, .ref ((zw K).2.1 0)), (1, .int a1), (2, .int a2), (3, .int a3)] 0 []
  refine z_aload_n C 0 dX7_part_0 rfl rfl ?_
  refine z_iload_n C 1 dX7_part_1 rfl rfl ?_
  obtain ⟨r2, hc1, hf⟩ := zb_el hf
  refine z_cVi C (c_X7_isShape _ _ hc1) rfl gX7_part_X7_isShape rfl rfl zdX7_isShape rfl (Nat.le_of_ble_eq_true rfl) rfl rfl rfl ⟨Nat.le_of_ble_eq_true rfl, Nat.le_of_ble_eq_true rfl⟩ (Nat.le_of_ble_eq_true rfl) dX7_part_2 rfl ?_
  refine z_if_eq (tgt := 38) C dX7_part_5 (by decide) (fun c18 => ?_) (fun c18 => ?_)
  · replace hf := if_t c18 hf
    refine z_iconst C (v := (-1)) dX7_part_38 (by decide) ?_
    cases hf
    exact hret _ _ dX7_part_39
  · replace hf := if_f c18 hf
    refine z_iload_n C 2 dX7_part_8 rfl rfl ?_
    refine z_i2l C dX7_part_9 ?_
    refine z_lconst C (v := 0) dX7_part_10 rfl ?_
    refine z_aload_n C 0 dX7_part_11 rfl rfl ?_
    refine z_getr C (t := 8) (Nat.le_of_ble_eq_true rfl) rfl rfl 10 (Nat.le_of_ble_eq_true rfl) rfl kiX7_part_X7 kfX7_part_32 dX7_part_12 ?_
    refine z_iload_n C 1 dX7_part_15 rfl rfl ?_
    obtain ⟨hi3, hf⟩ := ck_el hf
    refine z_iald C (k := 8) (Nat.le_of_ble_eq_true rfl) rfl hi3 dX7_part_16 ?_
    refine z_iconst C (v := 1) dX7_part_17 rfl ?_
    refine z_isub C dX7_part_18 ?_
    refine z_i2l C dX7_part_19 ?_
    obtain ⟨r5, hc4, hf⟩ := zb_el hf
    refine z_cSi C (c_X7_in _ _ hc4) rfl gX7_part_X7_in rfl rfl zdX7_in.2 rfl ⟨Nat.le_of_ble_eq_true rfl, Nat.le_of_ble_eq_true rfl⟩ (Nat.le_of_ble_eq_true rfl) dX7_part_20 rfl ?_
    refine z_if_eq (tgt := 38) C dX7_part_23 (by decide) (fun c17 => ?_) (fun c17 => ?_)
    · replace hf := if_t c17 hf
      refine z_iconst C (v := (-1)) dX7_part_38 (by decide) ?_
      cases hf
      exact hret _ _ dX7_part_39
    · replace hf := if_f c17 hf
      refine z_iload_n C 3 dX7_part_26 rfl rfl ?_
      refine z_i2l C dX7_part_27 ?_
      refine z_lconst C (v := 0) dX7_part_28 rfl ?_
      refine z_ldc2 C (v := 3) dX7_part_29 kcX7_part_330 ?_
      obtain ⟨r7, hc6, hf⟩ := zb_el hf
      refine z_cSi C (c_X7_in _ _ hc6) rfl gX7_part_X7_in rfl rfl zdX7_in.2 rfl ⟨Nat.le_of_ble_eq_true rfl, Nat.le_of_ble_eq_true rfl⟩ (Nat.le_of_ble_eq_true rfl) dX7_part_32 rfl ?_
      refine z_if_ne (tgt := 40) C dX7_part_35 (by decide) (fun c16 => ?_) (fun c16 => ?_)
      · replace hf := if_f c16 hf
        refine z_bipush C (v := 6) dX7_part_40 rfl ?_
        refine z_iload_n C 1 dX7_part_42 rfl rfl ?_
        refine z_imul C dX7_part_43 ?_
        refine z_iload_n C 2 dX7_part_44 rfl rfl ?_
        refine z_iadd C dX7_part_45 ?_
        refine z_topi (fun x8 e_x8 => ?_)
        replace hf := bn_to e_x8 hf
        refine z_istore C (lv2 := [(0, .ref ((zw K).2.1 0)), (1, .int a1), (2, .int a2), (3, .int a3), (4, .int x8)]) [1, 2, 3, 4, 0] dX7_part_46 (Nat.le_of_ble_eq_true rfl) rfl ?_
        refine z_iload_n C 3 dX7_part_48 rfl rfl ?_
        refine z_if_ne (tgt := 62) C dX7_part_49 (by decide) (fun c15 => ?_) (fun c15 => ?_)
        · replace hf := if_f c15 hf
          refine z_iload_n C 3 dX7_part_62 rfl rfl ?_
          refine z_iconst C (v := 1) dX7_part_63 rfl ?_
          refine z_icmp_ne (tgt := 77) C dX7_part_64 (by decide) (fun c13 => ?_) (fun c13 => ?_)
          · replace hf := if_f c13 hf
            refine z_iload_n C 3 dX7_part_77 rfl rfl ?_
            refine z_iconst C (v := 2) dX7_part_78 rfl ?_
            refine z_icmp_ne (tgt := 92) C dX7_part_79 (by decide) (fun c11 => ?_) (fun c11 => ?_)
            · replace hf := if_f c11 hf
              refine z_aload_n C 0 dX7_part_92 rfl rfl ?_
              refine z_getr C (t := 12) (Nat.le_of_ble_eq_true rfl) rfl rfl 14 (Nat.le_of_ble_eq_true rfl) rfl kiX7_part_X7 kfX7_part_44 dX7_part_93 ?_
              refine z_iload C 4 dX7_part_96 rfl ?_
              obtain ⟨hi9, hf⟩ := ck_el hf
              refine z_iald C (k := 12) (Nat.le_of_ble_eq_true rfl) rfl hi9 dX7_part_98 ?_
              cases hf
              exact hret _ _ dX7_part_99
            · replace hf := if_t c11 hf
              refine z_aload_n C 0 dX7_part_82 rfl rfl ?_
              refine z_getr C (t := 11) (Nat.le_of_ble_eq_true rfl) rfl rfl 13 (Nat.le_of_ble_eq_true rfl) rfl kiX7_part_X7 kfX7_part_41 dX7_part_83 ?_
              refine z_iload C 4 dX7_part_86 rfl ?_
              obtain ⟨hi10, hf⟩ := ck_el hf
              refine z_iald C (k := 11) (Nat.le_of_ble_eq_true rfl) rfl hi10 dX7_part_88 ?_
              refine z_goto (tgt := 99) C dX7_part_89 (by decide) ?_
              cases hf
              exact hret _ _ dX7_part_99
          · replace hf := if_t c13 hf
            refine z_aload_n C 0 dX7_part_67 rfl rfl ?_
            refine z_getr C (t := 10) (Nat.le_of_ble_eq_true rfl) rfl rfl 12 (Nat.le_of_ble_eq_true rfl) rfl kiX7_part_X7 kfX7_part_38 dX7_part_68 ?_
            refine z_iload C 4 dX7_part_71 rfl ?_
            obtain ⟨hi12, hf⟩ := ck_el hf
            refine z_iald C (k := 10) (Nat.le_of_ble_eq_true rfl) rfl hi12 dX7_part_73 ?_
            refine z_goto (tgt := 99) C dX7_part_74 (by decide) ?_
            cases hf
            exact hret _ _ dX7_part_99
        · replace hf := if_t c15 hf
          refine z_aload_n C 0 dX7_part_52 rfl rfl ?_
          refine z_getr C (t := 9) (Nat.le_of_ble_eq_true rfl) rfl rfl 11 (Nat.le_of_ble_eq_true rfl) rfl kiX7_part_X7 kfX7_part_35 dX7_part_53 ?_
          refine z_iload C 4 dX7_part_56 rfl ?_
          obtain ⟨hi14, hf⟩ := ck_el hf
          refine z_iald C (k := 9) (Nat.le_of_ble_eq_true rfl) rfl hi14 dX7_part_58 ?_
          refine z_goto (tgt := 99) C dX7_part_59 (by decide) ?_
          cases hf
          exact hret _ _ dX7_part_99
      · replace hf := if_t c16 hf
        refine z_iconst C (v := (-1)) dX7_part_38 (by decide) ?_
        cases hf
        exact hret _ _ dX7_part_39
def rmX7_readPart : Room := { frames := 4, cells := 0, slots := 0, locals := 85 }
theorem zdX7_readPart : yX7_readPart.cls = RX7 ∧ yX7_readPart.cls ≠ "java/lang/invoke/MethodHandle" ∧ yX7_readPart.cls ≠ "java/lang/invoke/VarHandle" ∧ (parseMethodDescriptor yX7_readPart.desc).map (fun d => d.parameters.length) = some 1 := by decide +kernel
theorem kiX7_readPart_X7 : ∀ w ∈ wsX70, w ∈ wsX7_readPart := by decide +kernel
theorem kfX7_readPart_177 : Cond.fieldLink RX7 177 "ShapeJudgeModel" "fault" "I" ∈ wsX7_readPart := by decide +kernel
theorem kfX7_readPart_234 : Cond.fieldLink RX7 234 "ShapeJudgeModel" "dShapes" "I" ∈ wsX7_readPart := by decide +kernel
theorem kfX7_readPart_71 : Cond.fieldLink RX7 71 "ShapeJudgeModel" "dParts" "[I" ∈ wsX7_readPart := by decide +kernel
theorem kfX7_readPart_104 : Cond.fieldLink RX7 104 "ShapeJudgeModel" "dPartOf" "[I" ∈ wsX7_readPart := by decide +kernel
theorem kfX7_readPart_74 : Cond.fieldLink RX7 74 "ShapeJudgeModel" "dName" "[I" ∈ wsX7_readPart := by decide +kernel
theorem kfX7_readPart_80 : Cond.fieldLink RX7 80 "ShapeJudgeModel" "dFirst" "[I" ∈ wsX7_readPart := by decide +kernel
theorem kfX7_readPart_83 : Cond.fieldLink RX7 83 "ShapeJudgeModel" "dSecond" "[I" ∈ wsX7_readPart := by decide +kernel
theorem kfX7_readPart_86 : Cond.fieldLink RX7 86 "ShapeJudgeModel" "dPlace" "[I" ∈ wsX7_readPart := by decide +kernel
theorem kfX7_readPart_77 : Cond.fieldLink RX7 77 "ShapeJudgeModel" "dTest" "[I" ∈ wsX7_readPart := by decide +kernel
theorem kfX7_readPart_222 : Cond.fieldLink RX7 222 "ShapeJudgeModel" "takenAt" "I" ∈ wsX7_readPart := by decide +kernel
theorem kfX7_readPart_193 : Cond.fieldLink RX7 193 "ShapeJudgeModel" "sort" "I" ∈ wsX7_readPart := by decide +kernel
theorem kfX7_readPart_200 : Cond.fieldLink RX7 200 "ShapeJudgeModel" "value" "I" ∈ wsX7_readPart := by decide +kernel
theorem kfX7_readPart_186 : Cond.fieldLink RX7 186 "ShapeJudgeModel" "from" "I" ∈ wsX7_readPart := by decide +kernel
theorem kcX7_readPart_160 : Cond.constantLong RX7 160 (9) ∈ wsX7_readPart := by decide +kernel
def s_X7_readPart (m : Mem) (a1 : Int32) : Option (Mem) :=
  (((if (m 0 42) = 0 then ((s_X7_in (m 0 41).toInt64 0 9).bind fun r107 => (if r107 = 0 then ((s_X7_fails m 3 (m 0 39)).bind fun m109 => some m109) else (some m))) else (some m)) : Option (Mem)).bind fun m1 => (((if (m1 0 42) = 0 then (ck (zin (m1 0 21) 6 = true) ((if (m1 21 (Int32.toNatClampNeg (m1 0 21))) = 6 then ((s_X7_fails m1 4 (m1 0 39)).bind fun m103 => some m103) else (some m1)))) else (some m1)) : Option (Mem)).bind fun m2 => (if (m2 0 42) ≤ 0 then (ck (zin (m2 0 21) 6 = true) (bn (((6 : Int32) * (m2 0 21)) + (m2 21 (Int32.toNatClampNeg (m2 0 21)))) fun x4 => ck (zin a1 960 = true) (bn (sto m2 32 (Int32.toNatClampNeg a1) x4) fun m6 => ck (zin (m6 0 21) 6 = true) (ck (zin (m6 0 21) 6 = true) (bn (sto m6 21 (Int32.toNatClampNeg (m6 0 21)) ((m6 21 (Int32.toNatClampNeg (m6 0 21))) + 1)) fun m9 => zb2 (s_X7_taken m9 2) fun r11 m12 => ck (zin x4 36 = true) (bn (sto m12 22 (Int32.toNatClampNeg x4) r11) fun m14 => ck (zin x4 36 = true) (bn (sto m14 24 (Int32.toNatClampNeg x4) 0) fun m16 => ck (zin x4 36 = true) (bn (sto m16 25 (Int32.toNatClampNeg x4) 0) fun m18 => ck (zin x4 36 = true) (bn (sto m18 26 (Int32.toNatClampNeg x4) 0) fun m20 => (s_X7_is m20 46).bind fun r22 => (if r22 = 0 then ((s_X7_is m20 64).bind fun r24 => (if r24 = 0 then ((s_X7_is m20 33).bind fun r41 => (if r41 = 0 then (ck (zin x4 36 = true) (bn (sto m20 23 (Int32.toNatClampNeg x4) 3) fun m43 => zb2 (s_X7_taken m43 2) fun r45 m46 => ck (zin x4 36 = true) (bn (sto m46 24 (Int32.toNatClampNeg x4) r45) fun m48 => zb2 (s_X7_taken m48 5) fun r50 m51 => (if (m51 0 42) = 0 then ((if (m51 0 40) = 2 then (ck (zin x4 36 = true) ((if (m51 24 (Int32.toNatClampNeg x4)) ≤ (m51 0 41) then (zb2 (s_X7_taken m51 2) fun r64 m65 => ck (zin x4 36 = true) (bn (sto m65 25 (Int32.toNatClampNeg x4) r64) fun m67 => some m67)) else ((s_X7_fails m51 3 (m51 0 39)).bind fun m69 => zb2 (s_X7_taken m69 2) fun r71 m72 => ck (zin x4 36 = true) (bn (sto m72 25 (Int32.toNatClampNeg x4) r71) fun m74 => some m74))))) else (zb2 (s_X7_taken m51 2) fun r58 m59 => ck (zin x4 36 = true) (bn (sto m59 25 (Int32.toNatClampNeg x4) r58) fun m61 => some m61)))) else (zb2 (s_X7_taken m51 2) fun r53 m54 => ck (zin x4 36 = true) (bn (sto m54 25 (Int32.toNatClampNeg x4) r53) fun m56 => some m56)))))) else ((s_X7_is m20 64).bind fun r79 => (((if r79 = 0 then (some 2) else (some 1)) : Option (Int32)).bind fun y80 => ck (zin x4 36 = true) (bn (sto m20 23 (Int32.toNatClampNeg x4) y80) fun m82 => (s_X7_next m82).bind fun m84 => zb2 (s_X7_taken m84 1) fun r86 m87 => ck (zin x4 36 = true) (bn (sto m87 24 (Int32.toNatClampNeg x4) r86) fun m89 => ck (zin x4 36 = true) (bn (sto m89 26 (Int32.toNatClampNeg x4) (m89 0 44)) fun m91 => some m91))))))) else ((s_X7_is m20 64).bind fun r26 => (((if r26 = 0 then (some 2) else (some 1)) : Option (Int32)).bind fun y27 => ck (zin x4 36 = true) (bn (sto m20 23 (Int32.toNatClampNeg x4) y27) fun m29 => (s_X7_next m29).bind fun m31 => zb2 (s_X7_taken m31 1) fun r33 m34 => ck (zin x4 36 = true) (bn (sto m34 24 (Int32.toNatClampNeg x4) r33) fun m36 => ck (zin x4 36 = true) (bn (sto m36 26 (Int32.toNatClampNeg x4) (m36 0 44)) fun m38 => some m38))))))) else (ck (zin x4 36 = true) (bn (sto m20 23 (Int32.toNatClampNeg x4) 0) fun m96 => (s_X7_next m96).bind fun m98 => some m98)))))))))))) else (some m2))))
set_option maxRecDepth 100000 in
set_option maxHeartbeats 4000000 in
theorem c_X7_readPart (l : Launch) (w : ZW) {m : Mem} {a1 : Int32} {m9 : Mem}  (hf : s_X7_readPart m a1 = some m9) : zCv MM l w yX7_readPart wsX7_readPart rmX7_readPart [.ref (w.2.1 0), .int a1] m m9 := by
  refine z_met_v MM_ok (own := RX7) (by decide +kernel) rfl rfl (Nat.le_of_ble_eq_true rfl) ?_
  intro K C hKw hKl hret
  subst hKw
  subst hKl
  unfold s_X7_readPart at hf
  show zGo MM K m [(0, .ref ((zw K).2.1 0)), (1, .int a1)] 0 []
  refine z_aload_n C 0 dX7_readPart_0 rfl rfl ?_
  refine z_geti C (Nat.le_of_ble_eq_true rfl) rfl rfl 42 (Nat.le_of_ble_eq_true rfl) rfl kiX7_readPart_X7 kfX7_readPart_177 dX7_readPart_1 ?_
  obtain ⟨m1, hg, hf⟩ := zb_el hf
  have hj : zGo MM K m1 [(0, .ref ((zw K).2.1 0)), (1, .int a1)] 31 [] := by
    refine z_aload_n C 0 dX7_readPart_31 rfl rfl ?_
    refine z_geti C (Nat.le_of_ble_eq_true rfl) rfl rfl 42 (Nat.le_of_ble_eq_true rfl) rfl kiX7_readPart_X7 kfX7_readPart_177 dX7_readPart_32 ?_
    obtain ⟨m2, hg, hf⟩ := zb_el hf
    have hj : zGo MM K m2 [(0, .ref ((zw K).2.1 0)), (1, .int a1)] 61 [] := by
      refine z_aload_n C 0 dX7_readPart_61 rfl rfl ?_
      refine z_geti C (Nat.le_of_ble_eq_true rfl) rfl rfl 42 (Nat.le_of_ble_eq_true rfl) rfl kiX7_readPart_X7 kfX7_readPart_177 dX7_readPart_62 ?_
      refine z_if_le (tgt := 69) C dX7_readPart_65 (by decide) (fun c100 => ?_) (fun c100 => ?_)
      · replace hf := if_t c100 hf
        refine z_bipush C (v := 6) dX7_readPart_69 rfl ?_
        refine z_aload_n C 0 dX7_readPart_71 rfl rfl ?_
        refine z_geti C (Nat.le_of_ble_eq_true rfl) rfl rfl 21 (Nat.le_of_ble_eq_true rfl) rfl kiX7_readPart_X7 kfX7_readPart_234 dX7_readPart_72 ?_
        refine z_imul C dX7_readPart_75 ?_
        refine z_aload_n C 0 dX7_readPart_76 rfl rfl ?_
        refine z_getr C (t := 21) (Nat.le_of_ble_eq_true rfl) rfl rfl 24 (Nat.le_of_ble_eq_true rfl) rfl kiX7_readPart_X7 kfX7_readPart_71 dX7_readPart_77 ?_
        refine z_aload_n C 0 dX7_readPart_80 rfl rfl ?_
        refine z_geti C (Nat.le_of_ble_eq_true rfl) rfl rfl 21 (Nat.le_of_ble_eq_true rfl) rfl kiX7_readPart_X7 kfX7_readPart_234 dX7_readPart_81 ?_
        obtain ⟨hi3, hf⟩ := ck_el hf
        refine z_iald C (k := 21) (Nat.le_of_ble_eq_true rfl) rfl hi3 dX7_readPart_84 ?_
        refine z_iadd C dX7_readPart_85 ?_
        refine z_topi (fun x4 e_x4 => ?_)
        replace hf := bn_to e_x4 hf
        refine z_istore_n C (lv2 := [(0, .ref ((zw K).2.1 0)), (1, .int a1), (2, .int x4)]) [1, 2, 0] dX7_readPart_86 rfl (Nat.le_of_ble_eq_true rfl) rfl ?_
        refine z_aload_n C 0 dX7_readPart_87 rfl rfl ?_
        refine z_getr C (t := 32) (Nat.le_of_ble_eq_true rfl) rfl rfl 35 (Nat.le_of_ble_eq_true rfl) rfl kiX7_readPart_X7 kfX7_readPart_104 dX7_readPart_88 ?_
        refine z_iload_n C 1 dX7_readPart_91 rfl rfl ?_
        refine z_iload_n C 2 dX7_readPart_92 rfl rfl ?_
        obtain ⟨hi5, hf⟩ := ck_el hf
        refine z_iast C (k := 32) (Nat.le_of_ble_eq_true rfl) rfl hi5 dX7_readPart_93 ?_
        refine z_nm (fun m6 e_m6 => ?_)
        replace hf := bn_to e_m6 hf
        refine z_aload_n C 0 dX7_readPart_94 rfl rfl ?_
        refine z_getr C (t := 21) (Nat.le_of_ble_eq_true rfl) rfl rfl 24 (Nat.le_of_ble_eq_true rfl) rfl kiX7_readPart_X7 kfX7_readPart_71 dX7_readPart_95 ?_
        refine z_aload_n C 0 dX7_readPart_98 rfl rfl ?_
        refine z_geti C (Nat.le_of_ble_eq_true rfl) rfl rfl 21 (Nat.le_of_ble_eq_true rfl) rfl kiX7_readPart_X7 kfX7_readPart_234 dX7_readPart_99 ?_
        refine z_dup2 C dX7_readPart_102 ?_
        obtain ⟨hi7, hf⟩ := ck_el hf
        refine z_iald C (k := 21) (Nat.le_of_ble_eq_true rfl) rfl hi7 dX7_readPart_103 ?_
        refine z_iconst C (v := 1) dX7_readPart_104 rfl ?_
        refine z_iadd C dX7_readPart_105 ?_
        obtain ⟨hi8, hf⟩ := ck_el hf
        refine z_iast C (k := 21) (Nat.le_of_ble_eq_true rfl) rfl hi8 dX7_readPart_106 ?_
        refine z_nm (fun m9 e_m9 => ?_)
        replace hf := bn_to e_m9 hf
        refine z_aload_n C 0 dX7_readPart_107 rfl rfl ?_
        refine z_getr C (t := 22) (Nat.le_of_ble_eq_true rfl) rfl rfl 25 (Nat.le_of_ble_eq_true rfl) rfl kiX7_readPart_X7 kfX7_readPart_74 dX7_readPart_108 ?_
        refine z_iload_n C 2 dX7_readPart_111 rfl rfl ?_
        refine z_aload_n C 0 dX7_readPart_112 rfl rfl ?_
        refine z_iconst C (v := 2) dX7_readPart_113 rfl ?_
        obtain ⟨r11, m12, hc10, hf⟩ := zb2_el hf
        refine z_cVi C (c_X7_taken _ _ hc10) rfl gX7_readPart_X7_taken rfl rfl zdX7_taken rfl (Nat.le_of_ble_eq_true rfl) rfl rfl rfl ⟨Nat.le_of_ble_eq_true rfl, Nat.le_of_ble_eq_true rfl⟩ (Nat.le_of_ble_eq_true rfl) dX7_readPart_114 rfl ?_
        obtain ⟨hi13, hf⟩ := ck_el hf
        refine z_iast C (k := 22) (Nat.le_of_ble_eq_true rfl) rfl hi13 dX7_readPart_117 ?_
        refine z_nm (fun m14 e_m14 => ?_)
        replace hf := bn_to e_m14 hf
        refine z_aload_n C 0 dX7_readPart_118 rfl rfl ?_
        refine z_getr C (t := 24) (Nat.le_of_ble_eq_true rfl) rfl rfl 27 (Nat.le_of_ble_eq_true rfl) rfl kiX7_readPart_X7 kfX7_readPart_80 dX7_readPart_119 ?_
        refine z_iload_n C 2 dX7_readPart_122 rfl rfl ?_
        refine z_iconst C (v := 0) dX7_readPart_123 rfl ?_
        obtain ⟨hi15, hf⟩ := ck_el hf
        refine z_iast C (k := 24) (Nat.le_of_ble_eq_true rfl) rfl hi15 dX7_readPart_124 ?_
        refine z_nm (fun m16 e_m16 => ?_)
        replace hf := bn_to e_m16 hf
        refine z_aload_n C 0 dX7_readPart_125 rfl rfl ?_
        refine z_getr C (t := 25) (Nat.le_of_ble_eq_true rfl) rfl rfl 28 (Nat.le_of_ble_eq_true rfl) rfl kiX7_readPart_X7 kfX7_readPart_83 dX7_readPart_126 ?_
        refine z_iload_n C 2 dX7_readPart_129 rfl rfl ?_
        refine z_iconst C (v := 0) dX7_readPart_130 rfl ?_
        obtain ⟨hi17, hf⟩ := ck_el hf
        refine z_iast C (k := 25) (Nat.le_of_ble_eq_true rfl) rfl hi17 dX7_readPart_131 ?_
        refine z_nm (fun m18 e_m18 => ?_)
        replace hf := bn_to e_m18 hf
        refine z_aload_n C 0 dX7_readPart_132 rfl rfl ?_
        refine z_getr C (t := 26) (Nat.le_of_ble_eq_true rfl) rfl rfl 29 (Nat.le_of_ble_eq_true rfl) rfl kiX7_readPart_X7 kfX7_readPart_86 dX7_readPart_133 ?_
        refine z_iload_n C 2 dX7_readPart_136 rfl rfl ?_
        refine z_iconst C (v := 0) dX7_readPart_137 rfl ?_
        obtain ⟨hi19, hf⟩ := ck_el hf
        refine z_iast C (k := 26) (Nat.le_of_ble_eq_true rfl) rfl hi19 dX7_readPart_138 ?_
        refine z_nm (fun m20 e_m20 => ?_)
        replace hf := bn_to e_m20 hf
        refine z_aload_n C 0 dX7_readPart_139 rfl rfl ?_
        refine z_bipush C (v := 46) dX7_readPart_140 rfl ?_
        obtain ⟨r22, hc21, hf⟩ := zb_el hf
        refine z_cVi C (c_X7_is _ _ hc21) rfl gX7_readPart_X7_is rfl rfl zdX7_is rfl (Nat.le_of_ble_eq_true rfl) rfl rfl rfl ⟨Nat.le_of_ble_eq_true rfl, Nat.le_of_ble_eq_true rfl⟩ (Nat.le_of_ble_eq_true rfl) dX7_readPart_142 rfl ?_
        refine z_if_eq (tgt := 162) C dX7_readPart_145 (by decide) (fun c99 => ?_) (fun c99 => ?_)
        · replace hf := if_t c99 hf
          refine z_aload_n C 0 dX7_readPart_162 rfl rfl ?_
          refine z_bipush C (v := 64) dX7_readPart_163 rfl ?_
          obtain ⟨r24, hc23, hf⟩ := zb_el hf
          refine z_cVi C (c_X7_is _ _ hc23) rfl gX7_readPart_X7_is rfl rfl zdX7_is rfl (Nat.le_of_ble_eq_true rfl) rfl rfl rfl ⟨Nat.le_of_ble_eq_true rfl, Nat.le_of_ble_eq_true rfl⟩ (Nat.le_of_ble_eq_true rfl) dX7_readPart_165 rfl ?_
          refine z_if_ne (tgt := 180) C dX7_readPart_168 (by decide) (fun c94 => ?_) (fun c94 => ?_)
          · replace hf := if_f c94 hf
            refine z_aload_n C 0 dX7_readPart_180 rfl rfl ?_
            refine z_getr C (t := 23) (Nat.le_of_ble_eq_true rfl) rfl rfl 26 (Nat.le_of_ble_eq_true rfl) rfl kiX7_readPart_X7 kfX7_readPart_77 dX7_readPart_181 ?_
            refine z_iload_n C 2 dX7_readPart_184 rfl rfl ?_
            refine z_aload_n C 0 dX7_readPart_185 rfl rfl ?_
            refine z_bipush C (v := 64) dX7_readPart_186 rfl ?_
            obtain ⟨r26, hc25, hf⟩ := zb_el hf
            refine z_cVi C (c_X7_is _ _ hc25) rfl gX7_readPart_X7_is rfl rfl zdX7_is rfl (Nat.le_of_ble_eq_true rfl) rfl rfl rfl ⟨Nat.le_of_ble_eq_true rfl, Nat.le_of_ble_eq_true rfl⟩ (Nat.le_of_ble_eq_true rfl) dX7_readPart_188 rfl ?_
            obtain ⟨y27, hg, hf⟩ := zb_el hf
            have hj : zGo MM K m20 [(0, .ref ((zw K).2.1 0)), (2, .int x4)] 199 [.int y27, .int x4, .ref ((zw K).2.1 23)] := by
              obtain ⟨hi28, hf⟩ := ck_el hf
              refine z_iast C (k := 23) (Nat.le_of_ble_eq_true rfl) rfl hi28 dX7_readPart_199 ?_
              refine z_nm (fun m29 e_m29 => ?_)
              replace hf := bn_to e_m29 hf
              refine z_aload_n C 0 dX7_readPart_200 rfl rfl ?_
              obtain ⟨m31, hc30, hf⟩ := zb_el hf
              refine z_cVv C (c_X7_next _ _ hc30) rfl gX7_readPart_X7_next rfl rfl zdX7_next rfl (Nat.le_of_ble_eq_true rfl) rfl rfl rfl ⟨Nat.le_of_ble_eq_true rfl, Nat.le_of_ble_eq_true rfl⟩ (Nat.le_of_ble_eq_true rfl) dX7_readPart_201 rfl ?_
              refine z_aload_n C 0 dX7_readPart_204 rfl rfl ?_
              refine z_getr C (t := 24) (Nat.le_of_ble_eq_true rfl) rfl rfl 27 (Nat.le_of_ble_eq_true rfl) rfl kiX7_readPart_X7 kfX7_readPart_80 dX7_readPart_205 ?_
              refine z_iload_n C 1 dX7_readPart_208 rfl rfl ?_
              refine z_aload_n C 0 dX7_readPart_209 rfl rfl ?_
              refine z_iconst C (v := 1) dX7_readPart_210 rfl ?_
              obtain ⟨r33, m34, hc32, hf⟩ := zb2_el hf
              refine z_cVi C (c_X7_taken _ _ hc32) rfl gX7_readPart_X7_taken rfl rfl zdX7_taken rfl (Nat.le_of_ble_eq_true rfl) rfl rfl rfl ⟨Nat.le_of_ble_eq_true rfl, Nat.le_of_ble_eq_true rfl⟩ (Nat.le_of_ble_eq_true rfl) dX7_readPart_211 rfl ?_
              obtain ⟨hi35, hf⟩ := ck_el hf
              refine z_iast C (k := 24) (Nat.le_of_ble_eq_true rfl) rfl hi35 dX7_readPart_214 ?_
              refine z_nm (fun m36 e_m36 => ?_)
              replace hf := bn_to e_m36 hf
              refine z_aload_n C 0 dX7_readPart_215 rfl rfl ?_
              refine z_getr C (t := 26) (Nat.le_of_ble_eq_true rfl) rfl rfl 29 (Nat.le_of_ble_eq_true rfl) rfl kiX7_readPart_X7 kfX7_readPart_86 dX7_readPart_216 ?_
              refine z_iload_n C 1 dX7_readPart_219 rfl rfl ?_
              refine z_aload_n C 0 dX7_readPart_220 rfl rfl ?_
              refine z_geti C (Nat.le_of_ble_eq_true rfl) rfl rfl 44 (Nat.le_of_ble_eq_true rfl) rfl kiX7_readPart_X7 kfX7_readPart_222 dX7_readPart_221 ?_
              obtain ⟨hi37, hf⟩ := ck_el hf
              refine z_iast C (k := 26) (Nat.le_of_ble_eq_true rfl) rfl hi37 dX7_readPart_224 ?_
              refine z_nm (fun m38 e_m38 => ?_)
              replace hf := bn_to e_m38 hf
              refine z_goto (tgt := 300) C dX7_readPart_225 (by decide) ?_
              cases hf
              exact hret _ _ dX7_readPart_300
            replace hf := hg
            clear hg
            refine z_if_eq (tgt := 198) C dX7_readPart_191 (by decide) (fun c39 => ?_) (fun c39 => ?_)
            · replace hf := if_t c39 hf
              refine z_iconst C (v := 2) dX7_readPart_198 rfl ?_
              cases hf
              exact z_sub [0, 2] rfl hj
            · replace hf := if_f c39 hf
              refine z_iconst C (v := 1) dX7_readPart_194 rfl ?_
              refine z_goto (tgt := 199) C dX7_readPart_195 (by decide) ?_
              cases hf
              exact z_sub [0, 2] rfl hj
          · replace hf := if_t c94 hf
            refine z_aload_n C 0 dX7_readPart_171 rfl rfl ?_
            refine z_bipush C (v := 33) dX7_readPart_172 rfl ?_
            obtain ⟨r41, hc40, hf⟩ := zb_el hf
            refine z_cVi C (c_X7_is _ _ hc40) rfl gX7_readPart_X7_is rfl rfl zdX7_is rfl (Nat.le_of_ble_eq_true rfl) rfl rfl rfl ⟨Nat.le_of_ble_eq_true rfl, Nat.le_of_ble_eq_true rfl⟩ (Nat.le_of_ble_eq_true rfl) dX7_readPart_174 rfl ?_
            refine z_if_eq (tgt := 228) C dX7_readPart_177 (by decide) (fun c93 => ?_) (fun c93 => ?_)
            · replace hf := if_t c93 hf
              refine z_aload_n C 0 dX7_readPart_228 rfl rfl ?_
              refine z_getr C (t := 23) (Nat.le_of_ble_eq_true rfl) rfl rfl 26 (Nat.le_of_ble_eq_true rfl) rfl kiX7_readPart_X7 kfX7_readPart_77 dX7_readPart_229 ?_
              refine z_iload_n C 2 dX7_readPart_232 rfl rfl ?_
              refine z_iconst C (v := 3) dX7_readPart_233 rfl ?_
              obtain ⟨hi42, hf⟩ := ck_el hf
              refine z_iast C (k := 23) (Nat.le_of_ble_eq_true rfl) rfl hi42 dX7_readPart_234 ?_
              refine z_nm (fun m43 e_m43 => ?_)
              replace hf := bn_to e_m43 hf
              refine z_aload_n C 0 dX7_readPart_235 rfl rfl ?_
              refine z_getr C (t := 24) (Nat.le_of_ble_eq_true rfl) rfl rfl 27 (Nat.le_of_ble_eq_true rfl) rfl kiX7_readPart_X7 kfX7_readPart_80 dX7_readPart_236 ?_
              refine z_iload_n C 2 dX7_readPart_239 rfl rfl ?_
              refine z_aload_n C 0 dX7_readPart_240 rfl rfl ?_
              refine z_iconst C (v := 2) dX7_readPart_241 rfl ?_
              obtain ⟨r45, m46, hc44, hf⟩ := zb2_el hf
              refine z_cVi C (c_X7_taken _ _ hc44) rfl gX7_readPart_X7_taken rfl rfl zdX7_taken rfl (Nat.le_of_ble_eq_true rfl) rfl rfl rfl ⟨Nat.le_of_ble_eq_true rfl, Nat.le_of_ble_eq_true rfl⟩ (Nat.le_of_ble_eq_true rfl) dX7_readPart_242 rfl ?_
              obtain ⟨hi47, hf⟩ := ck_el hf
              refine z_iast C (k := 24) (Nat.le_of_ble_eq_true rfl) rfl hi47 dX7_readPart_245 ?_
              refine z_nm (fun m48 e_m48 => ?_)
              replace hf := bn_to e_m48 hf
              refine z_aload_n C 0 dX7_readPart_246 rfl rfl ?_
              refine z_iconst C (v := 5) dX7_readPart_247 rfl ?_
              obtain ⟨r50, m51, hc49, hf⟩ := zb2_el hf
              refine z_cVi C (c_X7_taken _ _ hc49) rfl gX7_readPart_X7_taken rfl rfl zdX7_taken rfl (Nat.le_of_ble_eq_true rfl) rfl rfl rfl ⟨Nat.le_of_ble_eq_true rfl, Nat.le_of_ble_eq_true rfl⟩ (Nat.le_of_ble_eq_true rfl) dX7_readPart_248 rfl ?_
              refine z_pop C dX7_readPart_251 ?_
              refine z_aload_n C 0 dX7_readPart_252 rfl rfl ?_
              refine z_geti C (Nat.le_of_ble_eq_true rfl) rfl rfl 42 (Nat.le_of_ble_eq_true rfl) rfl kiX7_readPart_X7 kfX7_readPart_177 dX7_readPart_253 ?_
              refine z_if_ne (tgt := 289) C dX7_readPart_256 (by decide) (fun c77 => ?_) (fun c77 => ?_)
              · replace hf := if_f c77 hf
                refine z_aload_n C 0 dX7_readPart_289 rfl rfl ?_
                refine z_getr C (t := 25) (Nat.le_of_ble_eq_true rfl) rfl rfl 28 (Nat.le_of_ble_eq_true rfl) rfl kiX7_readPart_X7 kfX7_readPart_83 dX7_readPart_290 ?_
                refine z_iload_n C 2 dX7_readPart_293 rfl rfl ?_
                refine z_aload_n C 0 dX7_readPart_294 rfl rfl ?_
                refine z_iconst C (v := 2) dX7_readPart_295 rfl ?_
                obtain ⟨r53, m54, hc52, hf⟩ := zb2_el hf
                refine z_cVi C (c_X7_taken _ _ hc52) rfl gX7_readPart_X7_taken rfl rfl zdX7_taken rfl (Nat.le_of_ble_eq_true rfl) rfl rfl rfl ⟨Nat.le_of_ble_eq_true rfl, Nat.le_of_ble_eq_true rfl⟩ (Nat.le_of_ble_eq_true rfl) dX7_readPart_296 rfl ?_
                obtain ⟨hi55, hf⟩ := ck_el hf
                refine z_iast C (k := 25) (Nat.le_of_ble_eq_true rfl) rfl hi55 dX7_readPart_299 ?_
                refine z_nm (fun m56 e_m56 => ?_)
                replace hf := bn_to e_m56 hf
                cases hf
                exact hret _ _ dX7_readPart_300
              · replace hf := if_t c77 hf
                refine z_aload_n C 0 dX7_readPart_259 rfl rfl ?_
                refine z_geti C (Nat.le_of_ble_eq_true rfl) rfl rfl 40 (Nat.le_of_ble_eq_true rfl) rfl kiX7_readPart_X7 kfX7_readPart_193 dX7_readPart_260 ?_
                refine z_iconst C (v := 2) dX7_readPart_263 rfl ?_
                refine z_icmp_ne (tgt := 289) C dX7_readPart_264 (by decide) (fun c76 => ?_) (fun c76 => ?_)
                · replace hf := if_f c76 hf
                  refine z_aload_n C 0 dX7_readPart_289 rfl rfl ?_
                  refine z_getr C (t := 25) (Nat.le_of_ble_eq_true rfl) rfl rfl 28 (Nat.le_of_ble_eq_true rfl) rfl kiX7_readPart_X7 kfX7_readPart_83 dX7_readPart_290 ?_
                  refine z_iload_n C 2 dX7_readPart_293 rfl rfl ?_
                  refine z_aload_n C 0 dX7_readPart_294 rfl rfl ?_
                  refine z_iconst C (v := 2) dX7_readPart_295 rfl ?_
                  obtain ⟨r58, m59, hc57, hf⟩ := zb2_el hf
                  refine z_cVi C (c_X7_taken _ _ hc57) rfl gX7_readPart_X7_taken rfl rfl zdX7_taken rfl (Nat.le_of_ble_eq_true rfl) rfl rfl rfl ⟨Nat.le_of_ble_eq_true rfl, Nat.le_of_ble_eq_true rfl⟩ (Nat.le_of_ble_eq_true rfl) dX7_readPart_296 rfl ?_
                  obtain ⟨hi60, hf⟩ := ck_el hf
                  refine z_iast C (k := 25) (Nat.le_of_ble_eq_true rfl) rfl hi60 dX7_readPart_299 ?_
                  refine z_nm (fun m61 e_m61 => ?_)
                  replace hf := bn_to e_m61 hf
                  cases hf
                  exact hret _ _ dX7_readPart_300
                · replace hf := if_t c76 hf
                  refine z_aload_n C 0 dX7_readPart_267 rfl rfl ?_
                  refine z_geti C (Nat.le_of_ble_eq_true rfl) rfl rfl 41 (Nat.le_of_ble_eq_true rfl) rfl kiX7_readPart_X7 kfX7_readPart_200 dX7_readPart_268 ?_
                  refine z_aload_n C 0 dX7_readPart_271 rfl rfl ?_
                  refine z_getr C (t := 24) (Nat.le_of_ble_eq_true rfl) rfl rfl 27 (Nat.le_of_ble_eq_true rfl) rfl kiX7_readPart_X7 kfX7_readPart_80 dX7_readPart_272 ?_
                  refine z_iload_n C 2 dX7_readPart_275 rfl rfl ?_
                  obtain ⟨hi62, hf⟩ := ck_el hf
                  refine z_iald C (k := 24) (Nat.le_of_ble_eq_true rfl) rfl hi62 dX7_readPart_276 ?_
                  refine z_icmp_ge (tgt := 289) C dX7_readPart_277 (by decide) (fun c75 => ?_) (fun c75 => ?_)
                  · replace hf := if_t c75 hf
                    refine z_aload_n C 0 dX7_readPart_289 rfl rfl ?_
                    refine z_getr C (t := 25) (Nat.le_of_ble_eq_true rfl) rfl rfl 28 (Nat.le_of_ble_eq_true rfl) rfl kiX7_readPart_X7 kfX7_readPart_83 dX7_readPart_290 ?_
                    refine z_iload_n C 2 dX7_readPart_293 rfl rfl ?_
                    refine z_aload_n C 0 dX7_readPart_294 rfl rfl ?_
                    refine z_iconst C (v := 2) dX7_readPart_295 rfl ?_
                    obtain ⟨r64, m65, hc63, hf⟩ := zb2_el hf
                    refine z_cVi C (c_X7_taken _ _ hc63) rfl gX7_readPart_X7_taken rfl rfl zdX7_taken rfl (Nat.le_of_ble_eq_true rfl) rfl rfl rfl ⟨Nat.le_of_ble_eq_true rfl, Nat.le_of_ble_eq_true rfl⟩ (Nat.le_of_ble_eq_true rfl) dX7_readPart_296 rfl ?_
                    obtain ⟨hi66, hf⟩ := ck_el hf
                    refine z_iast C (k := 25) (Nat.le_of_ble_eq_true rfl) rfl hi66 dX7_readPart_299 ?_
                    refine z_nm (fun m67 e_m67 => ?_)
                    replace hf := bn_to e_m67 hf
                    cases hf
                    exact hret _ _ dX7_readPart_300
                  · replace hf := if_f c75 hf
                    refine z_aload_n C 0 dX7_readPart_280 rfl rfl ?_
                    refine z_iconst C (v := 3) dX7_readPart_281 rfl ?_
                    refine z_aload_n C 0 dX7_readPart_282 rfl rfl ?_
                    refine z_geti C (Nat.le_of_ble_eq_true rfl) rfl rfl 39 (Nat.le_of_ble_eq_true rfl) rfl kiX7_readPart_X7 kfX7_readPart_186 dX7_readPart_283 ?_
                    obtain ⟨m69, hc68, hf⟩ := zb_el hf
                    refine z_cVv C (c_X7_fails _ _ hc68) rfl gX7_readPart_X7_fails rfl rfl zdX7_fails rfl (Nat.le_of_ble_eq_true rfl) rfl rfl rfl ⟨Nat.le_of_ble_eq_true rfl, Nat.le_of_ble_eq_true rfl⟩ (Nat.le_of_ble_eq_true rfl) dX7_readPart_286 rfl ?_
                    refine z_aload_n C 0 dX7_readPart_289 rfl rfl ?_
                    refine z_getr C (t := 25) (Nat.le_of_ble_eq_true rfl) rfl rfl 28 (Nat.le_of_ble_eq_true rfl) rfl kiX7_readPart_X7 kfX7_readPart_83 dX7_readPart_290 ?_
                    refine z_iload_n C 2 dX7_readPart_293 rfl rfl ?_
                    refine z_aload_n C 0 dX7_readPart_294 rfl rfl ?_
                    refine z_iconst C (v := 2) dX7_readPart_295 rfl ?_
                    obtain ⟨r71, m72, hc70, hf⟩ := zb2_el hf
                    refine z_cVi C (c_X7_taken _ _ hc70) rfl gX7_readPart_X7_taken rfl rfl zdX7_taken rfl (Nat.le_of_ble_eq_true rfl) rfl rfl rfl ⟨Nat.le_of_ble_eq_true rfl, Nat.le_of_ble_eq_true rfl⟩ (Nat.le_of_ble_eq_true rfl) dX7_readPart_296 rfl ?_
                    obtain ⟨hi73, hf⟩ := ck_el hf
                    refine z_iast C (k := 25) (Nat.le_of_ble_eq_true rfl) rfl hi73 dX7_readPart_299 ?_
                    refine z_nm (fun m74 e_m74 => ?_)
                    replace hf := bn_to e_m74 hf
                    cases hf
                    exact hret _ _ dX7_readPart_300
            · replace hf := if_f c93 hf
              refine z_aload_n C 0 dX7_readPart_180 rfl rfl ?_
              refine z_getr C (t := 23) (Nat.le_of_ble_eq_true rfl) rfl rfl 26 (Nat.le_of_ble_eq_true rfl) rfl kiX7_readPart_X7 kfX7_readPart_77 dX7_readPart_181 ?_
              refine z_iload_n C 2 dX7_readPart_184 rfl rfl ?_
              refine z_aload_n C 0 dX7_readPart_185 rfl rfl ?_
              refine z_bipush C (v := 64) dX7_readPart_186 rfl ?_
              obtain ⟨r79, hc78, hf⟩ := zb_el hf
              refine z_cVi C (c_X7_is _ _ hc78) rfl gX7_readPart_X7_is rfl rfl zdX7_is rfl (Nat.le_of_ble_eq_true rfl) rfl rfl rfl ⟨Nat.le_of_ble_eq_true rfl, Nat.le_of_ble_eq_true rfl⟩ (Nat.le_of_ble_eq_true rfl) dX7_readPart_188 rfl ?_
              obtain ⟨y80, hg, hf⟩ := zb_el hf
              have hj : zGo MM K m20 [(0, .ref ((zw K).2.1 0)), (2, .int x4)] 199 [.int y80, .int x4, .ref ((zw K).2.1 23)] := by
                obtain ⟨hi81, hf⟩ := ck_el hf
                refine z_iast C (k := 23) (Nat.le_of_ble_eq_true rfl) rfl hi81 dX7_readPart_199 ?_
                refine z_nm (fun m82 e_m82 => ?_)
                replace hf := bn_to e_m82 hf
                refine z_aload_n C 0 dX7_readPart_200 rfl rfl ?_
                obtain ⟨m84, hc83, hf⟩ := zb_el hf
                refine z_cVv C (c_X7_next _ _ hc83) rfl gX7_readPart_X7_next rfl rfl zdX7_next rfl (Nat.le_of_ble_eq_true rfl) rfl rfl rfl ⟨Nat.le_of_ble_eq_true rfl, Nat.le_of_ble_eq_true rfl⟩ (Nat.le_of_ble_eq_true rfl) dX7_readPart_201 rfl ?_
                refine z_aload_n C 0 dX7_readPart_204 rfl rfl ?_
                refine z_getr C (t := 24) (Nat.le_of_ble_eq_true rfl) rfl rfl 27 (Nat.le_of_ble_eq_true rfl) rfl kiX7_readPart_X7 kfX7_readPart_80 dX7_readPart_205 ?_
                refine z_iload_n C 1 dX7_readPart_208 rfl rfl ?_
                refine z_aload_n C 0 dX7_readPart_209 rfl rfl ?_
                refine z_iconst C (v := 1) dX7_readPart_210 rfl ?_
                obtain ⟨r86, m87, hc85, hf⟩ := zb2_el hf
                refine z_cVi C (c_X7_taken _ _ hc85) rfl gX7_readPart_X7_taken rfl rfl zdX7_taken rfl (Nat.le_of_ble_eq_true rfl) rfl rfl rfl ⟨Nat.le_of_ble_eq_true rfl, Nat.le_of_ble_eq_true rfl⟩ (Nat.le_of_ble_eq_true rfl) dX7_readPart_211 rfl ?_
                obtain ⟨hi88, hf⟩ := ck_el hf
                refine z_iast C (k := 24) (Nat.le_of_ble_eq_true rfl) rfl hi88 dX7_readPart_214 ?_
                refine z_nm (fun m89 e_m89 => ?_)
                replace hf := bn_to e_m89 hf
                refine z_aload_n C 0 dX7_readPart_215 rfl rfl ?_
                refine z_getr C (t := 26) (Nat.le_of_ble_eq_true rfl) rfl rfl 29 (Nat.le_of_ble_eq_true rfl) rfl kiX7_readPart_X7 kfX7_readPart_86 dX7_readPart_216 ?_
                refine z_iload_n C 1 dX7_readPart_219 rfl rfl ?_
                refine z_aload_n C 0 dX7_readPart_220 rfl rfl ?_
                refine z_geti C (Nat.le_of_ble_eq_true rfl) rfl rfl 44 (Nat.le_of_ble_eq_true rfl) rfl kiX7_readPart_X7 kfX7_readPart_222 dX7_readPart_221 ?_
                obtain ⟨hi90, hf⟩ := ck_el hf
                refine z_iast C (k := 26) (Nat.le_of_ble_eq_true rfl) rfl hi90 dX7_readPart_224 ?_
                refine z_nm (fun m91 e_m91 => ?_)
                replace hf := bn_to e_m91 hf
                refine z_goto (tgt := 300) C dX7_readPart_225 (by decide) ?_
                cases hf
                exact hret _ _ dX7_readPart_300
              replace hf := hg
              clear hg
              refine z_if_eq (tgt := 198) C dX7_readPart_191 (by decide) (fun c92 => ?_) (fun c92 => ?_)
              · replace hf := if_t c92 hf
                refine z_iconst C (v := 2) dX7_readPart_198 rfl ?_
                cases hf
                exact z_sub [0, 2] rfl hj
              · replace hf := if_f c92 hf
                refine z_iconst C (v := 1) dX7_readPart_194 rfl ?_
                refine z_goto (tgt := 199) C dX7_readPart_195 (by decide) ?_
                cases hf
                exact z_sub [0, 2] rfl hj
        · replace hf := if_f c99 hf
          refine z_aload_n C 0 dX7_readPart_148 rfl rfl ?_
          refine z_getr C (t := 23) (Nat.le_of_ble_eq_true rfl) rfl rfl 26 (Nat.le_of_ble_eq_true rfl) rfl kiX7_readPart_X7 kfX7_readPart_77 dX7_readPart_149 ?_
          refine z_iload_n C 2 dX7_readPart_152 rfl rfl ?_
          refine z_iconst C (v := 0) dX7_readPart_153 rfl ?_
          obtain ⟨hi95, hf⟩ := ck_el hf
          refine z_iast C (k := 23) (Nat.le_of_ble_eq_true rfl) rfl hi95 dX7_readPart_154 ?_
          refine z_nm (fun m96 e_m96 => ?_)
          replace hf := bn_to e_m96 hf
          refine z_aload_n C 0 dX7_readPart_155 rfl rfl ?_
          obtain ⟨m98, hc97, hf⟩ := zb_el hf
          refine z_cVv C (c_X7_next _ _ hc97) rfl gX7_readPart_X7_next rfl rfl zdX7_next rfl (Nat.le_of_ble_eq_true rfl) rfl rfl rfl ⟨Nat.le_of_ble_eq_true rfl, Nat.le_of_ble_eq_true rfl⟩ (Nat.le_of_ble_eq_true rfl) dX7_readPart_156 rfl ?_
          refine z_goto (tgt := 300) C dX7_readPart_159 (by decide) ?_
          cases hf
          exact hret _ _ dX7_readPart_300
      · replace hf := if_f c100 hf
        cases hf
        exact hret _ _ dX7_readPart_68
    replace hf := hg
    clear hg
    refine z_if_ne (tgt := 61) C dX7_readPart_35 (by decide) (fun c105 => ?_) (fun c105 => ?_)
    · replace hf := if_f c105 hf
      cases hf
      exact z_sub [0, 1] rfl hj
    · replace hf := if_t c105 hf
      refine z_aload_n C 0 dX7_readPart_38 rfl rfl ?_
      refine z_getr C (t := 21) (Nat.le_of_ble_eq_true rfl) rfl rfl 24 (Nat.le_of_ble_eq_true rfl) rfl kiX7_readPart_X7 kfX7_readPart_71 dX7_readPart_39 ?_
      refine z_aload_n C 0 dX7_readPart_42 rfl rfl ?_
      refine z_geti C (Nat.le_of_ble_eq_true rfl) rfl rfl 21 (Nat.le_of_ble_eq_true rfl) rfl kiX7_readPart_X7 kfX7_readPart_234 dX7_readPart_43 ?_
      obtain ⟨hi101, hf⟩ := ck_el hf
      refine z_iald C (k := 21) (Nat.le_of_ble_eq_true rfl) rfl hi101 dX7_readPart_46 ?_
      refine z_bipush C (v := 6) dX7_readPart_47 rfl ?_
      refine z_icmp_ne (tgt := 61) C dX7_readPart_49 (by decide) (fun c104 => ?_) (fun c104 => ?_)
      · replace hf := if_f c104 hf
        cases hf
        exact z_sub [0, 1] rfl hj
      · replace hf := if_t c104 hf
        refine z_aload_n C 0 dX7_readPart_52 rfl rfl ?_
        refine z_iconst C (v := 4) dX7_readPart_53 rfl ?_
        refine z_aload_n C 0 dX7_readPart_54 rfl rfl ?_
        refine z_geti C (Nat.le_of_ble_eq_true rfl) rfl rfl 39 (Nat.le_of_ble_eq_true rfl) rfl kiX7_readPart_X7 kfX7_readPart_186 dX7_readPart_55 ?_
        obtain ⟨m103, hc102, hf⟩ := zb_el hf
        refine z_cVv C (c_X7_fails _ _ hc102) rfl gX7_readPart_X7_fails rfl rfl zdX7_fails rfl (Nat.le_of_ble_eq_true rfl) rfl rfl rfl ⟨Nat.le_of_ble_eq_true rfl, Nat.le_of_ble_eq_true rfl⟩ (Nat.le_of_ble_eq_true rfl) dX7_readPart_58 rfl ?_
        cases hf
        exact z_sub [0, 1] rfl hj
  replace hf := hg
  clear hg
  refine z_if_ne (tgt := 31) C dX7_readPart_4 (by decide) (fun c111 => ?_) (fun c111 => ?_)
  · replace hf := if_f c111 hf
    cases hf
    exact z_sub [0, 1] rfl hj
  · replace hf := if_t c111 hf
    refine z_aload_n C 0 dX7_readPart_7 rfl rfl ?_
    refine z_geti C (Nat.le_of_ble_eq_true rfl) rfl rfl 41 (Nat.le_of_ble_eq_true rfl) rfl kiX7_readPart_X7 kfX7_readPart_200 dX7_readPart_8 ?_
    refine z_i2l C dX7_readPart_11 ?_
    refine z_lconst C (v := 0) dX7_readPart_12 rfl ?_
    refine z_ldc2 C (v := 9) dX7_readPart_13 kcX7_readPart_160 ?_
    obtain ⟨r107, hc106, hf⟩ := zb_el hf
    refine z_cSi C (c_X7_in _ _ hc106) rfl gX7_readPart_X7_in rfl rfl zdX7_in.2 rfl ⟨Nat.le_of_ble_eq_true rfl, Nat.le_of_ble_eq_true rfl⟩ (Nat.le_of_ble_eq_true rfl) dX7_readPart_16 rfl ?_
    refine z_if_ne (tgt := 31) C dX7_readPart_19 (by decide) (fun c110 => ?_) (fun c110 => ?_)
    · replace hf := if_f c110 hf
      cases hf
      exact z_sub [0, 1] rfl hj
    · replace hf := if_t c110 hf
      refine z_aload_n C 0 dX7_readPart_22 rfl rfl ?_
      refine z_iconst C (v := 3) dX7_readPart_23 rfl ?_
      refine z_aload_n C 0 dX7_readPart_24 rfl rfl ?_
      refine z_geti C (Nat.le_of_ble_eq_true rfl) rfl rfl 39 (Nat.le_of_ble_eq_true rfl) rfl kiX7_readPart_X7 kfX7_readPart_186 dX7_readPart_25 ?_
      obtain ⟨m109, hc108, hf⟩ := zb_el hf
      refine z_cVv C (c_X7_fails _ _ hc108) rfl gX7_readPart_X7_fails rfl rfl zdX7_fails rfl (Nat.le_of_ble_eq_true rfl) rfl rfl rfl ⟨Nat.le_of_ble_eq_true rfl, Nat.le_of_ble_eq_true rfl⟩ (Nat.le_of_ble_eq_true rfl) dX7_readPart_28 rfl ?_
      cases hf
      exact z_sub [0, 1] rfl hj
def rmX7_taken2 : Room := { frames := 3, cells := 0, slots := 0, locals := 63 }
theorem zdX7_taken2 : yX7_taken2.cls = RX7 ∧ yX7_taken2.cls ≠ "java/lang/invoke/MethodHandle" ∧ yX7_taken2.cls ≠ "java/lang/invoke/VarHandle" ∧ (parseMethodDescriptor yX7_taken2.desc).map (fun d => d.parameters.length) = some 1 := by decide +kernel
theorem kiX7_taken2_X7 : ∀ w ∈ wsX70, w ∈ wsX7_taken2 := by decide +kernel
theorem kfX7_taken2_177 : Cond.fieldLink RX7 177 "ShapeJudgeModel" "fault" "I" ∈ wsX7_taken2 := by decide +kernel
theorem kfX7_taken2_186 : Cond.fieldLink RX7 186 "ShapeJudgeModel" "from" "I" ∈ wsX7_taken2 := by decide +kernel
def s_X7_taken2 (m : Mem) (a1 : Int32) : Option (Mem) :=
  (((if (m 0 42) = 0 then ((s_X7_is m a1).bind fun r6 => (if r6 = 0 then ((s_X7_fails m 2 (m 0 39)).bind fun m8 => some m8) else (some m))) else (some m)) : Option (Mem)).bind fun m1 => (if (m1 0 42) = 0 then ((s_X7_next m1).bind fun m3 => some m3) else (some m1)))
set_option maxRecDepth 100000 in
set_option maxHeartbeats 4000000 in
theorem c_X7_taken2 (l : Launch) (w : ZW) {m : Mem} {a1 : Int32} {m9 : Mem}  (hf : s_X7_taken2 m a1 = some m9) : zCv MM l w yX7_taken2 wsX7_taken2 rmX7_taken2 [.ref (w.2.1 0), .int a1] m m9 := by
  refine z_met_v MM_ok (own := RX7) (by decide +kernel) rfl rfl (Nat.le_of_ble_eq_true rfl) ?_
  intro K C hKw hKl hret
  subst hKw
  subst hKl
  unfold s_X7_taken2 at hf
  show zGo MM K m [(0, .ref ((zw K).2.1 0)), (1, .int a1)] 0 []
  refine z_aload_n C 0 dX7_taken2_0 rfl rfl ?_
  refine z_geti C (Nat.le_of_ble_eq_true rfl) rfl rfl 42 (Nat.le_of_ble_eq_true rfl) rfl kiX7_taken2_X7 kfX7_taken2_177 dX7_taken2_1 ?_
  obtain ⟨m1, hg, hf⟩ := zb_el hf
  have hj : zGo MM K m1 [(0, .ref ((zw K).2.1 0))] 24 [] := by
    refine z_aload_n C 0 dX7_taken2_24 rfl rfl ?_
    refine z_geti C (Nat.le_of_ble_eq_true rfl) rfl rfl 42 (Nat.le_of_ble_eq_true rfl) rfl kiX7_taken2_X7 kfX7_taken2_177 dX7_taken2_25 ?_
    refine z_if_ne (tgt := 35) C dX7_taken2_28 (by decide) (fun c4 => ?_) (fun c4 => ?_)
    · replace hf := if_f c4 hf
      cases hf
      exact hret _ _ dX7_taken2_35
    · replace hf := if_t c4 hf
      refine z_aload_n C 0 dX7_taken2_31 rfl rfl ?_
      obtain ⟨m3, hc2, hf⟩ := zb_el hf
      refine z_cVv C (c_X7_next _ _ hc2) rfl gX7_taken2_X7_next rfl rfl zdX7_next rfl (Nat.le_of_ble_eq_true rfl) rfl rfl rfl ⟨Nat.le_of_ble_eq_true rfl, Nat.le_of_ble_eq_true rfl⟩ (Nat.le_of_ble_eq_true rfl) dX7_taken2_32 rfl ?_
      cases hf
      exact hret _ _ dX7_taken2_35
  replace hf := hg
  clear hg
  refine z_if_ne (tgt := 24) C dX7_taken2_4 (by decide) (fun c10 => ?_) (fun c10 => ?_)
  · replace hf := if_f c10 hf
    cases hf
    exact z_sub [0] rfl hj
  · replace hf := if_t c10 hf
    refine z_aload_n C 0 dX7_taken2_7 rfl rfl ?_
    refine z_iload_n C 1 dX7_taken2_8 rfl rfl ?_
    obtain ⟨r6, hc5, hf⟩ := zb_el hf
    refine z_cVi C (c_X7_is _ _ hc5) rfl gX7_taken2_X7_is rfl rfl zdX7_is rfl (Nat.le_of_ble_eq_true rfl) rfl rfl rfl ⟨Nat.le_of_ble_eq_true rfl, Nat.le_of_ble_eq_true rfl⟩ (Nat.le_of_ble_eq_true rfl) dX7_taken2_9 rfl ?_
    refine z_if_ne (tgt := 24) C dX7_taken2_12 (by decide) (fun c9 => ?_) (fun c9 => ?_)
    · replace hf := if_f c9 hf
      cases hf
      exact z_sub [0] rfl hj
    · replace hf := if_t c9 hf
      refine z_aload_n C 0 dX7_taken2_15 rfl rfl ?_
      refine z_iconst C (v := 2) dX7_taken2_16 rfl ?_
      refine z_aload_n C 0 dX7_taken2_17 rfl rfl ?_
      refine z_geti C (Nat.le_of_ble_eq_true rfl) rfl rfl 39 (Nat.le_of_ble_eq_true rfl) rfl kiX7_taken2_X7 kfX7_taken2_186 dX7_taken2_18 ?_
      obtain ⟨m8, hc7, hf⟩ := zb_el hf
      refine z_cVv C (c_X7_fails _ _ hc7) rfl gX7_taken2_X7_fails rfl rfl zdX7_fails rfl (Nat.le_of_ble_eq_true rfl) rfl rfl rfl ⟨Nat.le_of_ble_eq_true rfl, Nat.le_of_ble_eq_true rfl⟩ (Nat.le_of_ble_eq_true rfl) dX7_taken2_21 rfl ?_
      cases hf
      exact z_sub [0] rfl hj
def rmX7_readCount : Room := { frames := 5, cells := 0, slots := 0, locals := 107 }
theorem zdX7_readCount : yX7_readCount.cls = RX7 ∧ yX7_readCount.cls ≠ "java/lang/invoke/MethodHandle" ∧ yX7_readCount.cls ≠ "java/lang/invoke/VarHandle" ∧ (parseMethodDescriptor yX7_readCount.desc).map (fun d => d.parameters.length) = some 1 := by decide +kernel
theorem kiX7_readCount_X7 : ∀ w ∈ wsX70, w ∈ wsX7_readCount := by decide +kernel
theorem kfX7_readCount_98 : Cond.fieldLink RX7 98 "ShapeJudgeModel" "dLeast" "[I" ∈ wsX7_readCount := by decide +kernel
theorem kfX7_readCount_177 : Cond.fieldLink RX7 177 "ShapeJudgeModel" "fault" "I" ∈ wsX7_readCount := by decide +kernel
theorem kfX7_readCount_101 : Cond.fieldLink RX7 101 "ShapeJudgeModel" "dMost" "[I" ∈ wsX7_readCount := by decide +kernel
theorem kfX7_readCount_193 : Cond.fieldLink RX7 193 "ShapeJudgeModel" "sort" "I" ∈ wsX7_readCount := by decide +kernel
theorem kfX7_readCount_200 : Cond.fieldLink RX7 200 "ShapeJudgeModel" "value" "I" ∈ wsX7_readCount := by decide +kernel
theorem kcX7_readCount_241 : Cond.constantLong RX7 241 (5) ∈ wsX7_readCount := by decide +kernel
theorem kfX7_readCount_186 : Cond.fieldLink RX7 186 "ShapeJudgeModel" "from" "I" ∈ wsX7_readCount := by decide +kernel
def s_X7_readCount (m : Mem) (a1 : Int32) : Option (Mem) :=
  (s_X7_is m 91).bind fun r2 => (if r2 = 0 then (some m) else ((s_X7_next m).bind fun m4 => zb2 (s_X7_number m4 0 5) fun r6 m7 => ck (zin a1 960 = true) (bn (sto m7 30 (Int32.toNatClampNeg a1) r6) fun m9 => (if (m9 0 42) = 0 then ((if (m9 0 40) = 2 then ((s_X7_in (m9 0 41).toInt64 0 5).bind fun r25 => (if r25 = 0 then (zb2 (s_X7_number m9 0 5) fun r27 m28 => ck (zin a1 960 = true) (bn (sto m28 31 (Int32.toNatClampNeg a1) r27) fun m30 => (s_X7_taken2 m30 93).bind fun m32 => some m32)) else (ck (zin a1 960 = true) ((if (m9 30 (Int32.toNatClampNeg a1)) ≤ (m9 0 41) then (zb2 (s_X7_number m9 0 5) fun r35 m36 => ck (zin a1 960 = true) (bn (sto m36 31 (Int32.toNatClampNeg a1) r35) fun m38 => (s_X7_taken2 m38 93).bind fun m40 => some m40)) else ((s_X7_fails m9 3 (m9 0 39)).bind fun m42 => zb2 (s_X7_number m42 0 5) fun r44 m45 => ck (zin a1 960 = true) (bn (sto m45 31 (Int32.toNatClampNeg a1) r44) fun m47 => (s_X7_taken2 m47 93).bind fun m49 => some m49))))))) else (zb2 (s_X7_number m9 0 5) fun r18 m19 => ck (zin a1 960 = true) (bn (sto m19 31 (Int32.toNatClampNeg a1) r18) fun m21 => (s_X7_taken2 m21 93).bind fun m23 => some m23)))) else (zb2 (s_X7_number m9 0 5) fun r11 m12 => ck (zin a1 960 = true) (bn (sto m12 31 (Int32.toNatClampNeg a1) r11) fun m14 => (s_X7_taken2 m14 93).bind fun m16 => some m16))))))
set_option maxRecDepth 100000 in
set_option maxHeartbeats 4000000 in
theorem c_X7_readCount (l : Launch) (w : ZW) {m : Mem} {a1 : Int32} {m9 : Mem}  (hf : s_X7_readCount m a1 = some m9) : zCv MM l w yX7_readCount wsX7_readCount rmX7_readCount [.ref (w.2.1 0), .int a1] m m9 := by
  refine z_met_v MM_ok (own := RX7) (by decide +kernel) rfl rfl (Nat.le_of_ble_eq_true rfl) ?_
  intro K C hKw hKl hret
  subst hKw
  subst hKl
  unfold s_X7_readCount at hf
  show zGo MM K m [(0, .ref ((zw K).2.1 0)), (1, .int a1)] 0 []
  refine z_aload_n C 0 dX7_readCount_0 rfl rfl ?_
  refine z_bipush C (v := 91) dX7_readCount_1 rfl ?_
  obtain ⟨r2, hc1, hf⟩ := zb_el hf
  refine z_cVi C (c_X7_is _ _ hc1) rfl gX7_readCount_X7_is rfl rfl zdX7_is rfl (Nat.le_of_ble_eq_true rfl) rfl rfl rfl ⟨Nat.le_of_ble_eq_true rfl, Nat.le_of_ble_eq_true rfl⟩ (Nat.le_of_ble_eq_true rfl) dX7_readCount_3 rfl ?_
  refine z_if_eq (tgt := 95) C dX7_readCount_6 (by decide) (fun c54 => ?_) (fun c54 => ?_)
  · replace hf := if_t c54 hf
    cases hf
    exact hret _ _ dX7_readCount_95
  · replace hf := if_f c54 hf
    refine z_aload_n C 0 dX7_readCount_9 rfl rfl ?_
    obtain ⟨m4, hc3, hf⟩ := zb_el hf
    refine z_cVv C (c_X7_next _ _ hc3) rfl gX7_readCount_X7_next rfl rfl zdX7_next rfl (Nat.le_of_ble_eq_true rfl) rfl rfl rfl ⟨Nat.le_of_ble_eq_true rfl, Nat.le_of_ble_eq_true rfl⟩ (Nat.le_of_ble_eq_true rfl) dX7_readCount_10 rfl ?_
    refine z_aload_n C 0 dX7_readCount_13 rfl rfl ?_
    refine z_getr C (t := 30) (Nat.le_of_ble_eq_true rfl) rfl rfl 33 (Nat.le_of_ble_eq_true rfl) rfl kiX7_readCount_X7 kfX7_readCount_98 dX7_readCount_14 ?_
    refine z_iload_n C 1 dX7_readCount_17 rfl rfl ?_
    refine z_aload_n C 0 dX7_readCount_18 rfl rfl ?_
    refine z_iconst C (v := 0) dX7_readCount_19 rfl ?_
    refine z_iconst C (v := 5) dX7_readCount_20 rfl ?_
    obtain ⟨r6, m7, hc5, hf⟩ := zb2_el hf
    refine z_cVi C (c_X7_number _ _ hc5) rfl gX7_readCount_X7_number rfl rfl zdX7_number rfl (Nat.le_of_ble_eq_true rfl) rfl rfl rfl ⟨Nat.le_of_ble_eq_true rfl, Nat.le_of_ble_eq_true rfl⟩ (Nat.le_of_ble_eq_true rfl) dX7_readCount_21 rfl ?_
    obtain ⟨hi8, hf⟩ := ck_el hf
    refine z_iast C (k := 30) (Nat.le_of_ble_eq_true rfl) rfl hi8 dX7_readCount_24 ?_
    refine z_nm (fun m9 e_m9 => ?_)
    replace hf := bn_to e_m9 hf
    refine z_aload_n C 0 dX7_readCount_25 rfl rfl ?_
    refine z_geti C (Nat.le_of_ble_eq_true rfl) rfl rfl 42 (Nat.le_of_ble_eq_true rfl) rfl kiX7_readCount_X7 kfX7_readCount_177 dX7_readCount_26 ?_
    refine z_if_ne (tgt := 77) C dX7_readCount_29 (by decide) (fun c53 => ?_) (fun c53 => ?_)
    · replace hf := if_f c53 hf
      refine z_aload_n C 0 dX7_readCount_77 rfl rfl ?_
      refine z_getr C (t := 31) (Nat.le_of_ble_eq_true rfl) rfl rfl 34 (Nat.le_of_ble_eq_true rfl) rfl kiX7_readCount_X7 kfX7_readCount_101 dX7_readCount_78 ?_
      refine z_iload_n C 1 dX7_readCount_81 rfl rfl ?_
      refine z_aload_n C 0 dX7_readCount_82 rfl rfl ?_
      refine z_iconst C (v := 0) dX7_readCount_83 rfl ?_
      refine z_iconst C (v := 5) dX7_readCount_84 rfl ?_
      obtain ⟨r11, m12, hc10, hf⟩ := zb2_el hf
      refine z_cVi C (c_X7_number _ _ hc10) rfl gX7_readCount_X7_number rfl rfl zdX7_number rfl (Nat.le_of_ble_eq_true rfl) rfl rfl rfl ⟨Nat.le_of_ble_eq_true rfl, Nat.le_of_ble_eq_true rfl⟩ (Nat.le_of_ble_eq_true rfl) dX7_readCount_85 rfl ?_
      obtain ⟨hi13, hf⟩ := ck_el hf
      refine z_iast C (k := 31) (Nat.le_of_ble_eq_true rfl) rfl hi13 dX7_readCount_88 ?_
      refine z_nm (fun m14 e_m14 => ?_)
      replace hf := bn_to e_m14 hf
      refine z_aload_n C 0 dX7_readCount_89 rfl rfl ?_
      refine z_bipush C (v := 93) dX7_readCount_90 rfl ?_
      obtain ⟨m16, hc15, hf⟩ := zb_el hf
      refine z_cVv C (c_X7_taken2 _ _ hc15) rfl gX7_readCount_X7_taken2 rfl rfl zdX7_taken2 rfl (Nat.le_of_ble_eq_true rfl) rfl rfl rfl ⟨Nat.le_of_ble_eq_true rfl, Nat.le_of_ble_eq_true rfl⟩ (Nat.le_of_ble_eq_true rfl) dX7_readCount_92 rfl ?_
      cases hf
      exact hret _ _ dX7_readCount_95
    · replace hf := if_t c53 hf
      refine z_aload_n C 0 dX7_readCount_32 rfl rfl ?_
      refine z_geti C (Nat.le_of_ble_eq_true rfl) rfl rfl 40 (Nat.le_of_ble_eq_true rfl) rfl kiX7_readCount_X7 kfX7_readCount_193 dX7_readCount_33 ?_
      refine z_iconst C (v := 2) dX7_readCount_36 rfl ?_
      refine z_icmp_ne (tgt := 77) C dX7_readCount_37 (by decide) (fun c52 => ?_) (fun c52 => ?_)
      · replace hf := if_f c52 hf
        refine z_aload_n C 0 dX7_readCount_77 rfl rfl ?_
        refine z_getr C (t := 31) (Nat.le_of_ble_eq_true rfl) rfl rfl 34 (Nat.le_of_ble_eq_true rfl) rfl kiX7_readCount_X7 kfX7_readCount_101 dX7_readCount_78 ?_
        refine z_iload_n C 1 dX7_readCount_81 rfl rfl ?_
        refine z_aload_n C 0 dX7_readCount_82 rfl rfl ?_
        refine z_iconst C (v := 0) dX7_readCount_83 rfl ?_
        refine z_iconst C (v := 5) dX7_readCount_84 rfl ?_
        obtain ⟨r18, m19, hc17, hf⟩ := zb2_el hf
        refine z_cVi C (c_X7_number _ _ hc17) rfl gX7_readCount_X7_number rfl rfl zdX7_number rfl (Nat.le_of_ble_eq_true rfl) rfl rfl rfl ⟨Nat.le_of_ble_eq_true rfl, Nat.le_of_ble_eq_true rfl⟩ (Nat.le_of_ble_eq_true rfl) dX7_readCount_85 rfl ?_
        obtain ⟨hi20, hf⟩ := ck_el hf
        refine z_iast C (k := 31) (Nat.le_of_ble_eq_true rfl) rfl hi20 dX7_readCount_88 ?_
        refine z_nm (fun m21 e_m21 => ?_)
        replace hf := bn_to e_m21 hf
        refine z_aload_n C 0 dX7_readCount_89 rfl rfl ?_
        refine z_bipush C (v := 93) dX7_readCount_90 rfl ?_
        obtain ⟨m23, hc22, hf⟩ := zb_el hf
        refine z_cVv C (c_X7_taken2 _ _ hc22) rfl gX7_readCount_X7_taken2 rfl rfl zdX7_taken2 rfl (Nat.le_of_ble_eq_true rfl) rfl rfl rfl ⟨Nat.le_of_ble_eq_true rfl, Nat.le_of_ble_eq_true rfl⟩ (Nat.le_of_ble_eq_true rfl) dX7_readCount_92 rfl ?_
        cases hf
        exact hret _ _ dX7_readCount_95
      · replace hf := if_t c52 hf
        refine z_aload_n C 0 dX7_readCount_40 rfl rfl ?_
        refine z_geti C (Nat.le_of_ble_eq_true rfl) rfl rfl 41 (Nat.le_of_ble_eq_true rfl) rfl kiX7_readCount_X7 kfX7_readCount_200 dX7_readCount_41 ?_
        refine z_i2l C dX7_readCount_44 ?_
        refine z_lconst C (v := 0) dX7_readCount_45 rfl ?_
        refine z_ldc2 C (v := 5) dX7_readCount_46 kcX7_readCount_241 ?_
        obtain ⟨r25, hc24, hf⟩ := zb_el hf
        refine z_cSi C (c_X7_in _ _ hc24) rfl gX7_readCount_X7_in rfl rfl zdX7_in.2 rfl ⟨Nat.le_of_ble_eq_true rfl, Nat.le_of_ble_eq_true rfl⟩ (Nat.le_of_ble_eq_true rfl) dX7_readCount_49 rfl ?_
        refine z_if_eq (tgt := 77) C dX7_readCount_52 (by decide) (fun c51 => ?_) (fun c51 => ?_)
        · replace hf := if_t c51 hf
          refine z_aload_n C 0 dX7_readCount_77 rfl rfl ?_
          refine z_getr C (t := 31) (Nat.le_of_ble_eq_true rfl) rfl rfl 34 (Nat.le_of_ble_eq_true rfl) rfl kiX7_readCount_X7 kfX7_readCount_101 dX7_readCount_78 ?_
          refine z_iload_n C 1 dX7_readCount_81 rfl rfl ?_
          refine z_aload_n C 0 dX7_readCount_82 rfl rfl ?_
          refine z_iconst C (v := 0) dX7_readCount_83 rfl ?_
          refine z_iconst C (v := 5) dX7_readCount_84 rfl ?_
          obtain ⟨r27, m28, hc26, hf⟩ := zb2_el hf
          refine z_cVi C (c_X7_number _ _ hc26) rfl gX7_readCount_X7_number rfl rfl zdX7_number rfl (Nat.le_of_ble_eq_true rfl) rfl rfl rfl ⟨Nat.le_of_ble_eq_true rfl, Nat.le_of_ble_eq_true rfl⟩ (Nat.le_of_ble_eq_true rfl) dX7_readCount_85 rfl ?_
          obtain ⟨hi29, hf⟩ := ck_el hf
          refine z_iast C (k := 31) (Nat.le_of_ble_eq_true rfl) rfl hi29 dX7_readCount_88 ?_
          refine z_nm (fun m30 e_m30 => ?_)
          replace hf := bn_to e_m30 hf
          refine z_aload_n C 0 dX7_readCount_89 rfl rfl ?_
          refine z_bipush C (v := 93) dX7_readCount_90 rfl ?_
          obtain ⟨m32, hc31, hf⟩ := zb_el hf
          refine z_cVv C (c_X7_taken2 _ _ hc31) rfl gX7_readCount_X7_taken2 rfl rfl zdX7_taken2 rfl (Nat.le_of_ble_eq_true rfl) rfl rfl rfl ⟨Nat.le_of_ble_eq_true rfl, Nat.le_of_ble_eq_true rfl⟩ (Nat.le_of_ble_eq_true rfl) dX7_readCount_92 rfl ?_
          cases hf
          exact hret _ _ dX7_readCount_95
        · replace hf := if_f c51 hf
          refine z_aload_n C 0 dX7_readCount_55 rfl rfl ?_
          refine z_geti C (Nat.le_of_ble_eq_true rfl) rfl rfl 41 (Nat.le_of_ble_eq_true rfl) rfl kiX7_readCount_X7 kfX7_readCount_200 dX7_readCount_56 ?_
          refine z_aload_n C 0 dX7_readCount_59 rfl rfl ?_
          refine z_getr C (t := 30) (Nat.le_of_ble_eq_true rfl) rfl rfl 33 (Nat.le_of_ble_eq_true rfl) rfl kiX7_readCount_X7 kfX7_readCount_98 dX7_readCount_60 ?_
          refine z_iload_n C 1 dX7_readCount_63 rfl rfl ?_
          obtain ⟨hi33, hf⟩ := ck_el hf
          refine z_iald C (k := 30) (Nat.le_of_ble_eq_true rfl) rfl hi33 dX7_readCount_64 ?_
          refine z_icmp_ge (tgt := 77) C dX7_readCount_65 (by decide) (fun c50 => ?_) (fun c50 => ?_)
          · replace hf := if_t c50 hf
            refine z_aload_n C 0 dX7_readCount_77 rfl rfl ?_
            refine z_getr C (t := 31) (Nat.le_of_ble_eq_true rfl) rfl rfl 34 (Nat.le_of_ble_eq_true rfl) rfl kiX7_readCount_X7 kfX7_readCount_101 dX7_readCount_78 ?_
            refine z_iload_n C 1 dX7_readCount_81 rfl rfl ?_
            refine z_aload_n C 0 dX7_readCount_82 rfl rfl ?_
            refine z_iconst C (v := 0) dX7_readCount_83 rfl ?_
            refine z_iconst C (v := 5) dX7_readCount_84 rfl ?_
            obtain ⟨r35, m36, hc34, hf⟩ := zb2_el hf
            refine z_cVi C (c_X7_number _ _ hc34) rfl gX7_readCount_X7_number rfl rfl zdX7_number rfl (Nat.le_of_ble_eq_true rfl) rfl rfl rfl ⟨Nat.le_of_ble_eq_true rfl, Nat.le_of_ble_eq_true rfl⟩ (Nat.le_of_ble_eq_true rfl) dX7_readCount_85 rfl ?_
            obtain ⟨hi37, hf⟩ := ck_el hf
            refine z_iast C (k := 31) (Nat.le_of_ble_eq_true rfl) rfl hi37 dX7_readCount_88 ?_
            refine z_nm (fun m38 e_m38 => ?_)
            replace hf := bn_to e_m38 hf
            refine z_aload_n C 0 dX7_readCount_89 rfl rfl ?_
            refine z_bipush C (v := 93) dX7_readCount_90 rfl ?_
            obtain ⟨m40, hc39, hf⟩ := zb_el hf
            refine z_cVv C (c_X7_taken2 _ _ hc39) rfl gX7_readCount_X7_taken2 rfl rfl zdX7_taken2 rfl (Nat.le_of_ble_eq_true rfl) rfl rfl rfl ⟨Nat.le_of_ble_eq_true rfl, Nat.le_of_ble_eq_true rfl⟩ (Nat.le_of_ble_eq_true rfl) dX7_readCount_92 rfl ?_
            cases hf
            exact hret _ _ dX7_readCount_95
          · replace hf := if_f c50 hf
            refine z_aload_n C 0 dX7_readCount_68 rfl rfl ?_
            refine z_iconst C (v := 3) dX7_readCount_69 rfl ?_
            refine z_aload_n C 0 dX7_readCount_70 rfl rfl ?_
            refine z_geti C (Nat.le_of_ble_eq_true rfl) rfl rfl 39 (Nat.le_of_ble_eq_true rfl) rfl kiX7_readCount_X7 kfX7_readCount_186 dX7_readCount_71 ?_
            obtain ⟨m42, hc41, hf⟩ := zb_el hf
            refine z_cVv C (c_X7_fails _ _ hc41) rfl gX7_readCount_X7_fails rfl rfl zdX7_fails rfl (Nat.le_of_ble_eq_true rfl) rfl rfl rfl ⟨Nat.le_of_ble_eq_true rfl, Nat.le_of_ble_eq_true rfl⟩ (Nat.le_of_ble_eq_true rfl) dX7_readCount_74 rfl ?_
            refine z_aload_n C 0 dX7_readCount_77 rfl rfl ?_
            refine z_getr C (t := 31) (Nat.le_of_ble_eq_true rfl) rfl rfl 34 (Nat.le_of_ble_eq_true rfl) rfl kiX7_readCount_X7 kfX7_readCount_101 dX7_readCount_78 ?_
            refine z_iload_n C 1 dX7_readCount_81 rfl rfl ?_
            refine z_aload_n C 0 dX7_readCount_82 rfl rfl ?_
            refine z_iconst C (v := 0) dX7_readCount_83 rfl ?_
            refine z_iconst C (v := 5) dX7_readCount_84 rfl ?_
            obtain ⟨r44, m45, hc43, hf⟩ := zb2_el hf
            refine z_cVi C (c_X7_number _ _ hc43) rfl gX7_readCount_X7_number rfl rfl zdX7_number rfl (Nat.le_of_ble_eq_true rfl) rfl rfl rfl ⟨Nat.le_of_ble_eq_true rfl, Nat.le_of_ble_eq_true rfl⟩ (Nat.le_of_ble_eq_true rfl) dX7_readCount_85 rfl ?_
            obtain ⟨hi46, hf⟩ := ck_el hf
            refine z_iast C (k := 31) (Nat.le_of_ble_eq_true rfl) rfl hi46 dX7_readCount_88 ?_
            refine z_nm (fun m47 e_m47 => ?_)
            replace hf := bn_to e_m47 hf
            refine z_aload_n C 0 dX7_readCount_89 rfl rfl ?_
            refine z_bipush C (v := 93) dX7_readCount_90 rfl ?_
            obtain ⟨m49, hc48, hf⟩ := zb_el hf
            refine z_cVv C (c_X7_taken2 _ _ hc48) rfl gX7_readCount_X7_taken2 rfl rfl zdX7_taken2 rfl (Nat.le_of_ble_eq_true rfl) rfl rfl rfl ⟨Nat.le_of_ble_eq_true rfl, Nat.le_of_ble_eq_true rfl⟩ (Nat.le_of_ble_eq_true rfl) dX7_readCount_92 rfl ?_
            cases hf
            exact hret _ _ dX7_readCount_95
def rmX7_readAny : Room := { frames := 6, cells := 0, slots := 0, locals := 128 }
theorem zdX7_readAny : yX7_readAny.cls = RX7 ∧ yX7_readAny.cls ≠ "java/lang/invoke/MethodHandle" ∧ yX7_readAny.cls ≠ "java/lang/invoke/VarHandle" ∧ (parseMethodDescriptor yX7_readAny.desc).map (fun d => d.parameters.length) = some 0 := by decide +kernel
theorem kiX7_readAny_X7 : ∀ w ∈ wsX70, w ∈ wsX7_readAny := by decide +kernel
theorem kfX7_readAny_113 : Cond.fieldLink RX7 113 "ShapeJudgeModel" "itemAt" "[I" ∈ wsX7_readAny := by decide +kernel
theorem kfX7_readAny_110 : Cond.fieldLink RX7 110 "ShapeJudgeModel" "eachAt" "[I" ∈ wsX7_readAny := by decide +kernel
theorem kfX7_readAny_177 : Cond.fieldLink RX7 177 "ShapeJudgeModel" "fault" "I" ∈ wsX7_readAny := by decide +kernel
theorem kfX7_readAny_186 : Cond.fieldLink RX7 186 "ShapeJudgeModel" "from" "I" ∈ wsX7_readAny := by decide +kernel
theorem kfX7_readAny_193 : Cond.fieldLink RX7 193 "ShapeJudgeModel" "sort" "I" ∈ wsX7_readAny := by decide +kernel
theorem kfX7_readAny_95 : Cond.fieldLink RX7 95 "ShapeJudgeModel" "dAround" "[I" ∈ wsX7_readAny := by decide +kernel
def t_X7_readAny_151  (i28 : Int32) (m29 : Mem) : Option ((Int32 × Mem) ⊕ (Int32 × Mem)) :=
  (s_X7_is m29 41).bind fun r31 => (if r31 = 0 then (some (.inr (i28, m29))) else ((if i28 ≤ 0 then (some (.inr (i28, m29))) else (ck (zin i28 8 = true) (bn (m29 35 (Int32.toNatClampNeg i28)) fun x33 => bn (i28 + (-1)) fun x34 => (s_X7_next m29).bind fun m36 => (s_X7_readCount m36 x33).bind fun m38 => some (.inl (x34, m38)))))))
def l_X7_readAny_151  (n : Nat) (i28 : Int32) (m29 : Mem) : Option (Int32 × Mem) := zlp n (fun a => t_X7_readAny_151  a.1 a.2) (i28, m29)
def t_X7_readAny_30  (i11 : Int32) (i12 : Int32) (m13 : Mem) : Option ((Int32 × Int32 × Mem) ⊕ (Mem)) :=
  (if i12 = 0 then (some (.inr m13)) else ((if (m13 0 42) = 0 then ((s_X7_is m13 40).bind fun r15 => (if r15 = 0 then ((if (m13 0 42) = 0 then ((if (m13 0 40) = 2 then (ck (zin i11 8 = true) (zb2 (s_X7_comes m13 2 (m13 34 (Int32.toNatClampNeg i11))) fun r22 m23 => (s_X7_readPart m23 r22).bind fun m25 => (s_X7_readCount m25 r22).bind fun m27 => (zb2 (l_X7_readAny_151  FU i11 m27) fun y41 m42 => (s_X7_is m42 44).bind fun r44 => (if r44 = 0 then ((s_X7_is m42 124).bind fun r46 => (if r46 = 0 then ((if y41 ≤ 0 then (some (.inl (y41, 0, m42))) else ((s_X7_fails m42 2 (m42 0 39)).bind fun m48 => some (.inl (y41, 0, m48))))) else (ck (zin y41 8 = true) (ck (zin (m42 34 (Int32.toNatClampNeg y41)) 960 = true) (zb2 (s_X7_comes m42 1 (m42 29 (Int32.toNatClampNeg (m42 34 (Int32.toNatClampNeg y41))))) fun r53 m54 => ck (zin y41 8 = true) (bn (sto m54 34 (Int32.toNatClampNeg y41) r53) fun m56 => (s_X7_next m56).bind fun m58 => some (.inl (y41, i12, m58)))))))) else ((s_X7_next m42).bind fun m61 => some (.inl (y41, i12, m61))))))) else ((s_X7_fails m13 2 (m13 0 39)).bind fun m19 => some (.inl (i11, i12, m19))))) else ((s_X7_fails m13 2 (m13 0 39)).bind fun m17 => some (.inl (i11, i12, m17))))) else ((if i11 = 6 then ((s_X7_fails m13 4 (m13 0 39)).bind fun m83 => some (.inl (i11, i12, m83))) else (ck (zin i11 8 = true) (zb2 (s_X7_comes m13 2 (m13 34 (Int32.toNatClampNeg i11))) fun r67 m68 => bn (i11 + 1) fun x69 => ck (zin x69 8 = true) (bn (sto m68 35 (Int32.toNatClampNeg x69) r67) fun m71 => zb2 (s_X7_comes m71 0 r67) fun r73 m74 => zb2 (s_X7_comes m74 1 r73) fun r76 m77 => ck (zin x69 8 = true) (bn (sto m77 34 (Int32.toNatClampNeg x69) r76) fun m79 => (s_X7_next m79).bind fun m81 => some (.inl (x69, i12, m81)))))))))) else (some (.inr m13)))))
def l_X7_readAny_30  (n : Nat) (i11 : Int32) (i12 : Int32) (m13 : Mem) : Option (Mem) := zlp n (fun a => t_X7_readAny_30  a.1 a.2.1 a.2.2) (i11, i12, m13)
def s_X7_readAny (m : Mem)  : Option (Mem) :=
  ck (zin 0 8 = true) (bn (sto m 35 (Int32.toNatClampNeg 0) (-4)) fun m2 => zb2 (s_X7_comes m2 0 (-4)) fun r4 m5 => zb2 (s_X7_comes m5 1 r4) fun r7 m8 => ck (zin 0 8 = true) (bn (sto m8 34 (Int32.toNatClampNeg 0) r7) fun m10 => ((l_X7_readAny_30  FU 0 1 m10).bind fun m88 => some m88)))
set_option maxRecDepth 100000 in
set_option maxHeartbeats 4000000 in
theorem w_X7_readAny_151 {K : ZK} (C : zOK MM K cX7_readAny 5 none RX7 wsX7_readAny rmX7_readAny) {i12 : Int32}  {o0 : Int32} {o1 : Mem} (hk : zGo MM K o1 [(0, .ref ((zw K).2.1 0)), (1, .int o0), (2, .int i12)] 188 []) : ∀ (n : Nat) (i28 : Int32) (m29 : Mem), l_X7_readAny_151  n i28 m29 = some (o0, o1) → zGo MM K m29 [(0, .ref ((zw K).2.1 0)), (1, .int i28), (2, .int i12)] 151 [] := by
  intro n
  induction n with
  | zero =>
    intro i28 m29 hf
    cases hf
  | succ n ih =>
    intro i28 m29 hf
    obtain ⟨z, hf, hz⟩ := zlp_el hf
    replace hf : t_X7_readAny_151  i28 m29 = some z := hf
    unfold t_X7_readAny_151 at hf
    refine z_aload_n C 0 dX7_readAny_151 rfl rfl ?_
    refine z_bipush C (v := 41) dX7_readAny_152 rfl ?_
    obtain ⟨r31, hc30, hf⟩ := zb_el hf
    refine z_cVi C (c_X7_is _ _ hc30) rfl gX7_readAny_X7_is rfl rfl zdX7_is rfl (Nat.le_of_ble_eq_true rfl) rfl rfl rfl ⟨Nat.le_of_ble_eq_true rfl, Nat.le_of_ble_eq_true rfl⟩ (Nat.le_of_ble_eq_true rfl) dX7_readAny_154 rfl ?_
    refine z_if_eq (tgt := 188) C dX7_readAny_157 (by decide) (fun c40 => ?_) (fun c40 => ?_)
    · replace hf := if_t c40 hf
      cases hf
      replace hz := zlz_r hz
      cases hz
      exact z_sub [0, 1, 2] rfl hk
    · replace hf := if_f c40 hf
      refine z_iload_n C 1 dX7_readAny_160 rfl rfl ?_
      refine z_if_le (tgt := 188) C dX7_readAny_161 (by decide) (fun c39 => ?_) (fun c39 => ?_)
      · replace hf := if_t c39 hf
        cases hf
        replace hz := zlz_r hz
        cases hz
        exact z_sub [0, 1, 2] rfl hk
      · replace hf := if_f c39 hf
        refine z_aload_n C 0 dX7_readAny_164 rfl rfl ?_
        refine z_getr C (t := 35) (Nat.le_of_ble_eq_true rfl) rfl rfl 46 (Nat.le_of_ble_eq_true rfl) rfl kiX7_readAny_X7 kfX7_readAny_113 dX7_readAny_165 ?_
        refine z_iload_n C 1 dX7_readAny_168 rfl rfl ?_
        obtain ⟨hi32, hf⟩ := ck_el hf
        refine z_iald C (k := 35) (Nat.le_of_ble_eq_true rfl) rfl hi32 dX7_readAny_169 ?_
        refine z_topi (fun x33 e_x33 => ?_)
        replace hf := bn_to e_x33 hf
        refine z_istore C (lv2 := [(0, .ref ((zw K).2.1 0)), (1, .int i28), (2, .int i12), (4, .int x33)]) [1, 2, 3, 0] dX7_readAny_170 (Nat.le_of_ble_eq_true rfl) rfl ?_
        obtain ⟨x34, e_x34⟩ : ∃ y : Int32, y = i28 + (-1) := ⟨_, rfl⟩
        replace hf := bn_to e_x34 hf
        refine z_iinc C (lv2 := [(0, .ref ((zw K).2.1 0)), (1, .int x34), (2, .int i12), (4, .int x33)]) 1 [1, 0, 2, 3] dX7_readAny_172 (by decide) rfl (Nat.le_of_ble_eq_true rfl) e_x34 rfl ?_
        refine z_aload_n C 0 dX7_readAny_175 rfl rfl ?_
        obtain ⟨m36, hc35, hf⟩ := zb_el hf
        refine z_cVv C (c_X7_next _ _ hc35) rfl gX7_readAny_X7_next rfl rfl zdX7_next rfl (Nat.le_of_ble_eq_true rfl) rfl rfl rfl ⟨Nat.le_of_ble_eq_true rfl, Nat.le_of_ble_eq_true rfl⟩ (Nat.le_of_ble_eq_true rfl) dX7_readAny_176 rfl ?_
        refine z_aload_n C 0 dX7_readAny_179 rfl rfl ?_
        refine z_iload C 3 dX7_readAny_180 rfl ?_
        obtain ⟨m38, hc37, hf⟩ := zb_el hf
        refine z_cVv C (c_X7_readCount _ _ hc37) rfl gX7_readAny_X7_readCount rfl rfl zdX7_readCount rfl (Nat.le_of_ble_eq_true rfl) rfl rfl rfl ⟨Nat.le_of_ble_eq_true rfl, Nat.le_of_ble_eq_true rfl⟩ (Nat.le_of_ble_eq_true rfl) dX7_readAny_182 rfl ?_
        refine z_goto (tgt := 151) C dX7_readAny_185 (by decide) ?_
        cases hf
        exact z_sub [0, 1, 2] rfl (ih x34 m38 hz)
set_option maxRecDepth 100000 in
set_option maxHeartbeats 4000000 in
theorem w_X7_readAny_30 {K : ZK} (C : zOK MM K cX7_readAny 5 none RX7 wsX7_readAny rmX7_readAny)   {o0 : Mem} (hk : zGo MM K o0 [] 272 []) : ∀ (n : Nat) (i11 : Int32) (i12 : Int32) (m13 : Mem), l_X7_readAny_30  n i11 i12 m13 = some o0 → zGo MM K m13 [(0, .ref ((zw K).2.1 0)), (1, .int i11), (2, .int i12)] 30 [] := by
  intro n
  induction n with
  | zero =>
    intro i11 i12 m13 hf
    cases hf
  | succ n ih =>
    intro i11 i12 m13 hf
    obtain ⟨z, hf, hz⟩ := zlp_el hf
    replace hf : t_X7_readAny_30  i11 i12 m13 = some z := hf
    unfold t_X7_readAny_30 at hf
    refine z_iload_n C 2 dX7_readAny_30 rfl rfl ?_
    refine z_if_eq (tgt := 272) C dX7_readAny_31 (by decide) (fun c87 => ?_) (fun c87 => ?_)
    · replace hf := if_t c87 hf
      cases hf
      replace hz := zlz_r hz
      cases hz
      exact z_sub [] rfl hk
    · replace hf := if_f c87 hf
      refine z_aload_n C 0 dX7_readAny_34 rfl rfl ?_
      refine z_geti C (Nat.le_of_ble_eq_true rfl) rfl rfl 42 (Nat.le_of_ble_eq_true rfl) rfl kiX7_readAny_X7 kfX7_readAny_177 dX7_readAny_35 ?_
      refine z_if_ne (tgt := 272) C dX7_readAny_38 (by decide) (fun c86 => ?_) (fun c86 => ?_)
      · replace hf := if_f c86 hf
        cases hf
        replace hz := zlz_r hz
        cases hz
        exact z_sub [] rfl hk
      · replace hf := if_t c86 hf
        refine z_aload_n C 0 dX7_readAny_41 rfl rfl ?_
        refine z_bipush C (v := 40) dX7_readAny_42 rfl ?_
        obtain ⟨r15, hc14, hf⟩ := zb_el hf
        refine z_cVi C (c_X7_is _ _ hc14) rfl gX7_readAny_X7_is rfl rfl zdX7_is rfl (Nat.le_of_ble_eq_true rfl) rfl rfl rfl ⟨Nat.le_of_ble_eq_true rfl, Nat.le_of_ble_eq_true rfl⟩ (Nat.le_of_ble_eq_true rfl) dX7_readAny_44 rfl ?_
        refine z_if_eq (tgt := 114) C dX7_readAny_47 (by decide) (fun c85 => ?_) (fun c85 => ?_)
        · replace hf := if_t c85 hf
          refine z_aload_n C 0 dX7_readAny_114 rfl rfl ?_
          refine z_geti C (Nat.le_of_ble_eq_true rfl) rfl rfl 42 (Nat.le_of_ble_eq_true rfl) rfl kiX7_readAny_X7 kfX7_readAny_177 dX7_readAny_115 ?_
          refine z_if_ne (tgt := 260) C dX7_readAny_118 (by decide) (fun c64 => ?_) (fun c64 => ?_)
          · replace hf := if_f c64 hf
            refine z_aload_n C 0 dX7_readAny_260 rfl rfl ?_
            refine z_iconst C (v := 2) dX7_readAny_261 rfl ?_
            refine z_aload_n C 0 dX7_readAny_262 rfl rfl ?_
            refine z_geti C (Nat.le_of_ble_eq_true rfl) rfl rfl 39 (Nat.le_of_ble_eq_true rfl) rfl kiX7_readAny_X7 kfX7_readAny_186 dX7_readAny_263 ?_
            obtain ⟨m17, hc16, hf⟩ := zb_el hf
            refine z_cVv C (c_X7_fails _ _ hc16) rfl gX7_readAny_X7_fails rfl rfl zdX7_fails rfl (Nat.le_of_ble_eq_true rfl) rfl rfl rfl ⟨Nat.le_of_ble_eq_true rfl, Nat.le_of_ble_eq_true rfl⟩ (Nat.le_of_ble_eq_true rfl) dX7_readAny_266 rfl ?_
            refine z_goto (tgt := 30) C dX7_readAny_269 (by decide) ?_
            cases hf
            exact z_sub [0, 1, 2] rfl (ih i11 i12 m17 hz)
          · replace hf := if_t c64 hf
            refine z_aload_n C 0 dX7_readAny_121 rfl rfl ?_
            refine z_geti C (Nat.le_of_ble_eq_true rfl) rfl rfl 40 (Nat.le_of_ble_eq_true rfl) rfl kiX7_readAny_X7 kfX7_readAny_193 dX7_readAny_122 ?_
            refine z_iconst C (v := 2) dX7_readAny_125 rfl ?_
            refine z_icmp_ne (tgt := 260) C dX7_readAny_126 (by decide) (fun c63 => ?_) (fun c63 => ?_)
            · replace hf := if_f c63 hf
              refine z_aload_n C 0 dX7_readAny_260 rfl rfl ?_
              refine z_iconst C (v := 2) dX7_readAny_261 rfl ?_
              refine z_aload_n C 0 dX7_readAny_262 rfl rfl ?_
              refine z_geti C (Nat.le_of_ble_eq_true rfl) rfl rfl 39 (Nat.le_of_ble_eq_true rfl) rfl kiX7_readAny_X7 kfX7_readAny_186 dX7_readAny_263 ?_
              obtain ⟨m19, hc18, hf⟩ := zb_el hf
              refine z_cVv C (c_X7_fails _ _ hc18) rfl gX7_readAny_X7_fails rfl rfl zdX7_fails rfl (Nat.le_of_ble_eq_true rfl) rfl rfl rfl ⟨Nat.le_of_ble_eq_true rfl, Nat.le_of_ble_eq_true rfl⟩ (Nat.le_of_ble_eq_true rfl) dX7_readAny_266 rfl ?_
              refine z_goto (tgt := 30) C dX7_readAny_269 (by decide) ?_
              cases hf
              exact z_sub [0, 1, 2] rfl (ih i11 i12 m19 hz)
            · replace hf := if_t c63 hf
              refine z_aload_n C 0 dX7_readAny_129 rfl rfl ?_
              refine z_iconst C (v := 2) dX7_readAny_130 rfl ?_
              refine z_aload_n C 0 dX7_readAny_131 rfl rfl ?_
              refine z_getr C (t := 34) (Nat.le_of_ble_eq_true rfl) rfl rfl 45 (Nat.le_of_ble_eq_true rfl) rfl kiX7_readAny_X7 kfX7_readAny_110 dX7_readAny_132 ?_
              refine z_iload_n C 1 dX7_readAny_135 rfl rfl ?_
              obtain ⟨hi20, hf⟩ := ck_el hf
              refine z_iald C (k := 34) (Nat.le_of_ble_eq_true rfl) rfl hi20 dX7_readAny_136 ?_
              obtain ⟨r22, m23, hc21, hf⟩ := zb2_el hf
              refine z_cVi C (c_X7_comes _ _ hc21) rfl gX7_readAny_X7_comes rfl rfl zdX7_comes rfl (Nat.le_of_ble_eq_true rfl) rfl rfl rfl ⟨Nat.le_of_ble_eq_true rfl, Nat.le_of_ble_eq_true rfl⟩ (Nat.le_of_ble_eq_true rfl) dX7_readAny_137 rfl ?_
              refine z_istore_n C (lv2 := [(0, .ref ((zw K).2.1 0)), (1, .int i11), (2, .int i12), (3, .int r22)]) [1, 2, 3, 0] dX7_readAny_140 rfl (Nat.le_of_ble_eq_true rfl) rfl ?_
              refine z_aload_n C 0 dX7_readAny_141 rfl rfl ?_
              refine z_iload_n C 3 dX7_readAny_142 rfl rfl ?_
              obtain ⟨m25, hc24, hf⟩ := zb_el hf
              refine z_cVv C (c_X7_readPart _ _ hc24) rfl gX7_readAny_X7_readPart rfl rfl zdX7_readPart rfl (Nat.le_of_ble_eq_true rfl) rfl rfl rfl ⟨Nat.le_of_ble_eq_true rfl, Nat.le_of_ble_eq_true rfl⟩ (Nat.le_of_ble_eq_true rfl) dX7_readAny_143 rfl ?_
              refine z_aload_n C 0 dX7_readAny_146 rfl rfl ?_
              refine z_iload_n C 3 dX7_readAny_147 rfl rfl ?_
              obtain ⟨m27, hc26, hf⟩ := zb_el hf
              refine z_cVv C (c_X7_readCount _ _ hc26) rfl gX7_readAny_X7_readCount rfl rfl zdX7_readCount rfl (Nat.le_of_ble_eq_true rfl) rfl rfl rfl ⟨Nat.le_of_ble_eq_true rfl, Nat.le_of_ble_eq_true rfl⟩ (Nat.le_of_ble_eq_true rfl) dX7_readAny_148 rfl ?_
              obtain ⟨y41, m42, hg, hf⟩ := zb2_el hf
              refine z_sub [0, 1, 2] rfl (w_X7_readAny_151 C  ?_ _ _ _ hg)
              clear hg
              refine z_aload_n C 0 dX7_readAny_188 rfl rfl ?_
              refine z_bipush C (v := 44) dX7_readAny_189 rfl ?_
              obtain ⟨r44, hc43, hf⟩ := zb_el hf
              refine z_cVi C (c_X7_is _ _ hc43) rfl gX7_readAny_X7_is rfl rfl zdX7_is rfl (Nat.le_of_ble_eq_true rfl) rfl rfl rfl ⟨Nat.le_of_ble_eq_true rfl, Nat.le_of_ble_eq_true rfl⟩ (Nat.le_of_ble_eq_true rfl) dX7_readAny_191 rfl ?_
              refine z_if_eq (tgt := 204) C dX7_readAny_194 (by decide) (fun c62 => ?_) (fun c62 => ?_)
              · replace hf := if_t c62 hf
                refine z_aload_n C 0 dX7_readAny_204 rfl rfl ?_
                refine z_bipush C (v := 124) dX7_readAny_205 rfl ?_
                obtain ⟨r46, hc45, hf⟩ := zb_el hf
                refine z_cVi C (c_X7_is _ _ hc45) rfl gX7_readAny_X7_is rfl rfl zdX7_is rfl (Nat.le_of_ble_eq_true rfl) rfl rfl rfl ⟨Nat.le_of_ble_eq_true rfl, Nat.le_of_ble_eq_true rfl⟩ (Nat.le_of_ble_eq_true rfl) dX7_readAny_207 rfl ?_
                refine z_if_eq (tgt := 242) C dX7_readAny_210 (by decide) (fun c59 => ?_) (fun c59 => ?_)
                · replace hf := if_t c59 hf
                  refine z_iconst C (v := 0) dX7_readAny_242 rfl ?_
                  refine z_istore_n C (lv2 := [(0, .ref ((zw K).2.1 0)), (1, .int y41), (2, .int 0)]) [1, 2, 0] dX7_readAny_243 rfl (Nat.le_of_ble_eq_true rfl) rfl ?_
                  refine z_iload_n C 1 dX7_readAny_244 rfl rfl ?_
                  refine z_if_le (tgt := 257) C dX7_readAny_245 (by decide) (fun c49 => ?_) (fun c49 => ?_)
                  · replace hf := if_t c49 hf
                    refine z_goto (tgt := 30) C dX7_readAny_257 (by decide) ?_
                    cases hf
                    exact z_sub [0, 1, 2] rfl (ih y41 0 m42 hz)
                  · replace hf := if_f c49 hf
                    refine z_aload_n C 0 dX7_readAny_248 rfl rfl ?_
                    refine z_iconst C (v := 2) dX7_readAny_249 rfl ?_
                    refine z_aload_n C 0 dX7_readAny_250 rfl rfl ?_
                    refine z_geti C (Nat.le_of_ble_eq_true rfl) rfl rfl 39 (Nat.le_of_ble_eq_true rfl) rfl kiX7_readAny_X7 kfX7_readAny_186 dX7_readAny_251 ?_
                    obtain ⟨m48, hc47, hf⟩ := zb_el hf
                    refine z_cVv C (c_X7_fails _ _ hc47) rfl gX7_readAny_X7_fails rfl rfl zdX7_fails rfl (Nat.le_of_ble_eq_true rfl) rfl rfl rfl ⟨Nat.le_of_ble_eq_true rfl, Nat.le_of_ble_eq_true rfl⟩ (Nat.le_of_ble_eq_true rfl) dX7_readAny_254 rfl ?_
                    refine z_goto (tgt := 30) C dX7_readAny_257 (by decide) ?_
                    cases hf
                    exact z_sub [0, 1, 2] rfl (ih y41 0 m48 hz)
                · replace hf := if_f c59 hf
                  refine z_aload_n C 0 dX7_readAny_213 rfl rfl ?_
                  refine z_getr C (t := 34) (Nat.le_of_ble_eq_true rfl) rfl rfl 45 (Nat.le_of_ble_eq_true rfl) rfl kiX7_readAny_X7 kfX7_readAny_110 dX7_readAny_214 ?_
                  refine z_iload_n C 1 dX7_readAny_217 rfl rfl ?_
                  refine z_aload_n C 0 dX7_readAny_218 rfl rfl ?_
                  refine z_iconst C (v := 1) dX7_readAny_219 rfl ?_
                  refine z_aload_n C 0 dX7_readAny_220 rfl rfl ?_
                  refine z_getr C (t := 29) (Nat.le_of_ble_eq_true rfl) rfl rfl 32 (Nat.le_of_ble_eq_true rfl) rfl kiX7_readAny_X7 kfX7_readAny_95 dX7_readAny_221 ?_
                  refine z_aload_n C 0 dX7_readAny_224 rfl rfl ?_
                  refine z_getr C (t := 34) (Nat.le_of_ble_eq_true rfl) rfl rfl 45 (Nat.le_of_ble_eq_true rfl) rfl kiX7_readAny_X7 kfX7_readAny_110 dX7_readAny_225 ?_
                  refine z_iload_n C 1 dX7_readAny_228 rfl rfl ?_
                  obtain ⟨hi50, hf⟩ := ck_el hf
                  refine z_iald C (k := 34) (Nat.le_of_ble_eq_true rfl) rfl hi50 dX7_readAny_229 ?_
                  obtain ⟨hi51, hf⟩ := ck_el hf
                  refine z_iald C (k := 29) (Nat.le_of_ble_eq_true rfl) rfl hi51 dX7_readAny_230 ?_
                  obtain ⟨r53, m54, hc52, hf⟩ := zb2_el hf
                  refine z_cVi C (c_X7_comes _ _ hc52) rfl gX7_readAny_X7_comes rfl rfl zdX7_comes rfl (Nat.le_of_ble_eq_true rfl) rfl rfl rfl ⟨Nat.le_of_ble_eq_true rfl, Nat.le_of_ble_eq_true rfl⟩ (Nat.le_of_ble_eq_true rfl) dX7_readAny_231 rfl ?_
                  obtain ⟨hi55, hf⟩ := ck_el hf
                  refine z_iast C (k := 34) (Nat.le_of_ble_eq_true rfl) rfl hi55 dX7_readAny_234 ?_
                  refine z_nm (fun m56 e_m56 => ?_)
                  replace hf := bn_to e_m56 hf
                  refine z_aload_n C 0 dX7_readAny_235 rfl rfl ?_
                  obtain ⟨m58, hc57, hf⟩ := zb_el hf
                  refine z_cVv C (c_X7_next _ _ hc57) rfl gX7_readAny_X7_next rfl rfl zdX7_next rfl (Nat.le_of_ble_eq_true rfl) rfl rfl rfl ⟨Nat.le_of_ble_eq_true rfl, Nat.le_of_ble_eq_true rfl⟩ (Nat.le_of_ble_eq_true rfl) dX7_readAny_236 rfl ?_
                  refine z_goto (tgt := 257) C dX7_readAny_239 (by decide) ?_
                  refine z_goto (tgt := 30) C dX7_readAny_257 (by decide) ?_
                  cases hf
                  exact z_sub [0, 1, 2] rfl (ih y41 i12 m58 hz)
              · replace hf := if_f c62 hf
                refine z_aload_n C 0 dX7_readAny_197 rfl rfl ?_
                obtain ⟨m61, hc60, hf⟩ := zb_el hf
                refine z_cVv C (c_X7_next _ _ hc60) rfl gX7_readAny_X7_next rfl rfl zdX7_next rfl (Nat.le_of_ble_eq_true rfl) rfl rfl rfl ⟨Nat.le_of_ble_eq_true rfl, Nat.le_of_ble_eq_true rfl⟩ (Nat.le_of_ble_eq_true rfl) dX7_readAny_198 rfl ?_
                refine z_goto (tgt := 257) C dX7_readAny_201 (by decide) ?_
                refine z_goto (tgt := 30) C dX7_readAny_257 (by decide) ?_
                cases hf
                exact z_sub [0, 1, 2] rfl (ih y41 i12 m61 hz)
        · replace hf := if_f c85 hf
          refine z_iload_n C 1 dX7_readAny_50 rfl rfl ?_
          refine z_bipush C (v := 6) dX7_readAny_51 rfl ?_
          refine z_icmp_ne (tgt := 68) C dX7_readAny_53 (by decide) (fun c84 => ?_) (fun c84 => ?_)
          · replace hf := if_f c84 hf
            refine z_aload_n C 0 dX7_readAny_68 rfl rfl ?_
            refine z_iconst C (v := 2) dX7_readAny_69 rfl ?_
            refine z_aload_n C 0 dX7_readAny_70 rfl rfl ?_
            refine z_getr C (t := 34) (Nat.le_of_ble_eq_true rfl) rfl rfl 45 (Nat.le_of_ble_eq_true rfl) rfl kiX7_readAny_X7 kfX7_readAny_110 dX7_readAny_71 ?_
            refine z_iload_n C 1 dX7_readAny_74 rfl rfl ?_
            obtain ⟨hi65, hf⟩ := ck_el hf
            refine z_iald C (k := 34) (Nat.le_of_ble_eq_true rfl) rfl hi65 dX7_readAny_75 ?_
            obtain ⟨r67, m68, hc66, hf⟩ := zb2_el hf
            refine z_cVi C (c_X7_comes _ _ hc66) rfl gX7_readAny_X7_comes rfl rfl zdX7_comes rfl (Nat.le_of_ble_eq_true rfl) rfl rfl rfl ⟨Nat.le_of_ble_eq_true rfl, Nat.le_of_ble_eq_true rfl⟩ (Nat.le_of_ble_eq_true rfl) dX7_readAny_76 rfl ?_
            refine z_istore_n C (lv2 := [(0, .ref ((zw K).2.1 0)), (1, .int i11), (2, .int i12), (3, .int r67)]) [1, 2, 3, 0] dX7_readAny_79 rfl (Nat.le_of_ble_eq_true rfl) rfl ?_
            obtain ⟨x69, e_x69⟩ : ∃ y : Int32, y = i11 + 1 := ⟨_, rfl⟩
            replace hf := bn_to e_x69 hf
            refine z_iinc C (lv2 := [(0, .ref ((zw K).2.1 0)), (1, .int x69), (2, .int i12), (3, .int r67)]) 1 [1, 0, 2, 3] dX7_readAny_80 rfl rfl (Nat.le_of_ble_eq_true rfl) e_x69 rfl ?_
            refine z_aload_n C 0 dX7_readAny_83 rfl rfl ?_
            refine z_getr C (t := 35) (Nat.le_of_ble_eq_true rfl) rfl rfl 46 (Nat.le_of_ble_eq_true rfl) rfl kiX7_readAny_X7 kfX7_readAny_113 dX7_readAny_84 ?_
            refine z_iload_n C 1 dX7_readAny_87 rfl rfl ?_
            refine z_iload_n C 3 dX7_readAny_88 rfl rfl ?_
            obtain ⟨hi70, hf⟩ := ck_el hf
            refine z_iast C (k := 35) (Nat.le_of_ble_eq_true rfl) rfl hi70 dX7_readAny_89 ?_
            refine z_nm (fun m71 e_m71 => ?_)
            replace hf := bn_to e_m71 hf
            refine z_aload_n C 0 dX7_readAny_90 rfl rfl ?_
            refine z_getr C (t := 34) (Nat.le_of_ble_eq_true rfl) rfl rfl 45 (Nat.le_of_ble_eq_true rfl) rfl kiX7_readAny_X7 kfX7_readAny_110 dX7_readAny_91 ?_
            refine z_iload_n C 1 dX7_readAny_94 rfl rfl ?_
            refine z_aload_n C 0 dX7_readAny_95 rfl rfl ?_
            refine z_iconst C (v := 1) dX7_readAny_96 rfl ?_
            refine z_aload_n C 0 dX7_readAny_97 rfl rfl ?_
            refine z_iconst C (v := 0) dX7_readAny_98 rfl ?_
            refine z_iload_n C 3 dX7_readAny_99 rfl rfl ?_
            obtain ⟨r73, m74, hc72, hf⟩ := zb2_el hf
            refine z_cVi C (c_X7_comes _ _ hc72) rfl gX7_readAny_X7_comes rfl rfl zdX7_comes rfl (Nat.le_of_ble_eq_true rfl) rfl rfl rfl ⟨Nat.le_of_ble_eq_true rfl, Nat.le_of_ble_eq_true rfl⟩ (Nat.le_of_ble_eq_true rfl) dX7_readAny_100 rfl ?_
            obtain ⟨r76, m77, hc75, hf⟩ := zb2_el hf
            refine z_cVi C (c_X7_comes _ _ hc75) rfl gX7_readAny_X7_comes rfl rfl zdX7_comes rfl (Nat.le_of_ble_eq_true rfl) rfl rfl rfl ⟨Nat.le_of_ble_eq_true rfl, Nat.le_of_ble_eq_true rfl⟩ (Nat.le_of_ble_eq_true rfl) dX7_readAny_103 rfl ?_
            obtain ⟨hi78, hf⟩ := ck_el hf
            refine z_iast C (k := 34) (Nat.le_of_ble_eq_true rfl) rfl hi78 dX7_readAny_106 ?_
            refine z_nm (fun m79 e_m79 => ?_)
            replace hf := bn_to e_m79 hf
            refine z_aload_n C 0 dX7_readAny_107 rfl rfl ?_
            obtain ⟨m81, hc80, hf⟩ := zb_el hf
            refine z_cVv C (c_X7_next _ _ hc80) rfl gX7_readAny_X7_next rfl rfl zdX7_next rfl (Nat.le_of_ble_eq_true rfl) rfl rfl rfl ⟨Nat.le_of_ble_eq_true rfl, Nat.le_of_ble_eq_true rfl⟩ (Nat.le_of_ble_eq_true rfl) dX7_readAny_108 rfl ?_
            refine z_goto (tgt := 30) C dX7_readAny_111 (by decide) ?_
            cases hf
            exact z_sub [0, 1, 2] rfl (ih x69 i12 m81 hz)
          · replace hf := if_t c84 hf
            refine z_aload_n C 0 dX7_readAny_56 rfl rfl ?_
            refine z_iconst C (v := 4) dX7_readAny_57 rfl ?_
            refine z_aload_n C 0 dX7_readAny_58 rfl rfl ?_
            refine z_geti C (Nat.le_of_ble_eq_true rfl) rfl rfl 39 (Nat.le_of_ble_eq_true rfl) rfl kiX7_readAny_X7 kfX7_readAny_186 dX7_readAny_59 ?_
            obtain ⟨m83, hc82, hf⟩ := zb_el hf
            refine z_cVv C (c_X7_fails _ _ hc82) rfl gX7_readAny_X7_fails rfl rfl zdX7_fails rfl (Nat.le_of_ble_eq_true rfl) rfl rfl rfl ⟨Nat.le_of_ble_eq_true rfl, Nat.le_of_ble_eq_true rfl⟩ (Nat.le_of_ble_eq_true rfl) dX7_readAny_62 rfl ?_
            refine z_goto (tgt := 30) C dX7_readAny_65 (by decide) ?_
            cases hf
            exact z_sub [0, 1, 2] rfl (ih i11 i12 m83 hz)
set_option maxRecDepth 100000 in
set_option maxHeartbeats 4000000 in
theorem c_X7_readAny (l : Launch) (w : ZW) {m : Mem}  {m9 : Mem}  (hf : s_X7_readAny m  = some m9) : zCv MM l w yX7_readAny wsX7_readAny rmX7_readAny [.ref (w.2.1 0)] m m9 := by
  refine z_met_v MM_ok (own := RX7) (by decide +kernel) rfl rfl (Nat.le_of_ble_eq_true rfl) ?_
  intro K C hKw hKl hret
  subst hKw
  subst hKl
  unfold s_X7_readAny at hf
  show zGo MM K m [(0, .ref ((zw K).2.1 0))] 0 []
  refine z_iconst C (v := 0) dX7_readAny_0 rfl ?_
  refine z_istore_n C (lv2 := [(0, .ref ((zw K).2.1 0)), (1, .int 0)]) [1, 0] dX7_readAny_1 rfl (Nat.le_of_ble_eq_true rfl) rfl ?_
  refine z_aload_n C 0 dX7_readAny_2 rfl rfl ?_
  refine z_getr C (t := 35) (Nat.le_of_ble_eq_true rfl) rfl rfl 46 (Nat.le_of_ble_eq_true rfl) rfl kiX7_readAny_X7 kfX7_readAny_113 dX7_readAny_3 ?_
  refine z_iconst C (v := 0) dX7_readAny_6 rfl ?_
  refine z_bipush C (v := (-4)) dX7_readAny_7 (by decide) ?_
  obtain ⟨hi1, hf⟩ := ck_el hf
  refine z_iast C (k := 35) (Nat.le_of_ble_eq_true rfl) rfl hi1 dX7_readAny_9 ?_
  refine z_nm (fun m2 e_m2 => ?_)
  replace hf := bn_to e_m2 hf
  refine z_aload_n C 0 dX7_readAny_10 rfl rfl ?_
  refine z_getr C (t := 34) (Nat.le_of_ble_eq_true rfl) rfl rfl 45 (Nat.le_of_ble_eq_true rfl) rfl kiX7_readAny_X7 kfX7_readAny_110 dX7_readAny_11 ?_
  refine z_iconst C (v := 0) dX7_readAny_14 rfl ?_
  refine z_aload_n C 0 dX7_readAny_15 rfl rfl ?_
  refine z_iconst C (v := 1) dX7_readAny_16 rfl ?_
  refine z_aload_n C 0 dX7_readAny_17 rfl rfl ?_
  refine z_iconst C (v := 0) dX7_readAny_18 rfl ?_
  refine z_bipush C (v := (-4)) dX7_readAny_19 (by decide) ?_
  obtain ⟨r4, m5, hc3, hf⟩ := zb2_el hf
  refine z_cVi C (c_X7_comes _ _ hc3) rfl gX7_readAny_X7_comes rfl rfl zdX7_comes rfl (Nat.le_of_ble_eq_true rfl) rfl rfl rfl ⟨Nat.le_of_ble_eq_true rfl, Nat.le_of_ble_eq_true rfl⟩ (Nat.le_of_ble_eq_true rfl) dX7_readAny_21 rfl ?_
  obtain ⟨r7, m8, hc6, hf⟩ := zb2_el hf
  refine z_cVi C (c_X7_comes _ _ hc6) rfl gX7_readAny_X7_comes rfl rfl zdX7_comes rfl (Nat.le_of_ble_eq_true rfl) rfl rfl rfl ⟨Nat.le_of_ble_eq_true rfl, Nat.le_of_ble_eq_true rfl⟩ (Nat.le_of_ble_eq_true rfl) dX7_readAny_24 rfl ?_
  obtain ⟨hi9, hf⟩ := ck_el hf
  refine z_iast C (k := 34) (Nat.le_of_ble_eq_true rfl) rfl hi9 dX7_readAny_27 ?_
  refine z_nm (fun m10 e_m10 => ?_)
  replace hf := bn_to e_m10 hf
  refine z_iconst C (v := 1) dX7_readAny_28 rfl ?_
  refine z_istore_n C (lv2 := [(0, .ref ((zw K).2.1 0)), (1, .int 0), (2, .int 1)]) [1, 2, 0] dX7_readAny_29 rfl (Nat.le_of_ble_eq_true rfl) rfl ?_
  obtain ⟨m88, hg, hf⟩ := zb_el hf
  refine z_sub [0, 1, 2] rfl (w_X7_readAny_30 C  ?_ _ _ _ _ hg)
  clear hg
  cases hf
  exact hret _ _ dX7_readAny_272
