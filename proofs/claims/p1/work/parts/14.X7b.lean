def rmX7_edges : Room := { frames := 0, cells := 0, slots := 0, locals := 0 }
theorem zdX7_edges : yX7_edges.cls = RX7 ∧ yX7_edges.cls ≠ "java/lang/invoke/MethodHandle" ∧ yX7_edges.cls ≠ "java/lang/invoke/VarHandle" ∧ (parseMethodDescriptor yX7_edges.desc).map (fun d => d.parameters.length) = some 0 := by decide +kernel
theorem kiX7_edges_X7 : ∀ w ∈ wsX70, w ∈ wsX7_edges := by decide +kernel
theorem kfX7_edges_140 : Cond.fieldLink RX7 140 "ShapeJudgeModel" "nodes" "I" ∈ wsX7_edges := by decide +kernel
theorem kfX7_edges_17 : Cond.fieldLink RX7 17 "ShapeJudgeModel" "many" "[I" ∈ wsX7_edges := by decide +kernel
def t_X7_edges_4 (m : Mem) (i1 : Int32) (i2 : Int32) : Option ((Int32 × Int32) ⊕ (Int32)) :=
  (if (m 0 0) ≤ i2 then (some (.inr i1)) else (ck (zin i2 10 = true) (bn (i1 + (m 3 (Int32.toNatClampNeg i2))) fun x4 => bn (i2 + 1) fun x5 => some (.inl (x4, x5)))))
def l_X7_edges_4 (m : Mem) (n : Nat) (i1 : Int32) (i2 : Int32) : Option (Int32) := zlp n (fun a => t_X7_edges_4 m a.1 a.2) (i1, i2)
def s_X7_edges (m : Mem)  : Option (Int32) :=
  ((l_X7_edges_4 m FU 0 0).bind fun y7 => some y7)
set_option maxRecDepth 100000 in
set_option maxHeartbeats 4000000 in
theorem w_X7_edges_4 {K : ZK} (C : zOK MM K cX7_edges 3 (some .int) RX7 wsX7_edges rmX7_edges) {m : Mem}  {o0 : Int32} (hk : zGo MM K m [(1, .int o0)] 27 []) : ∀ (n : Nat) (i1 : Int32) (i2 : Int32), l_X7_edges_4 m n i1 i2 = some o0 → zGo MM K m [(0, .ref ((zw K).2.1 0)), (1, .int i1), (2, .int i2)] 4 [] := by
  intro n
  induction n with
  | zero =>
    intro i1 i2 hf
    cases hf
  | succ n ih =>
    intro i1 i2 hf
    obtain ⟨z, hf, hz⟩ := zlp_el hf
    replace hf : t_X7_edges_4 m i1 i2 = some z := hf
    unfold t_X7_edges_4 at hf
    refine z_iload_n C 2 dX7_edges_4 rfl rfl ?_
    refine z_aload_n C 0 dX7_edges_5 rfl rfl ?_
    refine z_geti C (Nat.le_of_ble_eq_true rfl) rfl rfl 0 (Nat.le_of_ble_eq_true rfl) rfl kiX7_edges_X7 kfX7_edges_140 dX7_edges_6 ?_
    refine z_icmp_ge (tgt := 27) C dX7_edges_9 (by decide) (fun c6 => ?_) (fun c6 => ?_)
    · replace hf := if_t c6 hf
      cases hf
      replace hz := zlz_r hz
      cases hz
      exact z_sub [1] rfl hk
    · replace hf := if_f c6 hf
      refine z_iload_n C 1 dX7_edges_12 rfl rfl ?_
      refine z_aload_n C 0 dX7_edges_13 rfl rfl ?_
      refine z_getr C (t := 3) (Nat.le_of_ble_eq_true rfl) rfl rfl 3 (Nat.le_of_ble_eq_true rfl) rfl kiX7_edges_X7 kfX7_edges_17 dX7_edges_14 ?_
      refine z_iload_n C 2 dX7_edges_17 rfl rfl ?_
      obtain ⟨hi3, hf⟩ := ck_el hf
      refine z_iald C (k := 3) (Nat.le_of_ble_eq_true rfl) rfl hi3 dX7_edges_18 ?_
      refine z_iadd C dX7_edges_19 ?_
      refine z_topi (fun x4 e_x4 => ?_)
      replace hf := bn_to e_x4 hf
      refine z_istore_n C (lv2 := [(0, .ref ((zw K).2.1 0)), (1, .int x4), (2, .int i2)]) [1, 0, 2] dX7_edges_20 rfl (Nat.le_of_ble_eq_true rfl) rfl ?_
      obtain ⟨x5, e_x5⟩ : ∃ y : Int32, y = i2 + 1 := ⟨_, rfl⟩
      replace hf := bn_to e_x5 hf
      refine z_iinc C (lv2 := [(0, .ref ((zw K).2.1 0)), (1, .int x4), (2, .int x5)]) 2 [1, 2, 0] dX7_edges_21 rfl rfl (Nat.le_of_ble_eq_true rfl) e_x5 rfl ?_
      refine z_goto (tgt := 4) C dX7_edges_24 (by decide) ?_
      cases hf
      exact z_sub [0, 1, 2] rfl (ih x4 x5 hz)
set_option maxRecDepth 100000 in
set_option maxHeartbeats 4000000 in
theorem c_X7_edges (l : Launch) (w : ZW) {m : Mem}  {r9 : Int32}  (hf : s_X7_edges m  = some r9) : zCi MM l w yX7_edges wsX7_edges rmX7_edges [.ref (w.2.1 0)] m m r9 := by
  refine z_met_i MM_ok (own := RX7) (by decide +kernel) rfl rfl (Nat.le_of_ble_eq_true rfl) ?_
  intro K C hKw hKl hret
  subst hKw
  subst hKl
  unfold s_X7_edges at hf
  show zGo MM K m [(0, .ref ((zw K).2.1 0))] 0 []
  refine z_iconst C (v := 0) dX7_edges_0 rfl ?_
  refine z_istore_n C (lv2 := [(0, .ref ((zw K).2.1 0)), (1, .int 0)]) [1, 0] dX7_edges_1 rfl (Nat.le_of_ble_eq_true rfl) rfl ?_
  refine z_iconst C (v := 0) dX7_edges_2 rfl ?_
  refine z_istore_n C (lv2 := [(0, .ref ((zw K).2.1 0)), (1, .int 0), (2, .int 0)]) [1, 2, 0] dX7_edges_3 rfl (Nat.le_of_ble_eq_true rfl) rfl ?_
  obtain ⟨y7, hg, hf⟩ := zb_el hf
  refine z_sub [0, 1, 2] rfl (w_X7_edges_4 C  ?_ _ _ _ hg)
  clear hg
  refine z_iload_n C 0 dX7_edges_27 rfl rfl ?_
  cases hf
  exact hret _ _ dX7_edges_28
def rmX7_count : Room := { frames := 6, cells := 0, slots := 0, locals := 153 }
theorem zdX7_count : yX7_count.cls = RX7 ∧ yX7_count.cls ≠ "java/lang/invoke/MethodHandle" ∧ yX7_count.cls ≠ "java/lang/invoke/VarHandle" ∧ (parseMethodDescriptor yX7_count.desc).map (fun d => d.parameters.length) = some 1 := by decide +kernel
theorem kiX7_count_X7 : ∀ w ∈ wsX70, w ∈ wsX7_count := by decide +kernel
theorem kfX7_count_258 : Cond.fieldLink RX7 258 "ShapeJudgeModel" "shapes" "I" ∈ wsX7_count := by decide +kernel
theorem kfX7_count_140 : Cond.fieldLink RX7 140 "ShapeJudgeModel" "nodes" "I" ∈ wsX7_count := by decide +kernel
theorem kfX7_count_119 : Cond.fieldLink RX7 119 "ShapeJudgeModel" "fitting" "[Z" ∈ wsX7_count := by decide +kernel
theorem kfX7_count_122 : Cond.fieldLink RX7 122 "ShapeJudgeModel" "sure" "[Z" ∈ wsX7_count := by decide +kernel
theorem kfX7_count_170 : Cond.fieldLink RX7 170 "ShapeJudgeModel" "taped" "I" ∈ wsX7_count := by decide +kernel
def t_X7_count_23 (m2 : Mem) (i5 : Int32) (i6 : Int32) (i7 : Int32) (i8 : Int32) : Option ((Int32 × Int32 × Int32) ⊕ (Int32 × Int32)) :=
  (if (m2 0 0) ≤ i8 then (some (.inr (i6, i7))) else (ck (zin (((10 : Int32) * i5) + i8) 60 = true) ((((if (m2 37 (Int32.toNatClampNeg (((10 : Int32) * i5) + i8))) = 0 then (some 0) else (some 1)) : Option (Int32)).bind fun y10 => bn (i6 + y10) fun x11 => ck (zin (((10 : Int32) * i5) + i8) 60 = true) ((if (m2 38 (Int32.toNatClampNeg (((10 : Int32) * i5) + i8))) = 0 then (bn (i7 + 0) fun x13 => bn (i8 + 1) fun x14 => some (.inl (x11, x13, x14))) else (bn (i7 + 1) fun x15 => bn (i8 + 1) fun x16 => some (.inl (x11, x15, x16)))))))))
def l_X7_count_23 (m2 : Mem) (i5 : Int32) (n : Nat) (i6 : Int32) (i7 : Int32) (i8 : Int32) : Option (Int32 × Int32) := zlp n (fun a => t_X7_count_23 m2 i5 a.1 a.2.1 a.2.2) (i6, i7, i8)
def t_X7_count_11 (m2 : Mem) (i3 : Int32) (i4 : Int32) (i5 : Int32) : Option ((Int32 × Int32 × Int32) ⊕ (Int32 × Int32)) :=
  (if (m2 0 7) ≤ i5 then (some (.inr (i3, i4))) else ((zb2 (l_X7_count_23 m2 i5 FU i3 i4 0) fun y20 y21 => bn (i5 + 1) fun x22 => some (.inl (y20, y21, x22)))))
def l_X7_count_11 (m2 : Mem) (n : Nat) (i3 : Int32) (i4 : Int32) (i5 : Int32) : Option (Int32 × Int32) := zlp n (fun a => t_X7_count_11 m2 a.1 a.2.1 a.2.2) (i3, i4, i5)
def s_X7_count (m : Mem) (a1 : Int32) : Option (Int32 × Mem) :=
  (s_X7_read m).bind fun m2 => (zb2 (l_X7_count_11 m2 FU 0 0 0) fun y24 y25 => (if a1 = 0 then (some ((m2 0 0), m2)) else ((if a1 = 1 then ((s_X7_edges m2).bind fun r31 => some (r31, m2)) else ((if a1 = 2 then (some ((m2 0 7), m2)) else ((if a1 = 3 then (some ((m2 0 37), m2)) else ((if a1 = 4 then (some (y24, m2)) else ((if a1 = 5 then (some (y25, m2)) else (some ((-1), m2))))))))))))))
set_option maxRecDepth 100000 in
set_option maxHeartbeats 4000000 in
theorem w_X7_count_23 {K : ZK} (C : zOK MM K cX7_count 6 (some .int) RX7 wsX7_count rmX7_count) {a1 : Int32} {m2 : Mem} {i5 : Int32}  {o0 : Int32} {o1 : Int32} (hk : zGo MM K m2 [(0, .ref ((zw K).2.1 0)), (1, .int a1), (2, .int o0), (3, .int o1), (4, .int i5)] 86 []) : ∀ (n : Nat) (i6 : Int32) (i7 : Int32) (i8 : Int32), l_X7_count_23 m2 i5 n i6 i7 i8 = some (o0, o1) → zGo MM K m2 [(0, .ref ((zw K).2.1 0)), (1, .int a1), (2, .int i6), (3, .int i7), (4, .int i5), (5, .int i8)] 23 [] := by
  intro n
  induction n with
  | zero =>
    intro i6 i7 i8 hf
    cases hf
  | succ n ih =>
    intro i6 i7 i8 hf
    obtain ⟨z, hf, hz⟩ := zlp_el hf
    replace hf : t_X7_count_23 m2 i5 i6 i7 i8 = some z := hf
    unfold t_X7_count_23 at hf
    refine z_iload C 5 dX7_count_23 rfl ?_
    refine z_aload_n C 0 dX7_count_25 rfl rfl ?_
    refine z_geti C (Nat.le_of_ble_eq_true rfl) rfl rfl 0 (Nat.le_of_ble_eq_true rfl) rfl kiX7_count_X7 kfX7_count_140 dX7_count_26 ?_
    refine z_icmp_ge (tgt := 86) C dX7_count_29 (by decide) (fun c19 => ?_) (fun c19 => ?_)
    · replace hf := if_t c19 hf
      cases hf
      replace hz := zlz_r hz
      cases hz
      exact z_sub [0, 1, 2, 3, 4] rfl hk
    · replace hf := if_f c19 hf
      refine z_iload_n C 2 dX7_count_32 rfl rfl ?_
      refine z_aload_n C 0 dX7_count_33 rfl rfl ?_
      refine z_getr C (t := 37) (Nat.le_of_ble_eq_true rfl) rfl rfl 48 (Nat.le_of_ble_eq_true rfl) rfl kiX7_count_X7 kfX7_count_119 dX7_count_34 ?_
      refine z_bipush C (v := 10) dX7_count_37 rfl ?_
      refine z_iload C 4 dX7_count_39 rfl ?_
      refine z_imul C dX7_count_41 ?_
      refine z_iload C 5 dX7_count_42 rfl ?_
      refine z_iadd C dX7_count_44 ?_
      obtain ⟨hi9, hf⟩ := ck_el hf
      refine z_zald C (k := 37) (Nat.le_of_ble_eq_true rfl) rfl hi9 dX7_count_45 ?_
      obtain ⟨y10, hg, hf⟩ := zb_el hf
      have hj : zGo MM K m2 [(0, .ref ((zw K).2.1 0)), (1, .int a1), (3, .int i7), (4, .int i5), (5, .int i8)] 54 [.int y10, .int i6] := by
        refine z_iadd C dX7_count_54 ?_
        refine z_topi (fun x11 e_x11 => ?_)
        replace hf := bn_to e_x11 hf
        refine z_istore_n C (lv2 := [(0, .ref ((zw K).2.1 0)), (1, .int a1), (2, .int x11), (3, .int i7), (4, .int i5), (5, .int i8)]) [1, 2, 0, 3, 4, 5] dX7_count_55 rfl (Nat.le_of_ble_eq_true rfl) rfl ?_
        refine z_iload_n C 3 dX7_count_56 rfl rfl ?_
        refine z_aload_n C 0 dX7_count_57 rfl rfl ?_
        refine z_getr C (t := 38) (Nat.le_of_ble_eq_true rfl) rfl rfl 49 (Nat.le_of_ble_eq_true rfl) rfl kiX7_count_X7 kfX7_count_122 dX7_count_58 ?_
        refine z_bipush C (v := 10) dX7_count_61 rfl ?_
        refine z_iload C 4 dX7_count_63 rfl ?_
        refine z_imul C dX7_count_65 ?_
        refine z_iload C 5 dX7_count_66 rfl ?_
        refine z_iadd C dX7_count_68 ?_
        obtain ⟨hi12, hf⟩ := ck_el hf
        refine z_zald C (k := 38) (Nat.le_of_ble_eq_true rfl) rfl hi12 dX7_count_69 ?_
        refine z_if_eq (tgt := 77) C dX7_count_70 (by decide) (fun c17 => ?_) (fun c17 => ?_)
        · replace hf := if_t c17 hf
          refine z_iconst C (v := 0) dX7_count_77 rfl ?_
          refine z_iadd C dX7_count_78 ?_
          refine z_topi (fun x13 e_x13 => ?_)
          replace hf := bn_to e_x13 hf
          refine z_istore_n C (lv2 := [(0, .ref ((zw K).2.1 0)), (1, .int a1), (2, .int x11), (3, .int x13), (4, .int i5), (5, .int i8)]) [1, 2, 3, 0, 4, 5] dX7_count_79 rfl (Nat.le_of_ble_eq_true rfl) rfl ?_
          obtain ⟨x14, e_x14⟩ : ∃ y : Int32, y = i8 + 1 := ⟨_, rfl⟩
          replace hf := bn_to e_x14 hf
          refine z_iinc C (lv2 := [(0, .ref ((zw K).2.1 0)), (1, .int a1), (2, .int x11), (3, .int x13), (4, .int i5), (5, .int x14)]) 5 [1, 2, 3, 4, 5, 0] dX7_count_80 rfl rfl (Nat.le_of_ble_eq_true rfl) e_x14 rfl ?_
          refine z_goto (tgt := 23) C dX7_count_83 (by decide) ?_
          cases hf
          exact z_sub [0, 1, 2, 3, 4, 5] rfl (ih x11 x13 x14 hz)
        · replace hf := if_f c17 hf
          refine z_iconst C (v := 1) dX7_count_73 rfl ?_
          refine z_goto (tgt := 78) C dX7_count_74 (by decide) ?_
          refine z_iadd C dX7_count_78 ?_
          refine z_topi (fun x15 e_x15 => ?_)
          replace hf := bn_to e_x15 hf
          refine z_istore_n C (lv2 := [(0, .ref ((zw K).2.1 0)), (1, .int a1), (2, .int x11), (3, .int x15), (4, .int i5), (5, .int i8)]) [1, 2, 3, 0, 4, 5] dX7_count_79 rfl (Nat.le_of_ble_eq_true rfl) rfl ?_
          obtain ⟨x16, e_x16⟩ : ∃ y : Int32, y = i8 + 1 := ⟨_, rfl⟩
          replace hf := bn_to e_x16 hf
          refine z_iinc C (lv2 := [(0, .ref ((zw K).2.1 0)), (1, .int a1), (2, .int x11), (3, .int x15), (4, .int i5), (5, .int x16)]) 5 [1, 2, 3, 4, 5, 0] dX7_count_80 rfl rfl (Nat.le_of_ble_eq_true rfl) e_x16 rfl ?_
          refine z_goto (tgt := 23) C dX7_count_83 (by decide) ?_
          cases hf
          exact z_sub [0, 1, 2, 3, 4, 5] rfl (ih x11 x15 x16 hz)
      replace hf := hg
      clear hg
      refine z_if_eq (tgt := 53) C dX7_count_46 (by decide) (fun c18 => ?_) (fun c18 => ?_)
      · replace hf := if_t c18 hf
        refine z_iconst C (v := 0) dX7_count_53 rfl ?_
        cases hf
        exact z_sub [0, 1, 3, 4, 5] rfl hj
      · replace hf := if_f c18 hf
        refine z_iconst C (v := 1) dX7_count_49 rfl ?_
        refine z_goto (tgt := 54) C dX7_count_50 (by decide) ?_
        cases hf
        exact z_sub [0, 1, 3, 4, 5] rfl hj
set_option maxRecDepth 100000 in
set_option maxHeartbeats 4000000 in
theorem w_X7_count_11 {K : ZK} (C : zOK MM K cX7_count 6 (some .int) RX7 wsX7_count rmX7_count) {a1 : Int32} {m2 : Mem}  {o0 : Int32} {o1 : Int32} (hk : zGo MM K m2 [(0, .ref ((zw K).2.1 0)), (1, .int a1), (2, .int o0), (3, .int o1)] 92 []) : ∀ (n : Nat) (i3 : Int32) (i4 : Int32) (i5 : Int32), l_X7_count_11 m2 n i3 i4 i5 = some (o0, o1) → zGo MM K m2 [(0, .ref ((zw K).2.1 0)), (1, .int a1), (2, .int i3), (3, .int i4), (4, .int i5)] 11 [] := by
  intro n
  induction n with
  | zero =>
    intro i3 i4 i5 hf
    cases hf
  | succ n ih =>
    intro i3 i4 i5 hf
    obtain ⟨z, hf, hz⟩ := zlp_el hf
    replace hf : t_X7_count_11 m2 i3 i4 i5 = some z := hf
    unfold t_X7_count_11 at hf
    refine z_iload C 4 dX7_count_11 rfl ?_
    refine z_aload_n C 0 dX7_count_13 rfl rfl ?_
    refine z_geti C (Nat.le_of_ble_eq_true rfl) rfl rfl 7 (Nat.le_of_ble_eq_true rfl) rfl kiX7_count_X7 kfX7_count_258 dX7_count_14 ?_
    refine z_icmp_ge (tgt := 92) C dX7_count_17 (by decide) (fun c23 => ?_) (fun c23 => ?_)
    · replace hf := if_t c23 hf
      cases hf
      replace hz := zlz_r hz
      cases hz
      exact z_sub [0, 1, 2, 3] rfl hk
    · replace hf := if_f c23 hf
      refine z_iconst C (v := 0) dX7_count_20 rfl ?_
      refine z_istore C (lv2 := [(0, .ref ((zw K).2.1 0)), (1, .int a1), (2, .int i3), (3, .int i4), (4, .int i5), (5, .int 0)]) [1, 2, 3, 4, 5, 0] dX7_count_21 (Nat.le_of_ble_eq_true rfl) rfl ?_
      obtain ⟨y20, y21, hg, hf⟩ := zb2_el hf
      refine z_sub [0, 1, 2, 3, 4, 5] rfl (w_X7_count_23 C  ?_ _ _ _ _ hg)
      clear hg
      obtain ⟨x22, e_x22⟩ : ∃ y : Int32, y = i5 + 1 := ⟨_, rfl⟩
      replace hf := bn_to e_x22 hf
      refine z_iinc C (lv2 := [(0, .ref ((zw K).2.1 0)), (1, .int a1), (2, .int y20), (3, .int y21), (4, .int x22)]) 4 [1, 2, 3, 4, 0] dX7_count_86 rfl rfl (Nat.le_of_ble_eq_true rfl) e_x22 rfl ?_
      refine z_goto (tgt := 11) C dX7_count_89 (by decide) ?_
      cases hf
      exact z_sub [0, 1, 2, 3, 4] rfl (ih y20 y21 x22 hz)
set_option maxRecDepth 100000 in
set_option maxHeartbeats 4000000 in
theorem c_X7_count (l : Launch) (w : ZW) {m : Mem} {a1 : Int32} {r9 : Int32} {m9 : Mem}  (hf : s_X7_count m a1 = some (r9, m9)) : zCi MM l w yX7_count wsX7_count rmX7_count [.ref (w.2.1 0), .int a1] m m9 r9 := by
  refine z_met_i MM_ok (own := RX7) (by decide +kernel) rfl rfl (Nat.le_of_ble_eq_true rfl) ?_
  intro K C hKw hKl hret
  subst hKw
  subst hKl
  unfold s_X7_count at hf
  show zGo MM K m [(0, .ref ((zw K).2.1 0)), (1, .int a1)] 0 []
  refine z_iconst C (v := 0) dX7_count_0 rfl ?_
  refine z_istore_n C (lv2 := [(0, .ref ((zw K).2.1 0)), (1, .int a1), (2, .int 0)]) [1, 2, 0] dX7_count_1 rfl (Nat.le_of_ble_eq_true rfl) rfl ?_
  refine z_iconst C (v := 0) dX7_count_2 rfl ?_
  refine z_istore_n C (lv2 := [(0, .ref ((zw K).2.1 0)), (1, .int a1), (2, .int 0), (3, .int 0)]) [1, 2, 3, 0] dX7_count_3 rfl (Nat.le_of_ble_eq_true rfl) rfl ?_
  refine z_aload_n C 0 dX7_count_4 rfl rfl ?_
  obtain ⟨m2, hc1, hf⟩ := zb_el hf
  refine z_cVv C (c_X7_read _ _ hc1) rfl gX7_count_X7_read rfl rfl zdX7_read rfl (Nat.le_of_ble_eq_true rfl) rfl rfl rfl ⟨Nat.le_of_ble_eq_true rfl, Nat.le_of_ble_eq_true rfl⟩ (Nat.le_of_ble_eq_true rfl) dX7_count_5 rfl ?_
  refine z_iconst C (v := 0) dX7_count_8 rfl ?_
  refine z_istore C (lv2 := [(0, .ref ((zw K).2.1 0)), (1, .int a1), (2, .int 0), (3, .int 0), (4, .int 0)]) [1, 2, 3, 4, 0] dX7_count_9 (Nat.le_of_ble_eq_true rfl) rfl ?_
  obtain ⟨y24, y25, hg, hf⟩ := zb2_el hf
  refine z_sub [0, 1, 2, 3, 4] rfl (w_X7_count_11 C  ?_ _ _ _ _ hg)
  clear hg
  refine z_iload_n C 1 dX7_count_92 rfl rfl ?_
  refine z_if_ne (tgt := 103) C dX7_count_93 (by decide) (fun c33 => ?_) (fun c33 => ?_)
  · replace hf := if_f c33 hf
    refine z_iload_n C 1 dX7_count_103 rfl rfl ?_
    refine z_iconst C (v := 1) dX7_count_104 rfl ?_
    refine z_icmp_ne (tgt := 115) C dX7_count_105 (by decide) (fun c32 => ?_) (fun c32 => ?_)
    · replace hf := if_f c32 hf
      refine z_iload_n C 1 dX7_count_115 rfl rfl ?_
      refine z_iconst C (v := 2) dX7_count_116 rfl ?_
      refine z_icmp_ne (tgt := 127) C dX7_count_117 (by decide) (fun c29 => ?_) (fun c29 => ?_)
      · replace hf := if_f c29 hf
        refine z_iload_n C 1 dX7_count_127 rfl rfl ?_
        refine z_iconst C (v := 3) dX7_count_128 rfl ?_
        refine z_icmp_ne (tgt := 139) C dX7_count_129 (by decide) (fun c28 => ?_) (fun c28 => ?_)
        · replace hf := if_f c28 hf
          refine z_iload_n C 1 dX7_count_139 rfl rfl ?_
          refine z_iconst C (v := 4) dX7_count_140 rfl ?_
          refine z_icmp_ne (tgt := 148) C dX7_count_141 (by decide) (fun c27 => ?_) (fun c27 => ?_)
          · replace hf := if_f c27 hf
            refine z_iload_n C 1 dX7_count_148 rfl rfl ?_
            refine z_iconst C (v := 5) dX7_count_149 rfl ?_
            refine z_icmp_ne (tgt := 157) C dX7_count_150 (by decide) (fun c26 => ?_) (fun c26 => ?_)
            · replace hf := if_f c26 hf
              refine z_iconst C (v := (-1)) dX7_count_157 (by decide) ?_
              cases hf
              exact hret _ _ dX7_count_158
            · replace hf := if_t c26 hf
              refine z_iload_n C 3 dX7_count_153 rfl rfl ?_
              refine z_goto (tgt := 158) C dX7_count_154 (by decide) ?_
              cases hf
              exact hret _ _ dX7_count_158
          · replace hf := if_t c27 hf
            refine z_iload_n C 2 dX7_count_144 rfl rfl ?_
            refine z_goto (tgt := 158) C dX7_count_145 (by decide) ?_
            cases hf
            exact hret _ _ dX7_count_158
        · replace hf := if_t c28 hf
          refine z_aload_n C 0 dX7_count_132 rfl rfl ?_
          refine z_geti C (Nat.le_of_ble_eq_true rfl) rfl rfl 37 (Nat.le_of_ble_eq_true rfl) rfl kiX7_count_X7 kfX7_count_170 dX7_count_133 ?_
          refine z_goto (tgt := 158) C dX7_count_136 (by decide) ?_
          cases hf
          exact hret _ _ dX7_count_158
      · replace hf := if_t c29 hf
        refine z_aload_n C 0 dX7_count_120 rfl rfl ?_
        refine z_geti C (Nat.le_of_ble_eq_true rfl) rfl rfl 7 (Nat.le_of_ble_eq_true rfl) rfl kiX7_count_X7 kfX7_count_258 dX7_count_121 ?_
        refine z_goto (tgt := 158) C dX7_count_124 (by decide) ?_
        cases hf
        exact hret _ _ dX7_count_158
    · replace hf := if_t c32 hf
      refine z_aload_n C 0 dX7_count_108 rfl rfl ?_
      obtain ⟨r31, hc30, hf⟩ := zb_el hf
      refine z_cVi C (c_X7_edges _ _ hc30) rfl gX7_count_X7_edges rfl rfl zdX7_edges rfl (Nat.le_of_ble_eq_true rfl) rfl rfl rfl ⟨Nat.le_of_ble_eq_true rfl, Nat.le_of_ble_eq_true rfl⟩ (Nat.le_of_ble_eq_true rfl) dX7_count_109 rfl ?_
      refine z_goto (tgt := 158) C dX7_count_112 (by decide) ?_
      cases hf
      exact hret _ _ dX7_count_158
  · replace hf := if_t c33 hf
    refine z_aload_n C 0 dX7_count_96 rfl rfl ?_
    refine z_geti C (Nat.le_of_ble_eq_true rfl) rfl rfl 0 (Nat.le_of_ble_eq_true rfl) rfl kiX7_count_X7 kfX7_count_140 dX7_count_97 ?_
    refine z_goto (tgt := 158) C dX7_count_100 (by decide) ?_
    cases hf
    exact hret _ _ dX7_count_158
def rmX7_placeOf : Room := { frames := 0, cells := 0, slots := 0, locals := 0 }
theorem zdX7_placeOf : yX7_placeOf.cls = RX7 ∧ yX7_placeOf.cls ≠ "java/lang/invoke/MethodHandle" ∧ yX7_placeOf.cls ≠ "java/lang/invoke/VarHandle" ∧ (parseMethodDescriptor yX7_placeOf.desc).map (fun d => d.parameters.length) = some 3 := by decide +kernel
theorem kiX7_placeOf_X7 : ∀ w ∈ wsX70, w ∈ wsX7_placeOf := by decide +kernel
theorem kfX7_placeOf_17 : Cond.fieldLink RX7 17 "ShapeJudgeModel" "many" "[I" ∈ wsX7_placeOf := by decide +kernel
theorem kfX7_placeOf_20 : Cond.fieldLink RX7 20 "ShapeJudgeModel" "names" "[I" ∈ wsX7_placeOf := by decide +kernel
theorem kfX7_placeOf_23 : Cond.fieldLink RX7 23 "ShapeJudgeModel" "tos" "[I" ∈ wsX7_placeOf := by decide +kernel
def t_X7_placeOf_3 (m : Mem) (a1 : Int32) (a2 : Int32) (a3 : Int32) (i1 : Int32) : Option ((Int32) ⊕ (Int32)) :=
  ck (zin a1 10 = true) ((if (m 3 (Int32.toNatClampNeg a1)) ≤ i1 then (some (.inr i1)) else (ck (zin (((5 : Int32) * a1) + i1) 50 = true) ((if (m 4 (Int32.toNatClampNeg (((5 : Int32) * a1) + i1))) < a2 then (bn (i1 + 1) fun x4 => some (.inl x4)) else (ck (zin (((5 : Int32) * a1) + i1) 50 = true) ((if (m 4 (Int32.toNatClampNeg (((5 : Int32) * a1) + i1))) = a2 then (ck (zin (((5 : Int32) * a1) + i1) 50 = true) ((if a3 ≤ (m 5 (Int32.toNatClampNeg (((5 : Int32) * a1) + i1))) then (some (.inr i1)) else (bn (i1 + 1) fun x7 => some (.inl x7))))) else (some (.inr i1))))))))))
def l_X7_placeOf_3 (m : Mem) (a1 : Int32) (a2 : Int32) (a3 : Int32) (n : Nat) (i1 : Int32) : Option (Int32) := zlp n (fun a => t_X7_placeOf_3 m a1 a2 a3 a) i1
def s_X7_placeOf (m : Mem) (a1 : Int32) (a2 : Int32) (a3 : Int32) : Option (Int32) :=
  ((l_X7_placeOf_3 m a1 a2 a3 FU 0).bind fun y12 => some y12)
set_option maxRecDepth 100000 in
set_option maxHeartbeats 4000000 in
theorem w_X7_placeOf_3 {K : ZK} (C : zOK MM K cX7_placeOf 5 (some .int) RX7 wsX7_placeOf rmX7_placeOf) {m : Mem} {a1 : Int32} {a2 : Int32} {a3 : Int32}  {o0 : Int32} (hk : zGo MM K m [(4, .int o0)] 65 []) : ∀ (n : Nat) (i1 : Int32), l_X7_placeOf_3 m a1 a2 a3 n i1 = some o0 → zGo MM K m [(0, .ref ((zw K).2.1 0)), (1, .int a1), (2, .int a2), (3, .int a3), (4, .int i1)] 3 [] := by
  intro n
  induction n with
  | zero =>
    intro i1 hf
    cases hf
  | succ n ih =>
    intro i1 hf
    obtain ⟨z, hf, hz⟩ := zlp_el hf
    replace hf : t_X7_placeOf_3 m a1 a2 a3 i1 = some z := hf
    unfold t_X7_placeOf_3 at hf
    refine z_iload C 4 dX7_placeOf_3 rfl ?_
    refine z_aload_n C 0 dX7_placeOf_5 rfl rfl ?_
    refine z_getr C (t := 3) (Nat.le_of_ble_eq_true rfl) rfl rfl 3 (Nat.le_of_ble_eq_true rfl) rfl kiX7_placeOf_X7 kfX7_placeOf_17 dX7_placeOf_6 ?_
    refine z_iload_n C 1 dX7_placeOf_9 rfl rfl ?_
    obtain ⟨hi2, hf⟩ := ck_el hf
    refine z_iald C (k := 3) (Nat.le_of_ble_eq_true rfl) rfl hi2 dX7_placeOf_10 ?_
    refine z_icmp_ge (tgt := 65) C dX7_placeOf_11 (by decide) (fun c11 => ?_) (fun c11 => ?_)
    · replace hf := if_t c11 hf
      cases hf
      replace hz := zlz_r hz
      cases hz
      exact z_sub [4] rfl hk
    · replace hf := if_f c11 hf
      refine z_aload_n C 0 dX7_placeOf_14 rfl rfl ?_
      refine z_getr C (t := 4) (Nat.le_of_ble_eq_true rfl) rfl rfl 4 (Nat.le_of_ble_eq_true rfl) rfl kiX7_placeOf_X7 kfX7_placeOf_20 dX7_placeOf_15 ?_
      refine z_iconst C (v := 5) dX7_placeOf_18 rfl ?_
      refine z_iload_n C 1 dX7_placeOf_19 rfl rfl ?_
      refine z_imul C dX7_placeOf_20 ?_
      refine z_iload C 4 dX7_placeOf_21 rfl ?_
      refine z_iadd C dX7_placeOf_23 ?_
      obtain ⟨hi3, hf⟩ := ck_el hf
      refine z_iald C (k := 4) (Nat.le_of_ble_eq_true rfl) rfl hi3 dX7_placeOf_24 ?_
      refine z_iload_n C 2 dX7_placeOf_25 rfl rfl ?_
      refine z_icmp_lt (tgt := 59) C dX7_placeOf_26 (by decide) (fun c10 => ?_) (fun c10 => ?_)
      · replace hf := if_t c10 hf
        obtain ⟨x4, e_x4⟩ : ∃ y : Int32, y = i1 + 1 := ⟨_, rfl⟩
        replace hf := bn_to e_x4 hf
        refine z_iinc C (lv2 := [(0, .ref ((zw K).2.1 0)), (1, .int a1), (2, .int a2), (3, .int a3), (4, .int x4)]) 4 [1, 2, 3, 4, 0] dX7_placeOf_59 rfl rfl (Nat.le_of_ble_eq_true rfl) e_x4 rfl ?_
        refine z_goto (tgt := 3) C dX7_placeOf_62 (by decide) ?_
        cases hf
        exact z_sub [0, 1, 2, 3, 4] rfl (ih x4 hz)
      · replace hf := if_f c10 hf
        refine z_aload_n C 0 dX7_placeOf_29 rfl rfl ?_
        refine z_getr C (t := 4) (Nat.le_of_ble_eq_true rfl) rfl rfl 4 (Nat.le_of_ble_eq_true rfl) rfl kiX7_placeOf_X7 kfX7_placeOf_20 dX7_placeOf_30 ?_
        refine z_iconst C (v := 5) dX7_placeOf_33 rfl ?_
        refine z_iload_n C 1 dX7_placeOf_34 rfl rfl ?_
        refine z_imul C dX7_placeOf_35 ?_
        refine z_iload C 4 dX7_placeOf_36 rfl ?_
        refine z_iadd C dX7_placeOf_38 ?_
        obtain ⟨hi5, hf⟩ := ck_el hf
        refine z_iald C (k := 4) (Nat.le_of_ble_eq_true rfl) rfl hi5 dX7_placeOf_39 ?_
        refine z_iload_n C 2 dX7_placeOf_40 rfl rfl ?_
        refine z_icmp_ne (tgt := 65) C dX7_placeOf_41 (by decide) (fun c9 => ?_) (fun c9 => ?_)
        · replace hf := if_f c9 hf
          cases hf
          replace hz := zlz_r hz
          cases hz
          exact z_sub [4] rfl hk
        · replace hf := if_t c9 hf
          refine z_aload_n C 0 dX7_placeOf_44 rfl rfl ?_
          refine z_getr C (t := 5) (Nat.le_of_ble_eq_true rfl) rfl rfl 5 (Nat.le_of_ble_eq_true rfl) rfl kiX7_placeOf_X7 kfX7_placeOf_23 dX7_placeOf_45 ?_
          refine z_iconst C (v := 5) dX7_placeOf_48 rfl ?_
          refine z_iload_n C 1 dX7_placeOf_49 rfl rfl ?_
          refine z_imul C dX7_placeOf_50 ?_
          refine z_iload C 4 dX7_placeOf_51 rfl ?_
          refine z_iadd C dX7_placeOf_53 ?_
          obtain ⟨hi6, hf⟩ := ck_el hf
          refine z_iald C (k := 5) (Nat.le_of_ble_eq_true rfl) rfl hi6 dX7_placeOf_54 ?_
          refine z_iload_n C 3 dX7_placeOf_55 rfl rfl ?_
          refine z_icmp_ge (tgt := 65) C dX7_placeOf_56 (by decide) (fun c8 => ?_) (fun c8 => ?_)
          · replace hf := if_t c8 hf
            cases hf
            replace hz := zlz_r hz
            cases hz
            exact z_sub [4] rfl hk
          · replace hf := if_f c8 hf
            obtain ⟨x7, e_x7⟩ : ∃ y : Int32, y = i1 + 1 := ⟨_, rfl⟩
            replace hf := bn_to e_x7 hf
            refine z_iinc C (lv2 := [(0, .ref ((zw K).2.1 0)), (1, .int a1), (2, .int a2), (3, .int a3), (4, .int x7)]) 4 [1, 2, 3, 4, 0] dX7_placeOf_59 rfl rfl (Nat.le_of_ble_eq_true rfl) e_x7 rfl ?_
            refine z_goto (tgt := 3) C dX7_placeOf_62 (by decide) ?_
            cases hf
            exact z_sub [0, 1, 2, 3, 4] rfl (ih x7 hz)
set_option maxRecDepth 100000 in
set_option maxHeartbeats 4000000 in
theorem c_X7_placeOf (l : Launch) (w : ZW) {m : Mem} {a1 : Int32} {a2 : Int32} {a3 : Int32} {r9 : Int32}  (hf : s_X7_placeOf m a1 a2 a3 = some r9) : zCi MM l w yX7_placeOf wsX7_placeOf rmX7_placeOf [.ref (w.2.1 0), .int a1, .int a2, .int a3] m m r9 := by
  refine z_met_i MM_ok (own := RX7) (by decide +kernel) rfl rfl (Nat.le_of_ble_eq_true rfl) ?_
  intro K C hKw hKl hret
  subst hKw
  subst hKl
  unfold s_X7_placeOf at hf
  show zGo MM K m [(0, .ref ((zw K).2.1 0)), (1, .int a1), (2, .int a2), (3, .int a3)] 0 []
  refine z_iconst C (v := 0) dX7_placeOf_0 rfl ?_
  refine z_istore C (lv2 := [(0, .ref ((zw K).2.1 0)), (1, .int a1), (2, .int a2), (3, .int a3), (4, .int 0)]) [1, 2, 3, 4, 0] dX7_placeOf_1 (Nat.le_of_ble_eq_true rfl) rfl ?_
  obtain ⟨y12, hg, hf⟩ := zb_el hf
  refine z_sub [0, 1, 2, 3, 4] rfl (w_X7_placeOf_3 C  ?_ _ _ hg)
  clear hg
  refine z_iload C 0 dX7_placeOf_65 rfl ?_
  cases hf
  exact hret _ _ dX7_placeOf_67
def rmX7_isThere : Room := { frames := 1, cells := 0, slots := 0, locals := 24 }
theorem zdX7_isThere : yX7_isThere.cls = RX7 ∧ yX7_isThere.cls ≠ "java/lang/invoke/MethodHandle" ∧ yX7_isThere.cls ≠ "java/lang/invoke/VarHandle" ∧ (parseMethodDescriptor yX7_isThere.desc).map (fun d => d.parameters.length) = some 3 := by decide +kernel
theorem kiX7_isThere_X7 : ∀ w ∈ wsX70, w ∈ wsX7_isThere := by decide +kernel
theorem kfX7_isThere_17 : Cond.fieldLink RX7 17 "ShapeJudgeModel" "many" "[I" ∈ wsX7_isThere := by decide +kernel
theorem kfX7_isThere_20 : Cond.fieldLink RX7 20 "ShapeJudgeModel" "names" "[I" ∈ wsX7_isThere := by decide +kernel
theorem kfX7_isThere_23 : Cond.fieldLink RX7 23 "ShapeJudgeModel" "tos" "[I" ∈ wsX7_isThere := by decide +kernel
def s_X7_isThere (m : Mem) (a1 : Int32) (a2 : Int32) (a3 : Int32) : Option (Int32) :=
  (s_X7_placeOf m a1 a2 a3).bind fun r2 => ck (zin a1 10 = true) ((if (m 3 (Int32.toNatClampNeg a1)) ≤ r2 then (some 0) else (ck (zin (((5 : Int32) * a1) + r2) 50 = true) ((if (m 4 (Int32.toNatClampNeg (((5 : Int32) * a1) + r2))) = a2 then (ck (zin (((5 : Int32) * a1) + r2) 50 = true) ((if (m 5 (Int32.toNatClampNeg (((5 : Int32) * a1) + r2))) = a3 then (some 1) else (some 0)))) else (some 0))))))
set_option maxRecDepth 100000 in
set_option maxHeartbeats 4000000 in
theorem c_X7_isThere (l : Launch) (w : ZW) {m : Mem} {a1 : Int32} {a2 : Int32} {a3 : Int32} {r9 : Int32}  (hf : s_X7_isThere m a1 a2 a3 = some r9) : zCi MM l w yX7_isThere wsX7_isThere rmX7_isThere [.ref (w.2.1 0), .int a1, .int a2, .int a3] m m r9 := by
  refine z_met_z MM_ok (own := RX7) (by decide +kernel) rfl rfl (Nat.le_of_ble_eq_true rfl) ?_
  intro K C hKw hKl hret
  subst hKw
  subst hKl
  unfold s_X7_isThere at hf
  show zGo MM K m [(0, .ref ((zw K).2.1 0)), (1, .int a1), (2, .int a2), (3, .int a3)] 0 []
  refine z_aload_n C 0 dX7_isThere_0 rfl rfl ?_
  refine z_iload_n C 1 dX7_isThere_1 rfl rfl ?_
  refine z_iload_n C 2 dX7_isThere_2 rfl rfl ?_
  refine z_iload_n C 3 dX7_isThere_3 rfl rfl ?_
  obtain ⟨r2, hc1, hf⟩ := zb_el hf
  refine z_cVi C (c_X7_placeOf _ _ hc1) rfl gX7_isThere_X7_placeOf rfl rfl zdX7_placeOf rfl (Nat.le_of_ble_eq_true rfl) rfl rfl rfl ⟨Nat.le_of_ble_eq_true rfl, Nat.le_of_ble_eq_true rfl⟩ (Nat.le_of_ble_eq_true rfl) dX7_isThere_4 rfl ?_
  refine z_istore C (lv2 := [(0, .ref ((zw K).2.1 0)), (1, .int a1), (2, .int a2), (3, .int a3), (4, .int r2)]) [1, 2, 3, 4, 0] dX7_isThere_7 (Nat.le_of_ble_eq_true rfl) rfl ?_
  refine z_iload C 4 dX7_isThere_9 rfl ?_
  refine z_aload_n C 0 dX7_isThere_11 rfl rfl ?_
  refine z_getr C (t := 3) (Nat.le_of_ble_eq_true rfl) rfl rfl 3 (Nat.le_of_ble_eq_true rfl) rfl kiX7_isThere_X7 kfX7_isThere_17 dX7_isThere_12 ?_
  refine z_iload_n C 1 dX7_isThere_15 rfl rfl ?_
  obtain ⟨hi3, hf⟩ := ck_el hf
  refine z_iald C (k := 3) (Nat.le_of_ble_eq_true rfl) rfl hi3 dX7_isThere_16 ?_
  refine z_icmp_ge (tgt := 54) C dX7_isThere_17 (by decide) (fun c8 => ?_) (fun c8 => ?_)
  · replace hf := if_t c8 hf
    refine z_iconst C (v := 0) dX7_isThere_54 rfl ?_
    cases hf
    exact hret _ _ dX7_isThere_55 (Or.inl rfl)
  · replace hf := if_f c8 hf
    refine z_aload_n C 0 dX7_isThere_20 rfl rfl ?_
    refine z_getr C (t := 4) (Nat.le_of_ble_eq_true rfl) rfl rfl 4 (Nat.le_of_ble_eq_true rfl) rfl kiX7_isThere_X7 kfX7_isThere_20 dX7_isThere_21 ?_
    refine z_iconst C (v := 5) dX7_isThere_24 rfl ?_
    refine z_iload_n C 1 dX7_isThere_25 rfl rfl ?_
    refine z_imul C dX7_isThere_26 ?_
    refine z_iload C 4 dX7_isThere_27 rfl ?_
    refine z_iadd C dX7_isThere_29 ?_
    obtain ⟨hi4, hf⟩ := ck_el hf
    refine z_iald C (k := 4) (Nat.le_of_ble_eq_true rfl) rfl hi4 dX7_isThere_30 ?_
    refine z_iload_n C 2 dX7_isThere_31 rfl rfl ?_
    refine z_icmp_ne (tgt := 54) C dX7_isThere_32 (by decide) (fun c7 => ?_) (fun c7 => ?_)
    · replace hf := if_f c7 hf
      refine z_iconst C (v := 0) dX7_isThere_54 rfl ?_
      cases hf
      exact hret _ _ dX7_isThere_55 (Or.inl rfl)
    · replace hf := if_t c7 hf
      refine z_aload_n C 0 dX7_isThere_35 rfl rfl ?_
      refine z_getr C (t := 5) (Nat.le_of_ble_eq_true rfl) rfl rfl 5 (Nat.le_of_ble_eq_true rfl) rfl kiX7_isThere_X7 kfX7_isThere_23 dX7_isThere_36 ?_
      refine z_iconst C (v := 5) dX7_isThere_39 rfl ?_
      refine z_iload_n C 1 dX7_isThere_40 rfl rfl ?_
      refine z_imul C dX7_isThere_41 ?_
      refine z_iload C 4 dX7_isThere_42 rfl ?_
      refine z_iadd C dX7_isThere_44 ?_
      obtain ⟨hi5, hf⟩ := ck_el hf
      refine z_iald C (k := 5) (Nat.le_of_ble_eq_true rfl) rfl hi5 dX7_isThere_45 ?_
      refine z_iload_n C 3 dX7_isThere_46 rfl rfl ?_
      refine z_icmp_ne (tgt := 54) C dX7_isThere_47 (by decide) (fun c6 => ?_) (fun c6 => ?_)
      · replace hf := if_f c6 hf
        refine z_iconst C (v := 0) dX7_isThere_54 rfl ?_
        cases hf
        exact hret _ _ dX7_isThere_55 (Or.inl rfl)
      · replace hf := if_t c6 hf
        refine z_iconst C (v := 1) dX7_isThere_50 rfl ?_
        refine z_goto (tgt := 55) C dX7_isThere_51 (by decide) ?_
        cases hf
        exact hret _ _ dX7_isThere_55 (Or.inr rfl)
def rmX7_cut : Room := { frames := 2, cells := 0, slots := 0, locals := 48 }
theorem zdX7_cut : yX7_cut.cls = RX7 ∧ yX7_cut.cls ≠ "java/lang/invoke/MethodHandle" ∧ yX7_cut.cls ≠ "java/lang/invoke/VarHandle" ∧ (parseMethodDescriptor yX7_cut.desc).map (fun d => d.parameters.length) = some 3 := by decide +kernel
theorem kcX7_cut_160 : Cond.constantLong RX7 160 (9) ∈ wsX7_cut := by decide +kernel
theorem kiX7_cut_X7 : ∀ w ∈ wsX70, w ∈ wsX7_cut := by decide +kernel
theorem kfX7_cut_17 : Cond.fieldLink RX7 17 "ShapeJudgeModel" "many" "[I" ∈ wsX7_cut := by decide +kernel
theorem kfX7_cut_20 : Cond.fieldLink RX7 20 "ShapeJudgeModel" "names" "[I" ∈ wsX7_cut := by decide +kernel
theorem kfX7_cut_23 : Cond.fieldLink RX7 23 "ShapeJudgeModel" "tos" "[I" ∈ wsX7_cut := by decide +kernel
theorem kfX7_cut_148 : Cond.fieldLink RX7 148 "ShapeJudgeModel" "isRead" "Z" ∈ wsX7_cut := by decide +kernel
def t_X7_cut_62 (a1 : Int32) (i14 : Int32) (m15 : Mem) : Option ((Int32 × Mem) ⊕ (Mem)) :=
  ck (zin a1 10 = true) ((if (m15 3 (Int32.toNatClampNeg a1)) ≤ i14 then (some (.inr m15)) else (ck (zin ((((5 : Int32) * a1) + i14) + 1) 50 = true) (ck (zin (((5 : Int32) * a1) + i14) 50 = true) (bn (sto m15 4 (Int32.toNatClampNeg (((5 : Int32) * a1) + i14)) (m15 4 (Int32.toNatClampNeg ((((5 : Int32) * a1) + i14) + 1)))) fun m19 => ck (zin ((((5 : Int32) * a1) + i14) + 1) 50 = true) (ck (zin (((5 : Int32) * a1) + i14) 50 = true) (bn (sto m19 5 (Int32.toNatClampNeg (((5 : Int32) * a1) + i14)) (m19 5 (Int32.toNatClampNeg ((((5 : Int32) * a1) + i14) + 1)))) fun m22 => bn (i14 + 1) fun x23 => some (.inl (x23, m22)))))))))
def l_X7_cut_62 (a1 : Int32) (n : Nat) (i14 : Int32) (m15 : Mem) : Option (Mem) := zlp n (fun a => t_X7_cut_62 a1 a.1 a.2) (i14, m15)
def s_X7_cut (m : Mem) (a1 : Int32) (a2 : Int32) (a3 : Int32) : Option (Int32 × Mem) :=
  (s_X7_isNode m a1).bind fun r2 => (if r2 = 0 then (some ((-1), m)) else ((s_X7_in (a2.toInt64) 0 9).bind fun r4 => (if r4 = 0 then (some ((-1), m)) else ((s_X7_isNode m a3).bind fun r6 => (if r6 = 0 then (some ((-1), m)) else ((s_X7_isThere m a1 a2 a3).bind fun r8 => (if r8 = 0 then (some ((-2), m)) else (ck (zin a1 10 = true) (ck (zin a1 10 = true) (bn (sto m 3 (Int32.toNatClampNeg a1) ((m 3 (Int32.toNatClampNeg a1)) - 1)) fun m11 => (s_X7_placeOf m11 a1 a2 a3).bind fun r13 => ((l_X7_cut_62 a1 FU r13 m11).bind fun m25 => bn (sto m25 0 6 0) fun m26 => (s_X7_edges m26).bind fun r28 => some (r28, m26))))))))))))
set_option maxRecDepth 100000 in
set_option maxHeartbeats 4000000 in
theorem w_X7_cut_62 {K : ZK} (C : zOK MM K cX7_cut 5 (some .int) RX7 wsX7_cut rmX7_cut) {a1 : Int32}  {o0 : Mem} (hk : zGo MM K o0 [(0, .ref ((zw K).2.1 0))] 127 []) : ∀ (n : Nat) (i14 : Int32) (m15 : Mem), l_X7_cut_62 a1 n i14 m15 = some o0 → zGo MM K m15 [(0, .ref ((zw K).2.1 0)), (1, .int a1), (4, .int i14)] 62 [] := by
  intro n
  induction n with
  | zero =>
    intro i14 m15 hf
    cases hf
  | succ n ih =>
    intro i14 m15 hf
    obtain ⟨z, hf, hz⟩ := zlp_el hf
    replace hf : t_X7_cut_62 a1 i14 m15 = some z := hf
    unfold t_X7_cut_62 at hf
    refine z_iload C 2 dX7_cut_62 rfl ?_
    refine z_aload_n C 0 dX7_cut_64 rfl rfl ?_
    refine z_getr C (t := 3) (Nat.le_of_ble_eq_true rfl) rfl rfl 3 (Nat.le_of_ble_eq_true rfl) rfl kiX7_cut_X7 kfX7_cut_17 dX7_cut_65 ?_
    refine z_iload_n C 1 dX7_cut_68 rfl rfl ?_
    obtain ⟨hi16, hf⟩ := ck_el hf
    refine z_iald C (k := 3) (Nat.le_of_ble_eq_true rfl) rfl hi16 dX7_cut_69 ?_
    refine z_icmp_ge (tgt := 127) C dX7_cut_70 (by decide) (fun c24 => ?_) (fun c24 => ?_)
    · replace hf := if_t c24 hf
      cases hf
      replace hz := zlz_r hz
      cases hz
      exact z_sub [0] rfl hk
    · replace hf := if_f c24 hf
      refine z_aload_n C 0 dX7_cut_73 rfl rfl ?_
      refine z_getr C (t := 4) (Nat.le_of_ble_eq_true rfl) rfl rfl 4 (Nat.le_of_ble_eq_true rfl) rfl kiX7_cut_X7 kfX7_cut_20 dX7_cut_74 ?_
      refine z_iconst C (v := 5) dX7_cut_77 rfl ?_
      refine z_iload_n C 1 dX7_cut_78 rfl rfl ?_
      refine z_imul C dX7_cut_79 ?_
      refine z_iload C 2 dX7_cut_80 rfl ?_
      refine z_iadd C dX7_cut_82 ?_
      refine z_aload_n C 0 dX7_cut_83 rfl rfl ?_
      refine z_getr C (t := 4) (Nat.le_of_ble_eq_true rfl) rfl rfl 4 (Nat.le_of_ble_eq_true rfl) rfl kiX7_cut_X7 kfX7_cut_20 dX7_cut_84 ?_
      refine z_iconst C (v := 5) dX7_cut_87 rfl ?_
      refine z_iload_n C 1 dX7_cut_88 rfl rfl ?_
      refine z_imul C dX7_cut_89 ?_
      refine z_iload C 2 dX7_cut_90 rfl ?_
      refine z_iadd C dX7_cut_92 ?_
      refine z_iconst C (v := 1) dX7_cut_93 rfl ?_
      refine z_iadd C dX7_cut_94 ?_
      obtain ⟨hi17, hf⟩ := ck_el hf
      refine z_iald C (k := 4) (Nat.le_of_ble_eq_true rfl) rfl hi17 dX7_cut_95 ?_
      obtain ⟨hi18, hf⟩ := ck_el hf
      refine z_iast C (k := 4) (Nat.le_of_ble_eq_true rfl) rfl hi18 dX7_cut_96 ?_
      refine z_nm (fun m19 e_m19 => ?_)
      replace hf := bn_to e_m19 hf
      refine z_aload_n C 0 dX7_cut_97 rfl rfl ?_
      refine z_getr C (t := 5) (Nat.le_of_ble_eq_true rfl) rfl rfl 5 (Nat.le_of_ble_eq_true rfl) rfl kiX7_cut_X7 kfX7_cut_23 dX7_cut_98 ?_
      refine z_iconst C (v := 5) dX7_cut_101 rfl ?_
      refine z_iload_n C 1 dX7_cut_102 rfl rfl ?_
      refine z_imul C dX7_cut_103 ?_
      refine z_iload C 2 dX7_cut_104 rfl ?_
      refine z_iadd C dX7_cut_106 ?_
      refine z_aload_n C 0 dX7_cut_107 rfl rfl ?_
      refine z_getr C (t := 5) (Nat.le_of_ble_eq_true rfl) rfl rfl 5 (Nat.le_of_ble_eq_true rfl) rfl kiX7_cut_X7 kfX7_cut_23 dX7_cut_108 ?_
      refine z_iconst C (v := 5) dX7_cut_111 rfl ?_
      refine z_iload_n C 1 dX7_cut_112 rfl rfl ?_
      refine z_imul C dX7_cut_113 ?_
      refine z_iload C 2 dX7_cut_114 rfl ?_
      refine z_iadd C dX7_cut_116 ?_
      refine z_iconst C (v := 1) dX7_cut_117 rfl ?_
      refine z_iadd C dX7_cut_118 ?_
      obtain ⟨hi20, hf⟩ := ck_el hf
      refine z_iald C (k := 5) (Nat.le_of_ble_eq_true rfl) rfl hi20 dX7_cut_119 ?_
      obtain ⟨hi21, hf⟩ := ck_el hf
      refine z_iast C (k := 5) (Nat.le_of_ble_eq_true rfl) rfl hi21 dX7_cut_120 ?_
      refine z_nm (fun m22 e_m22 => ?_)
      replace hf := bn_to e_m22 hf
      obtain ⟨x23, e_x23⟩ : ∃ y : Int32, y = i14 + 1 := ⟨_, rfl⟩
      replace hf := bn_to e_x23 hf
      refine z_iinc C (lv2 := [(0, .ref ((zw K).2.1 0)), (1, .int a1), (4, .int x23)]) 2 [1, 2, 0] dX7_cut_121 rfl rfl (Nat.le_of_ble_eq_true rfl) e_x23 rfl ?_
      refine z_goto (tgt := 62) C dX7_cut_124 (by decide) ?_
      cases hf
      exact z_sub [0, 1, 2] rfl (ih x23 m22 hz)
set_option maxRecDepth 100000 in
set_option maxHeartbeats 4000000 in
theorem c_X7_cut (l : Launch) (w : ZW) {m : Mem} {a1 : Int32} {a2 : Int32} {a3 : Int32} {r9 : Int32} {m9 : Mem}  (hf : s_X7_cut m a1 a2 a3 = some (r9, m9)) : zCi MM l w yX7_cut wsX7_cut rmX7_cut [.ref (w.2.1 0), .int a1, .int a2, .int a3] m m9 r9 := by
  refine z_met_i MM_ok (own := RX7) (by decide +kernel) rfl rfl (Nat.le_of_ble_eq_true rfl) ?_
  intro K C hKw hKl hret
  subst hKw
  subst hKl
  unfold s_X7_cut at hf
  show zGo MM K m [(0, .ref ((zw K).2.1 0)), (1, .int a1), (2, .int a2), (3, .int a3)] 0 []
  refine z_aload_n C 0 dX7_cut_0 rfl rfl ?_
  refine z_iload_n C 1 dX7_cut_1 rfl rfl ?_
  obtain ⟨r2, hc1, hf⟩ := zb_el hf
  refine z_cVi C (c_X7_isNode _ _ hc1) rfl gX7_cut_X7_isNode rfl rfl zdX7_isNode rfl (Nat.le_of_ble_eq_true rfl) rfl rfl rfl ⟨Nat.le_of_ble_eq_true rfl, Nat.le_of_ble_eq_true rfl⟩ (Nat.le_of_ble_eq_true rfl) dX7_cut_2 rfl ?_
  refine z_if_eq (tgt := 28) C dX7_cut_5 (by decide) (fun c32 => ?_) (fun c32 => ?_)
  · replace hf := if_t c32 hf
    refine z_iconst C (v := (-1)) dX7_cut_28 (by decide) ?_
    cases hf
    exact hret _ _ dX7_cut_29
  · replace hf := if_f c32 hf
    refine z_iload_n C 2 dX7_cut_8 rfl rfl ?_
    refine z_i2l C dX7_cut_9 ?_
    refine z_lconst C (v := 0) dX7_cut_10 rfl ?_
    refine z_ldc2 C (v := 9) dX7_cut_11 kcX7_cut_160 ?_
    obtain ⟨r4, hc3, hf⟩ := zb_el hf
    refine z_cSi C (c_X7_in _ _ hc3) rfl gX7_cut_X7_in rfl rfl zdX7_in.2 rfl ⟨Nat.le_of_ble_eq_true rfl, Nat.le_of_ble_eq_true rfl⟩ (Nat.le_of_ble_eq_true rfl) dX7_cut_14 rfl ?_
    refine z_if_eq (tgt := 28) C dX7_cut_17 (by decide) (fun c31 => ?_) (fun c31 => ?_)
    · replace hf := if_t c31 hf
      refine z_iconst C (v := (-1)) dX7_cut_28 (by decide) ?_
      cases hf
      exact hret _ _ dX7_cut_29
    · replace hf := if_f c31 hf
      refine z_aload_n C 0 dX7_cut_20 rfl rfl ?_
      refine z_iload_n C 3 dX7_cut_21 rfl rfl ?_
      obtain ⟨r6, hc5, hf⟩ := zb_el hf
      refine z_cVi C (c_X7_isNode _ _ hc5) rfl gX7_cut_X7_isNode rfl rfl zdX7_isNode rfl (Nat.le_of_ble_eq_true rfl) rfl rfl rfl ⟨Nat.le_of_ble_eq_true rfl, Nat.le_of_ble_eq_true rfl⟩ (Nat.le_of_ble_eq_true rfl) dX7_cut_22 rfl ?_
      refine z_if_ne (tgt := 30) C dX7_cut_25 (by decide) (fun c30 => ?_) (fun c30 => ?_)
      · replace hf := if_f c30 hf
        refine z_aload_n C 0 dX7_cut_30 rfl rfl ?_
        refine z_iload_n C 1 dX7_cut_31 rfl rfl ?_
        refine z_iload_n C 2 dX7_cut_32 rfl rfl ?_
        refine z_iload_n C 3 dX7_cut_33 rfl rfl ?_
        obtain ⟨r8, hc7, hf⟩ := zb_el hf
        refine z_cVi C (c_X7_isThere _ _ hc7) rfl gX7_cut_X7_isThere rfl rfl zdX7_isThere rfl (Nat.le_of_ble_eq_true rfl) rfl rfl rfl ⟨Nat.le_of_ble_eq_true rfl, Nat.le_of_ble_eq_true rfl⟩ (Nat.le_of_ble_eq_true rfl) dX7_cut_34 rfl ?_
        refine z_if_ne (tgt := 43) C dX7_cut_37 (by decide) (fun c29 => ?_) (fun c29 => ?_)
        · replace hf := if_f c29 hf
          refine z_aload_n C 0 dX7_cut_43 rfl rfl ?_
          refine z_getr C (t := 3) (Nat.le_of_ble_eq_true rfl) rfl rfl 3 (Nat.le_of_ble_eq_true rfl) rfl kiX7_cut_X7 kfX7_cut_17 dX7_cut_44 ?_
          refine z_iload_n C 1 dX7_cut_47 rfl rfl ?_
          refine z_dup2 C dX7_cut_48 ?_
          obtain ⟨hi9, hf⟩ := ck_el hf
          refine z_iald C (k := 3) (Nat.le_of_ble_eq_true rfl) rfl hi9 dX7_cut_49 ?_
          refine z_iconst C (v := 1) dX7_cut_50 rfl ?_
          refine z_isub C dX7_cut_51 ?_
          obtain ⟨hi10, hf⟩ := ck_el hf
          refine z_iast C (k := 3) (Nat.le_of_ble_eq_true rfl) rfl hi10 dX7_cut_52 ?_
          refine z_nm (fun m11 e_m11 => ?_)
          replace hf := bn_to e_m11 hf
          refine z_aload_n C 0 dX7_cut_53 rfl rfl ?_
          refine z_iload_n C 1 dX7_cut_54 rfl rfl ?_
          refine z_iload_n C 2 dX7_cut_55 rfl rfl ?_
          refine z_iload_n C 3 dX7_cut_56 rfl rfl ?_
          obtain ⟨r13, hc12, hf⟩ := zb_el hf
          refine z_cVi C (c_X7_placeOf _ _ hc12) rfl gX7_cut_X7_placeOf rfl rfl zdX7_placeOf rfl (Nat.le_of_ble_eq_true rfl) rfl rfl rfl ⟨Nat.le_of_ble_eq_true rfl, Nat.le_of_ble_eq_true rfl⟩ (Nat.le_of_ble_eq_true rfl) dX7_cut_57 rfl ?_
          refine z_istore C (lv2 := [(0, .ref ((zw K).2.1 0)), (1, .int a1), (2, .int a2), (3, .int a3), (4, .int r13)]) [1, 2, 3, 4, 0] dX7_cut_60 (Nat.le_of_ble_eq_true rfl) rfl ?_
          obtain ⟨m25, hg, hf⟩ := zb_el hf
          refine z_sub [0, 1, 4] rfl (w_X7_cut_62 C  ?_ _ _ _ hg)
          clear hg
          refine z_aload_n C 0 dX7_cut_127 rfl rfl ?_
          refine z_iconst C (v := 0) dX7_cut_128 rfl ?_
          refine z_putz C (Nat.le_of_ble_eq_true rfl) rfl rfl 6 (Nat.le_of_ble_eq_true rfl) rfl kiX7_cut_X7 kfX7_cut_148 tyX7 tyX7_ok nmX7 rfl rfl (Or.inl rfl) dX7_cut_129 ?_
          refine z_nm (fun m26 e_m26 => ?_)
          replace hf := bn_to e_m26 hf
          refine z_aload_n C 0 dX7_cut_132 rfl rfl ?_
          obtain ⟨r28, hc27, hf⟩ := zb_el hf
          refine z_cVi C (c_X7_edges _ _ hc27) rfl gX7_cut_X7_edges rfl rfl zdX7_edges rfl (Nat.le_of_ble_eq_true rfl) rfl rfl rfl ⟨Nat.le_of_ble_eq_true rfl, Nat.le_of_ble_eq_true rfl⟩ (Nat.le_of_ble_eq_true rfl) dX7_cut_133 rfl ?_
          cases hf
          exact hret _ _ dX7_cut_136
        · replace hf := if_t c29 hf
          refine z_bipush C (v := (-2)) dX7_cut_40 (by decide) ?_
          cases hf
          exact hret _ _ dX7_cut_42
      · replace hf := if_t c30 hf
        refine z_iconst C (v := (-1)) dX7_cut_28 (by decide) ?_
        cases hf
        exact hret _ _ dX7_cut_29
def rmX7_dealt : Room := { frames := 6, cells := 0, slots := 0, locals := 153 }
theorem zdX7_dealt : yX7_dealt.cls = RX7 ∧ yX7_dealt.cls ≠ "java/lang/invoke/MethodHandle" ∧ yX7_dealt.cls ≠ "java/lang/invoke/VarHandle" ∧ (parseMethodDescriptor yX7_dealt.desc).map (fun d => d.parameters.length) = some 3 := by decide +kernel
theorem kiX7_dealt_X7 : ∀ w ∈ wsX70, w ∈ wsX7_dealt := by decide +kernel
theorem kfX7_dealt_17 : Cond.fieldLink RX7 17 "ShapeJudgeModel" "many" "[I" ∈ wsX7_dealt := by decide +kernel
theorem kfX7_dealt_119 : Cond.fieldLink RX7 119 "ShapeJudgeModel" "fitting" "[Z" ∈ wsX7_dealt := by decide +kernel
theorem kfX7_dealt_20 : Cond.fieldLink RX7 20 "ShapeJudgeModel" "names" "[I" ∈ wsX7_dealt := by decide +kernel
theorem kfX7_dealt_125 : Cond.fieldLink RX7 125 "ShapeJudgeModel" "only" "[I" ∈ wsX7_dealt := by decide +kernel
def t_X7_dealt_114 (a1 : Int32) (a2 : Int32) (i14 : Int32) (m22 : Mem) : Option ((Mem) ⊕ (Mem)) :=
  zb2 (s_X7_can m22 a2 a1 0) fun r24 m25 => (if r24 = 0 then (ck (zin i14 5 = true) (ck (zin i14 5 = true) (bn (sto m25 39 (Int32.toNatClampNeg i14) ((m25 39 (Int32.toNatClampNeg i14)) + 1)) fun m28 => some (.inl m28)))) else (some (.inr m25)))
def l_X7_dealt_114 (a1 : Int32) (a2 : Int32) (i14 : Int32) (n : Nat) (m22 : Mem) : Option (Mem) := zlp n (fun a => t_X7_dealt_114 a1 a2 i14 a) m22
def t_X7_dealt_78 (a1 : Int32) (a2 : Int32) (a3 : Int32) (i14 : Int32) (m15 : Mem) : Option ((Int32 × Mem) ⊕ (Mem)) :=
  (if a3 < i14 then (some (.inr m15)) else (ck (zin (((5 : Int32) * a1) + i14) 50 = true) ((s_X7_isWanted m15 a2 (m15 4 (Int32.toNatClampNeg (((5 : Int32) * a1) + i14)))).bind fun r18 => (if r18 = 0 then (bn (i14 + 1) fun x19 => some (.inl (x19, m15))) else (ck (zin i14 5 = true) (bn (sto m15 39 (Int32.toNatClampNeg i14) ((6 : Int32) * a2)) fun m21 => ((l_X7_dealt_114 a1 a2 i14 FU m21).bind fun m30 => bn (i14 + 1) fun x31 => some (.inl (x31, m30)))))))))
def l_X7_dealt_78 (a1 : Int32) (a2 : Int32) (a3 : Int32) (n : Nat) (i14 : Int32) (m15 : Mem) : Option (Mem) := zlp n (fun a => t_X7_dealt_78 a1 a2 a3 a.1 a.2) (i14, m15)
def s_X7_dealt (m : Mem) (a1 : Int32) (a2 : Int32) (a3 : Int32) : Option (Int32 × Mem) :=
  (s_X7_areBoth m a1 a2).bind fun r2 => (if r2 = 0 then (some ((-1), m)) else (ck (zin a1 10 = true) ((s_X7_in (a3.toInt64) 0 ((m 3 (Int32.toNatClampNeg a1)) - 1).toInt64).bind fun r5 => (if r5 = 0 then (some ((-1), m)) else ((s_X7_read m).bind fun m7 => ck (zin (((10 : Int32) * a2) + a1) 60 = true) ((if (m7 37 (Int32.toNatClampNeg (((10 : Int32) * a2) + a1))) = 0 then (some ((-2), m7)) else (ck (zin (((5 : Int32) * a1) + a3) 50 = true) ((s_X7_isWanted m7 a2 (m7 4 (Int32.toNatClampNeg (((5 : Int32) * a1) + a3)))).bind fun r11 => (if r11 = 0 then (some ((-4), m7)) else ((s_X7_free m7).bind fun m13 => ((l_X7_dealt_78 a1 a2 a3 FU 0 m13).bind fun m34 => ck (zin a3 5 = true) (bn ((m34 39 (Int32.toNatClampNeg a3)) - ((6 : Int32) * a2)) fun x36 => (s_X7_free m34).bind fun m38 => some (x36, m38))))))))))))))
set_option maxRecDepth 100000 in
set_option maxHeartbeats 4000000 in
theorem w_X7_dealt_114 {K : ZK} (C : zOK MM K cX7_dealt 5 (some .int) RX7 wsX7_dealt rmX7_dealt) {a1 : Int32} {a2 : Int32} {a3 : Int32} {i14 : Int32}  {o0 : Mem} (hk : zGo MM K o0 [(0, .ref ((zw K).2.1 0)), (1, .int a1), (2, .int a2), (3, .int a3), (4, .int i14)] 138 []) : ∀ (n : Nat) (m22 : Mem), l_X7_dealt_114 a1 a2 i14 n m22 = some o0 → zGo MM K m22 [(0, .ref ((zw K).2.1 0)), (1, .int a1), (2, .int a2), (3, .int a3), (4, .int i14)] 114 [] := by
  intro n
  induction n with
  | zero =>
    intro m22 hf
    cases hf
  | succ n ih =>
    intro m22 hf
    obtain ⟨z, hf, hz⟩ := zlp_el hf
    replace hf : t_X7_dealt_114 a1 a2 i14 m22 = some z := hf
    unfold t_X7_dealt_114 at hf
    refine z_aload_n C 0 dX7_dealt_114 rfl rfl ?_
    refine z_iload_n C 2 dX7_dealt_115 rfl rfl ?_
    refine z_iload_n C 1 dX7_dealt_116 rfl rfl ?_
    refine z_iconst C (v := 0) dX7_dealt_117 rfl ?_
    obtain ⟨r24, m25, hc23, hf⟩ := zb2_el hf
    refine z_cVi C (c_X7_can _ _ hc23) rfl gX7_dealt_X7_can rfl rfl zdX7_can rfl (Nat.le_of_ble_eq_true rfl) rfl rfl rfl ⟨Nat.le_of_ble_eq_true rfl, Nat.le_of_ble_eq_true rfl⟩ (Nat.le_of_ble_eq_true rfl) dX7_dealt_118 rfl ?_
    refine z_if_ne (tgt := 138) C dX7_dealt_121 (by decide) (fun c29 => ?_) (fun c29 => ?_)
    · replace hf := if_f c29 hf
      cases hf
      replace hz := zlz_r hz
      cases hz
      exact z_sub [0, 1, 2, 3, 4] rfl hk
    · replace hf := if_t c29 hf
      refine z_aload_n C 0 dX7_dealt_124 rfl rfl ?_
      refine z_getr C (t := 39) (Nat.le_of_ble_eq_true rfl) rfl rfl 50 (Nat.le_of_ble_eq_true rfl) rfl kiX7_dealt_X7 kfX7_dealt_125 dX7_dealt_125 ?_
      refine z_iload C 4 dX7_dealt_128 rfl ?_
      refine z_dup2 C dX7_dealt_130 ?_
      obtain ⟨hi26, hf⟩ := ck_el hf
      refine z_iald C (k := 39) (Nat.le_of_ble_eq_true rfl) rfl hi26 dX7_dealt_131 ?_
      refine z_iconst C (v := 1) dX7_dealt_132 rfl ?_
      refine z_iadd C dX7_dealt_133 ?_
      obtain ⟨hi27, hf⟩ := ck_el hf
      refine z_iast C (k := 39) (Nat.le_of_ble_eq_true rfl) rfl hi27 dX7_dealt_134 ?_
      refine z_nm (fun m28 e_m28 => ?_)
      replace hf := bn_to e_m28 hf
      refine z_goto (tgt := 114) C dX7_dealt_135 (by decide) ?_
      cases hf
      exact z_sub [0, 1, 2, 3, 4] rfl (ih m28 hz)
set_option maxRecDepth 100000 in
set_option maxHeartbeats 4000000 in
theorem w_X7_dealt_78 {K : ZK} (C : zOK MM K cX7_dealt 5 (some .int) RX7 wsX7_dealt rmX7_dealt) {a1 : Int32} {a2 : Int32} {a3 : Int32}  {o0 : Mem} (hk : zGo MM K o0 [(0, .ref ((zw K).2.1 0)), (2, .int a2), (3, .int a3)] 144 []) : ∀ (n : Nat) (i14 : Int32) (m15 : Mem), l_X7_dealt_78 a1 a2 a3 n i14 m15 = some o0 → zGo MM K m15 [(0, .ref ((zw K).2.1 0)), (1, .int a1), (2, .int a2), (3, .int a3), (4, .int i14)] 78 [] := by
  intro n
  induction n with
  | zero =>
    intro i14 m15 hf
    cases hf
  | succ n ih =>
    intro i14 m15 hf
    obtain ⟨z, hf, hz⟩ := zlp_el hf
    replace hf : t_X7_dealt_78 a1 a2 a3 i14 m15 = some z := hf
    unfold t_X7_dealt_78 at hf
    refine z_iload C 4 dX7_dealt_78 rfl ?_
    refine z_iload_n C 3 dX7_dealt_80 rfl rfl ?_
    refine z_icmp_gt (tgt := 144) C dX7_dealt_81 (by decide) (fun c33 => ?_) (fun c33 => ?_)
    · replace hf := if_t c33 hf
      cases hf
      replace hz := zlz_r hz
      cases hz
      exact z_sub [0, 2, 3] rfl hk
    · replace hf := if_f c33 hf
      refine z_aload_n C 0 dX7_dealt_84 rfl rfl ?_
      refine z_iload_n C 2 dX7_dealt_85 rfl rfl ?_
      refine z_aload_n C 0 dX7_dealt_86 rfl rfl ?_
      refine z_getr C (t := 4) (Nat.le_of_ble_eq_true rfl) rfl rfl 4 (Nat.le_of_ble_eq_true rfl) rfl kiX7_dealt_X7 kfX7_dealt_20 dX7_dealt_87 ?_
      refine z_iconst C (v := 5) dX7_dealt_90 rfl ?_
      refine z_iload_n C 1 dX7_dealt_91 rfl rfl ?_
      refine z_imul C dX7_dealt_92 ?_
      refine z_iload C 4 dX7_dealt_93 rfl ?_
      refine z_iadd C dX7_dealt_95 ?_
      obtain ⟨hi16, hf⟩ := ck_el hf
      refine z_iald C (k := 4) (Nat.le_of_ble_eq_true rfl) rfl hi16 dX7_dealt_96 ?_
      obtain ⟨r18, hc17, hf⟩ := zb_el hf
      refine z_cVi C (c_X7_isWanted _ _ hc17) rfl gX7_dealt_X7_isWanted rfl rfl zdX7_isWanted rfl (Nat.le_of_ble_eq_true rfl) rfl rfl rfl ⟨Nat.le_of_ble_eq_true rfl, Nat.le_of_ble_eq_true rfl⟩ (Nat.le_of_ble_eq_true rfl) dX7_dealt_97 rfl ?_
      refine z_if_eq (tgt := 138) C dX7_dealt_100 (by decide) (fun c32 => ?_) (fun c32 => ?_)
      · replace hf := if_t c32 hf
        obtain ⟨x19, e_x19⟩ : ∃ y : Int32, y = i14 + 1 := ⟨_, rfl⟩
        replace hf := bn_to e_x19 hf
        refine z_iinc C (lv2 := [(0, .ref ((zw K).2.1 0)), (1, .int a1), (2, .int a2), (3, .int a3), (4, .int x19)]) 4 [1, 2, 3, 4, 0] dX7_dealt_138 rfl rfl (Nat.le_of_ble_eq_true rfl) e_x19 rfl ?_
        refine z_goto (tgt := 78) C dX7_dealt_141 (by decide) ?_
        cases hf
        exact z_sub [0, 1, 2, 3, 4] rfl (ih x19 m15 hz)
      · replace hf := if_f c32 hf
        refine z_aload_n C 0 dX7_dealt_103 rfl rfl ?_
        refine z_getr C (t := 39) (Nat.le_of_ble_eq_true rfl) rfl rfl 50 (Nat.le_of_ble_eq_true rfl) rfl kiX7_dealt_X7 kfX7_dealt_125 dX7_dealt_104 ?_
        refine z_iload C 4 dX7_dealt_107 rfl ?_
        refine z_bipush C (v := 6) dX7_dealt_109 rfl ?_
        refine z_iload_n C 2 dX7_dealt_111 rfl rfl ?_
        refine z_imul C dX7_dealt_112 ?_
        obtain ⟨hi20, hf⟩ := ck_el hf
        refine z_iast C (k := 39) (Nat.le_of_ble_eq_true rfl) rfl hi20 dX7_dealt_113 ?_
        refine z_nm (fun m21 e_m21 => ?_)
        replace hf := bn_to e_m21 hf
        obtain ⟨m30, hg, hf⟩ := zb_el hf
        refine z_sub [0, 1, 2, 3, 4] rfl (w_X7_dealt_114 C  ?_ _ _ hg)
        clear hg
        obtain ⟨x31, e_x31⟩ : ∃ y : Int32, y = i14 + 1 := ⟨_, rfl⟩
        replace hf := bn_to e_x31 hf
        refine z_iinc C (lv2 := [(0, .ref ((zw K).2.1 0)), (1, .int a1), (2, .int a2), (3, .int a3), (4, .int x31)]) 4 [1, 2, 3, 4, 0] dX7_dealt_138 rfl rfl (Nat.le_of_ble_eq_true rfl) e_x31 rfl ?_
        refine z_goto (tgt := 78) C dX7_dealt_141 (by decide) ?_
        cases hf
        exact z_sub [0, 1, 2, 3, 4] rfl (ih x31 m30 hz)
set_option maxRecDepth 100000 in
set_option maxHeartbeats 4000000 in
theorem c_X7_dealt (l : Launch) (w : ZW) {m : Mem} {a1 : Int32} {a2 : Int32} {a3 : Int32} {r9 : Int32} {m9 : Mem}  (hf : s_X7_dealt m a1 a2 a3 = some (r9, m9)) : zCi MM l w yX7_dealt wsX7_dealt rmX7_dealt [.ref (w.2.1 0), .int a1, .int a2, .int a3] m m9 r9 := by
  refine z_met_i MM_ok (own := RX7) (by decide +kernel) rfl rfl (Nat.le_of_ble_eq_true rfl) ?_
  intro K C hKw hKl hret
  subst hKw
  subst hKl
  unfold s_X7_dealt at hf
  show zGo MM K m [(0, .ref ((zw K).2.1 0)), (1, .int a1), (2, .int a2), (3, .int a3)] 0 []
  refine z_aload_n C 0 dX7_dealt_0 rfl rfl ?_
  refine z_iload_n C 1 dX7_dealt_1 rfl rfl ?_
  refine z_iload_n C 2 dX7_dealt_2 rfl rfl ?_
  obtain ⟨r2, hc1, hf⟩ := zb_el hf
  refine z_cVi C (c_X7_areBoth _ _ hc1) rfl gX7_dealt_X7_areBoth rfl rfl zdX7_areBoth rfl (Nat.le_of_ble_eq_true rfl) rfl rfl rfl ⟨Nat.le_of_ble_eq_true rfl, Nat.le_of_ble_eq_true rfl⟩ (Nat.le_of_ble_eq_true rfl) dX7_dealt_3 rfl ?_
  refine z_if_eq (tgt := 27) C dX7_dealt_6 (by decide) (fun c42 => ?_) (fun c42 => ?_)
  · replace hf := if_t c42 hf
    refine z_iconst C (v := (-1)) dX7_dealt_27 (by decide) ?_
    cases hf
    exact hret _ _ dX7_dealt_28
  · replace hf := if_f c42 hf
    refine z_iload_n C 3 dX7_dealt_9 rfl rfl ?_
    refine z_i2l C dX7_dealt_10 ?_
    refine z_lconst C (v := 0) dX7_dealt_11 rfl ?_
    refine z_aload_n C 0 dX7_dealt_12 rfl rfl ?_
    refine z_getr C (t := 3) (Nat.le_of_ble_eq_true rfl) rfl rfl 3 (Nat.le_of_ble_eq_true rfl) rfl kiX7_dealt_X7 kfX7_dealt_17 dX7_dealt_13 ?_
    refine z_iload_n C 1 dX7_dealt_16 rfl rfl ?_
    obtain ⟨hi3, hf⟩ := ck_el hf
    refine z_iald C (k := 3) (Nat.le_of_ble_eq_true rfl) rfl hi3 dX7_dealt_17 ?_
    refine z_iconst C (v := 1) dX7_dealt_18 rfl ?_
    refine z_isub C dX7_dealt_19 ?_
    refine z_i2l C dX7_dealt_20 ?_
    obtain ⟨r5, hc4, hf⟩ := zb_el hf
    refine z_cSi C (c_X7_in _ _ hc4) rfl gX7_dealt_X7_in rfl rfl zdX7_in.2 rfl ⟨Nat.le_of_ble_eq_true rfl, Nat.le_of_ble_eq_true rfl⟩ (Nat.le_of_ble_eq_true rfl) dX7_dealt_21 rfl ?_
    refine z_if_ne (tgt := 29) C dX7_dealt_24 (by decide) (fun c41 => ?_) (fun c41 => ?_)
    · replace hf := if_f c41 hf
      refine z_aload_n C 0 dX7_dealt_29 rfl rfl ?_
      obtain ⟨m7, hc6, hf⟩ := zb_el hf
      refine z_cVv C (c_X7_read _ _ hc6) rfl gX7_dealt_X7_read rfl rfl zdX7_read rfl (Nat.le_of_ble_eq_true rfl) rfl rfl rfl ⟨Nat.le_of_ble_eq_true rfl, Nat.le_of_ble_eq_true rfl⟩ (Nat.le_of_ble_eq_true rfl) dX7_dealt_30 rfl ?_
      refine z_aload_n C 0 dX7_dealt_33 rfl rfl ?_
      refine z_getr C (t := 37) (Nat.le_of_ble_eq_true rfl) rfl rfl 48 (Nat.le_of_ble_eq_true rfl) rfl kiX7_dealt_X7 kfX7_dealt_119 dX7_dealt_34 ?_
      refine z_bipush C (v := 10) dX7_dealt_37 rfl ?_
      refine z_iload_n C 2 dX7_dealt_39 rfl rfl ?_
      refine z_imul C dX7_dealt_40 ?_
      refine z_iload_n C 1 dX7_dealt_41 rfl rfl ?_
      refine z_iadd C dX7_dealt_42 ?_
      obtain ⟨hi8, hf⟩ := ck_el hf
      refine z_zald C (k := 37) (Nat.le_of_ble_eq_true rfl) rfl hi8 dX7_dealt_43 ?_
      refine z_if_ne (tgt := 50) C dX7_dealt_44 (by decide) (fun c40 => ?_) (fun c40 => ?_)
      · replace hf := if_f c40 hf
        refine z_aload_n C 0 dX7_dealt_50 rfl rfl ?_
        refine z_iload_n C 2 dX7_dealt_51 rfl rfl ?_
        refine z_aload_n C 0 dX7_dealt_52 rfl rfl ?_
        refine z_getr C (t := 4) (Nat.le_of_ble_eq_true rfl) rfl rfl 4 (Nat.le_of_ble_eq_true rfl) rfl kiX7_dealt_X7 kfX7_dealt_20 dX7_dealt_53 ?_
        refine z_iconst C (v := 5) dX7_dealt_56 rfl ?_
        refine z_iload_n C 1 dX7_dealt_57 rfl rfl ?_
        refine z_imul C dX7_dealt_58 ?_
        refine z_iload_n C 3 dX7_dealt_59 rfl rfl ?_
        refine z_iadd C dX7_dealt_60 ?_
        obtain ⟨hi9, hf⟩ := ck_el hf
        refine z_iald C (k := 4) (Nat.le_of_ble_eq_true rfl) rfl hi9 dX7_dealt_61 ?_
        obtain ⟨r11, hc10, hf⟩ := zb_el hf
        refine z_cVi C (c_X7_isWanted _ _ hc10) rfl gX7_dealt_X7_isWanted rfl rfl zdX7_isWanted rfl (Nat.le_of_ble_eq_true rfl) rfl rfl rfl ⟨Nat.le_of_ble_eq_true rfl, Nat.le_of_ble_eq_true rfl⟩ (Nat.le_of_ble_eq_true rfl) dX7_dealt_62 rfl ?_
        refine z_if_ne (tgt := 71) C dX7_dealt_65 (by decide) (fun c39 => ?_) (fun c39 => ?_)
        · replace hf := if_f c39 hf
          refine z_aload_n C 0 dX7_dealt_71 rfl rfl ?_
          obtain ⟨m13, hc12, hf⟩ := zb_el hf
          refine z_cVv C (c_X7_free _ _ hc12) rfl gX7_dealt_X7_free rfl rfl zdX7_free rfl (Nat.le_of_ble_eq_true rfl) rfl rfl rfl ⟨Nat.le_of_ble_eq_true rfl, Nat.le_of_ble_eq_true rfl⟩ (Nat.le_of_ble_eq_true rfl) dX7_dealt_72 rfl ?_
          refine z_iconst C (v := 0) dX7_dealt_75 rfl ?_
          refine z_istore C (lv2 := [(0, .ref ((zw K).2.1 0)), (1, .int a1), (2, .int a2), (3, .int a3), (4, .int 0)]) [1, 2, 3, 4, 0] dX7_dealt_76 (Nat.le_of_ble_eq_true rfl) rfl ?_
          obtain ⟨m34, hg, hf⟩ := zb_el hf
          refine z_sub [0, 1, 2, 3, 4] rfl (w_X7_dealt_78 C  ?_ _ _ _ hg)
          clear hg
          refine z_aload_n C 0 dX7_dealt_144 rfl rfl ?_
          refine z_getr C (t := 39) (Nat.le_of_ble_eq_true rfl) rfl rfl 50 (Nat.le_of_ble_eq_true rfl) rfl kiX7_dealt_X7 kfX7_dealt_125 dX7_dealt_145 ?_
          refine z_iload_n C 2 dX7_dealt_148 rfl rfl ?_
          obtain ⟨hi35, hf⟩ := ck_el hf
          refine z_iald C (k := 39) (Nat.le_of_ble_eq_true rfl) rfl hi35 dX7_dealt_149 ?_
          refine z_bipush C (v := 6) dX7_dealt_150 rfl ?_
          refine z_iload_n C 1 dX7_dealt_152 rfl rfl ?_
          refine z_imul C dX7_dealt_153 ?_
          refine z_isub C dX7_dealt_154 ?_
          refine z_topi (fun x36 e_x36 => ?_)
          replace hf := bn_to e_x36 hf
          refine z_istore C (lv2 := [(0, .ref ((zw K).2.1 0)), (2, .int a2), (3, .int a3), (4, .int x36)]) [1, 2, 3, 0] dX7_dealt_155 (Nat.le_of_ble_eq_true rfl) rfl ?_
          refine z_aload_n C 0 dX7_dealt_157 rfl rfl ?_
          obtain ⟨m38, hc37, hf⟩ := zb_el hf
          refine z_cVv C (c_X7_free _ _ hc37) rfl gX7_dealt_X7_free rfl rfl zdX7_free rfl (Nat.le_of_ble_eq_true rfl) rfl rfl rfl ⟨Nat.le_of_ble_eq_true rfl, Nat.le_of_ble_eq_true rfl⟩ (Nat.le_of_ble_eq_true rfl) dX7_dealt_158 rfl ?_
          refine z_iload C 3 dX7_dealt_161 rfl ?_
          cases hf
          exact hret _ _ dX7_dealt_163
        · replace hf := if_t c39 hf
          refine z_bipush C (v := (-4)) dX7_dealt_68 (by decide) ?_
          cases hf
          exact hret _ _ dX7_dealt_70
      · replace hf := if_t c40 hf
        refine z_bipush C (v := (-2)) dX7_dealt_47 (by decide) ?_
        cases hf
        exact hret _ _ dX7_dealt_49
    · replace hf := if_t c41 hf
      refine z_iconst C (v := (-1)) dX7_dealt_27 (by decide) ?_
      cases hf
      exact hret _ _ dX7_dealt_28
def rmX7_findLeads : Room := { frames := 0, cells := 0, slots := 0, locals := 0 }
theorem zdX7_findLeads : yX7_findLeads.cls = RX7 ∧ yX7_findLeads.cls ≠ "java/lang/invoke/MethodHandle" ∧ yX7_findLeads.cls ≠ "java/lang/invoke/VarHandle" ∧ (parseMethodDescriptor yX7_findLeads.desc).map (fun d => d.parameters.length) = some 1 := by decide +kernel
theorem kiX7_findLeads_X7 : ∀ w ∈ wsX70, w ∈ wsX7_findLeads := by decide +kernel
theorem kfX7_findLeads_116 : Cond.fieldLink RX7 116 "ShapeJudgeModel" "leads" "[Z" ∈ wsX7_findLeads := by decide +kernel
theorem kfX7_findLeads_41 : Cond.fieldLink RX7 41 "ShapeJudgeModel" "pFirst" "[I" ∈ wsX7_findLeads := by decide +kernel
theorem kfX7_findLeads_80 : Cond.fieldLink RX7 80 "ShapeJudgeModel" "dFirst" "[I" ∈ wsX7_findLeads := by decide +kernel
theorem kfX7_findLeads_38 : Cond.fieldLink RX7 38 "ShapeJudgeModel" "pTest" "[I" ∈ wsX7_findLeads := by decide +kernel
theorem kfX7_findLeads_77 : Cond.fieldLink RX7 77 "ShapeJudgeModel" "dTest" "[I" ∈ wsX7_findLeads := by decide +kernel
theorem kfX7_findLeads_32 : Cond.fieldLink RX7 32 "ShapeJudgeModel" "parts" "[I" ∈ wsX7_findLeads := by decide +kernel
theorem kfX7_findLeads_71 : Cond.fieldLink RX7 71 "ShapeJudgeModel" "dParts" "[I" ∈ wsX7_findLeads := by decide +kernel
theorem kfX7_findLeads_258 : Cond.fieldLink RX7 258 "ShapeJudgeModel" "shapes" "I" ∈ wsX7_findLeads := by decide +kernel
theorem kfX7_findLeads_234 : Cond.fieldLink RX7 234 "ShapeJudgeModel" "dShapes" "I" ∈ wsX7_findLeads := by decide +kernel
def t_X7_findLeads_18  (i2 : Int32) (m3 : Mem) : Option ((Int32 × Mem) ⊕ (Mem)) :=
  (if 36 ≤ i2 then (some (.inr m3)) else (ck (zin i2 36 = true) (bn (sto m3 36 (Int32.toNatClampNeg i2) (vp_nar .boolean 0)) fun m5 => bn (i2 + 1) fun x6 => some (.inl (x6, m5)))))
def l_X7_findLeads_18  (n : Nat) (i2 : Int32) (m3 : Mem) : Option (Mem) := zlp n (fun a => t_X7_findLeads_18  a.1 a.2) (i2, m3)
def t_X7_findLeads_47 (a1 : Int32) (i9 : Int32) (i11 : Int32) (m12 : Mem) : Option ((Int32 × Mem) ⊕ (Mem)) :=
  (((if a1 = 0 then (ck (zin i9 6 = true) (some (m12 8 (Int32.toNatClampNeg i9)))) else (ck (zin i9 6 = true) (some (m12 21 (Int32.toNatClampNeg i9))))) : Option (Int32)).bind fun y13 => (if y13 ≤ i11 then (some (.inr m12)) else (bn (((6 : Int32) * i9) + i11) fun x14 => (((if a1 = 0 then (ck (zin x14 36 = true) (some (m12 10 (Int32.toNatClampNeg x14)))) else (ck (zin x14 36 = true) (some (m12 23 (Int32.toNatClampNeg x14))))) : Option (Int32)).bind fun y15 => (if y15 = 1 then ((if a1 = 0 then (ck (zin x14 36 = true) (ck (zin (((6 : Int32) * i9) + (m12 11 (Int32.toNatClampNeg x14))) 36 = true) (bn (sto m12 36 (Int32.toNatClampNeg (((6 : Int32) * i9) + (m12 11 (Int32.toNatClampNeg x14)))) (vp_nar .boolean 1)) fun m18 => bn (i11 + 1) fun x19 => some (.inl (x19, m18))))) else (ck (zin x14 36 = true) (ck (zin (((6 : Int32) * i9) + (m12 24 (Int32.toNatClampNeg x14))) 36 = true) (bn (sto m12 36 (Int32.toNatClampNeg (((6 : Int32) * i9) + (m12 24 (Int32.toNatClampNeg x14)))) (vp_nar .boolean 1)) fun m22 => bn (i11 + 1) fun x23 => some (.inl (x23, m22))))))) else ((if y15 = 2 then ((if a1 = 0 then (ck (zin x14 36 = true) (ck (zin (((6 : Int32) * i9) + (m12 11 (Int32.toNatClampNeg x14))) 36 = true) (bn (sto m12 36 (Int32.toNatClampNeg (((6 : Int32) * i9) + (m12 11 (Int32.toNatClampNeg x14)))) (vp_nar .boolean 1)) fun m28 => bn (i11 + 1) fun x29 => some (.inl (x29, m28))))) else (ck (zin x14 36 = true) (ck (zin (((6 : Int32) * i9) + (m12 24 (Int32.toNatClampNeg x14))) 36 = true) (bn (sto m12 36 (Int32.toNatClampNeg (((6 : Int32) * i9) + (m12 24 (Int32.toNatClampNeg x14)))) (vp_nar .boolean 1)) fun m32 => bn (i11 + 1) fun x33 => some (.inl (x33, m32))))))) else (bn (i11 + 1) fun x25 => some (.inl (x25, m12))))))))))
def l_X7_findLeads_47 (a1 : Int32) (i9 : Int32) (n : Nat) (i11 : Int32) (m12 : Mem) : Option (Mem) := zlp n (fun a => t_X7_findLeads_47 a1 i9 a.1 a.2) (i11, m12)
def t_X7_findLeads_39 (a1 : Int32) (y1 : Int32) (i9 : Int32) (m10 : Mem) : Option ((Int32 × Mem) ⊕ (Mem)) :=
  (if y1 ≤ i9 then (some (.inr m10)) else (((l_X7_findLeads_47 a1 i9 FU 0 m10).bind fun m44 => bn (i9 + 1) fun x45 => some (.inl (x45, m44)))))
def l_X7_findLeads_39 (a1 : Int32) (y1 : Int32) (n : Nat) (i9 : Int32) (m10 : Mem) : Option (Mem) := zlp n (fun a => t_X7_findLeads_39 a1 y1 a.1 a.2) (i9, m10)
def t_X7_findLeads_178 (y1 : Int32) (i48 : Int32) (i50 : Int32) (i52 : Int32) (m53 : Mem) : Option ((Int32 × Mem) ⊕ (Mem)) :=
  (if y1 ≤ i52 then (some (.inr m53)) else (ck (zin (((6 : Int32) * i50) + i52) 36 = true) ((if (m53 36 (Int32.toNatClampNeg (((6 : Int32) * i50) + i52))) = 0 then (ck (zin (((6 : Int32) * i50) + i48) 36 = true) ((if (m53 36 (Int32.toNatClampNeg (((6 : Int32) * i50) + i48))) = 0 then (ck (zin (((6 : Int32) * i50) + i52) 36 = true) (bn (sto m53 36 (Int32.toNatClampNeg (((6 : Int32) * i50) + i52)) (vp_nar .boolean 0)) fun m60 => bn (i52 + 1) fun x61 => some (.inl (x61, m60)))) else (ck (zin (((6 : Int32) * i48) + i52) 36 = true) ((if (m53 36 (Int32.toNatClampNeg (((6 : Int32) * i48) + i52))) = 0 then (ck (zin (((6 : Int32) * i50) + i52) 36 = true) (bn (sto m53 36 (Int32.toNatClampNeg (((6 : Int32) * i50) + i52)) (vp_nar .boolean 0)) fun m64 => bn (i52 + 1) fun x65 => some (.inl (x65, m64)))) else (ck (zin (((6 : Int32) * i50) + i52) 36 = true) (bn (sto m53 36 (Int32.toNatClampNeg (((6 : Int32) * i50) + i52)) (vp_nar .boolean 1)) fun m67 => bn (i52 + 1) fun x68 => some (.inl (x68, m67)))))))))) else (ck (zin (((6 : Int32) * i50) + i52) 36 = true) (bn (sto m53 36 (Int32.toNatClampNeg (((6 : Int32) * i50) + i52)) (vp_nar .boolean 1)) fun m56 => bn (i52 + 1) fun x57 => some (.inl (x57, m56))))))))
def l_X7_findLeads_178 (y1 : Int32) (i48 : Int32) (i50 : Int32) (n : Nat) (i52 : Int32) (m53 : Mem) : Option (Mem) := zlp n (fun a => t_X7_findLeads_178 y1 i48 i50 a.1 a.2) (i52, m53)
def t_X7_findLeads_169 (y1 : Int32) (i48 : Int32) (i50 : Int32) (m51 : Mem) : Option ((Int32 × Mem) ⊕ (Mem)) :=
  (if y1 ≤ i50 then (some (.inr m51)) else (((l_X7_findLeads_178 y1 i48 i50 FU 0 m51).bind fun m73 => bn (i50 + 1) fun x74 => some (.inl (x74, m73)))))
def l_X7_findLeads_169 (y1 : Int32) (i48 : Int32) (n : Nat) (i50 : Int32) (m51 : Mem) : Option (Mem) := zlp n (fun a => t_X7_findLeads_169 y1 i48 a.1 a.2) (i50, m51)
def t_X7_findLeads_161 (y1 : Int32) (i48 : Int32) (m49 : Mem) : Option ((Int32 × Mem) ⊕ (Mem)) :=
  (if y1 ≤ i48 then (some (.inr m49)) else (((l_X7_findLeads_169 y1 i48 FU 0 m49).bind fun m76 => bn (i48 + 1) fun x77 => some (.inl (x77, m76)))))
def l_X7_findLeads_161 (y1 : Int32) (n : Nat) (i48 : Int32) (m49 : Mem) : Option (Mem) := zlp n (fun a => t_X7_findLeads_161 y1 a.1 a.2) (i48, m49)
def s_X7_findLeads (m : Mem) (a1 : Int32) : Option (Mem) :=
  (((if a1 = 0 then (some (m 0 7)) else (some (m 0 21))) : Option (Int32)).bind fun y1 => ((l_X7_findLeads_18  FU 0 m).bind fun m8 => ((l_X7_findLeads_39 a1 y1 FU 0 m8).bind fun m47 => ((l_X7_findLeads_161 y1 FU 0 m47).bind fun m79 => some m79))))
set_option maxRecDepth 100000 in
set_option maxHeartbeats 4000000 in
theorem w_X7_findLeads_18 {K : ZK} (C : zOK MM K cX7_findLeads 7 none RX7 wsX7_findLeads rmX7_findLeads) {a1 : Int32} {y1 : Int32}  {o0 : Mem} (hk : zGo MM K o0 [(0, .ref ((zw K).2.1 0)), (1, .int a1), (2, .int y1)] 37 []) : ∀ (n : Nat) (i2 : Int32) (m3 : Mem), l_X7_findLeads_18  n i2 m3 = some o0 → zGo MM K m3 [(0, .ref ((zw K).2.1 0)), (1, .int a1), (2, .int y1), (3, .int i2)] 18 [] := by
  intro n
  induction n with
  | zero =>
    intro i2 m3 hf
    cases hf
  | succ n ih =>
    intro i2 m3 hf
    obtain ⟨z, hf, hz⟩ := zlp_el hf
    replace hf : t_X7_findLeads_18  i2 m3 = some z := hf
    unfold t_X7_findLeads_18 at hf
    refine z_iload_n C 3 dX7_findLeads_18 rfl rfl ?_
    refine z_bipush C (v := 36) dX7_findLeads_19 rfl ?_
    refine z_icmp_ge (tgt := 37) C dX7_findLeads_21 (by decide) (fun c7 => ?_) (fun c7 => ?_)
    · replace hf := if_t c7 hf
      cases hf
      replace hz := zlz_r hz
      cases hz
      exact z_sub [0, 1, 2] rfl hk
    · replace hf := if_f c7 hf
      refine z_aload_n C 0 dX7_findLeads_24 rfl rfl ?_
      refine z_getr C (t := 36) (Nat.le_of_ble_eq_true rfl) rfl rfl 47 (Nat.le_of_ble_eq_true rfl) rfl kiX7_findLeads_X7 kfX7_findLeads_116 dX7_findLeads_25 ?_
      refine z_iload_n C 3 dX7_findLeads_28 rfl rfl ?_
      refine z_iconst C (v := 0) dX7_findLeads_29 rfl ?_
      obtain ⟨hi4, hf⟩ := ck_el hf
      refine z_zast C (k := 36) (Nat.le_of_ble_eq_true rfl) rfl hi4 dX7_findLeads_30 ?_
      refine z_nm (fun m5 e_m5 => ?_)
      replace hf := bn_to e_m5 hf
      obtain ⟨x6, e_x6⟩ : ∃ y : Int32, y = i2 + 1 := ⟨_, rfl⟩
      replace hf := bn_to e_x6 hf
      refine z_iinc C (lv2 := [(0, .ref ((zw K).2.1 0)), (1, .int a1), (2, .int y1), (3, .int x6)]) 3 [1, 2, 3, 0] dX7_findLeads_31 rfl rfl (Nat.le_of_ble_eq_true rfl) e_x6 rfl ?_
      refine z_goto (tgt := 18) C dX7_findLeads_34 (by decide) ?_
      cases hf
      exact z_sub [0, 1, 2, 3] rfl (ih x6 m5 hz)
set_option maxRecDepth 100000 in
set_option maxHeartbeats 4000000 in
theorem w_X7_findLeads_47 {K : ZK} (C : zOK MM K cX7_findLeads 7 none RX7 wsX7_findLeads rmX7_findLeads) {a1 : Int32} {y1 : Int32} {i9 : Int32}  {o0 : Mem} (hk : zGo MM K o0 [(0, .ref ((zw K).2.1 0)), (1, .int a1), (2, .int y1), (3, .int i9)] 153 []) : ∀ (n : Nat) (i11 : Int32) (m12 : Mem), l_X7_findLeads_47 a1 i9 n i11 m12 = some o0 → zGo MM K m12 [(0, .ref ((zw K).2.1 0)), (1, .int a1), (2, .int y1), (3, .int i9), (4, .int i11)] 47 [] := by
  intro n
  induction n with
  | zero =>
    intro i11 m12 hf
    cases hf
  | succ n ih =>
    intro i11 m12 hf
    obtain ⟨z, hf, hz⟩ := zlp_el hf
    replace hf : t_X7_findLeads_47 a1 i9 i11 m12 = some z := hf
    unfold t_X7_findLeads_47 at hf
    refine z_iload C 4 dX7_findLeads_47 rfl ?_
    refine z_iload_n C 1 dX7_findLeads_49 rfl rfl ?_
    obtain ⟨y13, hg, hf⟩ := zb_el hf
    have hj : zGo MM K m12 [(0, .ref ((zw K).2.1 0)), (1, .int a1), (2, .int y1), (3, .int i9), (4, .int i11)] 68 [.int y13, .int i11] := by
      refine z_icmp_ge (tgt := 153) C dX7_findLeads_68 (by decide) (fun c40 => ?_) (fun c40 => ?_)
      · replace hf := if_t c40 hf
        cases hf
        replace hz := zlz_r hz
        cases hz
        exact z_sub [0, 1, 2, 3] rfl hk
      · replace hf := if_f c40 hf
        refine z_bipush C (v := 6) dX7_findLeads_71 rfl ?_
        refine z_iload_n C 3 dX7_findLeads_73 rfl rfl ?_
        refine z_imul C dX7_findLeads_74 ?_
        refine z_iload C 4 dX7_findLeads_75 rfl ?_
        refine z_iadd C dX7_findLeads_77 ?_
        refine z_topi (fun x14 e_x14 => ?_)
        replace hf := bn_to e_x14 hf
        refine z_istore C (lv2 := [(0, .ref ((zw K).2.1 0)), (1, .int a1), (2, .int y1), (3, .int i9), (4, .int i11), (5, .int x14)]) [1, 2, 3, 4, 5, 0] dX7_findLeads_78 (Nat.le_of_ble_eq_true rfl) rfl ?_
        refine z_iload_n C 1 dX7_findLeads_80 rfl rfl ?_
        obtain ⟨y15, hg, hf⟩ := zb_el hf
        have hj : zGo MM K m12 [(0, .ref ((zw K).2.1 0)), (1, .int a1), (2, .int y1), (3, .int i9), (4, .int i11), (5, .int x14)] 101 [.int y15] := by
          refine z_istore C (lv2 := [(0, .ref ((zw K).2.1 0)), (1, .int a1), (2, .int y1), (3, .int i9), (4, .int i11), (5, .int x14), (6, .int y15)]) [1, 2, 3, 4, 5, 6, 0] dX7_findLeads_101 (Nat.le_of_ble_eq_true rfl) rfl ?_
          refine z_iload C 6 dX7_findLeads_103 rfl ?_
          refine z_iconst C (v := 1) dX7_findLeads_105 rfl ?_
          refine z_icmp_eq (tgt := 115) C dX7_findLeads_106 (by decide) (fun c36 => ?_) (fun c36 => ?_)
          · replace hf := if_t c36 hf
            refine z_aload_n C 0 dX7_findLeads_115 rfl rfl ?_
            refine z_getr C (t := 36) (Nat.le_of_ble_eq_true rfl) rfl rfl 47 (Nat.le_of_ble_eq_true rfl) rfl kiX7_findLeads_X7 kfX7_findLeads_116 dX7_findLeads_116 ?_
            refine z_bipush C (v := 6) dX7_findLeads_119 rfl ?_
            refine z_iload_n C 3 dX7_findLeads_121 rfl rfl ?_
            refine z_imul C dX7_findLeads_122 ?_
            refine z_iload_n C 1 dX7_findLeads_123 rfl rfl ?_
            refine z_if_eq (tgt := 137) C dX7_findLeads_124 (by decide) (fun c24 => ?_) (fun c24 => ?_)
            · replace hf := if_t c24 hf
              refine z_aload_n C 0 dX7_findLeads_137 rfl rfl ?_
              refine z_getr C (t := 11) (Nat.le_of_ble_eq_true rfl) rfl rfl 13 (Nat.le_of_ble_eq_true rfl) rfl kiX7_findLeads_X7 kfX7_findLeads_41 dX7_findLeads_138 ?_
              refine z_iload C 5 dX7_findLeads_141 rfl ?_
              obtain ⟨hi16, hf⟩ := ck_el hf
              refine z_iald C (k := 11) (Nat.le_of_ble_eq_true rfl) rfl hi16 dX7_findLeads_143 ?_
              refine z_iadd C dX7_findLeads_144 ?_
              refine z_iconst C (v := 1) dX7_findLeads_145 rfl ?_
              obtain ⟨hi17, hf⟩ := ck_el hf
              refine z_zast C (k := 36) (Nat.le_of_ble_eq_true rfl) rfl hi17 dX7_findLeads_146 ?_
              refine z_nm (fun m18 e_m18 => ?_)
              replace hf := bn_to e_m18 hf
              obtain ⟨x19, e_x19⟩ : ∃ y : Int32, y = i11 + 1 := ⟨_, rfl⟩
              replace hf := bn_to e_x19 hf
              refine z_iinc C (lv2 := [(0, .ref ((zw K).2.1 0)), (1, .int a1), (2, .int y1), (3, .int i9), (4, .int x19), (5, .int x14), (6, .int y15)]) 4 [1, 2, 3, 4, 0, 5, 6] dX7_findLeads_147 rfl rfl (Nat.le_of_ble_eq_true rfl) e_x19 rfl ?_
              refine z_goto (tgt := 47) C dX7_findLeads_150 (by decide) ?_
              cases hf
              exact z_sub [0, 1, 2, 3, 4] rfl (ih x19 m18 hz)
            · replace hf := if_f c24 hf
              refine z_aload_n C 0 dX7_findLeads_127 rfl rfl ?_
              refine z_getr C (t := 24) (Nat.le_of_ble_eq_true rfl) rfl rfl 27 (Nat.le_of_ble_eq_true rfl) rfl kiX7_findLeads_X7 kfX7_findLeads_80 dX7_findLeads_128 ?_
              refine z_iload C 5 dX7_findLeads_131 rfl ?_
              obtain ⟨hi20, hf⟩ := ck_el hf
              refine z_iald C (k := 24) (Nat.le_of_ble_eq_true rfl) rfl hi20 dX7_findLeads_133 ?_
              refine z_goto (tgt := 144) C dX7_findLeads_134 (by decide) ?_
              refine z_iadd C dX7_findLeads_144 ?_
              refine z_iconst C (v := 1) dX7_findLeads_145 rfl ?_
              obtain ⟨hi21, hf⟩ := ck_el hf
              refine z_zast C (k := 36) (Nat.le_of_ble_eq_true rfl) rfl hi21 dX7_findLeads_146 ?_
              refine z_nm (fun m22 e_m22 => ?_)
              replace hf := bn_to e_m22 hf
              obtain ⟨x23, e_x23⟩ : ∃ y : Int32, y = i11 + 1 := ⟨_, rfl⟩
              replace hf := bn_to e_x23 hf
              refine z_iinc C (lv2 := [(0, .ref ((zw K).2.1 0)), (1, .int a1), (2, .int y1), (3, .int i9), (4, .int x23), (5, .int x14), (6, .int y15)]) 4 [1, 2, 3, 4, 0, 5, 6] dX7_findLeads_147 rfl rfl (Nat.le_of_ble_eq_true rfl) e_x23 rfl ?_
              refine z_goto (tgt := 47) C dX7_findLeads_150 (by decide) ?_
              cases hf
              exact z_sub [0, 1, 2, 3, 4] rfl (ih x23 m22 hz)
          · replace hf := if_f c36 hf
            refine z_iload C 6 dX7_findLeads_109 rfl ?_
            refine z_iconst C (v := 2) dX7_findLeads_111 rfl ?_
            refine z_icmp_ne (tgt := 147) C dX7_findLeads_112 (by decide) (fun c35 => ?_) (fun c35 => ?_)
            · replace hf := if_f c35 hf
              obtain ⟨x25, e_x25⟩ : ∃ y : Int32, y = i11 + 1 := ⟨_, rfl⟩
              replace hf := bn_to e_x25 hf
              refine z_iinc C (lv2 := [(0, .ref ((zw K).2.1 0)), (1, .int a1), (2, .int y1), (3, .int i9), (4, .int x25), (5, .int x14), (6, .int y15)]) 4 [1, 2, 3, 4, 0, 5, 6] dX7_findLeads_147 rfl rfl (Nat.le_of_ble_eq_true rfl) e_x25 rfl ?_
              refine z_goto (tgt := 47) C dX7_findLeads_150 (by decide) ?_
              cases hf
              exact z_sub [0, 1, 2, 3, 4] rfl (ih x25 m12 hz)
            · replace hf := if_t c35 hf
              refine z_aload_n C 0 dX7_findLeads_115 rfl rfl ?_
              refine z_getr C (t := 36) (Nat.le_of_ble_eq_true rfl) rfl rfl 47 (Nat.le_of_ble_eq_true rfl) rfl kiX7_findLeads_X7 kfX7_findLeads_116 dX7_findLeads_116 ?_
              refine z_bipush C (v := 6) dX7_findLeads_119 rfl ?_
              refine z_iload_n C 3 dX7_findLeads_121 rfl rfl ?_
              refine z_imul C dX7_findLeads_122 ?_
              refine z_iload_n C 1 dX7_findLeads_123 rfl rfl ?_
              refine z_if_eq (tgt := 137) C dX7_findLeads_124 (by decide) (fun c34 => ?_) (fun c34 => ?_)
              · replace hf := if_t c34 hf
                refine z_aload_n C 0 dX7_findLeads_137 rfl rfl ?_
                refine z_getr C (t := 11) (Nat.le_of_ble_eq_true rfl) rfl rfl 13 (Nat.le_of_ble_eq_true rfl) rfl kiX7_findLeads_X7 kfX7_findLeads_41 dX7_findLeads_138 ?_
                refine z_iload C 5 dX7_findLeads_141 rfl ?_
                obtain ⟨hi26, hf⟩ := ck_el hf
                refine z_iald C (k := 11) (Nat.le_of_ble_eq_true rfl) rfl hi26 dX7_findLeads_143 ?_
                refine z_iadd C dX7_findLeads_144 ?_
                refine z_iconst C (v := 1) dX7_findLeads_145 rfl ?_
                obtain ⟨hi27, hf⟩ := ck_el hf
                refine z_zast C (k := 36) (Nat.le_of_ble_eq_true rfl) rfl hi27 dX7_findLeads_146 ?_
                refine z_nm (fun m28 e_m28 => ?_)
                replace hf := bn_to e_m28 hf
                obtain ⟨x29, e_x29⟩ : ∃ y : Int32, y = i11 + 1 := ⟨_, rfl⟩
                replace hf := bn_to e_x29 hf
                refine z_iinc C (lv2 := [(0, .ref ((zw K).2.1 0)), (1, .int a1), (2, .int y1), (3, .int i9), (4, .int x29), (5, .int x14), (6, .int y15)]) 4 [1, 2, 3, 4, 0, 5, 6] dX7_findLeads_147 rfl rfl (Nat.le_of_ble_eq_true rfl) e_x29 rfl ?_
                refine z_goto (tgt := 47) C dX7_findLeads_150 (by decide) ?_
                cases hf
                exact z_sub [0, 1, 2, 3, 4] rfl (ih x29 m28 hz)
              · replace hf := if_f c34 hf
                refine z_aload_n C 0 dX7_findLeads_127 rfl rfl ?_
                refine z_getr C (t := 24) (Nat.le_of_ble_eq_true rfl) rfl rfl 27 (Nat.le_of_ble_eq_true rfl) rfl kiX7_findLeads_X7 kfX7_findLeads_80 dX7_findLeads_128 ?_
                refine z_iload C 5 dX7_findLeads_131 rfl ?_
                obtain ⟨hi30, hf⟩ := ck_el hf
                refine z_iald C (k := 24) (Nat.le_of_ble_eq_true rfl) rfl hi30 dX7_findLeads_133 ?_
                refine z_goto (tgt := 144) C dX7_findLeads_134 (by decide) ?_
                refine z_iadd C dX7_findLeads_144 ?_
                refine z_iconst C (v := 1) dX7_findLeads_145 rfl ?_
                obtain ⟨hi31, hf⟩ := ck_el hf
                refine z_zast C (k := 36) (Nat.le_of_ble_eq_true rfl) rfl hi31 dX7_findLeads_146 ?_
                refine z_nm (fun m32 e_m32 => ?_)
                replace hf := bn_to e_m32 hf
                obtain ⟨x33, e_x33⟩ : ∃ y : Int32, y = i11 + 1 := ⟨_, rfl⟩
                replace hf := bn_to e_x33 hf
                refine z_iinc C (lv2 := [(0, .ref ((zw K).2.1 0)), (1, .int a1), (2, .int y1), (3, .int i9), (4, .int x33), (5, .int x14), (6, .int y15)]) 4 [1, 2, 3, 4, 0, 5, 6] dX7_findLeads_147 rfl rfl (Nat.le_of_ble_eq_true rfl) e_x33 rfl ?_
                refine z_goto (tgt := 47) C dX7_findLeads_150 (by decide) ?_
                cases hf
                exact z_sub [0, 1, 2, 3, 4] rfl (ih x33 m32 hz)
        replace hf := hg
        clear hg
        refine z_if_eq (tgt := 94) C dX7_findLeads_81 (by decide) (fun c39 => ?_) (fun c39 => ?_)
        · replace hf := if_t c39 hf
          refine z_aload_n C 0 dX7_findLeads_94 rfl rfl ?_
          refine z_getr C (t := 10) (Nat.le_of_ble_eq_true rfl) rfl rfl 12 (Nat.le_of_ble_eq_true rfl) rfl kiX7_findLeads_X7 kfX7_findLeads_38 dX7_findLeads_95 ?_
          refine z_iload C 5 dX7_findLeads_98 rfl ?_
          obtain ⟨hi37, hf⟩ := ck_el hf
          refine z_iald C (k := 10) (Nat.le_of_ble_eq_true rfl) rfl hi37 dX7_findLeads_100 ?_
          cases hf
          exact z_sub [0, 1, 2, 3, 4, 5] rfl hj
        · replace hf := if_f c39 hf
          refine z_aload_n C 0 dX7_findLeads_84 rfl rfl ?_
          refine z_getr C (t := 23) (Nat.le_of_ble_eq_true rfl) rfl rfl 26 (Nat.le_of_ble_eq_true rfl) rfl kiX7_findLeads_X7 kfX7_findLeads_77 dX7_findLeads_85 ?_
          refine z_iload C 5 dX7_findLeads_88 rfl ?_
          obtain ⟨hi38, hf⟩ := ck_el hf
          refine z_iald C (k := 23) (Nat.le_of_ble_eq_true rfl) rfl hi38 dX7_findLeads_90 ?_
          refine z_goto (tgt := 101) C dX7_findLeads_91 (by decide) ?_
          cases hf
          exact z_sub [0, 1, 2, 3, 4, 5] rfl hj
    replace hf := hg
    clear hg
    refine z_if_eq (tgt := 62) C dX7_findLeads_50 (by decide) (fun c43 => ?_) (fun c43 => ?_)
    · replace hf := if_t c43 hf
      refine z_aload_n C 0 dX7_findLeads_62 rfl rfl ?_
      refine z_getr C (t := 8) (Nat.le_of_ble_eq_true rfl) rfl rfl 10 (Nat.le_of_ble_eq_true rfl) rfl kiX7_findLeads_X7 kfX7_findLeads_32 dX7_findLeads_63 ?_
      refine z_iload_n C 3 dX7_findLeads_66 rfl rfl ?_
      obtain ⟨hi41, hf⟩ := ck_el hf
      refine z_iald C (k := 8) (Nat.le_of_ble_eq_true rfl) rfl hi41 dX7_findLeads_67 ?_
      cases hf
      exact z_sub [0, 1, 2, 3, 4] rfl hj
    · replace hf := if_f c43 hf
      refine z_aload_n C 0 dX7_findLeads_53 rfl rfl ?_
      refine z_getr C (t := 21) (Nat.le_of_ble_eq_true rfl) rfl rfl 24 (Nat.le_of_ble_eq_true rfl) rfl kiX7_findLeads_X7 kfX7_findLeads_71 dX7_findLeads_54 ?_
      refine z_iload_n C 3 dX7_findLeads_57 rfl rfl ?_
      obtain ⟨hi42, hf⟩ := ck_el hf
      refine z_iald C (k := 21) (Nat.le_of_ble_eq_true rfl) rfl hi42 dX7_findLeads_58 ?_
      refine z_goto (tgt := 68) C dX7_findLeads_59 (by decide) ?_
      cases hf
      exact z_sub [0, 1, 2, 3, 4] rfl hj
set_option maxRecDepth 100000 in
set_option maxHeartbeats 4000000 in
theorem w_X7_findLeads_39 {K : ZK} (C : zOK MM K cX7_findLeads 7 none RX7 wsX7_findLeads rmX7_findLeads) {a1 : Int32} {y1 : Int32}  {o0 : Mem} (hk : zGo MM K o0 [(0, .ref ((zw K).2.1 0)), (2, .int y1)] 159 []) : ∀ (n : Nat) (i9 : Int32) (m10 : Mem), l_X7_findLeads_39 a1 y1 n i9 m10 = some o0 → zGo MM K m10 [(0, .ref ((zw K).2.1 0)), (1, .int a1), (2, .int y1), (3, .int i9)] 39 [] := by
  intro n
  induction n with
  | zero =>
    intro i9 m10 hf
    cases hf
  | succ n ih =>
    intro i9 m10 hf
    obtain ⟨z, hf, hz⟩ := zlp_el hf
    replace hf : t_X7_findLeads_39 a1 y1 i9 m10 = some z := hf
    unfold t_X7_findLeads_39 at hf
    refine z_iload_n C 3 dX7_findLeads_39 rfl rfl ?_
    refine z_iload_n C 2 dX7_findLeads_40 rfl rfl ?_
    refine z_icmp_ge (tgt := 159) C dX7_findLeads_41 (by decide) (fun c46 => ?_) (fun c46 => ?_)
    · replace hf := if_t c46 hf
      cases hf
      replace hz := zlz_r hz
      cases hz
      exact z_sub [0, 2] rfl hk
    · replace hf := if_f c46 hf
      refine z_iconst C (v := 0) dX7_findLeads_44 rfl ?_
      refine z_istore C (lv2 := [(0, .ref ((zw K).2.1 0)), (1, .int a1), (2, .int y1), (3, .int i9), (4, .int 0)]) [1, 2, 3, 4, 0] dX7_findLeads_45 (Nat.le_of_ble_eq_true rfl) rfl ?_
      obtain ⟨m44, hg, hf⟩ := zb_el hf
      refine z_sub [0, 1, 2, 3, 4] rfl (w_X7_findLeads_47 C  ?_ _ _ _ hg)
      clear hg
      obtain ⟨x45, e_x45⟩ : ∃ y : Int32, y = i9 + 1 := ⟨_, rfl⟩
      replace hf := bn_to e_x45 hf
      refine z_iinc C (lv2 := [(0, .ref ((zw K).2.1 0)), (1, .int a1), (2, .int y1), (3, .int x45)]) 3 [1, 2, 3, 0] dX7_findLeads_153 rfl rfl (Nat.le_of_ble_eq_true rfl) e_x45 rfl ?_
      refine z_goto (tgt := 39) C dX7_findLeads_156 (by decide) ?_
      cases hf
      exact z_sub [0, 1, 2, 3] rfl (ih x45 m44 hz)
set_option maxRecDepth 100000 in
set_option maxHeartbeats 4000000 in
theorem w_X7_findLeads_178 {K : ZK} (C : zOK MM K cX7_findLeads 7 none RX7 wsX7_findLeads rmX7_findLeads) {y1 : Int32} {i48 : Int32} {i50 : Int32}  {o0 : Mem} (hk : zGo MM K o0 [(0, .ref ((zw K).2.1 0)), (2, .int y1), (3, .int i48), (4, .int i50)] 254 []) : ∀ (n : Nat) (i52 : Int32) (m53 : Mem), l_X7_findLeads_178 y1 i48 i50 n i52 m53 = some o0 → zGo MM K m53 [(0, .ref ((zw K).2.1 0)), (2, .int y1), (3, .int i48), (4, .int i50), (5, .int i52)] 178 [] := by
  intro n
  induction n with
  | zero =>
    intro i52 m53 hf
    cases hf
  | succ n ih =>
    intro i52 m53 hf
    obtain ⟨z, hf, hz⟩ := zlp_el hf
    replace hf : t_X7_findLeads_178 y1 i48 i50 i52 m53 = some z := hf
    unfold t_X7_findLeads_178 at hf
    refine z_iload C 4 dX7_findLeads_178 rfl ?_
    refine z_iload_n C 1 dX7_findLeads_180 rfl rfl ?_
    refine z_icmp_ge (tgt := 254) C dX7_findLeads_181 (by decide) (fun c72 => ?_) (fun c72 => ?_)
    · replace hf := if_t c72 hf
      cases hf
      replace hz := zlz_r hz
      cases hz
      exact z_sub [0, 1, 2, 3] rfl hk
    · replace hf := if_f c72 hf
      refine z_aload_n C 0 dX7_findLeads_184 rfl rfl ?_
      refine z_getr C (t := 36) (Nat.le_of_ble_eq_true rfl) rfl rfl 47 (Nat.le_of_ble_eq_true rfl) rfl kiX7_findLeads_X7 kfX7_findLeads_116 dX7_findLeads_185 ?_
      refine z_bipush C (v := 6) dX7_findLeads_188 rfl ?_
      refine z_iload C 3 dX7_findLeads_190 rfl ?_
      refine z_imul C dX7_findLeads_192 ?_
      refine z_iload C 4 dX7_findLeads_193 rfl ?_
      refine z_iadd C dX7_findLeads_195 ?_
      refine z_aload_n C 0 dX7_findLeads_196 rfl rfl ?_
      refine z_getr C (t := 36) (Nat.le_of_ble_eq_true rfl) rfl rfl 47 (Nat.le_of_ble_eq_true rfl) rfl kiX7_findLeads_X7 kfX7_findLeads_116 dX7_findLeads_197 ?_
      refine z_bipush C (v := 6) dX7_findLeads_200 rfl ?_
      refine z_iload C 3 dX7_findLeads_202 rfl ?_
      refine z_imul C dX7_findLeads_204 ?_
      refine z_iload C 4 dX7_findLeads_205 rfl ?_
      refine z_iadd C dX7_findLeads_207 ?_
      obtain ⟨hi54, hf⟩ := ck_el hf
      refine z_zald C (k := 36) (Nat.le_of_ble_eq_true rfl) rfl hi54 dX7_findLeads_208 ?_
      refine z_if_ne (tgt := 242) C dX7_findLeads_209 (by decide) (fun c71 => ?_) (fun c71 => ?_)
      · replace hf := if_f c71 hf
        refine z_iconst C (v := 1) dX7_findLeads_242 rfl ?_
        refine z_goto (tgt := 247) C dX7_findLeads_243 (by decide) ?_
        obtain ⟨hi55, hf⟩ := ck_el hf
        refine z_zast C (k := 36) (Nat.le_of_ble_eq_true rfl) rfl hi55 dX7_findLeads_247 ?_
        refine z_nm (fun m56 e_m56 => ?_)
        replace hf := bn_to e_m56 hf
        obtain ⟨x57, e_x57⟩ : ∃ y : Int32, y = i52 + 1 := ⟨_, rfl⟩
        replace hf := bn_to e_x57 hf
        refine z_iinc C (lv2 := [(0, .ref ((zw K).2.1 0)), (2, .int y1), (3, .int i48), (4, .int i50), (5, .int x57)]) 4 [1, 2, 3, 4, 0] dX7_findLeads_248 rfl rfl (Nat.le_of_ble_eq_true rfl) e_x57 rfl ?_
        refine z_goto (tgt := 178) C dX7_findLeads_251 (by decide) ?_
        cases hf
        exact z_sub [0, 1, 2, 3, 4] rfl (ih x57 m56 hz)
      · replace hf := if_t c71 hf
        refine z_aload_n C 0 dX7_findLeads_212 rfl rfl ?_
        refine z_getr C (t := 36) (Nat.le_of_ble_eq_true rfl) rfl rfl 47 (Nat.le_of_ble_eq_true rfl) rfl kiX7_findLeads_X7 kfX7_findLeads_116 dX7_findLeads_213 ?_
        refine z_bipush C (v := 6) dX7_findLeads_216 rfl ?_
        refine z_iload C 3 dX7_findLeads_218 rfl ?_
        refine z_imul C dX7_findLeads_220 ?_
        refine z_iload_n C 2 dX7_findLeads_221 rfl rfl ?_
        refine z_iadd C dX7_findLeads_222 ?_
        obtain ⟨hi58, hf⟩ := ck_el hf
        refine z_zald C (k := 36) (Nat.le_of_ble_eq_true rfl) rfl hi58 dX7_findLeads_223 ?_
        refine z_if_eq (tgt := 246) C dX7_findLeads_224 (by decide) (fun c70 => ?_) (fun c70 => ?_)
        · replace hf := if_t c70 hf
          refine z_iconst C (v := 0) dX7_findLeads_246 rfl ?_
          obtain ⟨hi59, hf⟩ := ck_el hf
          refine z_zast C (k := 36) (Nat.le_of_ble_eq_true rfl) rfl hi59 dX7_findLeads_247 ?_
          refine z_nm (fun m60 e_m60 => ?_)
          replace hf := bn_to e_m60 hf
          obtain ⟨x61, e_x61⟩ : ∃ y : Int32, y = i52 + 1 := ⟨_, rfl⟩
          replace hf := bn_to e_x61 hf
          refine z_iinc C (lv2 := [(0, .ref ((zw K).2.1 0)), (2, .int y1), (3, .int i48), (4, .int i50), (5, .int x61)]) 4 [1, 2, 3, 4, 0] dX7_findLeads_248 rfl rfl (Nat.le_of_ble_eq_true rfl) e_x61 rfl ?_
          refine z_goto (tgt := 178) C dX7_findLeads_251 (by decide) ?_
          cases hf
          exact z_sub [0, 1, 2, 3, 4] rfl (ih x61 m60 hz)
        · replace hf := if_f c70 hf
          refine z_aload_n C 0 dX7_findLeads_227 rfl rfl ?_
          refine z_getr C (t := 36) (Nat.le_of_ble_eq_true rfl) rfl rfl 47 (Nat.le_of_ble_eq_true rfl) rfl kiX7_findLeads_X7 kfX7_findLeads_116 dX7_findLeads_228 ?_
          refine z_bipush C (v := 6) dX7_findLeads_231 rfl ?_
          refine z_iload_n C 2 dX7_findLeads_233 rfl rfl ?_
          refine z_imul C dX7_findLeads_234 ?_
          refine z_iload C 4 dX7_findLeads_235 rfl ?_
          refine z_iadd C dX7_findLeads_237 ?_
          obtain ⟨hi62, hf⟩ := ck_el hf
          refine z_zald C (k := 36) (Nat.le_of_ble_eq_true rfl) rfl hi62 dX7_findLeads_238 ?_
          refine z_if_eq (tgt := 246) C dX7_findLeads_239 (by decide) (fun c69 => ?_) (fun c69 => ?_)
          · replace hf := if_t c69 hf
            refine z_iconst C (v := 0) dX7_findLeads_246 rfl ?_
            obtain ⟨hi63, hf⟩ := ck_el hf
            refine z_zast C (k := 36) (Nat.le_of_ble_eq_true rfl) rfl hi63 dX7_findLeads_247 ?_
            refine z_nm (fun m64 e_m64 => ?_)
            replace hf := bn_to e_m64 hf
            obtain ⟨x65, e_x65⟩ : ∃ y : Int32, y = i52 + 1 := ⟨_, rfl⟩
            replace hf := bn_to e_x65 hf
            refine z_iinc C (lv2 := [(0, .ref ((zw K).2.1 0)), (2, .int y1), (3, .int i48), (4, .int i50), (5, .int x65)]) 4 [1, 2, 3, 4, 0] dX7_findLeads_248 rfl rfl (Nat.le_of_ble_eq_true rfl) e_x65 rfl ?_
            refine z_goto (tgt := 178) C dX7_findLeads_251 (by decide) ?_
            cases hf
            exact z_sub [0, 1, 2, 3, 4] rfl (ih x65 m64 hz)
          · replace hf := if_f c69 hf
            refine z_iconst C (v := 1) dX7_findLeads_242 rfl ?_
            refine z_goto (tgt := 247) C dX7_findLeads_243 (by decide) ?_
            obtain ⟨hi66, hf⟩ := ck_el hf
            refine z_zast C (k := 36) (Nat.le_of_ble_eq_true rfl) rfl hi66 dX7_findLeads_247 ?_
            refine z_nm (fun m67 e_m67 => ?_)
            replace hf := bn_to e_m67 hf
            obtain ⟨x68, e_x68⟩ : ∃ y : Int32, y = i52 + 1 := ⟨_, rfl⟩
            replace hf := bn_to e_x68 hf
            refine z_iinc C (lv2 := [(0, .ref ((zw K).2.1 0)), (2, .int y1), (3, .int i48), (4, .int i50), (5, .int x68)]) 4 [1, 2, 3, 4, 0] dX7_findLeads_248 rfl rfl (Nat.le_of_ble_eq_true rfl) e_x68 rfl ?_
            refine z_goto (tgt := 178) C dX7_findLeads_251 (by decide) ?_
            cases hf
            exact z_sub [0, 1, 2, 3, 4] rfl (ih x68 m67 hz)
set_option maxRecDepth 100000 in
set_option maxHeartbeats 4000000 in
theorem w_X7_findLeads_169 {K : ZK} (C : zOK MM K cX7_findLeads 7 none RX7 wsX7_findLeads rmX7_findLeads) {y1 : Int32} {i48 : Int32}  {o0 : Mem} (hk : zGo MM K o0 [(0, .ref ((zw K).2.1 0)), (2, .int y1), (3, .int i48)] 260 []) : ∀ (n : Nat) (i50 : Int32) (m51 : Mem), l_X7_findLeads_169 y1 i48 n i50 m51 = some o0 → zGo MM K m51 [(0, .ref ((zw K).2.1 0)), (2, .int y1), (3, .int i48), (4, .int i50)] 169 [] := by
  intro n
  induction n with
  | zero =>
    intro i50 m51 hf
    cases hf
  | succ n ih =>
    intro i50 m51 hf
    obtain ⟨z, hf, hz⟩ := zlp_el hf
    replace hf : t_X7_findLeads_169 y1 i48 i50 m51 = some z := hf
    unfold t_X7_findLeads_169 at hf
    refine z_iload C 3 dX7_findLeads_169 rfl ?_
    refine z_iload_n C 1 dX7_findLeads_171 rfl rfl ?_
    refine z_icmp_ge (tgt := 260) C dX7_findLeads_172 (by decide) (fun c75 => ?_) (fun c75 => ?_)
    · replace hf := if_t c75 hf
      cases hf
      replace hz := zlz_r hz
      cases hz
      exact z_sub [0, 1, 2] rfl hk
    · replace hf := if_f c75 hf
      refine z_iconst C (v := 0) dX7_findLeads_175 rfl ?_
      refine z_istore C (lv2 := [(0, .ref ((zw K).2.1 0)), (2, .int y1), (3, .int i48), (4, .int i50), (5, .int 0)]) [1, 2, 3, 4, 0] dX7_findLeads_176 (Nat.le_of_ble_eq_true rfl) rfl ?_
      obtain ⟨m73, hg, hf⟩ := zb_el hf
      refine z_sub [0, 1, 2, 3, 4] rfl (w_X7_findLeads_178 C  ?_ _ _ _ hg)
      clear hg
      obtain ⟨x74, e_x74⟩ : ∃ y : Int32, y = i50 + 1 := ⟨_, rfl⟩
      replace hf := bn_to e_x74 hf
      refine z_iinc C (lv2 := [(0, .ref ((zw K).2.1 0)), (2, .int y1), (3, .int i48), (4, .int x74)]) 3 [1, 2, 3, 0] dX7_findLeads_254 rfl rfl (Nat.le_of_ble_eq_true rfl) e_x74 rfl ?_
      refine z_goto (tgt := 169) C dX7_findLeads_257 (by decide) ?_
      cases hf
      exact z_sub [0, 1, 2, 3] rfl (ih x74 m73 hz)
set_option maxRecDepth 100000 in
set_option maxHeartbeats 4000000 in
theorem w_X7_findLeads_161 {K : ZK} (C : zOK MM K cX7_findLeads 7 none RX7 wsX7_findLeads rmX7_findLeads) {y1 : Int32}  {o0 : Mem} (hk : zGo MM K o0 [] 266 []) : ∀ (n : Nat) (i48 : Int32) (m49 : Mem), l_X7_findLeads_161 y1 n i48 m49 = some o0 → zGo MM K m49 [(0, .ref ((zw K).2.1 0)), (2, .int y1), (3, .int i48)] 161 [] := by
  intro n
  induction n with
  | zero =>
    intro i48 m49 hf
    cases hf
  | succ n ih =>
    intro i48 m49 hf
    obtain ⟨z, hf, hz⟩ := zlp_el hf
    replace hf : t_X7_findLeads_161 y1 i48 m49 = some z := hf
    unfold t_X7_findLeads_161 at hf
    refine z_iload_n C 2 dX7_findLeads_161 rfl rfl ?_
    refine z_iload_n C 1 dX7_findLeads_162 rfl rfl ?_
    refine z_icmp_ge (tgt := 266) C dX7_findLeads_163 (by decide) (fun c78 => ?_) (fun c78 => ?_)
    · replace hf := if_t c78 hf
      cases hf
      replace hz := zlz_r hz
      cases hz
      exact z_sub [] rfl hk
    · replace hf := if_f c78 hf
      refine z_iconst C (v := 0) dX7_findLeads_166 rfl ?_
      refine z_istore C (lv2 := [(0, .ref ((zw K).2.1 0)), (2, .int y1), (3, .int i48), (4, .int 0)]) [1, 2, 3, 0] dX7_findLeads_167 (Nat.le_of_ble_eq_true rfl) rfl ?_
      obtain ⟨m76, hg, hf⟩ := zb_el hf
      refine z_sub [0, 1, 2, 3] rfl (w_X7_findLeads_169 C  ?_ _ _ _ hg)
      clear hg
      obtain ⟨x77, e_x77⟩ : ∃ y : Int32, y = i48 + 1 := ⟨_, rfl⟩
      replace hf := bn_to e_x77 hf
      refine z_iinc C (lv2 := [(0, .ref ((zw K).2.1 0)), (2, .int y1), (3, .int x77)]) 2 [1, 2, 0] dX7_findLeads_260 rfl rfl (Nat.le_of_ble_eq_true rfl) e_x77 rfl ?_
      refine z_goto (tgt := 161) C dX7_findLeads_263 (by decide) ?_
      cases hf
      exact z_sub [0, 1, 2] rfl (ih x77 m76 hz)
set_option maxRecDepth 100000 in
set_option maxHeartbeats 4000000 in
theorem c_X7_findLeads (l : Launch) (w : ZW) {m : Mem} {a1 : Int32} {m9 : Mem}  (hf : s_X7_findLeads m a1 = some m9) : zCv MM l w yX7_findLeads wsX7_findLeads rmX7_findLeads [.ref (w.2.1 0), .int a1] m m9 := by
  refine z_met_v MM_ok (own := RX7) (by decide +kernel) rfl rfl (Nat.le_of_ble_eq_true rfl) ?_
  intro K C hKw hKl hret
  subst hKw
  subst hKl
  unfold s_X7_findLeads at hf
  show zGo MM K m [(0, .ref ((zw K).2.1 0)), (1, .int a1)] 0 []
  refine z_iload_n C 1 dX7_findLeads_0 rfl rfl ?_
  obtain ⟨y1, hg, hf⟩ := zb_el hf
  have hj : zGo MM K m [(0, .ref ((zw K).2.1 0)), (1, .int a1)] 15 [.int y1] := by
    refine z_istore_n C (lv2 := [(0, .ref ((zw K).2.1 0)), (1, .int a1), (2, .int y1)]) [1, 2, 0] dX7_findLeads_15 rfl (Nat.le_of_ble_eq_true rfl) rfl ?_
    refine z_iconst C (v := 0) dX7_findLeads_16 rfl ?_
    refine z_istore_n C (lv2 := [(0, .ref ((zw K).2.1 0)), (1, .int a1), (2, .int y1), (3, .int 0)]) [1, 2, 3, 0] dX7_findLeads_17 rfl (Nat.le_of_ble_eq_true rfl) rfl ?_
    obtain ⟨m8, hg, hf⟩ := zb_el hf
    refine z_sub [0, 1, 2, 3] rfl (w_X7_findLeads_18 C  ?_ _ _ _ hg)
    clear hg
    refine z_iconst C (v := 0) dX7_findLeads_37 rfl ?_
    refine z_istore_n C (lv2 := [(0, .ref ((zw K).2.1 0)), (1, .int a1), (2, .int y1), (3, .int 0)]) [1, 2, 3, 0] dX7_findLeads_38 rfl (Nat.le_of_ble_eq_true rfl) rfl ?_
    obtain ⟨m47, hg, hf⟩ := zb_el hf
    refine z_sub [0, 1, 2, 3] rfl (w_X7_findLeads_39 C  ?_ _ _ _ hg)
    clear hg
    refine z_iconst C (v := 0) dX7_findLeads_159 rfl ?_
    refine z_istore_n C (lv2 := [(0, .ref ((zw K).2.1 0)), (2, .int y1), (3, .int 0)]) [1, 2, 0] dX7_findLeads_160 rfl (Nat.le_of_ble_eq_true rfl) rfl ?_
    obtain ⟨m79, hg, hf⟩ := zb_el hf
    refine z_sub [0, 1, 2] rfl (w_X7_findLeads_161 C  ?_ _ _ _ hg)
    clear hg
    cases hf
    exact hret _ _ dX7_findLeads_266
  replace hf := hg
  clear hg
  refine z_if_eq (tgt := 11) C dX7_findLeads_1 (by decide) (fun c80 => ?_) (fun c80 => ?_)
  · replace hf := if_t c80 hf
    refine z_aload_n C 0 dX7_findLeads_11 rfl rfl ?_
    refine z_geti C (Nat.le_of_ble_eq_true rfl) rfl rfl 7 (Nat.le_of_ble_eq_true rfl) rfl kiX7_findLeads_X7 kfX7_findLeads_258 dX7_findLeads_12 ?_
    cases hf
    exact z_sub [0, 1] rfl hj
  · replace hf := if_f c80 hf
    refine z_aload_n C 0 dX7_findLeads_4 rfl rfl ?_
    refine z_geti C (Nat.le_of_ble_eq_true rfl) rfl rfl 21 (Nat.le_of_ble_eq_true rfl) rfl kiX7_findLeads_X7 kfX7_findLeads_234 dX7_findLeads_5 ?_
    refine z_goto (tgt := 15) C dX7_findLeads_8 (by decide) ?_
    cases hf
    exact z_sub [0, 1] rfl hj
def rmX7_depends : Room := { frames := 2, cells := 0, slots := 0, locals := 46 }
theorem zdX7_depends : yX7_depends.cls = RX7 ∧ yX7_depends.cls ≠ "java/lang/invoke/MethodHandle" ∧ yX7_depends.cls ≠ "java/lang/invoke/VarHandle" ∧ (parseMethodDescriptor yX7_depends.desc).map (fun d => d.parameters.length) = some 2 := by decide +kernel
theorem kiX7_depends_X7 : ∀ w ∈ wsX70, w ∈ wsX7_depends := by decide +kernel
theorem kfX7_depends_116 : Cond.fieldLink RX7 116 "ShapeJudgeModel" "leads" "[Z" ∈ wsX7_depends := by decide +kernel
def s_X7_depends (m : Mem) (a1 : Int32) (a2 : Int32) : Option (Int32 × Mem) :=
  (s_X7_isShape m a1).bind fun r2 => (if r2 = 0 then (some ((-1), m)) else ((s_X7_isShape m a2).bind fun r4 => (if r4 = 0 then (some ((-1), m)) else ((s_X7_findLeads m 0).bind fun m6 => ck (zin (((6 : Int32) * a1) + a2) 36 = true) ((if (m6 36 (Int32.toNatClampNeg (((6 : Int32) * a1) + a2))) = 0 then (some (0, m6)) else (some (1, m6))))))))
set_option maxRecDepth 100000 in
set_option maxHeartbeats 4000000 in
theorem c_X7_depends (l : Launch) (w : ZW) {m : Mem} {a1 : Int32} {a2 : Int32} {r9 : Int32} {m9 : Mem}  (hf : s_X7_depends m a1 a2 = some (r9, m9)) : zCi MM l w yX7_depends wsX7_depends rmX7_depends [.ref (w.2.1 0), .int a1, .int a2] m m9 r9 := by
  refine z_met_i MM_ok (own := RX7) (by decide +kernel) rfl rfl (Nat.le_of_ble_eq_true rfl) ?_
  intro K C hKw hKl hret
  subst hKw
  subst hKl
  unfold s_X7_depends at hf
  show zGo MM K m [(0, .ref ((zw K).2.1 0)), (1, .int a1), (2, .int a2)] 0 []
  refine z_aload_n C 0 dX7_depends_0 rfl rfl ?_
  refine z_iload_n C 1 dX7_depends_1 rfl rfl ?_
  obtain ⟨r2, hc1, hf⟩ := zb_el hf
  refine z_cVi C (c_X7_isShape _ _ hc1) rfl gX7_depends_X7_isShape rfl rfl zdX7_isShape rfl (Nat.le_of_ble_eq_true rfl) rfl rfl rfl ⟨Nat.le_of_ble_eq_true rfl, Nat.le_of_ble_eq_true rfl⟩ (Nat.le_of_ble_eq_true rfl) dX7_depends_2 rfl ?_
  refine z_if_eq (tgt := 16) C dX7_depends_5 (by decide) (fun c10 => ?_) (fun c10 => ?_)
  · replace hf := if_t c10 hf
    refine z_iconst C (v := (-1)) dX7_depends_16 (by decide) ?_
    cases hf
    exact hret _ _ dX7_depends_17
  · replace hf := if_f c10 hf
    refine z_aload_n C 0 dX7_depends_8 rfl rfl ?_
    refine z_iload_n C 2 dX7_depends_9 rfl rfl ?_
    obtain ⟨r4, hc3, hf⟩ := zb_el hf
    refine z_cVi C (c_X7_isShape _ _ hc3) rfl gX7_depends_X7_isShape rfl rfl zdX7_isShape rfl (Nat.le_of_ble_eq_true rfl) rfl rfl rfl ⟨Nat.le_of_ble_eq_true rfl, Nat.le_of_ble_eq_true rfl⟩ (Nat.le_of_ble_eq_true rfl) dX7_depends_10 rfl ?_
    refine z_if_ne (tgt := 18) C dX7_depends_13 (by decide) (fun c9 => ?_) (fun c9 => ?_)
    · replace hf := if_f c9 hf
      refine z_aload_n C 0 dX7_depends_18 rfl rfl ?_
      refine z_iconst C (v := 0) dX7_depends_19 rfl ?_
      obtain ⟨m6, hc5, hf⟩ := zb_el hf
      refine z_cVv C (c_X7_findLeads _ _ hc5) rfl gX7_depends_X7_findLeads rfl rfl zdX7_findLeads rfl (Nat.le_of_ble_eq_true rfl) rfl rfl rfl ⟨Nat.le_of_ble_eq_true rfl, Nat.le_of_ble_eq_true rfl⟩ (Nat.le_of_ble_eq_true rfl) dX7_depends_20 rfl ?_
      refine z_aload_n C 0 dX7_depends_23 rfl rfl ?_
      refine z_getr C (t := 36) (Nat.le_of_ble_eq_true rfl) rfl rfl 47 (Nat.le_of_ble_eq_true rfl) rfl kiX7_depends_X7 kfX7_depends_116 dX7_depends_24 ?_
      refine z_bipush C (v := 6) dX7_depends_27 rfl ?_
      refine z_iload_n C 1 dX7_depends_29 rfl rfl ?_
      refine z_imul C dX7_depends_30 ?_
      refine z_iload_n C 2 dX7_depends_31 rfl rfl ?_
      refine z_iadd C dX7_depends_32 ?_
      obtain ⟨hi7, hf⟩ := ck_el hf
      refine z_zald C (k := 36) (Nat.le_of_ble_eq_true rfl) rfl hi7 dX7_depends_33 ?_
      refine z_if_eq (tgt := 41) C dX7_depends_34 (by decide) (fun c8 => ?_) (fun c8 => ?_)
      · replace hf := if_t c8 hf
        refine z_iconst C (v := 0) dX7_depends_41 rfl ?_
        cases hf
        exact hret _ _ dX7_depends_42
      · replace hf := if_f c8 hf
        refine z_iconst C (v := 1) dX7_depends_37 rfl ?_
        refine z_goto (tgt := 42) C dX7_depends_38 (by decide) ?_
        cases hf
        exact hret _ _ dX7_depends_42
    · replace hf := if_t c9 hf
      refine z_iconst C (v := (-1)) dX7_depends_16 (by decide) ?_
      cases hf
      exact hret _ _ dX7_depends_17
def rmX7_edge : Room := { frames := 2, cells := 0, slots := 0, locals := 48 }
theorem zdX7_edge : yX7_edge.cls = RX7 ∧ yX7_edge.cls ≠ "java/lang/invoke/MethodHandle" ∧ yX7_edge.cls ≠ "java/lang/invoke/VarHandle" ∧ (parseMethodDescriptor yX7_edge.desc).map (fun d => d.parameters.length) = some 3 := by decide +kernel
theorem kcX7_edge_160 : Cond.constantLong RX7 160 (9) ∈ wsX7_edge := by decide +kernel
theorem kiX7_edge_X7 : ∀ w ∈ wsX70, w ∈ wsX7_edge := by decide +kernel
theorem kfX7_edge_17 : Cond.fieldLink RX7 17 "ShapeJudgeModel" "many" "[I" ∈ wsX7_edge := by decide +kernel
theorem kfX7_edge_20 : Cond.fieldLink RX7 20 "ShapeJudgeModel" "names" "[I" ∈ wsX7_edge := by decide +kernel
theorem kfX7_edge_23 : Cond.fieldLink RX7 23 "ShapeJudgeModel" "tos" "[I" ∈ wsX7_edge := by decide +kernel
theorem kfX7_edge_148 : Cond.fieldLink RX7 148 "ShapeJudgeModel" "isRead" "Z" ∈ wsX7_edge := by decide +kernel
def t_X7_edge_82 (a1 : Int32) (r13 : Int32) (i16 : Int32) (m17 : Mem) : Option ((Int32 × Mem) ⊕ (Mem)) :=
  (if i16 ≤ r13 then (some (.inr m17)) else (ck (zin ((((5 : Int32) * a1) + i16) - 1) 50 = true) (ck (zin (((5 : Int32) * a1) + i16) 50 = true) (bn (sto m17 4 (Int32.toNatClampNeg (((5 : Int32) * a1) + i16)) (m17 4 (Int32.toNatClampNeg ((((5 : Int32) * a1) + i16) - 1)))) fun m20 => ck (zin ((((5 : Int32) * a1) + i16) - 1) 50 = true) (ck (zin (((5 : Int32) * a1) + i16) 50 = true) (bn (sto m20 5 (Int32.toNatClampNeg (((5 : Int32) * a1) + i16)) (m20 5 (Int32.toNatClampNeg ((((5 : Int32) * a1) + i16) - 1)))) fun m23 => bn (i16 + (-1)) fun x24 => some (.inl (x24, m23))))))))
def l_X7_edge_82 (a1 : Int32) (r13 : Int32) (n : Nat) (i16 : Int32) (m17 : Mem) : Option (Mem) := zlp n (fun a => t_X7_edge_82 a1 r13 a.1 a.2) (i16, m17)
def s_X7_edge (m : Mem) (a1 : Int32) (a2 : Int32) (a3 : Int32) : Option (Int32 × Mem) :=
  (s_X7_isNode m a1).bind fun r2 => (if r2 = 0 then (some ((-1), m)) else ((s_X7_in (a2.toInt64) 0 9).bind fun r4 => (if r4 = 0 then (some ((-1), m)) else ((s_X7_isNode m a3).bind fun r6 => (if r6 = 0 then (some ((-1), m)) else ((s_X7_isThere m a1 a2 a3).bind fun r8 => (if r8 = 0 then (ck (zin a1 10 = true) ((if (m 3 (Int32.toNatClampNeg a1)) = 5 then (some ((-3), m)) else ((s_X7_edges m).bind fun r11 => (if r11 = 40 then (some ((-3), m)) else ((s_X7_placeOf m a1 a2 a3).bind fun r13 => ck (zin a1 10 = true) (bn (m 3 (Int32.toNatClampNeg a1)) fun x15 => ((l_X7_edge_82 a1 r13 FU x15 m).bind fun m26 => ck (zin (((5 : Int32) * a1) + r13) 50 = true) (bn (sto m26 4 (Int32.toNatClampNeg (((5 : Int32) * a1) + r13)) a2) fun m28 => ck (zin (((5 : Int32) * a1) + r13) 50 = true) (bn (sto m28 5 (Int32.toNatClampNeg (((5 : Int32) * a1) + r13)) a3) fun m30 => ck (zin a1 10 = true) (ck (zin a1 10 = true) (bn (sto m30 3 (Int32.toNatClampNeg a1) ((m30 3 (Int32.toNatClampNeg a1)) + 1)) fun m33 => bn (sto m33 0 6 0) fun m34 => (s_X7_edges m34).bind fun r36 => some (r36, m34))))))))))))) else (some ((-2), m)))))))))
set_option maxRecDepth 100000 in
set_option maxHeartbeats 4000000 in
theorem w_X7_edge_82 {K : ZK} (C : zOK MM K cX7_edge 6 (some .int) RX7 wsX7_edge rmX7_edge) {a1 : Int32} {a2 : Int32} {a3 : Int32} {r13 : Int32}  {o0 : Mem} (hk : zGo MM K o0 [(0, .ref ((zw K).2.1 0)), (1, .int a1), (2, .int a2), (3, .int a3), (4, .int r13)] 143 []) : ∀ (n : Nat) (i16 : Int32) (m17 : Mem), l_X7_edge_82 a1 r13 n i16 m17 = some o0 → zGo MM K m17 [(0, .ref ((zw K).2.1 0)), (1, .int a1), (2, .int a2), (3, .int a3), (4, .int r13), (5, .int i16)] 82 [] := by
  intro n
  induction n with
  | zero =>
    intro i16 m17 hf
    cases hf
  | succ n ih =>
    intro i16 m17 hf
    obtain ⟨z, hf, hz⟩ := zlp_el hf
    replace hf : t_X7_edge_82 a1 r13 i16 m17 = some z := hf
    unfold t_X7_edge_82 at hf
    refine z_iload C 5 dX7_edge_82 rfl ?_
    refine z_iload C 4 dX7_edge_84 rfl ?_
    refine z_icmp_le (tgt := 143) C dX7_edge_86 (by decide) (fun c25 => ?_) (fun c25 => ?_)
    · replace hf := if_t c25 hf
      cases hf
      replace hz := zlz_r hz
      cases hz
      exact z_sub [0, 1, 2, 3, 4] rfl hk
    · replace hf := if_f c25 hf
      refine z_aload_n C 0 dX7_edge_89 rfl rfl ?_
      refine z_getr C (t := 4) (Nat.le_of_ble_eq_true rfl) rfl rfl 4 (Nat.le_of_ble_eq_true rfl) rfl kiX7_edge_X7 kfX7_edge_20 dX7_edge_90 ?_
      refine z_iconst C (v := 5) dX7_edge_93 rfl ?_
      refine z_iload_n C 1 dX7_edge_94 rfl rfl ?_
      refine z_imul C dX7_edge_95 ?_
      refine z_iload C 5 dX7_edge_96 rfl ?_
      refine z_iadd C dX7_edge_98 ?_
      refine z_aload_n C 0 dX7_edge_99 rfl rfl ?_
      refine z_getr C (t := 4) (Nat.le_of_ble_eq_true rfl) rfl rfl 4 (Nat.le_of_ble_eq_true rfl) rfl kiX7_edge_X7 kfX7_edge_20 dX7_edge_100 ?_
      refine z_iconst C (v := 5) dX7_edge_103 rfl ?_
      refine z_iload_n C 1 dX7_edge_104 rfl rfl ?_
      refine z_imul C dX7_edge_105 ?_
      refine z_iload C 5 dX7_edge_106 rfl ?_
      refine z_iadd C dX7_edge_108 ?_
      refine z_iconst C (v := 1) dX7_edge_109 rfl ?_
      refine z_isub C dX7_edge_110 ?_
      obtain ⟨hi18, hf⟩ := ck_el hf
      refine z_iald C (k := 4) (Nat.le_of_ble_eq_true rfl) rfl hi18 dX7_edge_111 ?_
      obtain ⟨hi19, hf⟩ := ck_el hf
      refine z_iast C (k := 4) (Nat.le_of_ble_eq_true rfl) rfl hi19 dX7_edge_112 ?_
      refine z_nm (fun m20 e_m20 => ?_)
      replace hf := bn_to e_m20 hf
      refine z_aload_n C 0 dX7_edge_113 rfl rfl ?_
      refine z_getr C (t := 5) (Nat.le_of_ble_eq_true rfl) rfl rfl 5 (Nat.le_of_ble_eq_true rfl) rfl kiX7_edge_X7 kfX7_edge_23 dX7_edge_114 ?_
      refine z_iconst C (v := 5) dX7_edge_117 rfl ?_
      refine z_iload_n C 1 dX7_edge_118 rfl rfl ?_
      refine z_imul C dX7_edge_119 ?_
      refine z_iload C 5 dX7_edge_120 rfl ?_
      refine z_iadd C dX7_edge_122 ?_
      refine z_aload_n C 0 dX7_edge_123 rfl rfl ?_
      refine z_getr C (t := 5) (Nat.le_of_ble_eq_true rfl) rfl rfl 5 (Nat.le_of_ble_eq_true rfl) rfl kiX7_edge_X7 kfX7_edge_23 dX7_edge_124 ?_
      refine z_iconst C (v := 5) dX7_edge_127 rfl ?_
      refine z_iload_n C 1 dX7_edge_128 rfl rfl ?_
      refine z_imul C dX7_edge_129 ?_
      refine z_iload C 5 dX7_edge_130 rfl ?_
      refine z_iadd C dX7_edge_132 ?_
      refine z_iconst C (v := 1) dX7_edge_133 rfl ?_
      refine z_isub C dX7_edge_134 ?_
      obtain ⟨hi21, hf⟩ := ck_el hf
      refine z_iald C (k := 5) (Nat.le_of_ble_eq_true rfl) rfl hi21 dX7_edge_135 ?_
      obtain ⟨hi22, hf⟩ := ck_el hf
      refine z_iast C (k := 5) (Nat.le_of_ble_eq_true rfl) rfl hi22 dX7_edge_136 ?_
      refine z_nm (fun m23 e_m23 => ?_)
      replace hf := bn_to e_m23 hf
      obtain ⟨x24, e_x24⟩ : ∃ y : Int32, y = i16 + (-1) := ⟨_, rfl⟩
      replace hf := bn_to e_x24 hf
      refine z_iinc C (lv2 := [(0, .ref ((zw K).2.1 0)), (1, .int a1), (2, .int a2), (3, .int a3), (4, .int r13), (5, .int x24)]) 5 [1, 2, 3, 4, 5, 0] dX7_edge_137 (by decide) rfl (Nat.le_of_ble_eq_true rfl) e_x24 rfl ?_
      refine z_goto (tgt := 82) C dX7_edge_140 (by decide) ?_
      cases hf
      exact z_sub [0, 1, 2, 3, 4, 5] rfl (ih x24 m23 hz)
set_option maxRecDepth 100000 in
set_option maxHeartbeats 4000000 in
theorem c_X7_edge (l : Launch) (w : ZW) {m : Mem} {a1 : Int32} {a2 : Int32} {a3 : Int32} {r9 : Int32} {m9 : Mem}  (hf : s_X7_edge m a1 a2 a3 = some (r9, m9)) : zCi MM l w yX7_edge wsX7_edge rmX7_edge [.ref (w.2.1 0), .int a1, .int a2, .int a3] m m9 r9 := by
  refine z_met_i MM_ok (own := RX7) (by decide +kernel) rfl rfl (Nat.le_of_ble_eq_true rfl) ?_
  intro K C hKw hKl hret
  subst hKw
  subst hKl
  unfold s_X7_edge at hf
  show zGo MM K m [(0, .ref ((zw K).2.1 0)), (1, .int a1), (2, .int a2), (3, .int a3)] 0 []
  refine z_aload_n C 0 dX7_edge_0 rfl rfl ?_
  refine z_iload_n C 1 dX7_edge_1 rfl rfl ?_
  obtain ⟨r2, hc1, hf⟩ := zb_el hf
  refine z_cVi C (c_X7_isNode _ _ hc1) rfl gX7_edge_X7_isNode rfl rfl zdX7_isNode rfl (Nat.le_of_ble_eq_true rfl) rfl rfl rfl ⟨Nat.le_of_ble_eq_true rfl, Nat.le_of_ble_eq_true rfl⟩ (Nat.le_of_ble_eq_true rfl) dX7_edge_2 rfl ?_
  refine z_if_eq (tgt := 28) C dX7_edge_5 (by decide) (fun c42 => ?_) (fun c42 => ?_)
  · replace hf := if_t c42 hf
    refine z_iconst C (v := (-1)) dX7_edge_28 (by decide) ?_
    cases hf
    exact hret _ _ dX7_edge_29
  · replace hf := if_f c42 hf
    refine z_iload_n C 2 dX7_edge_8 rfl rfl ?_
    refine z_i2l C dX7_edge_9 ?_
    refine z_lconst C (v := 0) dX7_edge_10 rfl ?_
    refine z_ldc2 C (v := 9) dX7_edge_11 kcX7_edge_160 ?_
    obtain ⟨r4, hc3, hf⟩ := zb_el hf
    refine z_cSi C (c_X7_in _ _ hc3) rfl gX7_edge_X7_in rfl rfl zdX7_in.2 rfl ⟨Nat.le_of_ble_eq_true rfl, Nat.le_of_ble_eq_true rfl⟩ (Nat.le_of_ble_eq_true rfl) dX7_edge_14 rfl ?_
    refine z_if_eq (tgt := 28) C dX7_edge_17 (by decide) (fun c41 => ?_) (fun c41 => ?_)
    · replace hf := if_t c41 hf
      refine z_iconst C (v := (-1)) dX7_edge_28 (by decide) ?_
      cases hf
      exact hret _ _ dX7_edge_29
    · replace hf := if_f c41 hf
      refine z_aload_n C 0 dX7_edge_20 rfl rfl ?_
      refine z_iload_n C 3 dX7_edge_21 rfl rfl ?_
      obtain ⟨r6, hc5, hf⟩ := zb_el hf
      refine z_cVi C (c_X7_isNode _ _ hc5) rfl gX7_edge_X7_isNode rfl rfl zdX7_isNode rfl (Nat.le_of_ble_eq_true rfl) rfl rfl rfl ⟨Nat.le_of_ble_eq_true rfl, Nat.le_of_ble_eq_true rfl⟩ (Nat.le_of_ble_eq_true rfl) dX7_edge_22 rfl ?_
      refine z_if_ne (tgt := 30) C dX7_edge_25 (by decide) (fun c40 => ?_) (fun c40 => ?_)
      · replace hf := if_f c40 hf
        refine z_aload_n C 0 dX7_edge_30 rfl rfl ?_
        refine z_iload_n C 1 dX7_edge_31 rfl rfl ?_
        refine z_iload_n C 2 dX7_edge_32 rfl rfl ?_
        refine z_iload_n C 3 dX7_edge_33 rfl rfl ?_
        obtain ⟨r8, hc7, hf⟩ := zb_el hf
        refine z_cVi C (c_X7_isThere _ _ hc7) rfl gX7_edge_X7_isThere rfl rfl zdX7_isThere rfl (Nat.le_of_ble_eq_true rfl) rfl rfl rfl ⟨Nat.le_of_ble_eq_true rfl, Nat.le_of_ble_eq_true rfl⟩ (Nat.le_of_ble_eq_true rfl) dX7_edge_34 rfl ?_
        refine z_if_eq (tgt := 43) C dX7_edge_37 (by decide) (fun c39 => ?_) (fun c39 => ?_)
        · replace hf := if_t c39 hf
          refine z_aload_n C 0 dX7_edge_43 rfl rfl ?_
          refine z_getr C (t := 3) (Nat.le_of_ble_eq_true rfl) rfl rfl 3 (Nat.le_of_ble_eq_true rfl) rfl kiX7_edge_X7 kfX7_edge_17 dX7_edge_44 ?_
          refine z_iload_n C 1 dX7_edge_47 rfl rfl ?_
          obtain ⟨hi9, hf⟩ := ck_el hf
          refine z_iald C (k := 3) (Nat.le_of_ble_eq_true rfl) rfl hi9 dX7_edge_48 ?_
          refine z_iconst C (v := 5) dX7_edge_49 rfl ?_
          refine z_icmp_eq (tgt := 62) C dX7_edge_50 (by decide) (fun c38 => ?_) (fun c38 => ?_)
          · replace hf := if_t c38 hf
            refine z_bipush C (v := (-3)) dX7_edge_62 (by decide) ?_
            cases hf
            exact hret _ _ dX7_edge_64
          · replace hf := if_f c38 hf
            refine z_aload_n C 0 dX7_edge_53 rfl rfl ?_
            obtain ⟨r11, hc10, hf⟩ := zb_el hf
            refine z_cVi C (c_X7_edges _ _ hc10) rfl gX7_edge_X7_edges rfl rfl zdX7_edges rfl (Nat.le_of_ble_eq_true rfl) rfl rfl rfl ⟨Nat.le_of_ble_eq_true rfl, Nat.le_of_ble_eq_true rfl⟩ (Nat.le_of_ble_eq_true rfl) dX7_edge_54 rfl ?_
            refine z_bipush C (v := 40) dX7_edge_57 rfl ?_
            refine z_icmp_ne (tgt := 65) C dX7_edge_59 (by decide) (fun c37 => ?_) (fun c37 => ?_)
            · replace hf := if_f c37 hf
              refine z_aload_n C 0 dX7_edge_65 rfl rfl ?_
              refine z_iload_n C 1 dX7_edge_66 rfl rfl ?_
              refine z_iload_n C 2 dX7_edge_67 rfl rfl ?_
              refine z_iload_n C 3 dX7_edge_68 rfl rfl ?_
              obtain ⟨r13, hc12, hf⟩ := zb_el hf
              refine z_cVi C (c_X7_placeOf _ _ hc12) rfl gX7_edge_X7_placeOf rfl rfl zdX7_placeOf rfl (Nat.le_of_ble_eq_true rfl) rfl rfl rfl ⟨Nat.le_of_ble_eq_true rfl, Nat.le_of_ble_eq_true rfl⟩ (Nat.le_of_ble_eq_true rfl) dX7_edge_69 rfl ?_
              refine z_istore C (lv2 := [(0, .ref ((zw K).2.1 0)), (1, .int a1), (2, .int a2), (3, .int a3), (4, .int r13)]) [1, 2, 3, 4, 0] dX7_edge_72 (Nat.le_of_ble_eq_true rfl) rfl ?_
              refine z_aload_n C 0 dX7_edge_74 rfl rfl ?_
              refine z_getr C (t := 3) (Nat.le_of_ble_eq_true rfl) rfl rfl 3 (Nat.le_of_ble_eq_true rfl) rfl kiX7_edge_X7 kfX7_edge_17 dX7_edge_75 ?_
              refine z_iload_n C 1 dX7_edge_78 rfl rfl ?_
              obtain ⟨hi14, hf⟩ := ck_el hf
              refine z_iald C (k := 3) (Nat.le_of_ble_eq_true rfl) rfl hi14 dX7_edge_79 ?_
              refine z_topi (fun x15 e_x15 => ?_)
              replace hf := bn_to e_x15 hf
              refine z_istore C (lv2 := [(0, .ref ((zw K).2.1 0)), (1, .int a1), (2, .int a2), (3, .int a3), (4, .int r13), (5, .int x15)]) [1, 2, 3, 4, 5, 0] dX7_edge_80 (Nat.le_of_ble_eq_true rfl) rfl ?_
              obtain ⟨m26, hg, hf⟩ := zb_el hf
              refine z_sub [0, 1, 2, 3, 4, 5] rfl (w_X7_edge_82 C  ?_ _ _ _ hg)
              clear hg
              refine z_aload_n C 0 dX7_edge_143 rfl rfl ?_
              refine z_getr C (t := 4) (Nat.le_of_ble_eq_true rfl) rfl rfl 4 (Nat.le_of_ble_eq_true rfl) rfl kiX7_edge_X7 kfX7_edge_20 dX7_edge_144 ?_
              refine z_iconst C (v := 5) dX7_edge_147 rfl ?_
              refine z_iload_n C 1 dX7_edge_148 rfl rfl ?_
              refine z_imul C dX7_edge_149 ?_
              refine z_iload C 4 dX7_edge_150 rfl ?_
              refine z_iadd C dX7_edge_152 ?_
              refine z_iload_n C 2 dX7_edge_153 rfl rfl ?_
              obtain ⟨hi27, hf⟩ := ck_el hf
              refine z_iast C (k := 4) (Nat.le_of_ble_eq_true rfl) rfl hi27 dX7_edge_154 ?_
              refine z_nm (fun m28 e_m28 => ?_)
              replace hf := bn_to e_m28 hf
              refine z_aload_n C 0 dX7_edge_155 rfl rfl ?_
              refine z_getr C (t := 5) (Nat.le_of_ble_eq_true rfl) rfl rfl 5 (Nat.le_of_ble_eq_true rfl) rfl kiX7_edge_X7 kfX7_edge_23 dX7_edge_156 ?_
              refine z_iconst C (v := 5) dX7_edge_159 rfl ?_
              refine z_iload_n C 1 dX7_edge_160 rfl rfl ?_
              refine z_imul C dX7_edge_161 ?_
              refine z_iload C 4 dX7_edge_162 rfl ?_
              refine z_iadd C dX7_edge_164 ?_
              refine z_iload_n C 3 dX7_edge_165 rfl rfl ?_
              obtain ⟨hi29, hf⟩ := ck_el hf
              refine z_iast C (k := 5) (Nat.le_of_ble_eq_true rfl) rfl hi29 dX7_edge_166 ?_
              refine z_nm (fun m30 e_m30 => ?_)
              replace hf := bn_to e_m30 hf
              refine z_aload_n C 0 dX7_edge_167 rfl rfl ?_
              refine z_getr C (t := 3) (Nat.le_of_ble_eq_true rfl) rfl rfl 3 (Nat.le_of_ble_eq_true rfl) rfl kiX7_edge_X7 kfX7_edge_17 dX7_edge_168 ?_
              refine z_iload_n C 1 dX7_edge_171 rfl rfl ?_
              refine z_dup2 C dX7_edge_172 ?_
              obtain ⟨hi31, hf⟩ := ck_el hf
              refine z_iald C (k := 3) (Nat.le_of_ble_eq_true rfl) rfl hi31 dX7_edge_173 ?_
              refine z_iconst C (v := 1) dX7_edge_174 rfl ?_
              refine z_iadd C dX7_edge_175 ?_
              obtain ⟨hi32, hf⟩ := ck_el hf
              refine z_iast C (k := 3) (Nat.le_of_ble_eq_true rfl) rfl hi32 dX7_edge_176 ?_
              refine z_nm (fun m33 e_m33 => ?_)
              replace hf := bn_to e_m33 hf
              refine z_aload_n C 0 dX7_edge_177 rfl rfl ?_
              refine z_iconst C (v := 0) dX7_edge_178 rfl ?_
              refine z_putz C (Nat.le_of_ble_eq_true rfl) rfl rfl 6 (Nat.le_of_ble_eq_true rfl) rfl kiX7_edge_X7 kfX7_edge_148 tyX7 tyX7_ok nmX7 rfl rfl (Or.inl rfl) dX7_edge_179 ?_
              refine z_nm (fun m34 e_m34 => ?_)
              replace hf := bn_to e_m34 hf
              refine z_aload_n C 0 dX7_edge_182 rfl rfl ?_
              obtain ⟨r36, hc35, hf⟩ := zb_el hf
              refine z_cVi C (c_X7_edges _ _ hc35) rfl gX7_edge_X7_edges rfl rfl zdX7_edges rfl (Nat.le_of_ble_eq_true rfl) rfl rfl rfl ⟨Nat.le_of_ble_eq_true rfl, Nat.le_of_ble_eq_true rfl⟩ (Nat.le_of_ble_eq_true rfl) dX7_edge_183 rfl ?_
              cases hf
              exact hret _ _ dX7_edge_186
            · replace hf := if_t c37 hf
              refine z_bipush C (v := (-3)) dX7_edge_62 (by decide) ?_
              cases hf
              exact hret _ _ dX7_edge_64
        · replace hf := if_f c39 hf
          refine z_bipush C (v := (-2)) dX7_edge_40 (by decide) ?_
          cases hf
          exact hret _ _ dX7_edge_42
      · replace hf := if_t c40 hf
        refine z_iconst C (v := (-1)) dX7_edge_28 (by decide) ?_
        cases hf
        exact hret _ _ dX7_edge_29
def rmX7_end : Room := { frames := 1, cells := 0, slots := 0, locals := 25 }
theorem zdX7_end : yX7_end.cls = RX7 ∧ yX7_end.cls ≠ "java/lang/invoke/MethodHandle" ∧ yX7_end.cls ≠ "java/lang/invoke/VarHandle" ∧ (parseMethodDescriptor yX7_end.desc).map (fun d => d.parameters.length) = some 1 := by decide +kernel
theorem kiX7_end_X7 : ∀ w ∈ wsX70, w ∈ wsX7_end := by decide +kernel
theorem kfX7_end_170 : Cond.fieldLink RX7 170 "ShapeJudgeModel" "taped" "I" ∈ wsX7_end := by decide +kernel
def s_X7_end (m : Mem) (a1 : Int32) : Option (Int32 × Mem) :=
  (s_X7_in (a1.toInt64) 0 (m 0 37).toInt64).bind fun r2 => (if r2 = 0 then (some ((-1), m)) else (bn (m 0 37) fun x3 => bn (sto m 0 37 a1) fun m4 => some (x3, m4)))
set_option maxRecDepth 100000 in
set_option maxHeartbeats 4000000 in
theorem c_X7_end (l : Launch) (w : ZW) {m : Mem} {a1 : Int32} {r9 : Int32} {m9 : Mem}  (hf : s_X7_end m a1 = some (r9, m9)) : zCi MM l w yX7_end wsX7_end rmX7_end [.ref (w.2.1 0), .int a1] m m9 r9 := by
  refine z_met_i MM_ok (own := RX7) (by decide +kernel) rfl rfl (Nat.le_of_ble_eq_true rfl) ?_
  intro K C hKw hKl hret
  subst hKw
  subst hKl
  unfold s_X7_end at hf
  show zGo MM K m [(0, .ref ((zw K).2.1 0)), (1, .int a1)] 0 []
  refine z_iload_n C 1 dX7_end_0 rfl rfl ?_
  refine z_i2l C dX7_end_1 ?_
  refine z_lconst C (v := 0) dX7_end_2 rfl ?_
  refine z_aload_n C 0 dX7_end_3 rfl rfl ?_
  refine z_geti C (Nat.le_of_ble_eq_true rfl) rfl rfl 37 (Nat.le_of_ble_eq_true rfl) rfl kiX7_end_X7 kfX7_end_170 dX7_end_4 ?_
  refine z_i2l C dX7_end_7 ?_
  obtain ⟨r2, hc1, hf⟩ := zb_el hf
  refine z_cSi C (c_X7_in _ _ hc1) rfl gX7_end_X7_in rfl rfl zdX7_in.2 rfl ⟨Nat.le_of_ble_eq_true rfl, Nat.le_of_ble_eq_true rfl⟩ (Nat.le_of_ble_eq_true rfl) dX7_end_8 rfl ?_
  refine z_if_ne (tgt := 16) C dX7_end_11 (by decide) (fun c5 => ?_) (fun c5 => ?_)
  · replace hf := if_f c5 hf
    refine z_aload_n C 0 dX7_end_16 rfl rfl ?_
    refine z_geti C (Nat.le_of_ble_eq_true rfl) rfl rfl 37 (Nat.le_of_ble_eq_true rfl) rfl kiX7_end_X7 kfX7_end_170 dX7_end_17 ?_
    refine z_topi (fun x3 e_x3 => ?_)
    replace hf := bn_to e_x3 hf
    refine z_istore_n C (lv2 := [(0, .ref ((zw K).2.1 0)), (1, .int a1), (2, .int x3)]) [1, 2, 0] dX7_end_20 rfl (Nat.le_of_ble_eq_true rfl) rfl ?_
    refine z_aload_n C 0 dX7_end_21 rfl rfl ?_
    refine z_iload_n C 1 dX7_end_22 rfl rfl ?_
    refine z_puti C (Nat.le_of_ble_eq_true rfl) rfl rfl 37 (Nat.le_of_ble_eq_true rfl) rfl kiX7_end_X7 kfX7_end_170 tyX7 tyX7_ok nmX7 rfl rfl dX7_end_23 ?_
    refine z_nm (fun m4 e_m4 => ?_)
    replace hf := bn_to e_m4 hf
    refine z_iload_n C 2 dX7_end_26 rfl rfl ?_
    cases hf
    exact hret _ _ dX7_end_27
  · replace hf := if_t c5 hf
    refine z_iconst C (v := (-1)) dX7_end_14 (by decide) ?_
    cases hf
    exact hret _ _ dX7_end_15
def rmX7_fails : Room := { frames := 0, cells := 0, slots := 0, locals := 0 }
theorem zdX7_fails : yX7_fails.cls = RX7 ∧ yX7_fails.cls ≠ "java/lang/invoke/MethodHandle" ∧ yX7_fails.cls ≠ "java/lang/invoke/VarHandle" ∧ (parseMethodDescriptor yX7_fails.desc).map (fun d => d.parameters.length) = some 2 := by decide +kernel
theorem kiX7_fails_X7 : ∀ w ∈ wsX70, w ∈ wsX7_fails := by decide +kernel
theorem kfX7_fails_177 : Cond.fieldLink RX7 177 "ShapeJudgeModel" "fault" "I" ∈ wsX7_fails := by decide +kernel
theorem kfX7_fails_180 : Cond.fieldLink RX7 180 "ShapeJudgeModel" "wrongAt" "I" ∈ wsX7_fails := by decide +kernel
def s_X7_fails (m : Mem) (a1 : Int32) (a2 : Int32) : Option (Mem) :=
  (if (m 0 42) = 0 then (bn (sto m 0 42 a1) fun m1 => bn (sto m1 0 43 a2) fun m2 => some m2) else (some m))
set_option maxRecDepth 100000 in
set_option maxHeartbeats 4000000 in
theorem c_X7_fails (l : Launch) (w : ZW) {m : Mem} {a1 : Int32} {a2 : Int32} {m9 : Mem}  (hf : s_X7_fails m a1 a2 = some m9) : zCv MM l w yX7_fails wsX7_fails rmX7_fails [.ref (w.2.1 0), .int a1, .int a2] m m9 := by
  refine z_met_v MM_ok (own := RX7) (by decide +kernel) rfl rfl (Nat.le_of_ble_eq_true rfl) ?_
  intro K C hKw hKl hret
  subst hKw
  subst hKl
  unfold s_X7_fails at hf
  show zGo MM K m [(0, .ref ((zw K).2.1 0)), (1, .int a1), (2, .int a2)] 0 []
  refine z_aload_n C 0 dX7_fails_0 rfl rfl ?_
  refine z_geti C (Nat.le_of_ble_eq_true rfl) rfl rfl 42 (Nat.le_of_ble_eq_true rfl) rfl kiX7_fails_X7 kfX7_fails_177 dX7_fails_1 ?_
  refine z_if_ne (tgt := 17) C dX7_fails_4 (by decide) (fun c3 => ?_) (fun c3 => ?_)
  · replace hf := if_f c3 hf
    cases hf
    exact hret _ _ dX7_fails_17
  · replace hf := if_t c3 hf
    refine z_aload_n C 0 dX7_fails_7 rfl rfl ?_
    refine z_iload_n C 1 dX7_fails_8 rfl rfl ?_
    refine z_puti C (Nat.le_of_ble_eq_true rfl) rfl rfl 42 (Nat.le_of_ble_eq_true rfl) rfl kiX7_fails_X7 kfX7_fails_177 tyX7 tyX7_ok nmX7 rfl rfl dX7_fails_9 ?_
    refine z_nm (fun m1 e_m1 => ?_)
    replace hf := bn_to e_m1 hf
    refine z_aload_n C 0 dX7_fails_12 rfl rfl ?_
    refine z_iload_n C 2 dX7_fails_13 rfl rfl ?_
    refine z_puti C (Nat.le_of_ble_eq_true rfl) rfl rfl 43 (Nat.le_of_ble_eq_true rfl) rfl kiX7_fails_X7 kfX7_fails_180 tyX7 tyX7_ok nmX7 rfl rfl dX7_fails_14 ?_
    refine z_nm (fun m2 e_m2 => ?_)
    replace hf := bn_to e_m2 hf
    cases hf
    exact hret _ _ dX7_fails_17
def rmX7_fault : Room := { frames := 0, cells := 0, slots := 0, locals := 0 }
theorem zdX7_fault : yX7_fault.cls = RX7 ∧ yX7_fault.cls ≠ "java/lang/invoke/MethodHandle" ∧ yX7_fault.cls ≠ "java/lang/invoke/VarHandle" ∧ (parseMethodDescriptor yX7_fault.desc).map (fun d => d.parameters.length) = some 0 := by decide +kernel
theorem kiX7_fault_X7 : ∀ w ∈ wsX70, w ∈ wsX7_fault := by decide +kernel
theorem kfX7_fault_177 : Cond.fieldLink RX7 177 "ShapeJudgeModel" "fault" "I" ∈ wsX7_fault := by decide +kernel
def s_X7_fault (m : Mem)  : Option (Int32) :=
  some (m 0 42)
set_option maxRecDepth 100000 in
set_option maxHeartbeats 4000000 in
theorem c_X7_fault (l : Launch) (w : ZW) {m : Mem}  {r9 : Int32}  (hf : s_X7_fault m  = some r9) : zCi MM l w yX7_fault wsX7_fault rmX7_fault [.ref (w.2.1 0)] m m r9 := by
  refine z_met_i MM_ok (own := RX7) (by decide +kernel) rfl rfl (Nat.le_of_ble_eq_true rfl) ?_
  intro K C hKw hKl hret
  subst hKw
  subst hKl
  unfold s_X7_fault at hf
  show zGo MM K m [(0, .ref ((zw K).2.1 0))] 0 []
  refine z_aload_n C 0 dX7_fault_0 rfl rfl ?_
  refine z_geti C (Nat.le_of_ble_eq_true rfl) rfl rfl 42 (Nat.le_of_ble_eq_true rfl) rfl kiX7_fault_X7 kfX7_fault_177 dX7_fault_1 ?_
  cases hf
  exact hret _ _ dX7_fault_4
def rmX7_put : Room := { frames := 0, cells := 0, slots := 0, locals := 0 }
theorem zdX7_put : yX7_put.cls = RX7 ∧ yX7_put.cls ≠ "java/lang/invoke/MethodHandle" ∧ yX7_put.cls ≠ "java/lang/invoke/VarHandle" ∧ (parseMethodDescriptor yX7_put.desc).map (fun d => d.parameters.length) = some 1 := by decide +kernel
theorem kiX7_put_X7 : ∀ w ∈ wsX70, w ∈ wsX7_put := by decide +kernel
theorem kfX7_put_107 : Cond.fieldLink RX7 107 "ShapeJudgeModel" "tape" "[I" ∈ wsX7_put := by decide +kernel
theorem kfX7_put_170 : Cond.fieldLink RX7 170 "ShapeJudgeModel" "taped" "I" ∈ wsX7_put := by decide +kernel
def t_X7_put_3 (a1 : Int32) (i1 : Int32) (m2 : Mem) : Option ((Int32 × Mem) ⊕ (Mem)) :=
  (if i1 < 0 then (some (.inr m2)) else (ck (zin (m2 0 37) 400 = true) (bn (sto m2 33 (Int32.toNatClampNeg (m2 0 37)) ((a1 >>> (i1 &&& 31)) &&& 255)) fun m4 => bn (sto m4 0 37 ((m4 0 37) + 1)) fun m5 => bn (i1 + (-8)) fun x6 => some (.inl (x6, m5)))))
def l_X7_put_3 (a1 : Int32) (n : Nat) (i1 : Int32) (m2 : Mem) : Option (Mem) := zlp n (fun a => t_X7_put_3 a1 a.1 a.2) (i1, m2)
def s_X7_put (m : Mem) (a1 : Int32) : Option (Mem) :=
  ((l_X7_put_3 a1 FU 24 m).bind fun m8 => some m8)
set_option maxRecDepth 100000 in
set_option maxHeartbeats 4000000 in
theorem w_X7_put_3 {K : ZK} (C : zOK MM K cX7_put 3 none RX7 wsX7_put rmX7_put) {a1 : Int32}  {o0 : Mem} (hk : zGo MM K o0 [] 39 []) : ∀ (n : Nat) (i1 : Int32) (m2 : Mem), l_X7_put_3 a1 n i1 m2 = some o0 → zGo MM K m2 [(0, .ref ((zw K).2.1 0)), (1, .int a1), (2, .int i1)] 3 [] := by
  intro n
  induction n with
  | zero =>
    intro i1 m2 hf
    cases hf
  | succ n ih =>
    intro i1 m2 hf
    obtain ⟨z, hf, hz⟩ := zlp_el hf
    replace hf : t_X7_put_3 a1 i1 m2 = some z := hf
    unfold t_X7_put_3 at hf
    refine z_iload_n C 2 dX7_put_3 rfl rfl ?_
    refine z_if_lt (tgt := 39) C dX7_put_4 (by decide) (fun c7 => ?_) (fun c7 => ?_)
    · replace hf := if_t c7 hf
      cases hf
      replace hz := zlz_r hz
      cases hz
      exact z_sub [] rfl hk
    · replace hf := if_f c7 hf
      refine z_aload_n C 0 dX7_put_7 rfl rfl ?_
      refine z_getr C (t := 33) (Nat.le_of_ble_eq_true rfl) rfl rfl 36 (Nat.le_of_ble_eq_true rfl) rfl kiX7_put_X7 kfX7_put_107 dX7_put_8 ?_
      refine z_aload_n C 0 dX7_put_11 rfl rfl ?_
      refine z_geti C (Nat.le_of_ble_eq_true rfl) rfl rfl 37 (Nat.le_of_ble_eq_true rfl) rfl kiX7_put_X7 kfX7_put_170 dX7_put_12 ?_
      refine z_iload_n C 1 dX7_put_15 rfl rfl ?_
      refine z_iload_n C 2 dX7_put_16 rfl rfl ?_
      refine z_ishr C dX7_put_17 ?_
      refine z_sipush C (v := 255) dX7_put_18 rfl ?_
      refine z_iand C dX7_put_21 ?_
      obtain ⟨hi3, hf⟩ := ck_el hf
      refine z_iast C (k := 33) (Nat.le_of_ble_eq_true rfl) rfl hi3 dX7_put_22 ?_
      refine z_nm (fun m4 e_m4 => ?_)
      replace hf := bn_to e_m4 hf
      refine z_aload_n C 0 dX7_put_23 rfl rfl ?_
      refine z_dup_a C dX7_put_24 ?_
      refine z_geti C (Nat.le_of_ble_eq_true rfl) rfl rfl 37 (Nat.le_of_ble_eq_true rfl) rfl kiX7_put_X7 kfX7_put_170 dX7_put_25 ?_
      refine z_iconst C (v := 1) dX7_put_28 rfl ?_
      refine z_iadd C dX7_put_29 ?_
      refine z_puti C (Nat.le_of_ble_eq_true rfl) rfl rfl 37 (Nat.le_of_ble_eq_true rfl) rfl kiX7_put_X7 kfX7_put_170 tyX7 tyX7_ok nmX7 rfl rfl dX7_put_30 ?_
      refine z_nm (fun m5 e_m5 => ?_)
      replace hf := bn_to e_m5 hf
      obtain ⟨x6, e_x6⟩ : ∃ y : Int32, y = i1 + (-8) := ⟨_, rfl⟩
      replace hf := bn_to e_x6 hf
      refine z_iinc C (lv2 := [(0, .ref ((zw K).2.1 0)), (1, .int a1), (2, .int x6)]) 2 [1, 2, 0] dX7_put_33 (by decide) rfl (Nat.le_of_ble_eq_true rfl) e_x6 rfl ?_
      refine z_goto (tgt := 3) C dX7_put_36 (by decide) ?_
      cases hf
      exact z_sub [0, 1, 2] rfl (ih x6 m5 hz)
set_option maxRecDepth 100000 in
set_option maxHeartbeats 4000000 in
theorem c_X7_put (l : Launch) (w : ZW) {m : Mem} {a1 : Int32} {m9 : Mem}  (hf : s_X7_put m a1 = some m9) : zCv MM l w yX7_put wsX7_put rmX7_put [.ref (w.2.1 0), .int a1] m m9 := by
  refine z_met_v MM_ok (own := RX7) (by decide +kernel) rfl rfl (Nat.le_of_ble_eq_true rfl) ?_
  intro K C hKw hKl hret
  subst hKw
  subst hKl
  unfold s_X7_put at hf
  show zGo MM K m [(0, .ref ((zw K).2.1 0)), (1, .int a1)] 0 []
  refine z_bipush C (v := 24) dX7_put_0 rfl ?_
  refine z_istore_n C (lv2 := [(0, .ref ((zw K).2.1 0)), (1, .int a1), (2, .int 24)]) [1, 2, 0] dX7_put_2 rfl (Nat.le_of_ble_eq_true rfl) rfl ?_
  obtain ⟨m8, hg, hf⟩ := zb_el hf
  refine z_sub [0, 1, 2] rfl (w_X7_put_3 C  ?_ _ _ _ hg)
  clear hg
  cases hf
  exact hret _ _ dX7_put_39
def rmX7_feed : Room := { frames := 1, cells := 0, slots := 0, locals := 22 }
theorem zdX7_feed : yX7_feed.cls = RX7 ∧ yX7_feed.cls ≠ "java/lang/invoke/MethodHandle" ∧ yX7_feed.cls ≠ "java/lang/invoke/VarHandle" ∧ (parseMethodDescriptor yX7_feed.desc).map (fun d => d.parameters.length) = some 5 := by decide +kernel
theorem kiX7_feed_X7 : ∀ w ∈ wsX70, w ∈ wsX7_feed := by decide +kernel
theorem kfX7_feed_170 : Cond.fieldLink RX7 170 "ShapeJudgeModel" "taped" "I" ∈ wsX7_feed := by decide +kernel
def s_X7_feed (m : Mem) (a1 : Int32) (a2 : Int32) (a3 : Int32) (a4 : Int32) (a5 : Int32) : Option (Int32 × Mem) :=
  (if ((m 0 37) + 20) ≤ 400 then ((s_X7_put m a1).bind fun m2 => (s_X7_put m2 a2).bind fun m4 => (s_X7_put m4 a3).bind fun m6 => (s_X7_put m6 a4).bind fun m8 => (s_X7_put m8 a5).bind fun m10 => some ((m10 0 37), m10)) else (some ((-3), m)))
set_option maxRecDepth 100000 in
set_option maxHeartbeats 4000000 in
theorem c_X7_feed (l : Launch) (w : ZW) {m : Mem} {a1 : Int32} {a2 : Int32} {a3 : Int32} {a4 : Int32} {a5 : Int32} {r9 : Int32} {m9 : Mem}  (hf : s_X7_feed m a1 a2 a3 a4 a5 = some (r9, m9)) : zCi MM l w yX7_feed wsX7_feed rmX7_feed [.ref (w.2.1 0), .int a1, .int a2, .int a3, .int a4, .int a5] m m9 r9 := by
  refine z_met_i MM_ok (own := RX7) (by decide +kernel) rfl rfl (Nat.le_of_ble_eq_true rfl) ?_
  intro K C hKw hKl hret
  subst hKw
  subst hKl
  unfold s_X7_feed at hf
  show zGo MM K m [(0, .ref ((zw K).2.1 0)), (1, .int a1), (2, .int a2), (3, .int a3), (4, .int a4), (5, .int a5)] 0 []
  refine z_aload_n C 0 dX7_feed_0 rfl rfl ?_
  refine z_geti C (Nat.le_of_ble_eq_true rfl) rfl rfl 37 (Nat.le_of_ble_eq_true rfl) rfl kiX7_feed_X7 kfX7_feed_170 dX7_feed_1 ?_
  refine z_bipush C (v := 20) dX7_feed_4 rfl ?_
  refine z_iadd C dX7_feed_6 ?_
  refine z_sipush C (v := 400) dX7_feed_7 rfl ?_
  refine z_icmp_le (tgt := 16) C dX7_feed_10 (by decide) (fun c11 => ?_) (fun c11 => ?_)
  · replace hf := if_t c11 hf
    refine z_aload_n C 0 dX7_feed_16 rfl rfl ?_
    refine z_iload_n C 1 dX7_feed_17 rfl rfl ?_
    obtain ⟨m2, hc1, hf⟩ := zb_el hf
    refine z_cVv C (c_X7_put _ _ hc1) rfl gX7_feed_X7_put rfl rfl zdX7_put rfl (Nat.le_of_ble_eq_true rfl) rfl rfl rfl ⟨Nat.le_of_ble_eq_true rfl, Nat.le_of_ble_eq_true rfl⟩ (Nat.le_of_ble_eq_true rfl) dX7_feed_18 rfl ?_
    refine z_aload_n C 0 dX7_feed_21 rfl rfl ?_
    refine z_iload_n C 2 dX7_feed_22 rfl rfl ?_
    obtain ⟨m4, hc3, hf⟩ := zb_el hf
    refine z_cVv C (c_X7_put _ _ hc3) rfl gX7_feed_X7_put rfl rfl zdX7_put rfl (Nat.le_of_ble_eq_true rfl) rfl rfl rfl ⟨Nat.le_of_ble_eq_true rfl, Nat.le_of_ble_eq_true rfl⟩ (Nat.le_of_ble_eq_true rfl) dX7_feed_23 rfl ?_
    refine z_aload_n C 0 dX7_feed_26 rfl rfl ?_
    refine z_iload_n C 3 dX7_feed_27 rfl rfl ?_
    obtain ⟨m6, hc5, hf⟩ := zb_el hf
    refine z_cVv C (c_X7_put _ _ hc5) rfl gX7_feed_X7_put rfl rfl zdX7_put rfl (Nat.le_of_ble_eq_true rfl) rfl rfl rfl ⟨Nat.le_of_ble_eq_true rfl, Nat.le_of_ble_eq_true rfl⟩ (Nat.le_of_ble_eq_true rfl) dX7_feed_28 rfl ?_
    refine z_aload_n C 0 dX7_feed_31 rfl rfl ?_
    refine z_iload C 4 dX7_feed_32 rfl ?_
    obtain ⟨m8, hc7, hf⟩ := zb_el hf
    refine z_cVv C (c_X7_put _ _ hc7) rfl gX7_feed_X7_put rfl rfl zdX7_put rfl (Nat.le_of_ble_eq_true rfl) rfl rfl rfl ⟨Nat.le_of_ble_eq_true rfl, Nat.le_of_ble_eq_true rfl⟩ (Nat.le_of_ble_eq_true rfl) dX7_feed_34 rfl ?_
    refine z_aload_n C 0 dX7_feed_37 rfl rfl ?_
    refine z_iload C 5 dX7_feed_38 rfl ?_
    obtain ⟨m10, hc9, hf⟩ := zb_el hf
    refine z_cVv C (c_X7_put _ _ hc9) rfl gX7_feed_X7_put rfl rfl zdX7_put rfl (Nat.le_of_ble_eq_true rfl) rfl rfl rfl ⟨Nat.le_of_ble_eq_true rfl, Nat.le_of_ble_eq_true rfl⟩ (Nat.le_of_ble_eq_true rfl) dX7_feed_40 rfl ?_
    refine z_aload_n C 0 dX7_feed_43 rfl rfl ?_
    refine z_geti C (Nat.le_of_ble_eq_true rfl) rfl rfl 37 (Nat.le_of_ble_eq_true rfl) rfl kiX7_feed_X7 kfX7_feed_170 dX7_feed_44 ?_
    cases hf
    exact hret _ _ dX7_feed_47
  · replace hf := if_f c11 hf
    refine z_bipush C (v := (-3)) dX7_feed_13 (by decide) ?_
    cases hf
    exact hret _ _ dX7_feed_15
def rmX7_fits : Room := { frames := 6, cells := 0, slots := 0, locals := 153 }
theorem zdX7_fits : yX7_fits.cls = RX7 ∧ yX7_fits.cls ≠ "java/lang/invoke/MethodHandle" ∧ yX7_fits.cls ≠ "java/lang/invoke/VarHandle" ∧ (parseMethodDescriptor yX7_fits.desc).map (fun d => d.parameters.length) = some 2 := by decide +kernel
theorem kiX7_fits_X7 : ∀ w ∈ wsX70, w ∈ wsX7_fits := by decide +kernel
theorem kfX7_fits_119 : Cond.fieldLink RX7 119 "ShapeJudgeModel" "fitting" "[Z" ∈ wsX7_fits := by decide +kernel
def s_X7_fits (m : Mem) (a1 : Int32) (a2 : Int32) : Option (Int32 × Mem) :=
  (s_X7_areBoth m a1 a2).bind fun r2 => (if r2 = 0 then (some ((-1), m)) else ((s_X7_read m).bind fun m4 => ck (zin (((10 : Int32) * a2) + a1) 60 = true) ((if (m4 37 (Int32.toNatClampNeg (((10 : Int32) * a2) + a1))) = 0 then (some (0, m4)) else (some (1, m4))))))
set_option maxRecDepth 100000 in
set_option maxHeartbeats 4000000 in
theorem c_X7_fits (l : Launch) (w : ZW) {m : Mem} {a1 : Int32} {a2 : Int32} {r9 : Int32} {m9 : Mem}  (hf : s_X7_fits m a1 a2 = some (r9, m9)) : zCi MM l w yX7_fits wsX7_fits rmX7_fits [.ref (w.2.1 0), .int a1, .int a2] m m9 r9 := by
  refine z_met_i MM_ok (own := RX7) (by decide +kernel) rfl rfl (Nat.le_of_ble_eq_true rfl) ?_
  intro K C hKw hKl hret
  subst hKw
  subst hKl
  unfold s_X7_fits at hf
  show zGo MM K m [(0, .ref ((zw K).2.1 0)), (1, .int a1), (2, .int a2)] 0 []
  refine z_aload_n C 0 dX7_fits_0 rfl rfl ?_
  refine z_iload_n C 1 dX7_fits_1 rfl rfl ?_
  refine z_iload_n C 2 dX7_fits_2 rfl rfl ?_
  obtain ⟨r2, hc1, hf⟩ := zb_el hf
  refine z_cVi C (c_X7_areBoth _ _ hc1) rfl gX7_fits_X7_areBoth rfl rfl zdX7_areBoth rfl (Nat.le_of_ble_eq_true rfl) rfl rfl rfl ⟨Nat.le_of_ble_eq_true rfl, Nat.le_of_ble_eq_true rfl⟩ (Nat.le_of_ble_eq_true rfl) dX7_fits_3 rfl ?_
  refine z_if_ne (tgt := 11) C dX7_fits_6 (by decide) (fun c7 => ?_) (fun c7 => ?_)
  · replace hf := if_f c7 hf
    refine z_aload_n C 0 dX7_fits_11 rfl rfl ?_
    obtain ⟨m4, hc3, hf⟩ := zb_el hf
    refine z_cVv C (c_X7_read _ _ hc3) rfl gX7_fits_X7_read rfl rfl zdX7_read rfl (Nat.le_of_ble_eq_true rfl) rfl rfl rfl ⟨Nat.le_of_ble_eq_true rfl, Nat.le_of_ble_eq_true rfl⟩ (Nat.le_of_ble_eq_true rfl) dX7_fits_12 rfl ?_
    refine z_aload_n C 0 dX7_fits_15 rfl rfl ?_
    refine z_getr C (t := 37) (Nat.le_of_ble_eq_true rfl) rfl rfl 48 (Nat.le_of_ble_eq_true rfl) rfl kiX7_fits_X7 kfX7_fits_119 dX7_fits_16 ?_
    refine z_bipush C (v := 10) dX7_fits_19 rfl ?_
    refine z_iload_n C 2 dX7_fits_21 rfl rfl ?_
    refine z_imul C dX7_fits_22 ?_
    refine z_iload_n C 1 dX7_fits_23 rfl rfl ?_
    refine z_iadd C dX7_fits_24 ?_
    obtain ⟨hi5, hf⟩ := ck_el hf
    refine z_zald C (k := 37) (Nat.le_of_ble_eq_true rfl) rfl hi5 dX7_fits_25 ?_
    refine z_if_eq (tgt := 33) C dX7_fits_26 (by decide) (fun c6 => ?_) (fun c6 => ?_)
    · replace hf := if_t c6 hf
      refine z_iconst C (v := 0) dX7_fits_33 rfl ?_
      cases hf
      exact hret _ _ dX7_fits_34
    · replace hf := if_f c6 hf
      refine z_iconst C (v := 1) dX7_fits_29 rfl ?_
      refine z_goto (tgt := 34) C dX7_fits_30 (by decide) ?_
      cases hf
      exact hret _ _ dX7_fits_34
  · replace hf := if_t c7 hf
    refine z_iconst C (v := (-1)) dX7_fits_9 (by decide) ?_
    cases hf
    exact hret _ _ dX7_fits_10
def rmX7_from : Room := { frames := 2, cells := 0, slots := 0, locals := 46 }
theorem zdX7_from : yX7_from.cls = RX7 ∧ yX7_from.cls ≠ "java/lang/invoke/MethodHandle" ∧ yX7_from.cls ≠ "java/lang/invoke/VarHandle" ∧ (parseMethodDescriptor yX7_from.desc).map (fun d => d.parameters.length) = some 3 := by decide +kernel
theorem kiX7_from_X7 : ∀ w ∈ wsX70, w ∈ wsX7_from := by decide +kernel
theorem kfX7_from_17 : Cond.fieldLink RX7 17 "ShapeJudgeModel" "many" "[I" ∈ wsX7_from := by decide +kernel
theorem kfX7_from_23 : Cond.fieldLink RX7 23 "ShapeJudgeModel" "tos" "[I" ∈ wsX7_from := by decide +kernel
theorem kfX7_from_20 : Cond.fieldLink RX7 20 "ShapeJudgeModel" "names" "[I" ∈ wsX7_from := by decide +kernel
def s_X7_from (m : Mem) (a1 : Int32) (a2 : Int32) (a3 : Int32) : Option (Int32) :=
  (s_X7_isNode m a1).bind fun r2 => (if r2 = 0 then (some (-1)) else (ck (zin a1 10 = true) ((s_X7_in (a2.toInt64) 0 ((m 3 (Int32.toNatClampNeg a1)) - 1).toInt64).bind fun r5 => (if r5 = 0 then (some (-1)) else ((s_X7_in (a3.toInt64) 0 1).bind fun r7 => (if r7 = 0 then (some (-1)) else ((if a3 = 0 then (ck (zin (((5 : Int32) * a1) + a2) 50 = true) (some (m 4 (Int32.toNatClampNeg (((5 : Int32) * a1) + a2))))) else (ck (zin (((5 : Int32) * a1) + a2) 50 = true) (some (m 5 (Int32.toNatClampNeg (((5 : Int32) * a1) + a2)))))))))))))
set_option maxRecDepth 100000 in
set_option maxHeartbeats 4000000 in
theorem c_X7_from (l : Launch) (w : ZW) {m : Mem} {a1 : Int32} {a2 : Int32} {a3 : Int32} {r9 : Int32}  (hf : s_X7_from m a1 a2 a3 = some r9) : zCi MM l w yX7_from wsX7_from rmX7_from [.ref (w.2.1 0), .int a1, .int a2, .int a3] m m r9 := by
  refine z_met_i MM_ok (own := RX7) (by decide +kernel) rfl rfl (Nat.le_of_ble_eq_true rfl) ?_
  intro K C hKw hKl hret
  subst hKw
  subst hKl
  unfold s_X7_from at hf
  show zGo MM K m [(0, .ref ((zw K).2.1 0)), (1, .int a1), (2, .int a2), (3, .int a3)] 0 []
  refine z_aload_n C 0 dX7_from_0 rfl rfl ?_
  refine z_iload_n C 1 dX7_from_1 rfl rfl ?_
  obtain ⟨r2, hc1, hf⟩ := zb_el hf
  refine z_cVi C (c_X7_isNode _ _ hc1) rfl gX7_from_X7_isNode rfl rfl zdX7_isNode rfl (Nat.le_of_ble_eq_true rfl) rfl rfl rfl ⟨Nat.le_of_ble_eq_true rfl, Nat.le_of_ble_eq_true rfl⟩ (Nat.le_of_ble_eq_true rfl) dX7_from_2 rfl ?_
  refine z_if_eq (tgt := 36) C dX7_from_5 (by decide) (fun c13 => ?_) (fun c13 => ?_)
  · replace hf := if_t c13 hf
    refine z_iconst C (v := (-1)) dX7_from_36 (by decide) ?_
    cases hf
    exact hret _ _ dX7_from_37
  · replace hf := if_f c13 hf
    refine z_iload_n C 2 dX7_from_8 rfl rfl ?_
    refine z_i2l C dX7_from_9 ?_
    refine z_lconst C (v := 0) dX7_from_10 rfl ?_
    refine z_aload_n C 0 dX7_from_11 rfl rfl ?_
    refine z_getr C (t := 3) (Nat.le_of_ble_eq_true rfl) rfl rfl 3 (Nat.le_of_ble_eq_true rfl) rfl kiX7_from_X7 kfX7_from_17 dX7_from_12 ?_
    refine z_iload_n C 1 dX7_from_15 rfl rfl ?_
    obtain ⟨hi3, hf⟩ := ck_el hf
    refine z_iald C (k := 3) (Nat.le_of_ble_eq_true rfl) rfl hi3 dX7_from_16 ?_
    refine z_iconst C (v := 1) dX7_from_17 rfl ?_
    refine z_isub C dX7_from_18 ?_
    refine z_i2l C dX7_from_19 ?_
    obtain ⟨r5, hc4, hf⟩ := zb_el hf
    refine z_cSi C (c_X7_in _ _ hc4) rfl gX7_from_X7_in rfl rfl zdX7_in.2 rfl ⟨Nat.le_of_ble_eq_true rfl, Nat.le_of_ble_eq_true rfl⟩ (Nat.le_of_ble_eq_true rfl) dX7_from_20 rfl ?_
    refine z_if_eq (tgt := 36) C dX7_from_23 (by decide) (fun c12 => ?_) (fun c12 => ?_)
    · replace hf := if_t c12 hf
      refine z_iconst C (v := (-1)) dX7_from_36 (by decide) ?_
      cases hf
      exact hret _ _ dX7_from_37
    · replace hf := if_f c12 hf
      refine z_iload_n C 3 dX7_from_26 rfl rfl ?_
      refine z_i2l C dX7_from_27 ?_
      refine z_lconst C (v := 0) dX7_from_28 rfl ?_
      refine z_lconst C (v := 1) dX7_from_29 rfl ?_
      obtain ⟨r7, hc6, hf⟩ := zb_el hf
      refine z_cSi C (c_X7_in _ _ hc6) rfl gX7_from_X7_in rfl rfl zdX7_in.2 rfl ⟨Nat.le_of_ble_eq_true rfl, Nat.le_of_ble_eq_true rfl⟩ (Nat.le_of_ble_eq_true rfl) dX7_from_30 rfl ?_
      refine z_if_ne (tgt := 38) C dX7_from_33 (by decide) (fun c11 => ?_) (fun c11 => ?_)
      · replace hf := if_f c11 hf
        refine z_iload_n C 3 dX7_from_38 rfl rfl ?_
        refine z_if_ne (tgt := 55) C dX7_from_39 (by decide) (fun c10 => ?_) (fun c10 => ?_)
        · replace hf := if_f c10 hf
          refine z_aload_n C 0 dX7_from_55 rfl rfl ?_
          refine z_getr C (t := 5) (Nat.le_of_ble_eq_true rfl) rfl rfl 5 (Nat.le_of_ble_eq_true rfl) rfl kiX7_from_X7 kfX7_from_23 dX7_from_56 ?_
          refine z_iconst C (v := 5) dX7_from_59 rfl ?_
          refine z_iload_n C 1 dX7_from_60 rfl rfl ?_
          refine z_imul C dX7_from_61 ?_
          refine z_iload_n C 2 dX7_from_62 rfl rfl ?_
          refine z_iadd C dX7_from_63 ?_
          obtain ⟨hi8, hf⟩ := ck_el hf
          refine z_iald C (k := 5) (Nat.le_of_ble_eq_true rfl) rfl hi8 dX7_from_64 ?_
          cases hf
          exact hret _ _ dX7_from_65
        · replace hf := if_t c10 hf
          refine z_aload_n C 0 dX7_from_42 rfl rfl ?_
          refine z_getr C (t := 4) (Nat.le_of_ble_eq_true rfl) rfl rfl 4 (Nat.le_of_ble_eq_true rfl) rfl kiX7_from_X7 kfX7_from_20 dX7_from_43 ?_
          refine z_iconst C (v := 5) dX7_from_46 rfl ?_
          refine z_iload_n C 1 dX7_from_47 rfl rfl ?_
          refine z_imul C dX7_from_48 ?_
          refine z_iload_n C 2 dX7_from_49 rfl rfl ?_
          refine z_iadd C dX7_from_50 ?_
          obtain ⟨hi9, hf⟩ := ck_el hf
          refine z_iald C (k := 4) (Nat.le_of_ble_eq_true rfl) rfl hi9 dX7_from_51 ?_
          refine z_goto (tgt := 65) C dX7_from_52 (by decide) ?_
          cases hf
          exact hret _ _ dX7_from_65
      · replace hf := if_t c11 hf
        refine z_iconst C (v := (-1)) dX7_from_36 (by decide) ?_
        cases hf
        exact hret _ _ dX7_from_37
