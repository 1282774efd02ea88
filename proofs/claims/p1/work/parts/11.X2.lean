def rmX2_presentEdges : Room := { frames := 0, cells := 0, slots := 0, locals := 0 }
theorem zdX2_presentEdges : yX2_presentEdges.cls = RX2 ∧ yX2_presentEdges.cls ≠ "java/lang/invoke/MethodHandle" ∧ yX2_presentEdges.cls ≠ "java/lang/invoke/VarHandle" ∧ (parseMethodDescriptor yX2_presentEdges.desc).map (fun d => d.parameters.length) = some 1 := by decide +kernel
theorem kiX2_presentEdges_X2 : ∀ w ∈ wsX20, w ∈ wsX2_presentEdges := by decide +kernel
theorem kfX2_presentEdges_24 : Cond.fieldLink RX2 24 "ShapeJudge$Judge" "graph" "LShapeJudge$Graph;" ∈ wsX2_presentEdges := by decide +kernel
theorem kiX2_presentEdges_X1 : ∀ w ∈ wsX10, w ∈ wsX2_presentEdges := by decide +kernel
theorem kfX2_presentEdges_71 : Cond.fieldLink RX2 71 "ShapeJudge$Graph" "degrees" "[I" ∈ wsX2_presentEdges := by decide +kernel
theorem kfX2_presentEdges_74 : Cond.fieldLink RX2 74 "ShapeJudge$Judge" "thinNode" "I" ∈ wsX2_presentEdges := by decide +kernel
theorem kfX2_presentEdges_77 : Cond.fieldLink RX2 77 "ShapeJudge$Judge" "goneEdges" "I" ∈ wsX2_presentEdges := by decide +kernel
def s_X2_presentEdges (m : Mem) (a1 : Int32) : Option (Int32) :=
  ck (zin a1 10 = true) (bn (((1 : Int32) <<< ((m 4 (Int32.toNatClampNeg a1)) &&& 31)) - 1) fun x2 => (if a1 = (m 39 8) then (some (x2 &&& ((m 39 9) ^^^ (-1)))) else (some x2)))
set_option maxRecDepth 100000 in
set_option maxHeartbeats 4000000 in
theorem c_X2_presentEdges (l : Launch) (w : ZW) {m : Mem} {a1 : Int32} {r9 : Int32}  (hf : s_X2_presentEdges m a1 = some r9) : zCi MX l w yX2_presentEdges wsX2_presentEdges rmX2_presentEdges [.ref (w.2.1 39), .int a1] m m r9 := by
  refine z_met_i MX_ok (own := RX2) (by decide +kernel) rfl rfl (Nat.le_of_ble_eq_true rfl) ?_
  intro K C hKw hKl hret
  subst hKw
  subst hKl
  unfold s_X2_presentEdges at hf
  show zGo MX K m [(0, .ref ((zw K).2.1 39)), (1, .int a1)] 0 []
  refine z_iconst C (v := 1) dX2_presentEdges_0 rfl ?_
  refine z_aload_n C 0 dX2_presentEdges_1 rfl rfl ?_
  refine z_getr C (t := 1) (Nat.le_of_ble_eq_true rfl) rfl rfl 0 (Nat.le_of_ble_eq_true rfl) rfl kiX2_presentEdges_X2 kfX2_presentEdges_24 dX2_presentEdges_2 ?_
  refine z_getr C (t := 4) (Nat.le_of_ble_eq_true rfl) rfl rfl 4 (Nat.le_of_ble_eq_true rfl) rfl kiX2_presentEdges_X1 kfX2_presentEdges_71 dX2_presentEdges_5 ?_
  refine z_iload_n C 1 dX2_presentEdges_8 rfl rfl ?_
  obtain ⟨hi1, hf⟩ := ck_el hf
  refine z_iald C (k := 4) (Nat.le_of_ble_eq_true rfl) rfl hi1 dX2_presentEdges_9 ?_
  refine z_ishl C dX2_presentEdges_10 ?_
  refine z_iconst C (v := 1) dX2_presentEdges_11 rfl ?_
  refine z_isub C dX2_presentEdges_12 ?_
  refine z_topi (fun x2 e_x2 => ?_)
  replace hf := bn_to e_x2 hf
  refine z_istore_n C (lv2 := [(0, .ref ((zw K).2.1 39)), (1, .int a1), (2, .int x2)]) [1, 2, 0] dX2_presentEdges_13 rfl (Nat.le_of_ble_eq_true rfl) rfl ?_
  refine z_iload_n C 1 dX2_presentEdges_14 rfl rfl ?_
  refine z_aload_n C 0 dX2_presentEdges_15 rfl rfl ?_
  refine z_geti C (Nat.le_of_ble_eq_true rfl) rfl rfl 8 (Nat.le_of_ble_eq_true rfl) rfl kiX2_presentEdges_X2 kfX2_presentEdges_74 dX2_presentEdges_16 ?_
  refine z_icmp_ne (tgt := 33) C dX2_presentEdges_19 (by decide) (fun c3 => ?_) (fun c3 => ?_)
  · replace hf := if_f c3 hf
    refine z_iload_n C 2 dX2_presentEdges_33 rfl rfl ?_
    cases hf
    exact hret _ _ dX2_presentEdges_34
  · replace hf := if_t c3 hf
    refine z_iload_n C 2 dX2_presentEdges_22 rfl rfl ?_
    refine z_aload_n C 0 dX2_presentEdges_23 rfl rfl ?_
    refine z_geti C (Nat.le_of_ble_eq_true rfl) rfl rfl 9 (Nat.le_of_ble_eq_true rfl) rfl kiX2_presentEdges_X2 kfX2_presentEdges_77 dX2_presentEdges_24 ?_
    refine z_iconst C (v := (-1)) dX2_presentEdges_27 (by decide) ?_
    refine z_ixor C dX2_presentEdges_28 ?_
    refine z_iand C dX2_presentEdges_29 ?_
    refine z_goto (tgt := 34) C dX2_presentEdges_30 (by decide) ?_
    cases hf
    exact hret _ _ dX2_presentEdges_34
def rmX2_wantedEdges : Room := { frames := 1, cells := 0, slots := 0, locals := 22 }
theorem zdX2_wantedEdges : yX2_wantedEdges.cls = RX2 ∧ yX2_wantedEdges.cls ≠ "java/lang/invoke/MethodHandle" ∧ yX2_wantedEdges.cls ≠ "java/lang/invoke/VarHandle" ∧ (parseMethodDescriptor yX2_wantedEdges.desc).map (fun d => d.parameters.length) = some 2 := by decide +kernel
theorem kiX2_wantedEdges_X2 : ∀ w ∈ wsX20, w ∈ wsX2_wantedEdges := by decide +kernel
theorem kfX2_wantedEdges_24 : Cond.fieldLink RX2 24 "ShapeJudge$Judge" "graph" "LShapeJudge$Graph;" ∈ wsX2_wantedEdges := by decide +kernel
theorem kiX2_wantedEdges_X1 : ∀ w ∈ wsX10, w ∈ wsX2_wantedEdges := by decide +kernel
theorem kfX2_wantedEdges_71 : Cond.fieldLink RX2 71 "ShapeJudge$Graph" "degrees" "[I" ∈ wsX2_wantedEdges := by decide +kernel
theorem kfX2_wantedEdges_28 : Cond.fieldLink RX2 28 "ShapeJudge$Judge" "book" "LShapeJudge$Book;" ∈ wsX2_wantedEdges := by decide +kernel
theorem kiX2_wantedEdges_X0 : ∀ w ∈ wsX00, w ∈ wsX2_wantedEdges := by decide +kernel
theorem kfX2_wantedEdges_80 : Cond.fieldLink RX2 80 "ShapeJudge$Book" "names" "[I" ∈ wsX2_wantedEdges := by decide +kernel
theorem kfX2_wantedEdges_83 : Cond.fieldLink RX2 83 "ShapeJudge$Graph" "edgeName" "[I" ∈ wsX2_wantedEdges := by decide +kernel
def t_X2_wantedEdges_5 (m : Mem) (a1 : Int32) (a2 : Int32) (i1 : Int32) (i2 : Int32) : Option ((Int32 × Int32) ⊕ (Int32)) :=
  ck (zin a1 10 = true) ((if (m 4 (Int32.toNatClampNeg a1)) ≤ i2 then (some (.inr i1)) else (zbk (m 39 1) fun b4 => ck (zin a2 6 = true) (ck (zin ((a1 * 5) + i2) 50 = true) ((if (((m (b4 + 4) (Int32.toNatClampNeg a2)) >>> ((m 5 (Int32.toNatClampNeg ((a1 * 5) + i2))) &&& 31)) &&& 1) = 0 then (bn (i2 + 1) fun x7 => some (.inl (i1, x7))) else (bn (i1 ||| ((1 : Int32) <<< (i2 &&& 31))) fun x8 => bn (i2 + 1) fun x9 => some (.inl (x8, x9)))))))))
def l_X2_wantedEdges_5 (m : Mem) (a1 : Int32) (a2 : Int32) (n : Nat) (i1 : Int32) (i2 : Int32) : Option (Int32) := zlp n (fun a => t_X2_wantedEdges_5 m a1 a2 a.1 a.2) (i1, i2)
def s_X2_wantedEdges (m : Mem) (a1 : Int32) (a2 : Int32) : Option (Int32) :=
  ((l_X2_wantedEdges_5 m a1 a2 FU 0 0).bind fun y12 => (s_X2_presentEdges m a1).bind fun r14 => some (y12 &&& r14))
set_option maxRecDepth 100000 in
set_option maxHeartbeats 4000000 in
theorem w_X2_wantedEdges_5 {K : ZK} (C : zOK MX K cX2_wantedEdges 5 (some .int) RX2 wsX2_wantedEdges rmX2_wantedEdges) {m : Mem} {a1 : Int32} {a2 : Int32}  {o0 : Int32} (hk : zGo MX K m [(0, .ref ((zw K).2.1 39)), (1, .int a1), (3, .int o0)] 61 []) : ∀ (n : Nat) (i1 : Int32) (i2 : Int32), l_X2_wantedEdges_5 m a1 a2 n i1 i2 = some o0 → zGo MX K m [(0, .ref ((zw K).2.1 39)), (1, .int a1), (2, .int a2), (3, .int i1), (4, .int i2)] 5 [] := by
  intro n
  induction n with
  | zero =>
    intro i1 i2 hf
    cases hf
  | succ n ih =>
    intro i1 i2 hf
    obtain ⟨z, hf, hz⟩ := zlp_el hf
    replace hf : t_X2_wantedEdges_5 m a1 a2 i1 i2 = some z := hf
    unfold t_X2_wantedEdges_5 at hf
    refine z_iload C 4 dX2_wantedEdges_5 rfl ?_
    refine z_aload_n C 0 dX2_wantedEdges_7 rfl rfl ?_
    refine z_getr C (t := 1) (Nat.le_of_ble_eq_true rfl) rfl rfl 0 (Nat.le_of_ble_eq_true rfl) rfl kiX2_wantedEdges_X2 kfX2_wantedEdges_24 dX2_wantedEdges_8 ?_
    refine z_getr C (t := 4) (Nat.le_of_ble_eq_true rfl) rfl rfl 4 (Nat.le_of_ble_eq_true rfl) rfl kiX2_wantedEdges_X1 kfX2_wantedEdges_71 dX2_wantedEdges_11 ?_
    refine z_iload_n C 1 dX2_wantedEdges_14 rfl rfl ?_
    obtain ⟨hi3, hf⟩ := ck_el hf
    refine z_iald C (k := 4) (Nat.le_of_ble_eq_true rfl) rfl hi3 dX2_wantedEdges_15 ?_
    refine z_icmp_ge (tgt := 61) C dX2_wantedEdges_16 (by decide) (fun c11 => ?_) (fun c11 => ?_)
    · replace hf := if_t c11 hf
      cases hf
      replace hz := zlz_r hz
      cases hz
      exact z_sub [0, 1, 3] rfl hk
    · replace hf := if_f c11 hf
      refine z_aload_n C 0 dX2_wantedEdges_19 rfl rfl ?_
      obtain ⟨b4, hb4, e_b4, hf⟩ := zbk_el hf
      refine z_getb C (b := b4) (Nat.le_of_ble_eq_true rfl) rfl rfl 1 (Nat.le_of_ble_eq_true rfl) rfl kiX2_wantedEdges_X2 kfX2_wantedEdges_28 (isb_lt hb4) e_b4 dX2_wantedEdges_20 ?_
      refine z_getr C (t := b4 + 4) (isb_k0 hb4) (isb_L0 hb4) rfl 6 (Nat.le_of_ble_eq_true rfl) rfl kiX2_wantedEdges_X0 kfX2_wantedEdges_80 dX2_wantedEdges_23 ?_
      refine z_iload_n C 2 dX2_wantedEdges_26 rfl rfl ?_
      obtain ⟨hi5, hf⟩ := ck_el hf
      refine z_iald C (k := (b4 + 4)) (isb_k4 hb4) (isb_L4 hb4) hi5 dX2_wantedEdges_27 ?_
      refine z_aload_n C 0 dX2_wantedEdges_28 rfl rfl ?_
      refine z_getr C (t := 1) (Nat.le_of_ble_eq_true rfl) rfl rfl 0 (Nat.le_of_ble_eq_true rfl) rfl kiX2_wantedEdges_X2 kfX2_wantedEdges_24 dX2_wantedEdges_29 ?_
      refine z_getr C (t := 5) (Nat.le_of_ble_eq_true rfl) rfl rfl 5 (Nat.le_of_ble_eq_true rfl) rfl kiX2_wantedEdges_X1 kfX2_wantedEdges_83 dX2_wantedEdges_32 ?_
      refine z_iload_n C 1 dX2_wantedEdges_35 rfl rfl ?_
      refine z_iconst C (v := 5) dX2_wantedEdges_36 rfl ?_
      refine z_imul C dX2_wantedEdges_37 ?_
      refine z_iload C 4 dX2_wantedEdges_38 rfl ?_
      refine z_iadd C dX2_wantedEdges_40 ?_
      obtain ⟨hi6, hf⟩ := ck_el hf
      refine z_iald C (k := 5) (Nat.le_of_ble_eq_true rfl) rfl hi6 dX2_wantedEdges_41 ?_
      refine z_ishr C dX2_wantedEdges_42 ?_
      refine z_iconst C (v := 1) dX2_wantedEdges_43 rfl ?_
      refine z_iand C dX2_wantedEdges_44 ?_
      refine z_if_eq (tgt := 55) C dX2_wantedEdges_45 (by decide) (fun c10 => ?_) (fun c10 => ?_)
      · replace hf := if_t c10 hf
        obtain ⟨x7, e_x7⟩ : ∃ y : Int32, y = i2 + 1 := ⟨_, rfl⟩
        replace hf := bn_to e_x7 hf
        refine z_iinc C (lv2 := [(0, .ref ((zw K).2.1 39)), (1, .int a1), (2, .int a2), (3, .int i1), (4, .int x7)]) 4 [1, 2, 3, 4, 0] dX2_wantedEdges_55 rfl rfl (Nat.le_of_ble_eq_true rfl) e_x7 rfl ?_
        refine z_goto (tgt := 5) C dX2_wantedEdges_58 (by decide) ?_
        cases hf
        exact z_sub [0, 1, 2, 3, 4] rfl (ih i1 x7 hz)
      · replace hf := if_f c10 hf
        refine z_iload_n C 3 dX2_wantedEdges_48 rfl rfl ?_
        refine z_iconst C (v := 1) dX2_wantedEdges_49 rfl ?_
        refine z_iload C 4 dX2_wantedEdges_50 rfl ?_
        refine z_ishl C dX2_wantedEdges_52 ?_
        refine z_ior C dX2_wantedEdges_53 ?_
        refine z_topi (fun x8 e_x8 => ?_)
        replace hf := bn_to e_x8 hf
        refine z_istore_n C (lv2 := [(0, .ref ((zw K).2.1 39)), (1, .int a1), (2, .int a2), (3, .int x8), (4, .int i2)]) [1, 2, 3, 0, 4] dX2_wantedEdges_54 rfl (Nat.le_of_ble_eq_true rfl) rfl ?_
        obtain ⟨x9, e_x9⟩ : ∃ y : Int32, y = i2 + 1 := ⟨_, rfl⟩
        replace hf := bn_to e_x9 hf
        refine z_iinc C (lv2 := [(0, .ref ((zw K).2.1 39)), (1, .int a1), (2, .int a2), (3, .int x8), (4, .int x9)]) 4 [1, 2, 3, 4, 0] dX2_wantedEdges_55 rfl rfl (Nat.le_of_ble_eq_true rfl) e_x9 rfl ?_
        refine z_goto (tgt := 5) C dX2_wantedEdges_58 (by decide) ?_
        cases hf
        exact z_sub [0, 1, 2, 3, 4] rfl (ih x8 x9 hz)
set_option maxRecDepth 100000 in
set_option maxHeartbeats 4000000 in
theorem c_X2_wantedEdges (l : Launch) (w : ZW) {m : Mem} {a1 : Int32} {a2 : Int32} {r9 : Int32}  (hf : s_X2_wantedEdges m a1 a2 = some r9) : zCi MX l w yX2_wantedEdges wsX2_wantedEdges rmX2_wantedEdges [.ref (w.2.1 39), .int a1, .int a2] m m r9 := by
  refine z_met_i MX_ok (own := RX2) (by decide +kernel) rfl rfl (Nat.le_of_ble_eq_true rfl) ?_
  intro K C hKw hKl hret
  subst hKw
  subst hKl
  unfold s_X2_wantedEdges at hf
  show zGo MX K m [(0, .ref ((zw K).2.1 39)), (1, .int a1), (2, .int a2)] 0 []
  refine z_iconst C (v := 0) dX2_wantedEdges_0 rfl ?_
  refine z_istore_n C (lv2 := [(0, .ref ((zw K).2.1 39)), (1, .int a1), (2, .int a2), (3, .int 0)]) [1, 2, 3, 0] dX2_wantedEdges_1 rfl (Nat.le_of_ble_eq_true rfl) rfl ?_
  refine z_iconst C (v := 0) dX2_wantedEdges_2 rfl ?_
  refine z_istore C (lv2 := [(0, .ref ((zw K).2.1 39)), (1, .int a1), (2, .int a2), (3, .int 0), (4, .int 0)]) [1, 2, 3, 4, 0] dX2_wantedEdges_3 (Nat.le_of_ble_eq_true rfl) rfl ?_
  obtain ⟨y12, hg, hf⟩ := zb_el hf
  refine z_sub [0, 1, 2, 3, 4] rfl (w_X2_wantedEdges_5 C  ?_ _ _ _ hg)
  clear hg
  refine z_iload_n C 2 dX2_wantedEdges_61 rfl rfl ?_
  refine z_aload_n C 0 dX2_wantedEdges_62 rfl rfl ?_
  refine z_iload_n C 1 dX2_wantedEdges_63 rfl rfl ?_
  obtain ⟨r14, hc13, hf⟩ := zb_el hf
  refine z_cVi C (c_X2_presentEdges _ _ hc13) rfl gX2_wantedEdges_X2_presentEdges rfl rfl zdX2_presentEdges rfl (Nat.le_of_ble_eq_true rfl) rfl rfl rfl ⟨Nat.le_of_ble_eq_true rfl, Nat.le_of_ble_eq_true rfl⟩ (Nat.le_of_ble_eq_true rfl) dX2_wantedEdges_64 rfl ?_
  refine z_iand C dX2_wantedEdges_67 ?_
  cases hf
  exact hret _ _ dX2_wantedEdges_68
def rmX2_passes : Room := { frames := 0, cells := 0, slots := 0, locals := 0 }
theorem zdX2_passes : yX2_passes.cls = RX2 ∧ yX2_passes.cls ≠ "java/lang/invoke/MethodHandle" ∧ yX2_passes.cls ≠ "java/lang/invoke/VarHandle" ∧ (parseMethodDescriptor yX2_passes.desc).map (fun d => d.parameters.length) = some 3 := by decide +kernel
theorem kiX2_passes_X2 : ∀ w ∈ wsX20, w ∈ wsX2_passes := by decide +kernel
theorem kfX2_passes_28 : Cond.fieldLink RX2 28 "ShapeJudge$Judge" "book" "LShapeJudge$Book;" ∈ wsX2_passes := by decide +kernel
theorem kiX2_passes_X0 : ∀ w ∈ wsX00, w ∈ wsX2_passes := by decide +kernel
theorem kfX2_passes_129 : Cond.fieldLink RX2 129 "ShapeJudge$Book" "partFirst" "[I" ∈ wsX2_passes := by decide +kernel
theorem kfX2_passes_132 : Cond.fieldLink RX2 132 "ShapeJudge$Book" "partTest" "[I" ∈ wsX2_passes := by decide +kernel
theorem kfX2_passes_9 : Cond.fieldLink RX2 9 "ShapeJudge$Judge" "fitting" "[I" ∈ wsX2_passes := by decide +kernel
theorem kfX2_passes_24 : Cond.fieldLink RX2 24 "ShapeJudge$Judge" "graph" "LShapeJudge$Graph;" ∈ wsX2_passes := by decide +kernel
theorem kiX2_passes_X1 : ∀ w ∈ wsX10, w ∈ wsX2_passes := by decide +kernel
theorem kfX2_passes_135 : Cond.fieldLink RX2 135 "ShapeJudge$Graph" "valued" "[Z" ∈ wsX2_passes := by decide +kernel
theorem kfX2_passes_138 : Cond.fieldLink RX2 138 "ShapeJudge$Graph" "values" "[I" ∈ wsX2_passes := by decide +kernel
theorem kfX2_passes_141 : Cond.fieldLink RX2 141 "ShapeJudge$Book" "partSecond" "[I" ∈ wsX2_passes := by decide +kernel
def s_X2_passes (m : Mem) (a1 : Int32) (a2 : Int32) (tr3 : Nat) : Option (Int32) :=
  zbk (m 39 1) fun b1 => ck (zin a2 36 = true) (bn (m (b1 + 11) (Int32.toNatClampNeg a2)) fun x3 => zbk (m 39 1) fun b4 => ck (zin a2 36 = true) ((if (m (b4 + 10) (Int32.toNatClampNeg a2)) = 0 then (some 1) else ((if (m (b4 + 10) (Int32.toNatClampNeg a2)) = 1 then ((if x3 < 0 then (some 0) else ((if 6 ≤ x3 then (some 0) else (ck (zin x3 6 = true) ((if (((m tr3 (Int32.toNatClampNeg x3)) >>> (a1 &&& 31)) &&& 1) = 0 then (some 0) else (some 1)))))))) else ((if (m (b4 + 10) (Int32.toNatClampNeg a2)) = 2 then ((if x3 < 0 then (some 0) else ((if 6 ≤ x3 then (some 0) else (ck (zin x3 6 = true) ((if (((m 40 (Int32.toNatClampNeg x3)) >>> (a1 &&& 31)) &&& 1) = 0 then (some 1) else (some 0)))))))) else (ck (zin a1 10 = true) ((if (m 2 (Int32.toNatClampNeg a1)) = 0 then (some 0) else (ck (zin a1 10 = true) ((if (m 3 (Int32.toNatClampNeg a1)) < x3 then (some 0) else (ck (zin a1 10 = true) (zbk (m 39 1) fun b20 => ck (zin a2 36 = true) ((if (m (b20 + 12) (Int32.toNatClampNeg a2)) < (m 3 (Int32.toNatClampNeg a1)) then (some 0) else (some 1))))))))))))))))))
set_option maxRecDepth 100000 in
set_option maxHeartbeats 4000000 in
theorem c_X2_passes (l : Launch) (w : ZW) {m : Mem} {a1 : Int32} {a2 : Int32} {tr3 : Nat} {r9 : Int32} (htr3 : istr tr3) (hf : s_X2_passes m a1 a2 tr3 = some r9) : zCi MX l w yX2_passes wsX2_passes rmX2_passes [.ref (w.2.1 39), .int a1, .int a2, .ref (w.2.1 tr3)] m m r9 := by
  refine z_met_z MX_ok (own := RX2) (by decide +kernel) rfl rfl (Nat.le_of_ble_eq_true rfl) ?_
  intro K C hKw hKl hret
  subst hKw
  subst hKl
  unfold s_X2_passes at hf
  show zGo MX K m [(0, .ref ((zw K).2.1 39)), (1, .int a1), (2, .int a2), (3, .ref ((zw K).2.1 tr3))] 0 []
  refine z_aload_n C 0 dX2_passes_0 rfl rfl ?_
  obtain ⟨b1, hb1, e_b1, hf⟩ := zbk_el hf
  refine z_getb C (b := b1) (Nat.le_of_ble_eq_true rfl) rfl rfl 1 (Nat.le_of_ble_eq_true rfl) rfl kiX2_passes_X2 kfX2_passes_28 (isb_lt hb1) e_b1 dX2_passes_1 ?_
  refine z_getr C (t := b1 + 11) (isb_k0 hb1) (isb_L0 hb1) rfl 13 (Nat.le_of_ble_eq_true rfl) rfl kiX2_passes_X0 kfX2_passes_129 dX2_passes_4 ?_
  refine z_iload_n C 2 dX2_passes_7 rfl rfl ?_
  obtain ⟨hi2, hf⟩ := ck_el hf
  refine z_iald C (k := (b1 + 11)) (isb_k11 hb1) (isb_L11 hb1) hi2 dX2_passes_8 ?_
  refine z_topi (fun x3 e_x3 => ?_)
  replace hf := bn_to e_x3 hf
  refine z_istore C (lv2 := [(0, .ref ((zw K).2.1 39)), (1, .int a1), (2, .int a2), (3, .ref ((zw K).2.1 tr3)), (4, .int x3)]) [1, 2, 3, 4, 0] dX2_passes_9 (Nat.le_of_ble_eq_true rfl) rfl ?_
  refine z_aload_n C 0 dX2_passes_11 rfl rfl ?_
  obtain ⟨b4, hb4, e_b4, hf⟩ := zbk_el hf
  refine z_getb C (b := b4) (Nat.le_of_ble_eq_true rfl) rfl rfl 1 (Nat.le_of_ble_eq_true rfl) rfl kiX2_passes_X2 kfX2_passes_28 (isb_lt hb4) e_b4 dX2_passes_12 ?_
  refine z_getr C (t := b4 + 10) (isb_k0 hb4) (isb_L0 hb4) rfl 12 (Nat.le_of_ble_eq_true rfl) rfl kiX2_passes_X0 kfX2_passes_132 dX2_passes_15 ?_
  refine z_iload_n C 2 dX2_passes_18 rfl rfl ?_
  obtain ⟨hi5, hf⟩ := ck_el hf
  refine z_iald C (k := (b4 + 10)) (isb_k10 hb4) (isb_L10 hb4) hi5 dX2_passes_19 ?_
  refine zby (c := (m (b4 + 10) (Int32.toNatClampNeg a2)) = 0) (fun c6 => ?_) (fun c6 => ?_)
  · replace hf := if_t c6 hf
    refine z_tab (v := 0) (tgt := 48) (off := 28) C c6 dX2_passes_20 (by decide) (by decide) rfl (by decide) ?_
    refine z_iconst C (v := 1) dX2_passes_48 rfl ?_
    cases hf
    exact hret _ _ dX2_passes_49 (Or.inr rfl)
  · replace hf := if_f c6 hf
    refine zby (c := (m (b4 + 10) (Int32.toNatClampNeg a2)) = 1) (fun c7 => ?_) (fun c7 => ?_)
    · replace hf := if_t c7 hf
      refine z_tab (v := 1) (tgt := 50) (off := 30) C c7 dX2_passes_20 (by decide) (by decide) rfl (by decide) ?_
      refine z_iload C 4 dX2_passes_50 rfl ?_
      refine z_if_lt (tgt := 77) C dX2_passes_52 (by decide) (fun c11 => ?_) (fun c11 => ?_)
      · replace hf := if_t c11 hf
        refine z_iconst C (v := 0) dX2_passes_77 rfl ?_
        cases hf
        exact hret _ _ dX2_passes_78 (Or.inl rfl)
      · replace hf := if_f c11 hf
        refine z_iload C 4 dX2_passes_55 rfl ?_
        refine z_bipush C (v := 6) dX2_passes_57 rfl ?_
        refine z_icmp_ge (tgt := 77) C dX2_passes_59 (by decide) (fun c10 => ?_) (fun c10 => ?_)
        · replace hf := if_t c10 hf
          refine z_iconst C (v := 0) dX2_passes_77 rfl ?_
          cases hf
          exact hret _ _ dX2_passes_78 (Or.inl rfl)
        · replace hf := if_f c10 hf
          refine z_aload_n C 3 dX2_passes_62 rfl rfl ?_
          refine z_iload C 4 dX2_passes_63 rfl ?_
          obtain ⟨hi8, hf⟩ := ck_el hf
          refine z_iald C (k := tr3) (istr_k htr3) (istr_L htr3) hi8 dX2_passes_65 ?_
          refine z_iload_n C 1 dX2_passes_66 rfl rfl ?_
          refine z_ishr C dX2_passes_67 ?_
          refine z_iconst C (v := 1) dX2_passes_68 rfl ?_
          refine z_iand C dX2_passes_69 ?_
          refine z_if_eq (tgt := 77) C dX2_passes_70 (by decide) (fun c9 => ?_) (fun c9 => ?_)
          · replace hf := if_t c9 hf
            refine z_iconst C (v := 0) dX2_passes_77 rfl ?_
            cases hf
            exact hret _ _ dX2_passes_78 (Or.inl rfl)
          · replace hf := if_f c9 hf
            refine z_iconst C (v := 1) dX2_passes_73 rfl ?_
            refine z_goto (tgt := 78) C dX2_passes_74 (by decide) ?_
            cases hf
            exact hret _ _ dX2_passes_78 (Or.inr rfl)
    · replace hf := if_f c7 hf
      refine zby (c := (m (b4 + 10) (Int32.toNatClampNeg a2)) = 2) (fun c12 => ?_) (fun c12 => ?_)
      · replace hf := if_t c12 hf
        refine z_tab (v := 2) (tgt := 79) (off := 59) C c12 dX2_passes_20 (by decide) (by decide) rfl (by decide) ?_
        refine z_iload C 4 dX2_passes_79 rfl ?_
        refine z_if_lt (tgt := 109) C dX2_passes_81 (by decide) (fun c16 => ?_) (fun c16 => ?_)
        · replace hf := if_t c16 hf
          refine z_iconst C (v := 0) dX2_passes_109 rfl ?_
          cases hf
          exact hret _ _ dX2_passes_110 (Or.inl rfl)
        · replace hf := if_f c16 hf
          refine z_iload C 4 dX2_passes_84 rfl ?_
          refine z_bipush C (v := 6) dX2_passes_86 rfl ?_
          refine z_icmp_ge (tgt := 109) C dX2_passes_88 (by decide) (fun c15 => ?_) (fun c15 => ?_)
          · replace hf := if_t c15 hf
            refine z_iconst C (v := 0) dX2_passes_109 rfl ?_
            cases hf
            exact hret _ _ dX2_passes_110 (Or.inl rfl)
          · replace hf := if_f c15 hf
            refine z_aload_n C 0 dX2_passes_91 rfl rfl ?_
            refine z_getr C (t := 40) (Nat.le_of_ble_eq_true rfl) rfl rfl 2 (Nat.le_of_ble_eq_true rfl) rfl kiX2_passes_X2 kfX2_passes_9 dX2_passes_92 ?_
            refine z_iload C 4 dX2_passes_95 rfl ?_
            obtain ⟨hi13, hf⟩ := ck_el hf
            refine z_iald C (k := 40) (Nat.le_of_ble_eq_true rfl) rfl hi13 dX2_passes_97 ?_
            refine z_iload_n C 1 dX2_passes_98 rfl rfl ?_
            refine z_ishr C dX2_passes_99 ?_
            refine z_iconst C (v := 1) dX2_passes_100 rfl ?_
            refine z_iand C dX2_passes_101 ?_
            refine z_if_ne (tgt := 109) C dX2_passes_102 (by decide) (fun c14 => ?_) (fun c14 => ?_)
            · replace hf := if_f c14 hf
              refine z_iconst C (v := 0) dX2_passes_109 rfl ?_
              cases hf
              exact hret _ _ dX2_passes_110 (Or.inl rfl)
            · replace hf := if_t c14 hf
              refine z_iconst C (v := 1) dX2_passes_105 rfl ?_
              refine z_goto (tgt := 110) C dX2_passes_106 (by decide) ?_
              cases hf
              exact hret _ _ dX2_passes_110 (Or.inr rfl)
      · replace hf := if_f c12 hf
        refine z_tabd (tgt := 111) C dX2_passes_20 (ztab_out (n := 3) (Nat.le_of_ble_eq_true rfl) (lt_s (lt_s (lt_s lt_0 c6) c7) c12)) (by decide) ?_
        refine z_aload_n C 0 dX2_passes_111 rfl rfl ?_
        refine z_getr C (t := 1) (Nat.le_of_ble_eq_true rfl) rfl rfl 0 (Nat.le_of_ble_eq_true rfl) rfl kiX2_passes_X2 kfX2_passes_24 dX2_passes_112 ?_
        refine z_getr C (t := 2) (Nat.le_of_ble_eq_true rfl) rfl rfl 2 (Nat.le_of_ble_eq_true rfl) rfl kiX2_passes_X1 kfX2_passes_135 dX2_passes_115 ?_
        refine z_iload_n C 1 dX2_passes_118 rfl rfl ?_
        obtain ⟨hi17, hf⟩ := ck_el hf
        refine z_zald C (k := 2) (Nat.le_of_ble_eq_true rfl) rfl hi17 dX2_passes_119 ?_
        refine z_if_eq (tgt := 162) C dX2_passes_120 (by decide) (fun c24 => ?_) (fun c24 => ?_)
        · replace hf := if_t c24 hf
          refine z_iconst C (v := 0) dX2_passes_162 rfl ?_
          cases hf
          exact hret _ _ dX2_passes_163 (Or.inl rfl)
        · replace hf := if_f c24 hf
          refine z_aload_n C 0 dX2_passes_123 rfl rfl ?_
          refine z_getr C (t := 1) (Nat.le_of_ble_eq_true rfl) rfl rfl 0 (Nat.le_of_ble_eq_true rfl) rfl kiX2_passes_X2 kfX2_passes_24 dX2_passes_124 ?_
          refine z_getr C (t := 3) (Nat.le_of_ble_eq_true rfl) rfl rfl 3 (Nat.le_of_ble_eq_true rfl) rfl kiX2_passes_X1 kfX2_passes_138 dX2_passes_127 ?_
          refine z_iload_n C 1 dX2_passes_130 rfl rfl ?_
          obtain ⟨hi18, hf⟩ := ck_el hf
          refine z_iald C (k := 3) (Nat.le_of_ble_eq_true rfl) rfl hi18 dX2_passes_131 ?_
          refine z_iload C 4 dX2_passes_132 rfl ?_
          refine z_icmp_lt (tgt := 162) C dX2_passes_134 (by decide) (fun c23 => ?_) (fun c23 => ?_)
          · replace hf := if_t c23 hf
            refine z_iconst C (v := 0) dX2_passes_162 rfl ?_
            cases hf
            exact hret _ _ dX2_passes_163 (Or.inl rfl)
          · replace hf := if_f c23 hf
            refine z_aload_n C 0 dX2_passes_137 rfl rfl ?_
            refine z_getr C (t := 1) (Nat.le_of_ble_eq_true rfl) rfl rfl 0 (Nat.le_of_ble_eq_true rfl) rfl kiX2_passes_X2 kfX2_passes_24 dX2_passes_138 ?_
            refine z_getr C (t := 3) (Nat.le_of_ble_eq_true rfl) rfl rfl 3 (Nat.le_of_ble_eq_true rfl) rfl kiX2_passes_X1 kfX2_passes_138 dX2_passes_141 ?_
            refine z_iload_n C 1 dX2_passes_144 rfl rfl ?_
            obtain ⟨hi19, hf⟩ := ck_el hf
            refine z_iald C (k := 3) (Nat.le_of_ble_eq_true rfl) rfl hi19 dX2_passes_145 ?_
            refine z_aload_n C 0 dX2_passes_146 rfl rfl ?_
            obtain ⟨b20, hb20, e_b20, hf⟩ := zbk_el hf
            refine z_getb C (b := b20) (Nat.le_of_ble_eq_true rfl) rfl rfl 1 (Nat.le_of_ble_eq_true rfl) rfl kiX2_passes_X2 kfX2_passes_28 (isb_lt hb20) e_b20 dX2_passes_147 ?_
            refine z_getr C (t := b20 + 12) (isb_k0 hb20) (isb_L0 hb20) rfl 14 (Nat.le_of_ble_eq_true rfl) rfl kiX2_passes_X0 kfX2_passes_141 dX2_passes_150 ?_
            refine z_iload_n C 2 dX2_passes_153 rfl rfl ?_
            obtain ⟨hi21, hf⟩ := ck_el hf
            refine z_iald C (k := (b20 + 12)) (isb_k12 hb20) (isb_L12 hb20) hi21 dX2_passes_154 ?_
            refine z_icmp_gt (tgt := 162) C dX2_passes_155 (by decide) (fun c22 => ?_) (fun c22 => ?_)
            · replace hf := if_t c22 hf
              refine z_iconst C (v := 0) dX2_passes_162 rfl ?_
              cases hf
              exact hret _ _ dX2_passes_163 (Or.inl rfl)
            · replace hf := if_f c22 hf
              refine z_iconst C (v := 1) dX2_passes_158 rfl ?_
              refine z_goto (tgt := 163) C dX2_passes_159 (by decide) ?_
              cases hf
              exact hret _ _ dX2_passes_163 (Or.inr rfl)
def rmX2_setsTaken : Room := { frames := 1, cells := 0, slots := 0, locals := 24 }
theorem zdX2_setsTaken : yX2_setsTaken.cls = RX2 ∧ yX2_setsTaken.cls ≠ "java/lang/invoke/MethodHandle" ∧ yX2_setsTaken.cls ≠ "java/lang/invoke/VarHandle" ∧ (parseMethodDescriptor yX2_setsTaken.desc).map (fun d => d.parameters.length) = some 3 := by decide +kernel
theorem kiX2_setsTaken_X2 : ∀ w ∈ wsX20, w ∈ wsX2_setsTaken := by decide +kernel
theorem kfX2_setsTaken_24 : Cond.fieldLink RX2 24 "ShapeJudge$Judge" "graph" "LShapeJudge$Graph;" ∈ wsX2_setsTaken := by decide +kernel
theorem kiX2_setsTaken_X1 : ∀ w ∈ wsX10, w ∈ wsX2_setsTaken := by decide +kernel
theorem kfX2_setsTaken_71 : Cond.fieldLink RX2 71 "ShapeJudge$Graph" "degrees" "[I" ∈ wsX2_setsTaken := by decide +kernel
theorem kfX2_setsTaken_18 : Cond.fieldLink RX2 18 "ShapeJudge$Judge" "allowed" "[I" ∈ wsX2_setsTaken := by decide +kernel
theorem kfX2_setsTaken_83 : Cond.fieldLink RX2 83 "ShapeJudge$Graph" "edgeName" "[I" ∈ wsX2_setsTaken := by decide +kernel
theorem kfX2_setsTaken_28 : Cond.fieldLink RX2 28 "ShapeJudge$Judge" "book" "LShapeJudge$Book;" ∈ wsX2_setsTaken := by decide +kernel
theorem kiX2_setsTaken_X0 : ∀ w ∈ wsX00, w ∈ wsX2_setsTaken := by decide +kernel
theorem kfX2_setsTaken_120 : Cond.fieldLink RX2 120 "ShapeJudge$Book" "partName" "[I" ∈ wsX2_setsTaken := by decide +kernel
theorem kfX2_setsTaken_123 : Cond.fieldLink RX2 123 "ShapeJudge$Graph" "edgeTo" "[I" ∈ wsX2_setsTaken := by decide +kernel
def t_X2_setsTaken_21 (m : Mem) (a1 : Int32) (a2 : Int32) (tr3 : Nat) (r2 : Int32) (x3 : Int32) (i4 : Int32) (i5 : Int32) : Option ((Int32 × Int32) ⊕ (Int32)) :=
  ck (zin a1 10 = true) ((if (m 4 (Int32.toNatClampNeg a1)) ≤ i5 then (some (.inr i4)) else (bn ((a1 * 5) + i5) fun x7 => (if ((r2 >>> (i5 &&& 31)) &&& 1) = 0 then (bn (i5 + 1) fun x8 => some (.inl (i4, x8))) else (ck (zin i5 5 = true) ((if ((m 42 (Int32.toNatClampNeg i5)) &&& x3) = 0 then (bn (i5 + 1) fun x10 => some (.inl (i4, x10))) else (ck (zin x7 50 = true) (zbk (m 39 1) fun b12 => ck (zin a2 36 = true) ((if (m 5 (Int32.toNatClampNeg x7)) = (m (b12 + 9) (Int32.toNatClampNeg a2)) then (ck (zin x7 50 = true) ((s_X2_passes m (m 6 (Int32.toNatClampNeg x7)) a2 tr3).bind fun r17 => (if r17 = 0 then (bn (i5 + 1) fun x18 => some (.inl (i4, x18))) else (bn (i4 ||| ((1 : Int32) <<< (((1 : Int32) <<< (i5 &&& 31)) &&& 31))) fun x19 => bn (i5 + 1) fun x20 => some (.inl (x19, x20)))))) else (bn (i5 + 1) fun x14 => some (.inl (i4, x14))))))))))))))
def l_X2_setsTaken_21 (m : Mem) (a1 : Int32) (a2 : Int32) (tr3 : Nat) (r2 : Int32) (x3 : Int32) (n : Nat) (i4 : Int32) (i5 : Int32) : Option (Int32) := zlp n (fun a => t_X2_setsTaken_21 m a1 a2 tr3 r2 x3 a.1 a.2) (i4, i5)
def s_X2_setsTaken (m : Mem) (a1 : Int32) (a2 : Int32) (tr3 : Nat) : Option (Int32) :=
  (s_X2_presentEdges m a1).bind fun r2 => bn ((1 : Int32) <<< ((a2 - a2 / 6 * 6) &&& 31)) fun x3 => ((l_X2_setsTaken_21 m a1 a2 tr3 r2 x3 FU 0 0).bind fun y26 => some y26)
set_option maxRecDepth 100000 in
set_option maxHeartbeats 4000000 in
theorem w_X2_setsTaken_21 {K : ZK} (C : zOK MX K cX2_setsTaken 9 (some .int) RX2 wsX2_setsTaken rmX2_setsTaken) {m : Mem} {a1 : Int32} {a2 : Int32} {tr3 : Nat} {r2 : Int32} {x3 : Int32} (htr3 : istr tr3) {o0 : Int32} (hk : zGo MX K m [(6, .int o0)] 124 []) : ∀ (n : Nat) (i4 : Int32) (i5 : Int32), l_X2_setsTaken_21 m a1 a2 tr3 r2 x3 n i4 i5 = some o0 → zGo MX K m [(0, .ref ((zw K).2.1 39)), (1, .int a1), (2, .int a2), (3, .ref ((zw K).2.1 tr3)), (4, .int r2), (5, .int x3), (6, .int i4), (7, .int i5)] 21 [] := by
  intro n
  induction n with
  | zero =>
    intro i4 i5 hf
    cases hf
  | succ n ih =>
    intro i4 i5 hf
    obtain ⟨z, hf, hz⟩ := zlp_el hf
    replace hf : t_X2_setsTaken_21 m a1 a2 tr3 r2 x3 i4 i5 = some z := hf
    unfold t_X2_setsTaken_21 at hf
    refine z_iload C 7 dX2_setsTaken_21 rfl ?_
    refine z_aload_n C 0 dX2_setsTaken_23 rfl rfl ?_
    refine z_getr C (t := 1) (Nat.le_of_ble_eq_true rfl) rfl rfl 0 (Nat.le_of_ble_eq_true rfl) rfl kiX2_setsTaken_X2 kfX2_setsTaken_24 dX2_setsTaken_24 ?_
    refine z_getr C (t := 4) (Nat.le_of_ble_eq_true rfl) rfl rfl 4 (Nat.le_of_ble_eq_true rfl) rfl kiX2_setsTaken_X1 kfX2_setsTaken_71 dX2_setsTaken_27 ?_
    refine z_iload_n C 1 dX2_setsTaken_30 rfl rfl ?_
    obtain ⟨hi6, hf⟩ := ck_el hf
    refine z_iald C (k := 4) (Nat.le_of_ble_eq_true rfl) rfl hi6 dX2_setsTaken_31 ?_
    refine z_icmp_ge (tgt := 124) C dX2_setsTaken_32 (by decide) (fun c25 => ?_) (fun c25 => ?_)
    · replace hf := if_t c25 hf
      cases hf
      replace hz := zlz_r hz
      cases hz
      exact z_sub [6] rfl hk
    · replace hf := if_f c25 hf
      refine z_iload_n C 1 dX2_setsTaken_35 rfl rfl ?_
      refine z_iconst C (v := 5) dX2_setsTaken_36 rfl ?_
      refine z_imul C dX2_setsTaken_37 ?_
      refine z_iload C 7 dX2_setsTaken_38 rfl ?_
      refine z_iadd C dX2_setsTaken_40 ?_
      refine z_topi (fun x7 e_x7 => ?_)
      replace hf := bn_to e_x7 hf
      refine z_istore C (lv2 := [(0, .ref ((zw K).2.1 39)), (1, .int a1), (2, .int a2), (3, .ref ((zw K).2.1 tr3)), (4, .int r2), (5, .int x3), (6, .int i4), (7, .int i5), (8, .int x7)]) [1, 2, 3, 4, 5, 6, 7, 8, 0] dX2_setsTaken_41 (Nat.le_of_ble_eq_true rfl) rfl ?_
      refine z_iload C 4 dX2_setsTaken_43 rfl ?_
      refine z_iload C 7 dX2_setsTaken_45 rfl ?_
      refine z_ishr C dX2_setsTaken_47 ?_
      refine z_iconst C (v := 1) dX2_setsTaken_48 rfl ?_
      refine z_iand C dX2_setsTaken_49 ?_
      refine z_if_eq (tgt := 118) C dX2_setsTaken_50 (by decide) (fun c24 => ?_) (fun c24 => ?_)
      · replace hf := if_t c24 hf
        obtain ⟨x8, e_x8⟩ : ∃ y : Int32, y = i5 + 1 := ⟨_, rfl⟩
        replace hf := bn_to e_x8 hf
        refine z_iinc C (lv2 := [(0, .ref ((zw K).2.1 39)), (1, .int a1), (2, .int a2), (3, .ref ((zw K).2.1 tr3)), (4, .int r2), (5, .int x3), (6, .int i4), (7, .int x8), (8, .int x7)]) 7 [1, 2, 3, 4, 5, 6, 7, 0, 8] dX2_setsTaken_118 rfl rfl (Nat.le_of_ble_eq_true rfl) e_x8 rfl ?_
        refine z_goto (tgt := 21) C dX2_setsTaken_121 (by decide) ?_
        cases hf
        exact z_sub [0, 1, 2, 3, 4, 5, 6, 7] rfl (ih i4 x8 hz)
      · replace hf := if_f c24 hf
        refine z_aload_n C 0 dX2_setsTaken_53 rfl rfl ?_
        refine z_getr C (t := 42) (Nat.le_of_ble_eq_true rfl) rfl rfl 6 (Nat.le_of_ble_eq_true rfl) rfl kiX2_setsTaken_X2 kfX2_setsTaken_18 dX2_setsTaken_54 ?_
        refine z_iload C 7 dX2_setsTaken_57 rfl ?_
        obtain ⟨hi9, hf⟩ := ck_el hf
        refine z_iald C (k := 42) (Nat.le_of_ble_eq_true rfl) rfl hi9 dX2_setsTaken_59 ?_
        refine z_iload C 5 dX2_setsTaken_60 rfl ?_
        refine z_iand C dX2_setsTaken_62 ?_
        refine z_if_eq (tgt := 118) C dX2_setsTaken_63 (by decide) (fun c23 => ?_) (fun c23 => ?_)
        · replace hf := if_t c23 hf
          obtain ⟨x10, e_x10⟩ : ∃ y : Int32, y = i5 + 1 := ⟨_, rfl⟩
          replace hf := bn_to e_x10 hf
          refine z_iinc C (lv2 := [(0, .ref ((zw K).2.1 39)), (1, .int a1), (2, .int a2), (3, .ref ((zw K).2.1 tr3)), (4, .int r2), (5, .int x3), (6, .int i4), (7, .int x10), (8, .int x7)]) 7 [1, 2, 3, 4, 5, 6, 7, 0, 8] dX2_setsTaken_118 rfl rfl (Nat.le_of_ble_eq_true rfl) e_x10 rfl ?_
          refine z_goto (tgt := 21) C dX2_setsTaken_121 (by decide) ?_
          cases hf
          exact z_sub [0, 1, 2, 3, 4, 5, 6, 7] rfl (ih i4 x10 hz)
        · replace hf := if_f c23 hf
          refine z_aload_n C 0 dX2_setsTaken_66 rfl rfl ?_
          refine z_getr C (t := 1) (Nat.le_of_ble_eq_true rfl) rfl rfl 0 (Nat.le_of_ble_eq_true rfl) rfl kiX2_setsTaken_X2 kfX2_setsTaken_24 dX2_setsTaken_67 ?_
          refine z_getr C (t := 5) (Nat.le_of_ble_eq_true rfl) rfl rfl 5 (Nat.le_of_ble_eq_true rfl) rfl kiX2_setsTaken_X1 kfX2_setsTaken_83 dX2_setsTaken_70 ?_
          refine z_iload C 8 dX2_setsTaken_73 rfl ?_
          obtain ⟨hi11, hf⟩ := ck_el hf
          refine z_iald C (k := 5) (Nat.le_of_ble_eq_true rfl) rfl hi11 dX2_setsTaken_75 ?_
          refine z_aload_n C 0 dX2_setsTaken_76 rfl rfl ?_
          obtain ⟨b12, hb12, e_b12, hf⟩ := zbk_el hf
          refine z_getb C (b := b12) (Nat.le_of_ble_eq_true rfl) rfl rfl 1 (Nat.le_of_ble_eq_true rfl) rfl kiX2_setsTaken_X2 kfX2_setsTaken_28 (isb_lt hb12) e_b12 dX2_setsTaken_77 ?_
          refine z_getr C (t := b12 + 9) (isb_k0 hb12) (isb_L0 hb12) rfl 11 (Nat.le_of_ble_eq_true rfl) rfl kiX2_setsTaken_X0 kfX2_setsTaken_120 dX2_setsTaken_80 ?_
          refine z_iload_n C 2 dX2_setsTaken_83 rfl rfl ?_
          obtain ⟨hi13, hf⟩ := ck_el hf
          refine z_iald C (k := (b12 + 9)) (isb_k9 hb12) (isb_L9 hb12) hi13 dX2_setsTaken_84 ?_
          refine z_icmp_ne (tgt := 118) C dX2_setsTaken_85 (by decide) (fun c22 => ?_) (fun c22 => ?_)
          · replace hf := if_f c22 hf
            obtain ⟨x14, e_x14⟩ : ∃ y : Int32, y = i5 + 1 := ⟨_, rfl⟩
            replace hf := bn_to e_x14 hf
            refine z_iinc C (lv2 := [(0, .ref ((zw K).2.1 39)), (1, .int a1), (2, .int a2), (3, .ref ((zw K).2.1 tr3)), (4, .int r2), (5, .int x3), (6, .int i4), (7, .int x14), (8, .int x7)]) 7 [1, 2, 3, 4, 5, 6, 7, 0, 8] dX2_setsTaken_118 rfl rfl (Nat.le_of_ble_eq_true rfl) e_x14 rfl ?_
            refine z_goto (tgt := 21) C dX2_setsTaken_121 (by decide) ?_
            cases hf
            exact z_sub [0, 1, 2, 3, 4, 5, 6, 7] rfl (ih i4 x14 hz)
          · replace hf := if_t c22 hf
            refine z_aload_n C 0 dX2_setsTaken_88 rfl rfl ?_
            refine z_aload_n C 0 dX2_setsTaken_89 rfl rfl ?_
            refine z_getr C (t := 1) (Nat.le_of_ble_eq_true rfl) rfl rfl 0 (Nat.le_of_ble_eq_true rfl) rfl kiX2_setsTaken_X2 kfX2_setsTaken_24 dX2_setsTaken_90 ?_
            refine z_getr C (t := 6) (Nat.le_of_ble_eq_true rfl) rfl rfl 6 (Nat.le_of_ble_eq_true rfl) rfl kiX2_setsTaken_X1 kfX2_setsTaken_123 dX2_setsTaken_93 ?_
            refine z_iload C 8 dX2_setsTaken_96 rfl ?_
            obtain ⟨hi15, hf⟩ := ck_el hf
            refine z_iald C (k := 6) (Nat.le_of_ble_eq_true rfl) rfl hi15 dX2_setsTaken_98 ?_
            refine z_iload_n C 2 dX2_setsTaken_99 rfl rfl ?_
            refine z_aload_n C 3 dX2_setsTaken_100 rfl rfl ?_
            obtain ⟨r17, hc16, hf⟩ := zb_el hf
            refine z_cVi C (c_X2_passes _ _ htr3 hc16) rfl gX2_setsTaken_X2_passes rfl rfl zdX2_passes rfl (Nat.le_of_ble_eq_true rfl) rfl rfl rfl ⟨Nat.le_of_ble_eq_true rfl, Nat.le_of_ble_eq_true rfl⟩ (Nat.le_of_ble_eq_true rfl) dX2_setsTaken_101 rfl ?_
            refine z_if_eq (tgt := 118) C dX2_setsTaken_104 (by decide) (fun c21 => ?_) (fun c21 => ?_)
            · replace hf := if_t c21 hf
              obtain ⟨x18, e_x18⟩ : ∃ y : Int32, y = i5 + 1 := ⟨_, rfl⟩
              replace hf := bn_to e_x18 hf
              refine z_iinc C (lv2 := [(0, .ref ((zw K).2.1 39)), (1, .int a1), (2, .int a2), (3, .ref ((zw K).2.1 tr3)), (4, .int r2), (5, .int x3), (6, .int i4), (7, .int x18), (8, .int x7)]) 7 [1, 2, 3, 4, 5, 6, 7, 0, 8] dX2_setsTaken_118 rfl rfl (Nat.le_of_ble_eq_true rfl) e_x18 rfl ?_
              refine z_goto (tgt := 21) C dX2_setsTaken_121 (by decide) ?_
              cases hf
              exact z_sub [0, 1, 2, 3, 4, 5, 6, 7] rfl (ih i4 x18 hz)
            · replace hf := if_f c21 hf
              refine z_iload C 6 dX2_setsTaken_107 rfl ?_
              refine z_iconst C (v := 1) dX2_setsTaken_109 rfl ?_
              refine z_iconst C (v := 1) dX2_setsTaken_110 rfl ?_
              refine z_iload C 7 dX2_setsTaken_111 rfl ?_
              refine z_ishl C dX2_setsTaken_113 ?_
              refine z_ishl C dX2_setsTaken_114 ?_
              refine z_ior C dX2_setsTaken_115 ?_
              refine z_topi (fun x19 e_x19 => ?_)
              replace hf := bn_to e_x19 hf
              refine z_istore C (lv2 := [(0, .ref ((zw K).2.1 39)), (1, .int a1), (2, .int a2), (3, .ref ((zw K).2.1 tr3)), (4, .int r2), (5, .int x3), (6, .int x19), (7, .int i5), (8, .int x7)]) [1, 2, 3, 4, 5, 6, 0, 7, 8] dX2_setsTaken_116 (Nat.le_of_ble_eq_true rfl) rfl ?_
              obtain ⟨x20, e_x20⟩ : ∃ y : Int32, y = i5 + 1 := ⟨_, rfl⟩
              replace hf := bn_to e_x20 hf
              refine z_iinc C (lv2 := [(0, .ref ((zw K).2.1 39)), (1, .int a1), (2, .int a2), (3, .ref ((zw K).2.1 tr3)), (4, .int r2), (5, .int x3), (6, .int x19), (7, .int x20), (8, .int x7)]) 7 [1, 2, 3, 4, 5, 6, 7, 0, 8] dX2_setsTaken_118 rfl rfl (Nat.le_of_ble_eq_true rfl) e_x20 rfl ?_
              refine z_goto (tgt := 21) C dX2_setsTaken_121 (by decide) ?_
              cases hf
              exact z_sub [0, 1, 2, 3, 4, 5, 6, 7] rfl (ih x19 x20 hz)
set_option maxRecDepth 100000 in
set_option maxHeartbeats 4000000 in
theorem c_X2_setsTaken (l : Launch) (w : ZW) {m : Mem} {a1 : Int32} {a2 : Int32} {tr3 : Nat} {r9 : Int32} (htr3 : istr tr3) (hf : s_X2_setsTaken m a1 a2 tr3 = some r9) : zCi MX l w yX2_setsTaken wsX2_setsTaken rmX2_setsTaken [.ref (w.2.1 39), .int a1, .int a2, .ref (w.2.1 tr3)] m m r9 := by
  refine z_met_i MX_ok (own := RX2) (by decide +kernel) rfl rfl (Nat.le_of_ble_eq_true rfl) ?_
  intro K C hKw hKl hret
  subst hKw
  subst hKl
  unfold s_X2_setsTaken at hf
  show zGo MX K m [(0, .ref ((zw K).2.1 39)), (1, .int a1), (2, .int a2), (3, .ref ((zw K).2.1 tr3))] 0 []
  refine z_aload_n C 0 dX2_setsTaken_0 rfl rfl ?_
  refine z_iload_n C 1 dX2_setsTaken_1 rfl rfl ?_
  obtain ⟨r2, hc1, hf⟩ := zb_el hf
  refine z_cVi C (c_X2_presentEdges _ _ hc1) rfl gX2_setsTaken_X2_presentEdges rfl rfl zdX2_presentEdges rfl (Nat.le_of_ble_eq_true rfl) rfl rfl rfl ⟨Nat.le_of_ble_eq_true rfl, Nat.le_of_ble_eq_true rfl⟩ (Nat.le_of_ble_eq_true rfl) dX2_setsTaken_2 rfl ?_
  refine z_istore C (lv2 := [(0, .ref ((zw K).2.1 39)), (1, .int a1), (2, .int a2), (3, .ref ((zw K).2.1 tr3)), (4, .int r2)]) [1, 2, 3, 4, 0] dX2_setsTaken_5 (Nat.le_of_ble_eq_true rfl) rfl ?_
  refine z_iconst C (v := 1) dX2_setsTaken_7 rfl ?_
  refine z_iload_n C 2 dX2_setsTaken_8 rfl rfl ?_
  refine z_bipush C (v := 6) dX2_setsTaken_9 rfl ?_
  refine z_irem C dX2_setsTaken_11 (by decide) ?_
  refine z_ishl C dX2_setsTaken_12 ?_
  refine z_topi (fun x3 e_x3 => ?_)
  replace hf := bn_to e_x3 hf
  refine z_istore C (lv2 := [(0, .ref ((zw K).2.1 39)), (1, .int a1), (2, .int a2), (3, .ref ((zw K).2.1 tr3)), (4, .int r2), (5, .int x3)]) [1, 2, 3, 4, 5, 0] dX2_setsTaken_13 (Nat.le_of_ble_eq_true rfl) rfl ?_
  refine z_iconst C (v := 0) dX2_setsTaken_15 rfl ?_
  refine z_istore C (lv2 := [(0, .ref ((zw K).2.1 39)), (1, .int a1), (2, .int a2), (3, .ref ((zw K).2.1 tr3)), (4, .int r2), (5, .int x3), (6, .int 0)]) [1, 2, 3, 4, 5, 6, 0] dX2_setsTaken_16 (Nat.le_of_ble_eq_true rfl) rfl ?_
  refine z_iconst C (v := 0) dX2_setsTaken_18 rfl ?_
  refine z_istore C (lv2 := [(0, .ref ((zw K).2.1 39)), (1, .int a1), (2, .int a2), (3, .ref ((zw K).2.1 tr3)), (4, .int r2), (5, .int x3), (6, .int 0), (7, .int 0)]) [1, 2, 3, 4, 5, 6, 7, 0] dX2_setsTaken_19 (Nat.le_of_ble_eq_true rfl) rfl ?_
  obtain ⟨y26, hg, hf⟩ := zb_el hf
  refine z_sub [0, 1, 2, 3, 4, 5, 6, 7] rfl (w_X2_setsTaken_21 C htr3 ?_ _ _ _ hg)
  clear hg
  refine z_iload C 0 dX2_setsTaken_124 rfl ?_
  cases hf
  exact hret _ _ dX2_setsTaken_126
def rmX2_both : Room := { frames := 0, cells := 0, slots := 0, locals := 0 }
theorem zdX2_both : yX2_both.cls = RX2 ∧ yX2_both.cls ≠ "java/lang/invoke/MethodHandle" ∧ yX2_both.cls ≠ "java/lang/invoke/VarHandle" ∧ (parseMethodDescriptor yX2_both.desc).map (fun d => d.parameters.length) = some 2 := by decide +kernel
theorem kfX2_both_117 : Cond.fieldLink RX2 117 "ShapeJudge$Judge" "APART" "[I" ∈ wsX2_both := by decide +kernel
def t_X2_both_4 (a1 : Int32) (a2 : Int32) (i1 : Int32) (i2 : Int32) : Option ((Int32 × Int32) ⊕ (Int32)) :=
  (if 32 ≤ i2 then (some (.inr i1)) else ((if (zus a1 i2) = 0 then (some (.inr i1)) else ((if ((zus a1 i2) &&& 1) = 0 then (bn (i2 + 1) fun x3 => some (.inl (i1, x3))) else (ck (zin i2 32 = true) (bn (i1 ||| ((a2 &&& (apt (Int32.toNatClampNeg i2))) <<< (i2 &&& 31))) fun x5 => bn (i2 + 1) fun x6 => some (.inl (x5, x6)))))))))
def l_X2_both_4 (a1 : Int32) (a2 : Int32) (n : Nat) (i1 : Int32) (i2 : Int32) : Option (Int32) := zlp n (fun a => t_X2_both_4 a1 a2 a.1 a.2) (i1, i2)
def s_X2_both (a1 : Int32) (a2 : Int32) : Option (Int32) :=
  ((l_X2_both_4 a1 a2 FU 0 0).bind fun y10 => some y10)
set_option maxRecDepth 100000 in
set_option maxHeartbeats 4000000 in
theorem w_X2_both_4 {K : ZK} (C : zOK MX K cX2_both 4 (some .int) RX2 wsX2_both rmX2_both) {m : Mem} {a1 : Int32} {a2 : Int32}  {o0 : Int32} (hk : zGo MX K m [(2, .int o0)] 44 []) : ∀ (n : Nat) (i1 : Int32) (i2 : Int32), l_X2_both_4 a1 a2 n i1 i2 = some o0 → zGo MX K m [(0, .int a1), (1, .int a2), (2, .int i1), (3, .int i2)] 4 [] := by
  intro n
  induction n with
  | zero =>
    intro i1 i2 hf
    cases hf
  | succ n ih =>
    intro i1 i2 hf
    obtain ⟨z, hf, hz⟩ := zlp_el hf
    replace hf : t_X2_both_4 a1 a2 i1 i2 = some z := hf
    unfold t_X2_both_4 at hf
    refine z_iload_n C 3 dX2_both_4 rfl rfl ?_
    refine z_gapt C kfX2_both_117 dX2_both_5 ?_
    refine z_aptn C dX2_both_8 ?_
    refine z_icmp_ge (tgt := 44) C dX2_both_9 (by decide) (fun c9 => ?_) (fun c9 => ?_)
    · replace hf := if_t c9 hf
      cases hf
      replace hz := zlz_r hz
      cases hz
      exact z_sub [2] rfl hk
    · replace hf := if_f c9 hf
      refine z_iload_n C 0 dX2_both_12 rfl rfl ?_
      refine z_iload_n C 3 dX2_both_13 rfl rfl ?_
      refine z_iushr C dX2_both_14 ?_
      refine z_if_eq (tgt := 44) C dX2_both_15 (by decide) (fun c8 => ?_) (fun c8 => ?_)
      · replace hf := if_t c8 hf
        cases hf
        replace hz := zlz_r hz
        cases hz
        exact z_sub [2] rfl hk
      · replace hf := if_f c8 hf
        refine z_iload_n C 0 dX2_both_18 rfl rfl ?_
        refine z_iload_n C 3 dX2_both_19 rfl rfl ?_
        refine z_iushr C dX2_both_20 ?_
        refine z_iconst C (v := 1) dX2_both_21 rfl ?_
        refine z_iand C dX2_both_22 ?_
        refine z_if_eq (tgt := 38) C dX2_both_23 (by decide) (fun c7 => ?_) (fun c7 => ?_)
        · replace hf := if_t c7 hf
          obtain ⟨x3, e_x3⟩ : ∃ y : Int32, y = i2 + 1 := ⟨_, rfl⟩
          replace hf := bn_to e_x3 hf
          refine z_iinc C (lv2 := [(0, .int a1), (1, .int a2), (2, .int i1), (3, .int x3)]) 3 [1, 2, 3, 0] dX2_both_38 rfl rfl (Nat.le_of_ble_eq_true rfl) e_x3 rfl ?_
          refine z_goto (tgt := 4) C dX2_both_41 (by decide) ?_
          cases hf
          exact z_sub [0, 1, 2, 3] rfl (ih i1 x3 hz)
        · replace hf := if_f c7 hf
          refine z_iload_n C 2 dX2_both_26 rfl rfl ?_
          refine z_iload_n C 1 dX2_both_27 rfl rfl ?_
          refine z_gapt C kfX2_both_117 dX2_both_28 ?_
          refine z_iload_n C 3 dX2_both_31 rfl rfl ?_
          obtain ⟨hi4, hf⟩ := ck_el hf
          refine z_aptl C hi4 dX2_both_32 ?_
          refine z_iand C dX2_both_33 ?_
          refine z_iload_n C 3 dX2_both_34 rfl rfl ?_
          refine z_ishl C dX2_both_35 ?_
          refine z_ior C dX2_both_36 ?_
          refine z_topi (fun x5 e_x5 => ?_)
          replace hf := bn_to e_x5 hf
          refine z_istore_n C (lv2 := [(0, .int a1), (1, .int a2), (2, .int x5), (3, .int i2)]) [1, 2, 0, 3] dX2_both_37 rfl (Nat.le_of_ble_eq_true rfl) rfl ?_
          obtain ⟨x6, e_x6⟩ : ∃ y : Int32, y = i2 + 1 := ⟨_, rfl⟩
          replace hf := bn_to e_x6 hf
          refine z_iinc C (lv2 := [(0, .int a1), (1, .int a2), (2, .int x5), (3, .int x6)]) 3 [1, 2, 3, 0] dX2_both_38 rfl rfl (Nat.le_of_ble_eq_true rfl) e_x6 rfl ?_
          refine z_goto (tgt := 4) C dX2_both_41 (by decide) ?_
          cases hf
          exact z_sub [0, 1, 2, 3] rfl (ih x5 x6 hz)
set_option maxRecDepth 100000 in
set_option maxHeartbeats 4000000 in
theorem c_X2_both (l : Launch) (w : ZW) {m : Mem} {a1 : Int32} {a2 : Int32} {r9 : Int32}  (hf : s_X2_both a1 a2 = some r9) : zCi MX l w yX2_both wsX2_both rmX2_both [.int a1, .int a2] m m r9 := by
  refine z_met_i MX_ok (own := RX2) (by decide +kernel) rfl rfl (Nat.le_of_ble_eq_true rfl) ?_
  intro K C hKw hKl hret
  subst hKw
  subst hKl
  unfold s_X2_both at hf
  show zGo MX K m [(0, .int a1), (1, .int a2)] 0 []
  refine z_iconst C (v := 0) dX2_both_0 rfl ?_
  refine z_istore_n C (lv2 := [(0, .int a1), (1, .int a2), (2, .int 0)]) [1, 2, 0] dX2_both_1 rfl (Nat.le_of_ble_eq_true rfl) rfl ?_
  refine z_iconst C (v := 0) dX2_both_2 rfl ?_
  refine z_istore_n C (lv2 := [(0, .int a1), (1, .int a2), (2, .int 0), (3, .int 0)]) [1, 2, 3, 0] dX2_both_3 rfl (Nat.le_of_ble_eq_true rfl) rfl ?_
  obtain ⟨y10, hg, hf⟩ := zb_el hf
  refine z_sub [0, 1, 2, 3] rfl (w_X2_both_4 C  ?_ _ _ _ hg)
  clear hg
  refine z_iload_n C 0 dX2_both_44 rfl rfl ?_
  cases hf
  exact hret _ _ dX2_both_45
def rmX2_times : Room := { frames := 1, cells := 0, slots := 0, locals := 23 }
theorem zdX2_times : yX2_times.cls = RX2 ∧ yX2_times.cls ≠ "java/lang/invoke/MethodHandle" ∧ yX2_times.cls ≠ "java/lang/invoke/VarHandle" ∧ (parseMethodDescriptor yX2_times.desc).map (fun d => d.parameters.length) = some 2 := by decide +kernel
def t_X2_times_28 (a1 : Int32) (x1 : Int32) (x2 : Int32) (i4 : Int32) (i5 : Int32) (i6 : Int32) : Option ((Int32 × Int32 × Int32) ⊕ (Int32)) :=
  (if x2 < i6 then (some (.inr i5)) else ((s_X2_both i4 a1).bind fun r8 => (if i6 < x1 then (bn (i6 + 1) fun x9 => some (.inl (r8, i5, x9))) else (bn (i5 ||| r8) fun x10 => bn (i6 + 1) fun x11 => some (.inl (r8, x10, x11))))))
def l_X2_times_28 (a1 : Int32) (x1 : Int32) (x2 : Int32) (n : Nat) (i4 : Int32) (i5 : Int32) (i6 : Int32) : Option (Int32) := zlp n (fun a => t_X2_times_28 a1 x1 x2 a.1 a.2.1 a.2.2) (i4, i5, i6)
def s_X2_times (a1 : Int32) (a2 : Int32) : Option (Int32) :=
  bn (a2 / 8) fun x1 => bn (a2 - a2 / 8 * 8) fun x2 => (((if x1 = 0 then (some 1) else (some 0)) : Option (Int32)).bind fun y3 => ((l_X2_times_28 a1 x1 x2 FU 1 y3 1).bind fun y14 => some y14))
set_option maxRecDepth 100000 in
set_option maxHeartbeats 4000000 in
theorem w_X2_times_28 {K : ZK} (C : zOK MX K cX2_times 8 (some .int) RX2 wsX2_times rmX2_times) {m : Mem} {a1 : Int32} {x1 : Int32} {x2 : Int32}  {o0 : Int32} (hk : zGo MX K m [(6, .int o0)] 62 []) : ∀ (n : Nat) (i4 : Int32) (i5 : Int32) (i6 : Int32), l_X2_times_28 a1 x1 x2 n i4 i5 i6 = some o0 → zGo MX K m [(1, .int a1), (3, .int x1), (4, .int x2), (5, .int i4), (6, .int i5), (7, .int i6)] 28 [] := by
  intro n
  induction n with
  | zero =>
    intro i4 i5 i6 hf
    cases hf
  | succ n ih =>
    intro i4 i5 i6 hf
    obtain ⟨z, hf, hz⟩ := zlp_el hf
    replace hf : t_X2_times_28 a1 x1 x2 i4 i5 i6 = some z := hf
    unfold t_X2_times_28 at hf
    refine z_iload C 5 dX2_times_28 rfl ?_
    refine z_iload C 2 dX2_times_30 rfl ?_
    refine z_icmp_gt (tgt := 62) C dX2_times_32 (by decide) (fun c13 => ?_) (fun c13 => ?_)
    · replace hf := if_t c13 hf
      cases hf
      replace hz := zlz_r hz
      cases hz
      exact z_sub [4] rfl hk
    · replace hf := if_f c13 hf
      refine z_iload C 3 dX2_times_35 rfl ?_
      refine z_iload_n C 0 dX2_times_37 rfl rfl ?_
      obtain ⟨r8, hc7, hf⟩ := zb_el hf
      refine z_cSi C (c_X2_both _ _ hc7) rfl gX2_times_X2_both rfl rfl zdX2_both.2 rfl ⟨Nat.le_of_ble_eq_true rfl, Nat.le_of_ble_eq_true rfl⟩ (Nat.le_of_ble_eq_true rfl) dX2_times_38 rfl ?_
      refine z_istore C (lv2 := [(1, .int a1), (3, .int x1), (4, .int x2), (5, .int r8), (6, .int i5), (7, .int i6)]) [1, 2, 3, 0, 4, 5] dX2_times_41 (Nat.le_of_ble_eq_true rfl) rfl ?_
      refine z_iload C 5 dX2_times_43 rfl ?_
      refine z_iload_n C 1 dX2_times_45 rfl rfl ?_
      refine z_icmp_lt (tgt := 56) C dX2_times_46 (by decide) (fun c12 => ?_) (fun c12 => ?_)
      · replace hf := if_t c12 hf
        obtain ⟨x9, e_x9⟩ : ∃ y : Int32, y = i6 + 1 := ⟨_, rfl⟩
        replace hf := bn_to e_x9 hf
        refine z_iinc C (lv2 := [(1, .int a1), (3, .int x1), (4, .int x2), (5, .int r8), (6, .int i5), (7, .int x9)]) 5 [1, 2, 3, 4, 5, 0] dX2_times_56 rfl rfl (Nat.le_of_ble_eq_true rfl) e_x9 rfl ?_
        refine z_goto (tgt := 28) C dX2_times_59 (by decide) ?_
        cases hf
        exact z_sub [0, 1, 2, 3, 4, 5] rfl (ih r8 i5 x9 hz)
      · replace hf := if_f c12 hf
        refine z_iload C 4 dX2_times_49 rfl ?_
        refine z_iload C 3 dX2_times_51 rfl ?_
        refine z_ior C dX2_times_53 ?_
        refine z_topi (fun x10 e_x10 => ?_)
        replace hf := bn_to e_x10 hf
        refine z_istore C (lv2 := [(1, .int a1), (3, .int x1), (4, .int x2), (5, .int r8), (6, .int x10), (7, .int i6)]) [1, 2, 3, 4, 0, 5] dX2_times_54 (Nat.le_of_ble_eq_true rfl) rfl ?_
        obtain ⟨x11, e_x11⟩ : ∃ y : Int32, y = i6 + 1 := ⟨_, rfl⟩
        replace hf := bn_to e_x11 hf
        refine z_iinc C (lv2 := [(1, .int a1), (3, .int x1), (4, .int x2), (5, .int r8), (6, .int x10), (7, .int x11)]) 5 [1, 2, 3, 4, 5, 0] dX2_times_56 rfl rfl (Nat.le_of_ble_eq_true rfl) e_x11 rfl ?_
        refine z_goto (tgt := 28) C dX2_times_59 (by decide) ?_
        cases hf
        exact z_sub [0, 1, 2, 3, 4, 5] rfl (ih r8 x10 x11 hz)
set_option maxRecDepth 100000 in
set_option maxHeartbeats 4000000 in
theorem c_X2_times (l : Launch) (w : ZW) {m : Mem} {a1 : Int32} {a2 : Int32} {r9 : Int32}  (hf : s_X2_times a1 a2 = some r9) : zCi MX l w yX2_times wsX2_times rmX2_times [.ref (w.2.1 39), .int a1, .int a2] m m r9 := by
  refine z_met_i MX_ok (own := RX2) (by decide +kernel) rfl rfl (Nat.le_of_ble_eq_true rfl) ?_
  intro K C hKw hKl hret
  subst hKw
  subst hKl
  unfold s_X2_times at hf
  show zGo MX K m [(0, .ref ((zw K).2.1 39)), (1, .int a1), (2, .int a2)] 0 []
  refine z_iload_n C 2 dX2_times_0 rfl rfl ?_
  refine z_bipush C (v := 8) dX2_times_1 rfl ?_
  refine z_idiv C dX2_times_3 (by decide) ?_
  refine z_topi (fun x1 e_x1 => ?_)
  replace hf := bn_to e_x1 hf
  refine z_istore_n C (lv2 := [(0, .ref ((zw K).2.1 39)), (1, .int a1), (2, .int a2), (3, .int x1)]) [1, 2, 3, 0] dX2_times_4 rfl (Nat.le_of_ble_eq_true rfl) rfl ?_
  refine z_iload_n C 2 dX2_times_5 rfl rfl ?_
  refine z_bipush C (v := 8) dX2_times_6 rfl ?_
  refine z_irem C dX2_times_8 (by decide) ?_
  refine z_topi (fun x2 e_x2 => ?_)
  replace hf := bn_to e_x2 hf
  refine z_istore C (lv2 := [(0, .ref ((zw K).2.1 39)), (1, .int a1), (2, .int a2), (3, .int x1), (4, .int x2)]) [1, 2, 3, 4, 0] dX2_times_9 (Nat.le_of_ble_eq_true rfl) rfl ?_
  refine z_iconst C (v := 1) dX2_times_11 rfl ?_
  refine z_istore C (lv2 := [(0, .ref ((zw K).2.1 39)), (1, .int a1), (2, .int a2), (3, .int x1), (4, .int x2), (5, .int 1)]) [1, 2, 3, 4, 5, 0] dX2_times_12 (Nat.le_of_ble_eq_true rfl) rfl ?_
  refine z_iload_n C 3 dX2_times_14 rfl rfl ?_
  obtain ⟨y3, hg, hf⟩ := zb_el hf
  have hj : zGo MX K m [(1, .int a1), (3, .int x1), (4, .int x2), (5, .int 1)] 23 [.int y3] := by
    refine z_istore C (lv2 := [(1, .int a1), (3, .int x1), (4, .int x2), (5, .int 1), (6, .int y3)]) [1, 2, 3, 4, 0] dX2_times_23 (Nat.le_of_ble_eq_true rfl) rfl ?_
    refine z_iconst C (v := 1) dX2_times_25 rfl ?_
    refine z_istore C (lv2 := [(1, .int a1), (3, .int x1), (4, .int x2), (5, .int 1), (6, .int y3), (7, .int 1)]) [1, 2, 3, 4, 5, 0] dX2_times_26 (Nat.le_of_ble_eq_true rfl) rfl ?_
    obtain ⟨y14, hg, hf⟩ := zb_el hf
    refine z_sub [0, 1, 2, 3, 4, 5] rfl (w_X2_times_28 C  ?_ _ _ _ _ hg)
    clear hg
    refine z_iload C 0 dX2_times_62 rfl ?_
    cases hf
    exact hret _ _ dX2_times_64
  replace hf := hg
  clear hg
  refine z_if_ne (tgt := 22) C dX2_times_15 (by decide) (fun c15 => ?_) (fun c15 => ?_)
  · replace hf := if_f c15 hf
    refine z_iconst C (v := 0) dX2_times_22 rfl ?_
    cases hf
    exact z_sub [1, 3, 4, 5] rfl hj
  · replace hf := if_t c15 hf
    refine z_iconst C (v := 1) dX2_times_18 rfl ?_
    refine z_goto (tgt := 23) C dX2_times_19 (by decide) ?_
    cases hf
    exact z_sub [1, 3, 4, 5] rfl hj
def rmX2_setsDealt : Room := { frames := 2, cells := 0, slots := 0, locals := 52 }
theorem zdX2_setsDealt : yX2_setsDealt.cls = RX2 ∧ yX2_setsDealt.cls ≠ "java/lang/invoke/MethodHandle" ∧ yX2_setsDealt.cls ≠ "java/lang/invoke/VarHandle" ∧ (parseMethodDescriptor yX2_setsDealt.desc).map (fun d => d.parameters.length) = some 3 := by decide +kernel
theorem kiX2_setsDealt_X2 : ∀ w ∈ wsX20, w ∈ wsX2_setsDealt := by decide +kernel
theorem kfX2_setsDealt_28 : Cond.fieldLink RX2 28 "ShapeJudge$Judge" "book" "LShapeJudge$Book;" ∈ wsX2_setsDealt := by decide +kernel
theorem kiX2_setsDealt_X0 : ∀ w ∈ wsX00, w ∈ wsX2_setsDealt := by decide +kernel
theorem kfX2_setsDealt_102 : Cond.fieldLink RX2 102 "ShapeJudge$Book" "firstStep" "[I" ∈ wsX2_setsDealt := by decide +kernel
theorem kfX2_setsDealt_105 : Cond.fieldLink RX2 105 "ShapeJudge$Book" "steps" "[I" ∈ wsX2_setsDealt := by decide +kernel
theorem kfX2_setsDealt_21 : Cond.fieldLink RX2 21 "ShapeJudge$Judge" "stack" "[I" ∈ wsX2_setsDealt := by decide +kernel
def t_X2_setsDealt_14 (a1 : Int32) (a2 : Int32) (tr3 : Nat) (i4 : Int32) (i5 : Int32) (m6 : Mem) : Option ((Int32 × Int32 × Mem) ⊕ (Int32 × Mem)) :=
  zbk (m6 39 1) fun b7 => ck (zin (a2 + 1) 7 = true) ((if (m6 (b7 + 7) (Int32.toNatClampNeg (a2 + 1))) ≤ i5 then (some (.inr (i4, m6))) else (zbk (m6 39 1) fun b9 => (if 146 ≤ i5 then (some (.inr (i4, m6))) else (zbk (m6 39 1) fun b10 => ck (zin i5 146 = true) (bn (m6 (b10 + 8) (Int32.toNatClampNeg i5)) fun x12 => bn (x12 - x12 / 64 * 64) fun x13 => (if (x12 / 64) = 0 then ((if 6 ≤ i4 then (bn (i5 + 1) fun x15 => some (.inl (i4, x15, m6))) else ((s_X2_setsTaken m6 a1 ((a2 * 6) + x13) tr3).bind fun r17 => ck (zin i4 6 = true) (bn (sto m6 43 (Int32.toNatClampNeg i4) r17) fun m19 => bn (i4 + 1) fun x20 => bn (i5 + 1) fun x21 => some (.inl (x20, x21, m19)))))) else ((if (x12 / 64) = 1 then ((if i4 < 1 then (bn (i5 + 1) fun x24 => some (.inl (i4, x24, m6))) else (ck (zin (i4 - 1) 6 = true) ((s_X2_times (m6 43 (Int32.toNatClampNeg (i4 - 1))) x13).bind fun r27 => ck (zin (i4 - 1) 6 = true) (bn (sto m6 43 (Int32.toNatClampNeg (i4 - 1)) r27) fun m29 => bn (i5 + 1) fun x30 => some (.inl (i4, x30, m29))))))) else ((if (x12 / 64) = 2 then ((if i4 < 2 then (bn (i5 + 1) fun x33 => some (.inl (i4, x33, m6))) else (bn (i4 + (-1)) fun x34 => ck (zin (x34 - 1) 6 = true) (ck (zin x34 6 = true) ((s_X2_both (m6 43 (Int32.toNatClampNeg (x34 - 1))) (m6 43 (Int32.toNatClampNeg x34))).bind fun r38 => ck (zin (x34 - 1) 6 = true) (bn (sto m6 43 (Int32.toNatClampNeg (x34 - 1)) r38) fun m40 => bn (i5 + 1) fun x41 => some (.inl (x34, x41, m40)))))))) else ((if i4 < 2 then (bn (i5 + 1) fun x43 => some (.inl (i4, x43, m6))) else (bn (i4 + (-1)) fun x44 => ck (zin (x44 - 1) 6 = true) (ck (zin x44 6 = true) (ck (zin (x44 - 1) 6 = true) (bn (sto m6 43 (Int32.toNatClampNeg (x44 - 1)) ((m6 43 (Int32.toNatClampNeg (x44 - 1))) ||| (m6 43 (Int32.toNatClampNeg x44)))) fun m48 => bn (i5 + 1) fun x49 => some (.inl (x44, x49, m48)))))))))))))))))))
def l_X2_setsDealt_14 (a1 : Int32) (a2 : Int32) (tr3 : Nat) (n : Nat) (i4 : Int32) (i5 : Int32) (m6 : Mem) : Option (Int32 × Mem) := zlp n (fun a => t_X2_setsDealt_14 a1 a2 tr3 a.1 a.2.1 a.2.2) (i4, i5, m6)
def s_X2_setsDealt (m : Mem) (a1 : Int32) (a2 : Int32) (tr3 : Nat) : Option (Int32 × Mem) :=
  zbk (m 39 1) fun b1 => ck (zin a2 7 = true) (bn (m (b1 + 7) (Int32.toNatClampNeg a2)) fun x3 => (zb2 (l_X2_setsDealt_14 a1 a2 tr3 FU 0 x3 m) fun y53 m54 => (if y53 = 0 then (some (1, m54)) else (ck (zin 0 6 = true) (some ((m54 43 (Int32.toNatClampNeg 0)), m54))))))
set_option maxRecDepth 100000 in
set_option maxHeartbeats 4000000 in
theorem w_X2_setsDealt_14 {K : ZK} (C : zOK MX K cX2_setsDealt 8 (some .int) RX2 wsX2_setsDealt rmX2_setsDealt) {a1 : Int32} {a2 : Int32} {tr3 : Nat} (htr3 : istr tr3) {o0 : Int32} {o1 : Mem} (hk : zGo MX K o1 [(0, .ref ((zw K).2.1 39)), (4, .int o0)] 235 []) : ∀ (n : Nat) (i4 : Int32) (i5 : Int32) (m6 : Mem), l_X2_setsDealt_14 a1 a2 tr3 n i4 i5 m6 = some (o0, o1) → zGo MX K m6 [(0, .ref ((zw K).2.1 39)), (1, .int a1), (2, .int a2), (3, .ref ((zw K).2.1 tr3)), (4, .int i4), (5, .int i5)] 14 [] := by
  intro n
  induction n with
  | zero =>
    intro i4 i5 m6 hf
    cases hf
  | succ n ih =>
    intro i4 i5 m6 hf
    obtain ⟨z, hf, hz⟩ := zlp_el hf
    replace hf : t_X2_setsDealt_14 a1 a2 tr3 i4 i5 m6 = some z := hf
    unfold t_X2_setsDealt_14 at hf
    refine z_iload C 5 dX2_setsDealt_14 rfl ?_
    refine z_aload_n C 0 dX2_setsDealt_16 rfl rfl ?_
    obtain ⟨b7, hb7, e_b7, hf⟩ := zbk_el hf
    refine z_getb C (b := b7) (Nat.le_of_ble_eq_true rfl) rfl rfl 1 (Nat.le_of_ble_eq_true rfl) rfl kiX2_setsDealt_X2 kfX2_setsDealt_28 (isb_lt hb7) e_b7 dX2_setsDealt_17 ?_
    refine z_getr C (t := b7 + 7) (isb_k0 hb7) (isb_L0 hb7) rfl 9 (Nat.le_of_ble_eq_true rfl) rfl kiX2_setsDealt_X0 kfX2_setsDealt_102 dX2_setsDealt_20 ?_
    refine z_iload_n C 2 dX2_setsDealt_23 rfl rfl ?_
    refine z_iconst C (v := 1) dX2_setsDealt_24 rfl ?_
    refine z_iadd C dX2_setsDealt_25 ?_
    obtain ⟨hi8, hf⟩ := ck_el hf
    refine z_iald C (k := (b7 + 7)) (isb_k7 hb7) (isb_L7 hb7) hi8 dX2_setsDealt_26 ?_
    refine z_icmp_ge (tgt := 235) C dX2_setsDealt_27 (by decide) (fun c52 => ?_) (fun c52 => ?_)
    · replace hf := if_t c52 hf
      cases hf
      replace hz := zlz_r hz
      cases hz
      exact z_sub [0, 4] rfl hk
    · replace hf := if_f c52 hf
      refine z_iload C 5 dX2_setsDealt_30 rfl ?_
      refine z_aload_n C 0 dX2_setsDealt_32 rfl rfl ?_
      obtain ⟨b9, hb9, e_b9, hf⟩ := zbk_el hf
      refine z_getb C (b := b9) (Nat.le_of_ble_eq_true rfl) rfl rfl 1 (Nat.le_of_ble_eq_true rfl) rfl kiX2_setsDealt_X2 kfX2_setsDealt_28 (isb_lt hb9) e_b9 dX2_setsDealt_33 ?_
      refine z_getr C (t := b9 + 8) (isb_k0 hb9) (isb_L0 hb9) rfl 10 (Nat.le_of_ble_eq_true rfl) rfl kiX2_setsDealt_X0 kfX2_setsDealt_105 dX2_setsDealt_36 ?_
      refine z_alen C (k := (b9 + 8)) (v := 146) (isb_k8 hb9) (isb_L8 hb9) (fun _ => rfl) rfl dX2_setsDealt_39 ?_
      refine z_icmp_ge (tgt := 235) C dX2_setsDealt_40 (by decide) (fun c51 => ?_) (fun c51 => ?_)
      · replace hf := if_t c51 hf
        cases hf
        replace hz := zlz_r hz
        cases hz
        exact z_sub [0, 4] rfl hk
      · replace hf := if_f c51 hf
        refine z_aload_n C 0 dX2_setsDealt_43 rfl rfl ?_
        obtain ⟨b10, hb10, e_b10, hf⟩ := zbk_el hf
        refine z_getb C (b := b10) (Nat.le_of_ble_eq_true rfl) rfl rfl 1 (Nat.le_of_ble_eq_true rfl) rfl kiX2_setsDealt_X2 kfX2_setsDealt_28 (isb_lt hb10) e_b10 dX2_setsDealt_44 ?_
        refine z_getr C (t := b10 + 8) (isb_k0 hb10) (isb_L0 hb10) rfl 10 (Nat.le_of_ble_eq_true rfl) rfl kiX2_setsDealt_X0 kfX2_setsDealt_105 dX2_setsDealt_47 ?_
        refine z_iload C 5 dX2_setsDealt_50 rfl ?_
        obtain ⟨hi11, hf⟩ := ck_el hf
        refine z_iald C (k := (b10 + 8)) (isb_k8 hb10) (isb_L8 hb10) hi11 dX2_setsDealt_52 ?_
        refine z_topi (fun x12 e_x12 => ?_)
        replace hf := bn_to e_x12 hf
        refine z_istore C (lv2 := [(0, .ref ((zw K).2.1 39)), (1, .int a1), (2, .int a2), (3, .ref ((zw K).2.1 tr3)), (4, .int i4), (5, .int i5), (6, .int x12)]) [1, 2, 3, 4, 5, 6, 0] dX2_setsDealt_53 (Nat.le_of_ble_eq_true rfl) rfl ?_
        refine z_iload C 6 dX2_setsDealt_55 rfl ?_
        refine z_bipush C (v := 64) dX2_setsDealt_57 rfl ?_
        refine z_irem C dX2_setsDealt_59 (by decide) ?_
        refine z_topi (fun x13 e_x13 => ?_)
        replace hf := bn_to e_x13 hf
        refine z_istore C (lv2 := [(0, .ref ((zw K).2.1 39)), (1, .int a1), (2, .int a2), (3, .ref ((zw K).2.1 tr3)), (4, .int i4), (5, .int i5), (6, .int x12), (7, .int x13)]) [1, 2, 3, 4, 5, 6, 7, 0] dX2_setsDealt_60 (Nat.le_of_ble_eq_true rfl) rfl ?_
        refine z_iload C 6 dX2_setsDealt_62 rfl ?_
        refine z_bipush C (v := 64) dX2_setsDealt_64 rfl ?_
        refine z_idiv C dX2_setsDealt_66 (by decide) ?_
        refine zby (c := (x12 / 64) = 0) (fun c14 => ?_) (fun c14 => ?_)
        · replace hf := if_t c14 hf
          refine z_tab (v := 0) (tgt := 92) (off := 25) C c14 dX2_setsDealt_67 (by decide) (by decide) rfl (by decide) ?_
          refine z_iload C 4 dX2_setsDealt_92 rfl ?_
          refine z_aload_n C 0 dX2_setsDealt_94 rfl rfl ?_
          refine z_getr C (t := 43) (Nat.le_of_ble_eq_true rfl) rfl rfl 7 (Nat.le_of_ble_eq_true rfl) rfl kiX2_setsDealt_X2 kfX2_setsDealt_21 dX2_setsDealt_95 ?_
          refine z_alen C (k := 43) (v := 6) (Nat.le_of_ble_eq_true rfl) rfl (fun _ => rfl) rfl dX2_setsDealt_98 ?_
          refine z_icmp_ge (tgt := 229) C dX2_setsDealt_99 (by decide) (fun c22 => ?_) (fun c22 => ?_)
          · replace hf := if_t c22 hf
            obtain ⟨x15, e_x15⟩ : ∃ y : Int32, y = i5 + 1 := ⟨_, rfl⟩
            replace hf := bn_to e_x15 hf
            refine z_iinc C (lv2 := [(0, .ref ((zw K).2.1 39)), (1, .int a1), (2, .int a2), (3, .ref ((zw K).2.1 tr3)), (4, .int i4), (5, .int x15), (6, .int x12), (7, .int x13)]) 5 [1, 2, 3, 4, 5, 0, 6, 7] dX2_setsDealt_229 rfl rfl (Nat.le_of_ble_eq_true rfl) e_x15 rfl ?_
            refine z_goto (tgt := 14) C dX2_setsDealt_232 (by decide) ?_
            cases hf
            exact z_sub [0, 1, 2, 3, 4, 5] rfl (ih i4 x15 m6 hz)
          · replace hf := if_f c22 hf
            refine z_aload_n C 0 dX2_setsDealt_102 rfl rfl ?_
            refine z_getr C (t := 43) (Nat.le_of_ble_eq_true rfl) rfl rfl 7 (Nat.le_of_ble_eq_true rfl) rfl kiX2_setsDealt_X2 kfX2_setsDealt_21 dX2_setsDealt_103 ?_
            refine z_iload C 4 dX2_setsDealt_106 rfl ?_
            refine z_aload_n C 0 dX2_setsDealt_108 rfl rfl ?_
            refine z_iload_n C 1 dX2_setsDealt_109 rfl rfl ?_
            refine z_iload_n C 2 dX2_setsDealt_110 rfl rfl ?_
            refine z_bipush C (v := 6) dX2_setsDealt_111 rfl ?_
            refine z_imul C dX2_setsDealt_113 ?_
            refine z_iload C 7 dX2_setsDealt_114 rfl ?_
            refine z_iadd C dX2_setsDealt_116 ?_
            refine z_aload_n C 3 dX2_setsDealt_117 rfl rfl ?_
            obtain ⟨r17, hc16, hf⟩ := zb_el hf
            refine z_cVi C (c_X2_setsTaken _ _ htr3 hc16) rfl gX2_setsDealt_X2_setsTaken rfl rfl zdX2_setsTaken rfl (Nat.le_of_ble_eq_true rfl) rfl rfl rfl ⟨Nat.le_of_ble_eq_true rfl, Nat.le_of_ble_eq_true rfl⟩ (Nat.le_of_ble_eq_true rfl) dX2_setsDealt_118 rfl ?_
            obtain ⟨hi18, hf⟩ := ck_el hf
            refine z_iast C (k := 43) (Nat.le_of_ble_eq_true rfl) rfl hi18 dX2_setsDealt_121 ?_
            refine z_nm (fun m19 e_m19 => ?_)
            replace hf := bn_to e_m19 hf
            obtain ⟨x20, e_x20⟩ : ∃ y : Int32, y = i4 + 1 := ⟨_, rfl⟩
            replace hf := bn_to e_x20 hf
            refine z_iinc C (lv2 := [(0, .ref ((zw K).2.1 39)), (1, .int a1), (2, .int a2), (3, .ref ((zw K).2.1 tr3)), (4, .int x20), (5, .int i5), (6, .int x12), (7, .int x13)]) 4 [1, 2, 3, 4, 0, 5, 6, 7] dX2_setsDealt_122 rfl rfl (Nat.le_of_ble_eq_true rfl) e_x20 rfl ?_
            refine z_goto (tgt := 229) C dX2_setsDealt_125 (by decide) ?_
            obtain ⟨x21, e_x21⟩ : ∃ y : Int32, y = i5 + 1 := ⟨_, rfl⟩
            replace hf := bn_to e_x21 hf
            refine z_iinc C (lv2 := [(0, .ref ((zw K).2.1 39)), (1, .int a1), (2, .int a2), (3, .ref ((zw K).2.1 tr3)), (4, .int x20), (5, .int x21), (6, .int x12), (7, .int x13)]) 5 [1, 2, 3, 4, 5, 0, 6, 7] dX2_setsDealt_229 rfl rfl (Nat.le_of_ble_eq_true rfl) e_x21 rfl ?_
            refine z_goto (tgt := 14) C dX2_setsDealt_232 (by decide) ?_
            cases hf
            exact z_sub [0, 1, 2, 3, 4, 5] rfl (ih x20 x21 m19 hz)
        · replace hf := if_f c14 hf
          refine zby (c := (x12 / 64) = 1) (fun c23 => ?_) (fun c23 => ?_)
          · replace hf := if_t c23 hf
            refine z_tab (v := 1) (tgt := 128) (off := 61) C c23 dX2_setsDealt_67 (by decide) (by decide) rfl (by decide) ?_
            refine z_iload C 4 dX2_setsDealt_128 rfl ?_
            refine z_iconst C (v := 1) dX2_setsDealt_130 rfl ?_
            refine z_icmp_lt (tgt := 229) C dX2_setsDealt_131 (by decide) (fun c31 => ?_) (fun c31 => ?_)
            · replace hf := if_t c31 hf
              obtain ⟨x24, e_x24⟩ : ∃ y : Int32, y = i5 + 1 := ⟨_, rfl⟩
              replace hf := bn_to e_x24 hf
              refine z_iinc C (lv2 := [(0, .ref ((zw K).2.1 39)), (1, .int a1), (2, .int a2), (3, .ref ((zw K).2.1 tr3)), (4, .int i4), (5, .int x24), (6, .int x12), (7, .int x13)]) 5 [1, 2, 3, 4, 5, 0, 6, 7] dX2_setsDealt_229 rfl rfl (Nat.le_of_ble_eq_true rfl) e_x24 rfl ?_
              refine z_goto (tgt := 14) C dX2_setsDealt_232 (by decide) ?_
              cases hf
              exact z_sub [0, 1, 2, 3, 4, 5] rfl (ih i4 x24 m6 hz)
            · replace hf := if_f c31 hf
              refine z_aload_n C 0 dX2_setsDealt_134 rfl rfl ?_
              refine z_getr C (t := 43) (Nat.le_of_ble_eq_true rfl) rfl rfl 7 (Nat.le_of_ble_eq_true rfl) rfl kiX2_setsDealt_X2 kfX2_setsDealt_21 dX2_setsDealt_135 ?_
              refine z_iload C 4 dX2_setsDealt_138 rfl ?_
              refine z_iconst C (v := 1) dX2_setsDealt_140 rfl ?_
              refine z_isub C dX2_setsDealt_141 ?_
              refine z_aload_n C 0 dX2_setsDealt_142 rfl rfl ?_
              refine z_aload_n C 0 dX2_setsDealt_143 rfl rfl ?_
              refine z_getr C (t := 43) (Nat.le_of_ble_eq_true rfl) rfl rfl 7 (Nat.le_of_ble_eq_true rfl) rfl kiX2_setsDealt_X2 kfX2_setsDealt_21 dX2_setsDealt_144 ?_
              refine z_iload C 4 dX2_setsDealt_147 rfl ?_
              refine z_iconst C (v := 1) dX2_setsDealt_149 rfl ?_
              refine z_isub C dX2_setsDealt_150 ?_
              obtain ⟨hi25, hf⟩ := ck_el hf
              refine z_iald C (k := 43) (Nat.le_of_ble_eq_true rfl) rfl hi25 dX2_setsDealt_151 ?_
              refine z_iload C 7 dX2_setsDealt_152 rfl ?_
              obtain ⟨r27, hc26, hf⟩ := zb_el hf
              refine z_cVi C (c_X2_times _ _ hc26) rfl gX2_setsDealt_X2_times rfl rfl zdX2_times rfl (Nat.le_of_ble_eq_true rfl) rfl rfl rfl ⟨Nat.le_of_ble_eq_true rfl, Nat.le_of_ble_eq_true rfl⟩ (Nat.le_of_ble_eq_true rfl) dX2_setsDealt_154 rfl ?_
              obtain ⟨hi28, hf⟩ := ck_el hf
              refine z_iast C (k := 43) (Nat.le_of_ble_eq_true rfl) rfl hi28 dX2_setsDealt_157 ?_
              refine z_nm (fun m29 e_m29 => ?_)
              replace hf := bn_to e_m29 hf
              refine z_goto (tgt := 229) C dX2_setsDealt_158 (by decide) ?_
              obtain ⟨x30, e_x30⟩ : ∃ y : Int32, y = i5 + 1 := ⟨_, rfl⟩
              replace hf := bn_to e_x30 hf
              refine z_iinc C (lv2 := [(0, .ref ((zw K).2.1 39)), (1, .int a1), (2, .int a2), (3, .ref ((zw K).2.1 tr3)), (4, .int i4), (5, .int x30), (6, .int x12), (7, .int x13)]) 5 [1, 2, 3, 4, 5, 0, 6, 7] dX2_setsDealt_229 rfl rfl (Nat.le_of_ble_eq_true rfl) e_x30 rfl ?_
              refine z_goto (tgt := 14) C dX2_setsDealt_232 (by decide) ?_
              cases hf
              exact z_sub [0, 1, 2, 3, 4, 5] rfl (ih i4 x30 m29 hz)
          · replace hf := if_f c23 hf
            refine zby (c := (x12 / 64) = 2) (fun c32 => ?_) (fun c32 => ?_)
            · replace hf := if_t c32 hf
              refine z_tab (v := 2) (tgt := 161) (off := 94) C c32 dX2_setsDealt_67 (by decide) (by decide) rfl (by decide) ?_
              refine z_iload C 4 dX2_setsDealt_161 rfl ?_
              refine z_iconst C (v := 2) dX2_setsDealt_163 rfl ?_
              refine z_icmp_lt (tgt := 229) C dX2_setsDealt_164 (by decide) (fun c42 => ?_) (fun c42 => ?_)
              · replace hf := if_t c42 hf
                obtain ⟨x33, e_x33⟩ : ∃ y : Int32, y = i5 + 1 := ⟨_, rfl⟩
                replace hf := bn_to e_x33 hf
                refine z_iinc C (lv2 := [(0, .ref ((zw K).2.1 39)), (1, .int a1), (2, .int a2), (3, .ref ((zw K).2.1 tr3)), (4, .int i4), (5, .int x33), (6, .int x12), (7, .int x13)]) 5 [1, 2, 3, 4, 5, 0, 6, 7] dX2_setsDealt_229 rfl rfl (Nat.le_of_ble_eq_true rfl) e_x33 rfl ?_
                refine z_goto (tgt := 14) C dX2_setsDealt_232 (by decide) ?_
                cases hf
                exact z_sub [0, 1, 2, 3, 4, 5] rfl (ih i4 x33 m6 hz)
              · replace hf := if_f c42 hf
                obtain ⟨x34, e_x34⟩ : ∃ y : Int32, y = i4 + (-1) := ⟨_, rfl⟩
                replace hf := bn_to e_x34 hf
                refine z_iinc C (lv2 := [(0, .ref ((zw K).2.1 39)), (1, .int a1), (2, .int a2), (3, .ref ((zw K).2.1 tr3)), (4, .int x34), (5, .int i5), (6, .int x12), (7, .int x13)]) 4 [1, 2, 3, 4, 0, 5, 6, 7] dX2_setsDealt_167 (by decide) rfl (Nat.le_of_ble_eq_true rfl) e_x34 rfl ?_
                refine z_aload_n C 0 dX2_setsDealt_170 rfl rfl ?_
                refine z_getr C (t := 43) (Nat.le_of_ble_eq_true rfl) rfl rfl 7 (Nat.le_of_ble_eq_true rfl) rfl kiX2_setsDealt_X2 kfX2_setsDealt_21 dX2_setsDealt_171 ?_
                refine z_iload C 4 dX2_setsDealt_174 rfl ?_
                refine z_iconst C (v := 1) dX2_setsDealt_176 rfl ?_
                refine z_isub C dX2_setsDealt_177 ?_
                refine z_aload_n C 0 dX2_setsDealt_178 rfl rfl ?_
                refine z_getr C (t := 43) (Nat.le_of_ble_eq_true rfl) rfl rfl 7 (Nat.le_of_ble_eq_true rfl) rfl kiX2_setsDealt_X2 kfX2_setsDealt_21 dX2_setsDealt_179 ?_
                refine z_iload C 4 dX2_setsDealt_182 rfl ?_
                refine z_iconst C (v := 1) dX2_setsDealt_184 rfl ?_
                refine z_isub C dX2_setsDealt_185 ?_
                obtain ⟨hi35, hf⟩ := ck_el hf
                refine z_iald C (k := 43) (Nat.le_of_ble_eq_true rfl) rfl hi35 dX2_setsDealt_186 ?_
                refine z_aload_n C 0 dX2_setsDealt_187 rfl rfl ?_
                refine z_getr C (t := 43) (Nat.le_of_ble_eq_true rfl) rfl rfl 7 (Nat.le_of_ble_eq_true rfl) rfl kiX2_setsDealt_X2 kfX2_setsDealt_21 dX2_setsDealt_188 ?_
                refine z_iload C 4 dX2_setsDealt_191 rfl ?_
                obtain ⟨hi36, hf⟩ := ck_el hf
                refine z_iald C (k := 43) (Nat.le_of_ble_eq_true rfl) rfl hi36 dX2_setsDealt_193 ?_
                obtain ⟨r38, hc37, hf⟩ := zb_el hf
                refine z_cSi C (c_X2_both _ _ hc37) rfl gX2_setsDealt_X2_both rfl rfl zdX2_both.2 rfl ⟨Nat.le_of_ble_eq_true rfl, Nat.le_of_ble_eq_true rfl⟩ (Nat.le_of_ble_eq_true rfl) dX2_setsDealt_194 rfl ?_
                obtain ⟨hi39, hf⟩ := ck_el hf
                refine z_iast C (k := 43) (Nat.le_of_ble_eq_true rfl) rfl hi39 dX2_setsDealt_197 ?_
                refine z_nm (fun m40 e_m40 => ?_)
                replace hf := bn_to e_m40 hf
                refine z_goto (tgt := 229) C dX2_setsDealt_198 (by decide) ?_
                obtain ⟨x41, e_x41⟩ : ∃ y : Int32, y = i5 + 1 := ⟨_, rfl⟩
                replace hf := bn_to e_x41 hf
                refine z_iinc C (lv2 := [(0, .ref ((zw K).2.1 39)), (1, .int a1), (2, .int a2), (3, .ref ((zw K).2.1 tr3)), (4, .int x34), (5, .int x41), (6, .int x12), (7, .int x13)]) 5 [1, 2, 3, 4, 5, 0, 6, 7] dX2_setsDealt_229 rfl rfl (Nat.le_of_ble_eq_true rfl) e_x41 rfl ?_
                refine z_goto (tgt := 14) C dX2_setsDealt_232 (by decide) ?_
                cases hf
                exact z_sub [0, 1, 2, 3, 4, 5] rfl (ih x34 x41 m40 hz)
            · replace hf := if_f c32 hf
              refine z_tabd (tgt := 201) C dX2_setsDealt_67 (ztab_out (n := 3) (Nat.le_of_ble_eq_true rfl) (lt_s (lt_s (lt_s lt_0 c14) c23) c32)) (by decide) ?_
              refine z_iload C 4 dX2_setsDealt_201 rfl ?_
              refine z_iconst C (v := 2) dX2_setsDealt_203 rfl ?_
              refine z_icmp_lt (tgt := 229) C dX2_setsDealt_204 (by decide) (fun c50 => ?_) (fun c50 => ?_)
              · replace hf := if_t c50 hf
                obtain ⟨x43, e_x43⟩ : ∃ y : Int32, y = i5 + 1 := ⟨_, rfl⟩
                replace hf := bn_to e_x43 hf
                refine z_iinc C (lv2 := [(0, .ref ((zw K).2.1 39)), (1, .int a1), (2, .int a2), (3, .ref ((zw K).2.1 tr3)), (4, .int i4), (5, .int x43), (6, .int x12), (7, .int x13)]) 5 [1, 2, 3, 4, 5, 0, 6, 7] dX2_setsDealt_229 rfl rfl (Nat.le_of_ble_eq_true rfl) e_x43 rfl ?_
                refine z_goto (tgt := 14) C dX2_setsDealt_232 (by decide) ?_
                cases hf
                exact z_sub [0, 1, 2, 3, 4, 5] rfl (ih i4 x43 m6 hz)
              · replace hf := if_f c50 hf
                obtain ⟨x44, e_x44⟩ : ∃ y : Int32, y = i4 + (-1) := ⟨_, rfl⟩
                replace hf := bn_to e_x44 hf
                refine z_iinc C (lv2 := [(0, .ref ((zw K).2.1 39)), (1, .int a1), (2, .int a2), (3, .ref ((zw K).2.1 tr3)), (4, .int x44), (5, .int i5), (6, .int x12), (7, .int x13)]) 4 [1, 2, 3, 4, 0, 5, 6, 7] dX2_setsDealt_207 (by decide) rfl (Nat.le_of_ble_eq_true rfl) e_x44 rfl ?_
                refine z_aload_n C 0 dX2_setsDealt_210 rfl rfl ?_
                refine z_getr C (t := 43) (Nat.le_of_ble_eq_true rfl) rfl rfl 7 (Nat.le_of_ble_eq_true rfl) rfl kiX2_setsDealt_X2 kfX2_setsDealt_21 dX2_setsDealt_211 ?_
                refine z_iload C 4 dX2_setsDealt_214 rfl ?_
                refine z_iconst C (v := 1) dX2_setsDealt_216 rfl ?_
                refine z_isub C dX2_setsDealt_217 ?_
                refine z_dup2 C dX2_setsDealt_218 ?_
                obtain ⟨hi45, hf⟩ := ck_el hf
                refine z_iald C (k := 43) (Nat.le_of_ble_eq_true rfl) rfl hi45 dX2_setsDealt_219 ?_
                refine z_aload_n C 0 dX2_setsDealt_220 rfl rfl ?_
                refine z_getr C (t := 43) (Nat.le_of_ble_eq_true rfl) rfl rfl 7 (Nat.le_of_ble_eq_true rfl) rfl kiX2_setsDealt_X2 kfX2_setsDealt_21 dX2_setsDealt_221 ?_
                refine z_iload C 4 dX2_setsDealt_224 rfl ?_
                obtain ⟨hi46, hf⟩ := ck_el hf
                refine z_iald C (k := 43) (Nat.le_of_ble_eq_true rfl) rfl hi46 dX2_setsDealt_226 ?_
                refine z_ior C dX2_setsDealt_227 ?_
                obtain ⟨hi47, hf⟩ := ck_el hf
                refine z_iast C (k := 43) (Nat.le_of_ble_eq_true rfl) rfl hi47 dX2_setsDealt_228 ?_
                refine z_nm (fun m48 e_m48 => ?_)
                replace hf := bn_to e_m48 hf
                obtain ⟨x49, e_x49⟩ : ∃ y : Int32, y = i5 + 1 := ⟨_, rfl⟩
                replace hf := bn_to e_x49 hf
                refine z_iinc C (lv2 := [(0, .ref ((zw K).2.1 39)), (1, .int a1), (2, .int a2), (3, .ref ((zw K).2.1 tr3)), (4, .int x44), (5, .int x49), (6, .int x12), (7, .int x13)]) 5 [1, 2, 3, 4, 5, 0, 6, 7] dX2_setsDealt_229 rfl rfl (Nat.le_of_ble_eq_true rfl) e_x49 rfl ?_
                refine z_goto (tgt := 14) C dX2_setsDealt_232 (by decide) ?_
                cases hf
                exact z_sub [0, 1, 2, 3, 4, 5] rfl (ih x44 x49 m48 hz)
set_option maxRecDepth 100000 in
set_option maxHeartbeats 4000000 in
theorem c_X2_setsDealt (l : Launch) (w : ZW) {m : Mem} {a1 : Int32} {a2 : Int32} {tr3 : Nat} {r9 : Int32} {m9 : Mem} (htr3 : istr tr3) (hf : s_X2_setsDealt m a1 a2 tr3 = some (r9, m9)) : zCi MX l w yX2_setsDealt wsX2_setsDealt rmX2_setsDealt [.ref (w.2.1 39), .int a1, .int a2, .ref (w.2.1 tr3)] m m9 r9 := by
  refine z_met_i MX_ok (own := RX2) (by decide +kernel) rfl rfl (Nat.le_of_ble_eq_true rfl) ?_
  intro K C hKw hKl hret
  subst hKw
  subst hKl
  unfold s_X2_setsDealt at hf
  show zGo MX K m [(0, .ref ((zw K).2.1 39)), (1, .int a1), (2, .int a2), (3, .ref ((zw K).2.1 tr3))] 0 []
  refine z_iconst C (v := 0) dX2_setsDealt_0 rfl ?_
  refine z_istore C (lv2 := [(0, .ref ((zw K).2.1 39)), (1, .int a1), (2, .int a2), (3, .ref ((zw K).2.1 tr3)), (4, .int 0)]) [1, 2, 3, 4, 0] dX2_setsDealt_1 (Nat.le_of_ble_eq_true rfl) rfl ?_
  refine z_aload_n C 0 dX2_setsDealt_3 rfl rfl ?_
  obtain ⟨b1, hb1, e_b1, hf⟩ := zbk_el hf
  refine z_getb C (b := b1) (Nat.le_of_ble_eq_true rfl) rfl rfl 1 (Nat.le_of_ble_eq_true rfl) rfl kiX2_setsDealt_X2 kfX2_setsDealt_28 (isb_lt hb1) e_b1 dX2_setsDealt_4 ?_
  refine z_getr C (t := b1 + 7) (isb_k0 hb1) (isb_L0 hb1) rfl 9 (Nat.le_of_ble_eq_true rfl) rfl kiX2_setsDealt_X0 kfX2_setsDealt_102 dX2_setsDealt_7 ?_
  refine z_iload_n C 2 dX2_setsDealt_10 rfl rfl ?_
  obtain ⟨hi2, hf⟩ := ck_el hf
  refine z_iald C (k := (b1 + 7)) (isb_k7 hb1) (isb_L7 hb1) hi2 dX2_setsDealt_11 ?_
  refine z_topi (fun x3 e_x3 => ?_)
  replace hf := bn_to e_x3 hf
  refine z_istore C (lv2 := [(0, .ref ((zw K).2.1 39)), (1, .int a1), (2, .int a2), (3, .ref ((zw K).2.1 tr3)), (4, .int 0), (5, .int x3)]) [1, 2, 3, 4, 5, 0] dX2_setsDealt_12 (Nat.le_of_ble_eq_true rfl) rfl ?_
  obtain ⟨y53, m54, hg, hf⟩ := zb2_el hf
  refine z_sub [0, 1, 2, 3, 4, 5] rfl (w_X2_setsDealt_14 C htr3 ?_ _ _ _ _ hg)
  clear hg
  refine z_iload C 1 dX2_setsDealt_235 rfl ?_
  refine z_if_ne (tgt := 244) C dX2_setsDealt_237 (by decide) (fun c56 => ?_) (fun c56 => ?_)
  · replace hf := if_f c56 hf
    refine z_aload_n C 0 dX2_setsDealt_244 rfl rfl ?_
    refine z_getr C (t := 43) (Nat.le_of_ble_eq_true rfl) rfl rfl 7 (Nat.le_of_ble_eq_true rfl) rfl kiX2_setsDealt_X2 kfX2_setsDealt_21 dX2_setsDealt_245 ?_
    refine z_iconst C (v := 0) dX2_setsDealt_248 rfl ?_
    obtain ⟨hi55, hf⟩ := ck_el hf
    refine z_iald C (k := 43) (Nat.le_of_ble_eq_true rfl) rfl hi55 dX2_setsDealt_249 ?_
    cases hf
    exact hret _ _ dX2_setsDealt_250
  · replace hf := if_t c56 hf
    refine z_iconst C (v := 1) dX2_setsDealt_240 rfl ?_
    refine z_goto (tgt := 250) C dX2_setsDealt_241 (by decide) ?_
    cases hf
    exact hret _ _ dX2_setsDealt_250
def rmX2_suits : Room := { frames := 3, cells := 0, slots := 0, locals := 79 }
theorem zdX2_suits : yX2_suits.cls = RX2 ∧ yX2_suits.cls ≠ "java/lang/invoke/MethodHandle" ∧ yX2_suits.cls ≠ "java/lang/invoke/VarHandle" ∧ (parseMethodDescriptor yX2_suits.desc).map (fun d => d.parameters.length) = some 3 := by decide +kernel
theorem kiX2_suits_X2 : ∀ w ∈ wsX20, w ∈ wsX2_suits := by decide +kernel
theorem kfX2_suits_28 : Cond.fieldLink RX2 28 "ShapeJudge$Judge" "book" "LShapeJudge$Book;" ∈ wsX2_suits := by decide +kernel
theorem kiX2_suits_X0 : ∀ w ∈ wsX00, w ∈ wsX2_suits := by decide +kernel
theorem kfX2_suits_94 : Cond.fieldLink RX2 94 "ShapeJudge$Book" "closed" "[Z" ∈ wsX2_suits := by decide +kernel
def s_X2_suits (m : Mem) (a1 : Int32) (a2 : Int32) (tr3 : Nat) : Option (Int32 × Mem) :=
  (s_X2_wantedEdges m a1 a2).bind fun r2 => zbk (m 39 1) fun b3 => ck (zin a2 6 = true) ((if (m (b3 + 3) (Int32.toNatClampNeg a2)) = 0 then (zb2 (s_X2_setsDealt m a1 a2 tr3) fun r6 m7 => (if ((zus r6 r2) &&& 1) = 0 then (some (0, m7)) else (some (1, m7)))) else ((s_X2_presentEdges m a1).bind fun r10 => (if r2 = r10 then (zb2 (s_X2_setsDealt m a1 a2 tr3) fun r12 m13 => (if ((zus r12 r2) &&& 1) = 0 then (some (0, m13)) else (some (1, m13)))) else (some (0, m))))))
set_option maxRecDepth 100000 in
set_option maxHeartbeats 4000000 in
theorem c_X2_suits (l : Launch) (w : ZW) {m : Mem} {a1 : Int32} {a2 : Int32} {tr3 : Nat} {r9 : Int32} {m9 : Mem} (htr3 : istr tr3) (hf : s_X2_suits m a1 a2 tr3 = some (r9, m9)) : zCi MX l w yX2_suits wsX2_suits rmX2_suits [.ref (w.2.1 39), .int a1, .int a2, .ref (w.2.1 tr3)] m m9 r9 := by
  refine z_met_z MX_ok (own := RX2) (by decide +kernel) rfl rfl (Nat.le_of_ble_eq_true rfl) ?_
  intro K C hKw hKl hret
  subst hKw
  subst hKl
  unfold s_X2_suits at hf
  show zGo MX K m [(0, .ref ((zw K).2.1 39)), (1, .int a1), (2, .int a2), (3, .ref ((zw K).2.1 tr3))] 0 []
  refine z_aload_n C 0 dX2_suits_0 rfl rfl ?_
  refine z_iload_n C 1 dX2_suits_1 rfl rfl ?_
  refine z_iload_n C 2 dX2_suits_2 rfl rfl ?_
  obtain ⟨r2, hc1, hf⟩ := zb_el hf
  refine z_cVi C (c_X2_wantedEdges _ _ hc1) rfl gX2_suits_X2_wantedEdges rfl rfl zdX2_wantedEdges rfl (Nat.le_of_ble_eq_true rfl) rfl rfl rfl ⟨Nat.le_of_ble_eq_true rfl, Nat.le_of_ble_eq_true rfl⟩ (Nat.le_of_ble_eq_true rfl) dX2_suits_3 rfl ?_
  refine z_istore C (lv2 := [(0, .ref ((zw K).2.1 39)), (1, .int a1), (2, .int a2), (3, .ref ((zw K).2.1 tr3)), (4, .int r2)]) [1, 2, 3, 4, 0] dX2_suits_6 (Nat.le_of_ble_eq_true rfl) rfl ?_
  refine z_aload_n C 0 dX2_suits_8 rfl rfl ?_
  obtain ⟨b3, hb3, e_b3, hf⟩ := zbk_el hf
  refine z_getb C (b := b3) (Nat.le_of_ble_eq_true rfl) rfl rfl 1 (Nat.le_of_ble_eq_true rfl) rfl kiX2_suits_X2 kfX2_suits_28 (isb_lt hb3) e_b3 dX2_suits_9 ?_
  refine z_getr C (t := b3 + 3) (isb_k0 hb3) (isb_L0 hb3) rfl 5 (Nat.le_of_ble_eq_true rfl) rfl kiX2_suits_X0 kfX2_suits_94 dX2_suits_12 ?_
  refine z_iload_n C 2 dX2_suits_15 rfl rfl ?_
  obtain ⟨hi4, hf⟩ := ck_el hf
  refine z_zald C (k := (b3 + 3)) (isb_k3 hb3) (isb_L3 hb3) hi4 dX2_suits_16 ?_
  refine z_if_eq (tgt := 32) C dX2_suits_17 (by decide) (fun c16 => ?_) (fun c16 => ?_)
  · replace hf := if_t c16 hf
    refine z_aload_n C 0 dX2_suits_32 rfl rfl ?_
    refine z_iload_n C 1 dX2_suits_33 rfl rfl ?_
    refine z_iload_n C 2 dX2_suits_34 rfl rfl ?_
    refine z_aload_n C 3 dX2_suits_35 rfl rfl ?_
    obtain ⟨r6, m7, hc5, hf⟩ := zb2_el hf
    refine z_cVi C (c_X2_setsDealt _ _ htr3 hc5) rfl gX2_suits_X2_setsDealt rfl rfl zdX2_setsDealt rfl (Nat.le_of_ble_eq_true rfl) rfl rfl rfl ⟨Nat.le_of_ble_eq_true rfl, Nat.le_of_ble_eq_true rfl⟩ (Nat.le_of_ble_eq_true rfl) dX2_suits_36 rfl ?_
    refine z_iload C 4 dX2_suits_39 rfl ?_
    refine z_iushr C dX2_suits_41 ?_
    refine z_iconst C (v := 1) dX2_suits_42 rfl ?_
    refine z_iand C dX2_suits_43 ?_
    refine z_if_eq (tgt := 51) C dX2_suits_44 (by decide) (fun c8 => ?_) (fun c8 => ?_)
    · replace hf := if_t c8 hf
      refine z_iconst C (v := 0) dX2_suits_51 rfl ?_
      cases hf
      exact hret _ _ dX2_suits_52 (Or.inl rfl)
    · replace hf := if_f c8 hf
      refine z_iconst C (v := 1) dX2_suits_47 rfl ?_
      refine z_goto (tgt := 52) C dX2_suits_48 (by decide) ?_
      cases hf
      exact hret _ _ dX2_suits_52 (Or.inr rfl)
  · replace hf := if_f c16 hf
    refine z_iload C 4 dX2_suits_20 rfl ?_
    refine z_aload_n C 0 dX2_suits_22 rfl rfl ?_
    refine z_iload_n C 1 dX2_suits_23 rfl rfl ?_
    obtain ⟨r10, hc9, hf⟩ := zb_el hf
    refine z_cVi C (c_X2_presentEdges _ _ hc9) rfl gX2_suits_X2_presentEdges rfl rfl zdX2_presentEdges rfl (Nat.le_of_ble_eq_true rfl) rfl rfl rfl ⟨Nat.le_of_ble_eq_true rfl, Nat.le_of_ble_eq_true rfl⟩ (Nat.le_of_ble_eq_true rfl) dX2_suits_24 rfl ?_
    refine z_icmp_eq (tgt := 32) C dX2_suits_27 (by decide) (fun c15 => ?_) (fun c15 => ?_)
    · replace hf := if_t c15 hf
      refine z_aload_n C 0 dX2_suits_32 rfl rfl ?_
      refine z_iload_n C 1 dX2_suits_33 rfl rfl ?_
      refine z_iload_n C 2 dX2_suits_34 rfl rfl ?_
      refine z_aload_n C 3 dX2_suits_35 rfl rfl ?_
      obtain ⟨r12, m13, hc11, hf⟩ := zb2_el hf
      refine z_cVi C (c_X2_setsDealt _ _ htr3 hc11) rfl gX2_suits_X2_setsDealt rfl rfl zdX2_setsDealt rfl (Nat.le_of_ble_eq_true rfl) rfl rfl rfl ⟨Nat.le_of_ble_eq_true rfl, Nat.le_of_ble_eq_true rfl⟩ (Nat.le_of_ble_eq_true rfl) dX2_suits_36 rfl ?_
      refine z_iload C 4 dX2_suits_39 rfl ?_
      refine z_iushr C dX2_suits_41 ?_
      refine z_iconst C (v := 1) dX2_suits_42 rfl ?_
      refine z_iand C dX2_suits_43 ?_
      refine z_if_eq (tgt := 51) C dX2_suits_44 (by decide) (fun c14 => ?_) (fun c14 => ?_)
      · replace hf := if_t c14 hf
        refine z_iconst C (v := 0) dX2_suits_51 rfl ?_
        cases hf
        exact hret _ _ dX2_suits_52 (Or.inl rfl)
      · replace hf := if_f c14 hf
        refine z_iconst C (v := 1) dX2_suits_47 rfl ?_
        refine z_goto (tgt := 52) C dX2_suits_48 (by decide) ?_
        cases hf
        exact hret _ _ dX2_suits_52 (Or.inr rfl)
    · replace hf := if_f c15 hf
      refine z_iconst C (v := 0) dX2_suits_30 rfl ?_
      cases hf
      exact hret _ _ dX2_suits_31 (Or.inl rfl)
def rmX2_addSuiting : Room := { frames := 4, cells := 0, slots := 0, locals := 103 }
theorem zdX2_addSuiting : yX2_addSuiting.cls = RX2 ∧ yX2_addSuiting.cls ≠ "java/lang/invoke/MethodHandle" ∧ yX2_addSuiting.cls ≠ "java/lang/invoke/VarHandle" ∧ (parseMethodDescriptor yX2_addSuiting.desc).map (fun d => d.parameters.length) = some 0 := by decide +kernel
theorem kiX2_addSuiting_X2 : ∀ w ∈ wsX20, w ∈ wsX2_addSuiting := by decide +kernel
theorem kfX2_addSuiting_28 : Cond.fieldLink RX2 28 "ShapeJudge$Judge" "book" "LShapeJudge$Book;" ∈ wsX2_addSuiting := by decide +kernel
theorem kiX2_addSuiting_X0 : ∀ w ∈ wsX00, w ∈ wsX2_addSuiting := by decide +kernel
theorem kfX2_addSuiting_57 : Cond.fieldLink RX2 57 "ShapeJudge$Book" "shapeCount" "I" ∈ wsX2_addSuiting := by decide +kernel
theorem kfX2_addSuiting_24 : Cond.fieldLink RX2 24 "ShapeJudge$Judge" "graph" "LShapeJudge$Graph;" ∈ wsX2_addSuiting := by decide +kernel
theorem kiX2_addSuiting_X1 : ∀ w ∈ wsX10, w ∈ wsX2_addSuiting := by decide +kernel
theorem kfX2_addSuiting_48 : Cond.fieldLink RX2 48 "ShapeJudge$Graph" "nodes" "I" ∈ wsX2_addSuiting := by decide +kernel
theorem kfX2_addSuiting_15 : Cond.fieldLink RX2 15 "ShapeJudge$Judge" "sure" "[I" ∈ wsX2_addSuiting := by decide +kernel
def t_X2_addSuiting_17 (i2 : Int32) (i5 : Int32) (i6 : Int32) (m7 : Mem) : Option ((Int32 × Int32 × Mem) ⊕ (Int32 × Mem)) :=
  (if (m7 1 0) ≤ i6 then (some (.inr (i5, m7))) else (ck (zin i2 6 = true) ((if (((m7 41 (Int32.toNatClampNeg i2)) >>> (i6 &&& 31)) &&& 1) = 0 then (zb2 (s_X2_suits m7 i6 i2 41) fun r11 m12 => (if r11 = 0 then (bn (i6 + 1) fun x13 => some (.inl (i5, x13, m12))) else (ck (zin i2 6 = true) (ck (zin i2 6 = true) (bn (sto m12 41 (Int32.toNatClampNeg i2) ((m12 41 (Int32.toNatClampNeg i2)) ||| ((1 : Int32) <<< (i6 &&& 31)))) fun m16 => bn (i6 + 1) fun x17 => some (.inl (1, x17, m16))))))) else (bn (i6 + 1) fun x9 => some (.inl (i5, x9, m7)))))))
def l_X2_addSuiting_17 (i2 : Int32) (n : Nat) (i5 : Int32) (i6 : Int32) (m7 : Mem) : Option (Int32 × Mem) := zlp n (fun a => t_X2_addSuiting_17 i2 a.1 a.2.1 a.2.2) (i5, i6, m7)
def t_X2_addSuiting_4  (i1 : Int32) (i2 : Int32) (m3 : Mem) : Option ((Int32 × Int32 × Mem) ⊕ (Int32 × Mem)) :=
  zbk (m3 39 1) fun b4 => (if (m3 b4 0) ≤ i2 then (some (.inr (i1, m3))) else ((zb2 (l_X2_addSuiting_17 i2 FU i1 0 m3) fun y21 m22 => bn (i2 + 1) fun x23 => some (.inl (y21, x23, m22)))))
def l_X2_addSuiting_4  (n : Nat) (i1 : Int32) (i2 : Int32) (m3 : Mem) : Option (Int32 × Mem) := zlp n (fun a => t_X2_addSuiting_4  a.1 a.2.1 a.2.2) (i1, i2, m3)
def s_X2_addSuiting (m : Mem)  : Option (Int32 × Mem) :=
  (zb2 (l_X2_addSuiting_4  FU 0 0 m) fun y25 m26 => ck (y25 = 0 ∨ y25 = 1) (some (y25, m26)))
set_option maxRecDepth 100000 in
set_option maxHeartbeats 4000000 in
theorem w_X2_addSuiting_17 {K : ZK} (C : zOK MX K cX2_addSuiting 4 (some .boolean) RX2 wsX2_addSuiting rmX2_addSuiting) {i2 : Int32}  {o0 : Int32} {o1 : Mem} (hk : zGo MX K o1 [(0, .ref ((zw K).2.1 39)), (1, .int o0), (2, .int i2)] 74 []) : ∀ (n : Nat) (i5 : Int32) (i6 : Int32) (m7 : Mem), l_X2_addSuiting_17 i2 n i5 i6 m7 = some (o0, o1) → zGo MX K m7 [(0, .ref ((zw K).2.1 39)), (1, .int i5), (2, .int i2), (3, .int i6)] 17 [] := by
  intro n
  induction n with
  | zero =>
    intro i5 i6 m7 hf
    cases hf
  | succ n ih =>
    intro i5 i6 m7 hf
    obtain ⟨z, hf, hz⟩ := zlp_el hf
    replace hf : t_X2_addSuiting_17 i2 i5 i6 m7 = some z := hf
    unfold t_X2_addSuiting_17 at hf
    refine z_iload_n C 3 dX2_addSuiting_17 rfl rfl ?_
    refine z_aload_n C 0 dX2_addSuiting_18 rfl rfl ?_
    refine z_getr C (t := 1) (Nat.le_of_ble_eq_true rfl) rfl rfl 0 (Nat.le_of_ble_eq_true rfl) rfl kiX2_addSuiting_X2 kfX2_addSuiting_24 dX2_addSuiting_19 ?_
    refine z_geti C (Nat.le_of_ble_eq_true rfl) rfl rfl 0 (Nat.le_of_ble_eq_true rfl) rfl kiX2_addSuiting_X1 kfX2_addSuiting_48 dX2_addSuiting_22 ?_
    refine z_icmp_ge (tgt := 74) C dX2_addSuiting_25 (by decide) (fun c20 => ?_) (fun c20 => ?_)
    · replace hf := if_t c20 hf
      cases hf
      replace hz := zlz_r hz
      cases hz
      exact z_sub [0, 1, 2] rfl hk
    · replace hf := if_f c20 hf
      refine z_aload_n C 0 dX2_addSuiting_28 rfl rfl ?_
      refine z_getr C (t := 41) (Nat.le_of_ble_eq_true rfl) rfl rfl 3 (Nat.le_of_ble_eq_true rfl) rfl kiX2_addSuiting_X2 kfX2_addSuiting_15 dX2_addSuiting_29 ?_
      refine z_iload_n C 2 dX2_addSuiting_32 rfl rfl ?_
      obtain ⟨hi8, hf⟩ := ck_el hf
      refine z_iald C (k := 41) (Nat.le_of_ble_eq_true rfl) rfl hi8 dX2_addSuiting_33 ?_
      refine z_iload_n C 3 dX2_addSuiting_34 rfl rfl ?_
      refine z_ishr C dX2_addSuiting_35 ?_
      refine z_iconst C (v := 1) dX2_addSuiting_36 rfl ?_
      refine z_iand C dX2_addSuiting_37 ?_
      refine z_if_ne (tgt := 68) C dX2_addSuiting_38 (by decide) (fun c19 => ?_) (fun c19 => ?_)
      · replace hf := if_f c19 hf
        obtain ⟨x9, e_x9⟩ : ∃ y : Int32, y = i6 + 1 := ⟨_, rfl⟩
        replace hf := bn_to e_x9 hf
        refine z_iinc C (lv2 := [(0, .ref ((zw K).2.1 39)), (1, .int i5), (2, .int i2), (3, .int x9)]) 3 [1, 2, 3, 0] dX2_addSuiting_68 rfl rfl (Nat.le_of_ble_eq_true rfl) e_x9 rfl ?_
        refine z_goto (tgt := 17) C dX2_addSuiting_71 (by decide) ?_
        cases hf
        exact z_sub [0, 1, 2, 3] rfl (ih i5 x9 m7 hz)
      · replace hf := if_t c19 hf
        refine z_aload_n C 0 dX2_addSuiting_41 rfl rfl ?_
        refine z_iload_n C 3 dX2_addSuiting_42 rfl rfl ?_
        refine z_iload_n C 2 dX2_addSuiting_43 rfl rfl ?_
        refine z_aload_n C 0 dX2_addSuiting_44 rfl rfl ?_
        refine z_getr C (t := 41) (Nat.le_of_ble_eq_true rfl) rfl rfl 3 (Nat.le_of_ble_eq_true rfl) rfl kiX2_addSuiting_X2 kfX2_addSuiting_15 dX2_addSuiting_45 ?_
        obtain ⟨r11, m12, hc10, hf⟩ := zb2_el hf
        refine z_cVi C (c_X2_suits _ _ (Or.inr rfl) hc10) rfl gX2_addSuiting_X2_suits rfl rfl zdX2_suits rfl (Nat.le_of_ble_eq_true rfl) rfl rfl rfl ⟨Nat.le_of_ble_eq_true rfl, Nat.le_of_ble_eq_true rfl⟩ (Nat.le_of_ble_eq_true rfl) dX2_addSuiting_48 rfl ?_
        refine z_if_eq (tgt := 68) C dX2_addSuiting_51 (by decide) (fun c18 => ?_) (fun c18 => ?_)
        · replace hf := if_t c18 hf
          obtain ⟨x13, e_x13⟩ : ∃ y : Int32, y = i6 + 1 := ⟨_, rfl⟩
          replace hf := bn_to e_x13 hf
          refine z_iinc C (lv2 := [(0, .ref ((zw K).2.1 39)), (1, .int i5), (2, .int i2), (3, .int x13)]) 3 [1, 2, 3, 0] dX2_addSuiting_68 rfl rfl (Nat.le_of_ble_eq_true rfl) e_x13 rfl ?_
          refine z_goto (tgt := 17) C dX2_addSuiting_71 (by decide) ?_
          cases hf
          exact z_sub [0, 1, 2, 3] rfl (ih i5 x13 m12 hz)
        · replace hf := if_f c18 hf
          refine z_aload_n C 0 dX2_addSuiting_54 rfl rfl ?_
          refine z_getr C (t := 41) (Nat.le_of_ble_eq_true rfl) rfl rfl 3 (Nat.le_of_ble_eq_true rfl) rfl kiX2_addSuiting_X2 kfX2_addSuiting_15 dX2_addSuiting_55 ?_
          refine z_iload_n C 2 dX2_addSuiting_58 rfl rfl ?_
          refine z_dup2 C dX2_addSuiting_59 ?_
          obtain ⟨hi14, hf⟩ := ck_el hf
          refine z_iald C (k := 41) (Nat.le_of_ble_eq_true rfl) rfl hi14 dX2_addSuiting_60 ?_
          refine z_iconst C (v := 1) dX2_addSuiting_61 rfl ?_
          refine z_iload_n C 3 dX2_addSuiting_62 rfl rfl ?_
          refine z_ishl C dX2_addSuiting_63 ?_
          refine z_ior C dX2_addSuiting_64 ?_
          obtain ⟨hi15, hf⟩ := ck_el hf
          refine z_iast C (k := 41) (Nat.le_of_ble_eq_true rfl) rfl hi15 dX2_addSuiting_65 ?_
          refine z_nm (fun m16 e_m16 => ?_)
          replace hf := bn_to e_m16 hf
          refine z_iconst C (v := 1) dX2_addSuiting_66 rfl ?_
          refine z_istore_n C (lv2 := [(0, .ref ((zw K).2.1 39)), (1, .int 1), (2, .int i2), (3, .int i6)]) [1, 0, 2, 3] dX2_addSuiting_67 rfl (Nat.le_of_ble_eq_true rfl) rfl ?_
          obtain ⟨x17, e_x17⟩ : ∃ y : Int32, y = i6 + 1 := ⟨_, rfl⟩
          replace hf := bn_to e_x17 hf
          refine z_iinc C (lv2 := [(0, .ref ((zw K).2.1 39)), (1, .int 1), (2, .int i2), (3, .int x17)]) 3 [1, 2, 3, 0] dX2_addSuiting_68 rfl rfl (Nat.le_of_ble_eq_true rfl) e_x17 rfl ?_
          refine z_goto (tgt := 17) C dX2_addSuiting_71 (by decide) ?_
          cases hf
          exact z_sub [0, 1, 2, 3] rfl (ih 1 x17 m16 hz)
set_option maxRecDepth 100000 in
set_option maxHeartbeats 4000000 in
theorem w_X2_addSuiting_4 {K : ZK} (C : zOK MX K cX2_addSuiting 4 (some .boolean) RX2 wsX2_addSuiting rmX2_addSuiting)   {o0 : Int32} {o1 : Mem} (hk : zGo MX K o1 [(1, .int o0)] 80 []) : ∀ (n : Nat) (i1 : Int32) (i2 : Int32) (m3 : Mem), l_X2_addSuiting_4  n i1 i2 m3 = some (o0, o1) → zGo MX K m3 [(0, .ref ((zw K).2.1 39)), (1, .int i1), (2, .int i2)] 4 [] := by
  intro n
  induction n with
  | zero =>
    intro i1 i2 m3 hf
    cases hf
  | succ n ih =>
    intro i1 i2 m3 hf
    obtain ⟨z, hf, hz⟩ := zlp_el hf
    replace hf : t_X2_addSuiting_4  i1 i2 m3 = some z := hf
    unfold t_X2_addSuiting_4 at hf
    refine z_iload_n C 2 dX2_addSuiting_4 rfl rfl ?_
    refine z_aload_n C 0 dX2_addSuiting_5 rfl rfl ?_
    obtain ⟨b4, hb4, e_b4, hf⟩ := zbk_el hf
    refine z_getb C (b := b4) (Nat.le_of_ble_eq_true rfl) rfl rfl 1 (Nat.le_of_ble_eq_true rfl) rfl kiX2_addSuiting_X2 kfX2_addSuiting_28 (isb_lt hb4) e_b4 dX2_addSuiting_6 ?_
    refine z_geti C (isb_k0 hb4) (isb_L0 hb4) rfl 0 (Nat.le_of_ble_eq_true rfl) rfl kiX2_addSuiting_X0 kfX2_addSuiting_57 dX2_addSuiting_9 ?_
    refine z_icmp_ge (tgt := 80) C dX2_addSuiting_12 (by decide) (fun c24 => ?_) (fun c24 => ?_)
    · replace hf := if_t c24 hf
      cases hf
      replace hz := zlz_r hz
      cases hz
      exact z_sub [1] rfl hk
    · replace hf := if_f c24 hf
      refine z_iconst C (v := 0) dX2_addSuiting_15 rfl ?_
      refine z_istore_n C (lv2 := [(0, .ref ((zw K).2.1 39)), (1, .int i1), (2, .int i2), (3, .int 0)]) [1, 2, 3, 0] dX2_addSuiting_16 rfl (Nat.le_of_ble_eq_true rfl) rfl ?_
      obtain ⟨y21, m22, hg, hf⟩ := zb2_el hf
      refine z_sub [0, 1, 2, 3] rfl (w_X2_addSuiting_17 C  ?_ _ _ _ _ hg)
      clear hg
      obtain ⟨x23, e_x23⟩ : ∃ y : Int32, y = i2 + 1 := ⟨_, rfl⟩
      replace hf := bn_to e_x23 hf
      refine z_iinc C (lv2 := [(0, .ref ((zw K).2.1 39)), (1, .int y21), (2, .int x23)]) 2 [1, 2, 0] dX2_addSuiting_74 rfl rfl (Nat.le_of_ble_eq_true rfl) e_x23 rfl ?_
      refine z_goto (tgt := 4) C dX2_addSuiting_77 (by decide) ?_
      cases hf
      exact z_sub [0, 1, 2] rfl (ih y21 x23 m22 hz)
set_option maxRecDepth 100000 in
set_option maxHeartbeats 4000000 in
theorem c_X2_addSuiting (l : Launch) (w : ZW) {m : Mem}  {r9 : Int32} {m9 : Mem}  (hf : s_X2_addSuiting m  = some (r9, m9)) : zCi MX l w yX2_addSuiting wsX2_addSuiting rmX2_addSuiting [.ref (w.2.1 39)] m m9 r9 := by
  refine z_met_z MX_ok (own := RX2) (by decide +kernel) rfl rfl (Nat.le_of_ble_eq_true rfl) ?_
  intro K C hKw hKl hret
  subst hKw
  subst hKl
  unfold s_X2_addSuiting at hf
  show zGo MX K m [(0, .ref ((zw K).2.1 39))] 0 []
  refine z_iconst C (v := 0) dX2_addSuiting_0 rfl ?_
  refine z_istore_n C (lv2 := [(0, .ref ((zw K).2.1 39)), (1, .int 0)]) [1, 0] dX2_addSuiting_1 rfl (Nat.le_of_ble_eq_true rfl) rfl ?_
  refine z_iconst C (v := 0) dX2_addSuiting_2 rfl ?_
  refine z_istore_n C (lv2 := [(0, .ref ((zw K).2.1 39)), (1, .int 0), (2, .int 0)]) [1, 2, 0] dX2_addSuiting_3 rfl (Nat.le_of_ble_eq_true rfl) rfl ?_
  obtain ⟨y25, m26, hg, hf⟩ := zb2_el hf
  refine z_sub [0, 1, 2] rfl (w_X2_addSuiting_4 C  ?_ _ _ _ _ hg)
  clear hg
  refine z_iload_n C 0 dX2_addSuiting_80 rfl rfl ?_
  obtain ⟨hz, hf⟩ := ck_el hf
  cases hf
  exact hret _ _ dX2_addSuiting_81 hz
def rmX2_bindToLeastPart : Room := { frames := 4, cells := 0, slots := 0, locals := 103 }
theorem zdX2_bindToLeastPart : yX2_bindToLeastPart.cls = RX2 ∧ yX2_bindToLeastPart.cls ≠ "java/lang/invoke/MethodHandle" ∧ yX2_bindToLeastPart.cls ≠ "java/lang/invoke/VarHandle" ∧ (parseMethodDescriptor yX2_bindToLeastPart.desc).map (fun d => d.parameters.length) = some 3 := by decide +kernel
theorem kiX2_bindToLeastPart_X2 : ∀ w ∈ wsX20, w ∈ wsX2_bindToLeastPart := by decide +kernel
theorem kfX2_bindToLeastPart_28 : Cond.fieldLink RX2 28 "ShapeJudge$Judge" "book" "LShapeJudge$Book;" ∈ wsX2_bindToLeastPart := by decide +kernel
theorem kiX2_bindToLeastPart_X0 : ∀ w ∈ wsX00, w ∈ wsX2_bindToLeastPart := by decide +kernel
theorem kfX2_bindToLeastPart_148 : Cond.fieldLink RX2 148 "ShapeJudge$Book" "partCount" "[I" ∈ wsX2_bindToLeastPart := by decide +kernel
theorem kfX2_bindToLeastPart_18 : Cond.fieldLink RX2 18 "ShapeJudge$Judge" "allowed" "[I" ∈ wsX2_bindToLeastPart := by decide +kernel
theorem kfX2_bindToLeastPart_9 : Cond.fieldLink RX2 9 "ShapeJudge$Judge" "fitting" "[I" ∈ wsX2_bindToLeastPart := by decide +kernel
def t_X2_bindToLeastPart_3 (a1 : Int32) (a2 : Int32) (a3 : Int32) (i1 : Int32) (m2 : Mem) : Option ((Int32 × Mem) ⊕ (Int32 × Mem)) :=
  zbk (m2 39 1) fun b3 => ck (zin a2 6 = true) ((if (m2 (b3 + 2) (Int32.toNatClampNeg a2)) ≤ i1 then (some (.inr ((-4), m2))) else (ck (zin a3 5 = true) (bn (sto m2 42 (Int32.toNatClampNeg a3) ((1 : Int32) <<< (i1 &&& 31))) fun m6 => zb2 (s_X2_suits m6 a1 a2 40) fun r8 m9 => (if r8 = 0 then (bn (i1 + 1) fun x10 => some (.inl (x10, m9))) else (some (.inr (i1, m9))))))))
def l_X2_bindToLeastPart_3 (a1 : Int32) (a2 : Int32) (a3 : Int32) (n : Nat) (i1 : Int32) (m2 : Mem) : Option (Int32 × Mem) := zlp n (fun a => t_X2_bindToLeastPart_3 a1 a2 a3 a.1 a.2) (i1, m2)
def s_X2_bindToLeastPart (m : Mem) (a1 : Int32) (a2 : Int32) (a3 : Int32) : Option (Int32 × Mem) :=
  l_X2_bindToLeastPart_3 a1 a2 a3 FU 0 m
set_option maxRecDepth 100000 in
set_option maxHeartbeats 4000000 in
theorem w_X2_bindToLeastPart_3 {K : ZK} (C : zOK MX K cX2_bindToLeastPart 5 (some .int) RX2 wsX2_bindToLeastPart rmX2_bindToLeastPart) {a1 : Int32} {a2 : Int32} {a3 : Int32}  {r9 : Int32} {m9 : Mem} (hret : zRi MX K cX2_bindToLeastPart m9 r9) : ∀ (n : Nat) (i1 : Int32) (m2 : Mem), l_X2_bindToLeastPart_3 a1 a2 a3 n i1 m2 = some (r9, m9) → zGo MX K m2 [(0, .ref ((zw K).2.1 39)), (1, .int a1), (2, .int a2), (3, .int a3), (4, .int i1)] 3 [] := by
  intro n
  induction n with
  | zero =>
    intro i1 m2 hf
    cases hf
  | succ n ih =>
    intro i1 m2 hf
    obtain ⟨z, hf, hz⟩ := zlp_el hf
    replace hf : t_X2_bindToLeastPart_3 a1 a2 a3 i1 m2 = some z := hf
    unfold t_X2_bindToLeastPart_3 at hf
    refine z_iload C 4 dX2_bindToLeastPart_3 rfl ?_
    refine z_aload_n C 0 dX2_bindToLeastPart_5 rfl rfl ?_
    obtain ⟨b3, hb3, e_b3, hf⟩ := zbk_el hf
    refine z_getb C (b := b3) (Nat.le_of_ble_eq_true rfl) rfl rfl 1 (Nat.le_of_ble_eq_true rfl) rfl kiX2_bindToLeastPart_X2 kfX2_bindToLeastPart_28 (isb_lt hb3) e_b3 dX2_bindToLeastPart_6 ?_
    refine z_getr C (t := b3 + 2) (isb_k0 hb3) (isb_L0 hb3) rfl 4 (Nat.le_of_ble_eq_true rfl) rfl kiX2_bindToLeastPart_X0 kfX2_bindToLeastPart_148 dX2_bindToLeastPart_9 ?_
    refine z_iload_n C 2 dX2_bindToLeastPart_12 rfl rfl ?_
    obtain ⟨hi4, hf⟩ := ck_el hf
    refine z_iald C (k := (b3 + 2)) (isb_k2 hb3) (isb_L2 hb3) hi4 dX2_bindToLeastPart_13 ?_
    refine z_icmp_ge (tgt := 49) C dX2_bindToLeastPart_14 (by decide) (fun c12 => ?_) (fun c12 => ?_)
    · replace hf := if_t c12 hf
      refine z_bipush C (v := (-4)) dX2_bindToLeastPart_49 (by decide) ?_
      cases hf
      replace hz := zlz_r hz
      cases hz
      exact hret _ _ dX2_bindToLeastPart_51
    · replace hf := if_f c12 hf
      refine z_aload_n C 0 dX2_bindToLeastPart_17 rfl rfl ?_
      refine z_getr C (t := 42) (Nat.le_of_ble_eq_true rfl) rfl rfl 6 (Nat.le_of_ble_eq_true rfl) rfl kiX2_bindToLeastPart_X2 kfX2_bindToLeastPart_18 dX2_bindToLeastPart_18 ?_
      refine z_iload_n C 3 dX2_bindToLeastPart_21 rfl rfl ?_
      refine z_iconst C (v := 1) dX2_bindToLeastPart_22 rfl ?_
      refine z_iload C 4 dX2_bindToLeastPart_23 rfl ?_
      refine z_ishl C dX2_bindToLeastPart_25 ?_
      obtain ⟨hi5, hf⟩ := ck_el hf
      refine z_iast C (k := 42) (Nat.le_of_ble_eq_true rfl) rfl hi5 dX2_bindToLeastPart_26 ?_
      refine z_nm (fun m6 e_m6 => ?_)
      replace hf := bn_to e_m6 hf
      refine z_aload_n C 0 dX2_bindToLeastPart_27 rfl rfl ?_
      refine z_iload_n C 1 dX2_bindToLeastPart_28 rfl rfl ?_
      refine z_iload_n C 2 dX2_bindToLeastPart_29 rfl rfl ?_
      refine z_aload_n C 0 dX2_bindToLeastPart_30 rfl rfl ?_
      refine z_getr C (t := 40) (Nat.le_of_ble_eq_true rfl) rfl rfl 2 (Nat.le_of_ble_eq_true rfl) rfl kiX2_bindToLeastPart_X2 kfX2_bindToLeastPart_9 dX2_bindToLeastPart_31 ?_
      obtain ⟨r8, m9, hc7, hf⟩ := zb2_el hf
      refine z_cVi C (c_X2_suits _ _ (Or.inl rfl) hc7) rfl gX2_bindToLeastPart_X2_suits rfl rfl zdX2_suits rfl (Nat.le_of_ble_eq_true rfl) rfl rfl rfl ⟨Nat.le_of_ble_eq_true rfl, Nat.le_of_ble_eq_true rfl⟩ (Nat.le_of_ble_eq_true rfl) dX2_bindToLeastPart_34 rfl ?_
      refine z_if_eq (tgt := 43) C dX2_bindToLeastPart_37 (by decide) (fun c11 => ?_) (fun c11 => ?_)
      · replace hf := if_t c11 hf
        obtain ⟨x10, e_x10⟩ : ∃ y : Int32, y = i1 + 1 := ⟨_, rfl⟩
        replace hf := bn_to e_x10 hf
        refine z_iinc C (lv2 := [(0, .ref ((zw K).2.1 39)), (1, .int a1), (2, .int a2), (3, .int a3), (4, .int x10)]) 4 [1, 2, 3, 4, 0] dX2_bindToLeastPart_43 rfl rfl (Nat.le_of_ble_eq_true rfl) e_x10 rfl ?_
        refine z_goto (tgt := 3) C dX2_bindToLeastPart_46 (by decide) ?_
        cases hf
        exact z_sub [0, 1, 2, 3, 4] rfl (ih x10 m9 hz)
      · replace hf := if_f c11 hf
        refine z_iload C 4 dX2_bindToLeastPart_40 rfl ?_
        cases hf
        replace hz := zlz_r hz
        cases hz
        exact hret _ _ dX2_bindToLeastPart_42
set_option maxRecDepth 100000 in
set_option maxHeartbeats 4000000 in
theorem c_X2_bindToLeastPart (l : Launch) (w : ZW) {m : Mem} {a1 : Int32} {a2 : Int32} {a3 : Int32} {r9 : Int32} {m9 : Mem}  (hf : s_X2_bindToLeastPart m a1 a2 a3 = some (r9, m9)) : zCi MX l w yX2_bindToLeastPart wsX2_bindToLeastPart rmX2_bindToLeastPart [.ref (w.2.1 39), .int a1, .int a2, .int a3] m m9 r9 := by
  refine z_met_i MX_ok (own := RX2) (by decide +kernel) rfl rfl (Nat.le_of_ble_eq_true rfl) ?_
  intro K C hKw hKl hret
  subst hKw
  subst hKl
  unfold s_X2_bindToLeastPart at hf
  show zGo MX K m [(0, .ref ((zw K).2.1 39)), (1, .int a1), (2, .int a2), (3, .int a3)] 0 []
  refine z_iconst C (v := 0) dX2_bindToLeastPart_0 rfl ?_
  refine z_istore C (lv2 := [(0, .ref ((zw K).2.1 39)), (1, .int a1), (2, .int a2), (3, .int a3), (4, .int 0)]) [1, 2, 3, 4, 0] dX2_bindToLeastPart_1 (Nat.le_of_ble_eq_true rfl) rfl ?_
  exact z_sub [0, 1, 2, 3, 4] rfl (w_X2_bindToLeastPart_3 C  hret _ _ _ hf)
def rmX2_dropUnfit : Room := { frames := 4, cells := 0, slots := 0, locals := 103 }
theorem zdX2_dropUnfit : yX2_dropUnfit.cls = RX2 ∧ yX2_dropUnfit.cls ≠ "java/lang/invoke/MethodHandle" ∧ yX2_dropUnfit.cls ≠ "java/lang/invoke/VarHandle" ∧ (parseMethodDescriptor yX2_dropUnfit.desc).map (fun d => d.parameters.length) = some 1 := by decide +kernel
theorem kiX2_dropUnfit_X2 : ∀ w ∈ wsX20, w ∈ wsX2_dropUnfit := by decide +kernel
theorem kfX2_dropUnfit_28 : Cond.fieldLink RX2 28 "ShapeJudge$Judge" "book" "LShapeJudge$Book;" ∈ wsX2_dropUnfit := by decide +kernel
theorem kiX2_dropUnfit_X0 : ∀ w ∈ wsX00, w ∈ wsX2_dropUnfit := by decide +kernel
theorem kfX2_dropUnfit_57 : Cond.fieldLink RX2 57 "ShapeJudge$Book" "shapeCount" "I" ∈ wsX2_dropUnfit := by decide +kernel
theorem kfX2_dropUnfit_24 : Cond.fieldLink RX2 24 "ShapeJudge$Judge" "graph" "LShapeJudge$Graph;" ∈ wsX2_dropUnfit := by decide +kernel
theorem kiX2_dropUnfit_X1 : ∀ w ∈ wsX10, w ∈ wsX2_dropUnfit := by decide +kernel
theorem kfX2_dropUnfit_48 : Cond.fieldLink RX2 48 "ShapeJudge$Graph" "nodes" "I" ∈ wsX2_dropUnfit := by decide +kernel
theorem kfX2_dropUnfit_60 : Cond.fieldLink RX2 60 "ShapeJudge$Book" "level" "[I" ∈ wsX2_dropUnfit := by decide +kernel
theorem kfX2_dropUnfit_9 : Cond.fieldLink RX2 9 "ShapeJudge$Judge" "fitting" "[I" ∈ wsX2_dropUnfit := by decide +kernel
def t_X2_dropUnfit_18 (a1 : Int32) (i2 : Int32) (i5 : Int32) (i6 : Int32) (m7 : Mem) : Option ((Int32 × Int32 × Mem) ⊕ (Int32 × Mem)) :=
  (if (m7 1 0) ≤ i6 then (some (.inr (i5, m7))) else (zbk (m7 39 1) fun b8 => ck (zin i2 6 = true) ((if (m7 (b8 + 6) (Int32.toNatClampNeg i2)) = a1 then (ck (zin i2 6 = true) ((if (((m7 40 (Int32.toNatClampNeg i2)) >>> (i6 &&& 31)) &&& 1) = 0 then (bn (i6 + 1) fun x11 => some (.inl (i5, x11, m7))) else (zb2 (s_X2_suits m7 i6 i2 40) fun r13 m14 => (if r13 = 0 then (ck (zin i2 6 = true) (ck (zin i2 6 = true) (bn (sto m14 40 (Int32.toNatClampNeg i2) ((m14 40 (Int32.toNatClampNeg i2)) &&& (((1 : Int32) <<< (i6 &&& 31)) ^^^ (-1)))) fun m18 => bn (i6 + 1) fun x19 => some (.inl (1, x19, m18))))) else (bn (i6 + 1) fun x15 => some (.inl (i5, x15, m14)))))))) else (some (.inr (i5, m7)))))))
def l_X2_dropUnfit_18 (a1 : Int32) (i2 : Int32) (n : Nat) (i5 : Int32) (i6 : Int32) (m7 : Mem) : Option (Int32 × Mem) := zlp n (fun a => t_X2_dropUnfit_18 a1 i2 a.1 a.2.1 a.2.2) (i5, i6, m7)
def t_X2_dropUnfit_4 (a1 : Int32) (i1 : Int32) (i2 : Int32) (m3 : Mem) : Option ((Int32 × Int32 × Mem) ⊕ (Int32 × Mem)) :=
  zbk (m3 39 1) fun b4 => (if (m3 b4 0) ≤ i2 then (some (.inr (i1, m3))) else ((zb2 (l_X2_dropUnfit_18 a1 i2 FU i1 0 m3) fun y24 m25 => bn (i2 + 1) fun x26 => some (.inl (y24, x26, m25)))))
def l_X2_dropUnfit_4 (a1 : Int32) (n : Nat) (i1 : Int32) (i2 : Int32) (m3 : Mem) : Option (Int32 × Mem) := zlp n (fun a => t_X2_dropUnfit_4 a1 a.1 a.2.1 a.2.2) (i1, i2, m3)
def s_X2_dropUnfit (m : Mem) (a1 : Int32) : Option (Int32 × Mem) :=
  (zb2 (l_X2_dropUnfit_4 a1 FU 0 0 m) fun y28 m29 => ck (y28 = 0 ∨ y28 = 1) (some (y28, m29)))
set_option maxRecDepth 100000 in
set_option maxHeartbeats 4000000 in
theorem w_X2_dropUnfit_18 {K : ZK} (C : zOK MX K cX2_dropUnfit 5 (some .boolean) RX2 wsX2_dropUnfit rmX2_dropUnfit) {a1 : Int32} {i2 : Int32}  {o0 : Int32} {o1 : Mem} (hk : zGo MX K o1 [(0, .ref ((zw K).2.1 39)), (1, .int a1), (2, .int o0), (3, .int i2)] 94 []) : ∀ (n : Nat) (i5 : Int32) (i6 : Int32) (m7 : Mem), l_X2_dropUnfit_18 a1 i2 n i5 i6 m7 = some (o0, o1) → zGo MX K m7 [(0, .ref ((zw K).2.1 39)), (1, .int a1), (2, .int i5), (3, .int i2), (4, .int i6)] 18 [] := by
  intro n
  induction n with
  | zero =>
    intro i5 i6 m7 hf
    cases hf
  | succ n ih =>
    intro i5 i6 m7 hf
    obtain ⟨z, hf, hz⟩ := zlp_el hf
    replace hf : t_X2_dropUnfit_18 a1 i2 i5 i6 m7 = some z := hf
    unfold t_X2_dropUnfit_18 at hf
    refine z_iload C 4 dX2_dropUnfit_18 rfl ?_
    refine z_aload_n C 0 dX2_dropUnfit_20 rfl rfl ?_
    refine z_getr C (t := 1) (Nat.le_of_ble_eq_true rfl) rfl rfl 0 (Nat.le_of_ble_eq_true rfl) rfl kiX2_dropUnfit_X2 kfX2_dropUnfit_24 dX2_dropUnfit_21 ?_
    refine z_geti C (Nat.le_of_ble_eq_true rfl) rfl rfl 0 (Nat.le_of_ble_eq_true rfl) rfl kiX2_dropUnfit_X1 kfX2_dropUnfit_48 dX2_dropUnfit_24 ?_
    refine z_icmp_ge (tgt := 94) C dX2_dropUnfit_27 (by decide) (fun c23 => ?_) (fun c23 => ?_)
    · replace hf := if_t c23 hf
      cases hf
      replace hz := zlz_r hz
      cases hz
      exact z_sub [0, 1, 2, 3] rfl hk
    · replace hf := if_f c23 hf
      refine z_aload_n C 0 dX2_dropUnfit_30 rfl rfl ?_
      obtain ⟨b8, hb8, e_b8, hf⟩ := zbk_el hf
      refine z_getb C (b := b8) (Nat.le_of_ble_eq_true rfl) rfl rfl 1 (Nat.le_of_ble_eq_true rfl) rfl kiX2_dropUnfit_X2 kfX2_dropUnfit_28 (isb_lt hb8) e_b8 dX2_dropUnfit_31 ?_
      refine z_getr C (t := b8 + 6) (isb_k0 hb8) (isb_L0 hb8) rfl 8 (Nat.le_of_ble_eq_true rfl) rfl kiX2_dropUnfit_X0 kfX2_dropUnfit_60 dX2_dropUnfit_34 ?_
      refine z_iload_n C 3 dX2_dropUnfit_37 rfl rfl ?_
      obtain ⟨hi9, hf⟩ := ck_el hf
      refine z_iald C (k := (b8 + 6)) (isb_k6 hb8) (isb_L6 hb8) hi9 dX2_dropUnfit_38 ?_
      refine z_iload_n C 1 dX2_dropUnfit_39 rfl rfl ?_
      refine z_icmp_ne (tgt := 94) C dX2_dropUnfit_40 (by decide) (fun c22 => ?_) (fun c22 => ?_)
      · replace hf := if_f c22 hf
        cases hf
        replace hz := zlz_r hz
        cases hz
        exact z_sub [0, 1, 2, 3] rfl hk
      · replace hf := if_t c22 hf
        refine z_aload_n C 0 dX2_dropUnfit_43 rfl rfl ?_
        refine z_getr C (t := 40) (Nat.le_of_ble_eq_true rfl) rfl rfl 2 (Nat.le_of_ble_eq_true rfl) rfl kiX2_dropUnfit_X2 kfX2_dropUnfit_9 dX2_dropUnfit_44 ?_
        refine z_iload_n C 3 dX2_dropUnfit_47 rfl rfl ?_
        obtain ⟨hi10, hf⟩ := ck_el hf
        refine z_iald C (k := 40) (Nat.le_of_ble_eq_true rfl) rfl hi10 dX2_dropUnfit_48 ?_
        refine z_iload C 4 dX2_dropUnfit_49 rfl ?_
        refine z_ishr C dX2_dropUnfit_51 ?_
        refine z_iconst C (v := 1) dX2_dropUnfit_52 rfl ?_
        refine z_iand C dX2_dropUnfit_53 ?_
        refine z_if_eq (tgt := 88) C dX2_dropUnfit_54 (by decide) (fun c21 => ?_) (fun c21 => ?_)
        · replace hf := if_t c21 hf
          obtain ⟨x11, e_x11⟩ : ∃ y : Int32, y = i6 + 1 := ⟨_, rfl⟩
          replace hf := bn_to e_x11 hf
          refine z_iinc C (lv2 := [(0, .ref ((zw K).2.1 39)), (1, .int a1), (2, .int i5), (3, .int i2), (4, .int x11)]) 4 [1, 2, 3, 4, 0] dX2_dropUnfit_88 rfl rfl (Nat.le_of_ble_eq_true rfl) e_x11 rfl ?_
          refine z_goto (tgt := 18) C dX2_dropUnfit_91 (by decide) ?_
          cases hf
          exact z_sub [0, 1, 2, 3, 4] rfl (ih i5 x11 m7 hz)
        · replace hf := if_f c21 hf
          refine z_aload_n C 0 dX2_dropUnfit_57 rfl rfl ?_
          refine z_iload C 4 dX2_dropUnfit_58 rfl ?_
          refine z_iload_n C 3 dX2_dropUnfit_60 rfl rfl ?_
          refine z_aload_n C 0 dX2_dropUnfit_61 rfl rfl ?_
          refine z_getr C (t := 40) (Nat.le_of_ble_eq_true rfl) rfl rfl 2 (Nat.le_of_ble_eq_true rfl) rfl kiX2_dropUnfit_X2 kfX2_dropUnfit_9 dX2_dropUnfit_62 ?_
          obtain ⟨r13, m14, hc12, hf⟩ := zb2_el hf
          refine z_cVi C (c_X2_suits _ _ (Or.inl rfl) hc12) rfl gX2_dropUnfit_X2_suits rfl rfl zdX2_suits rfl (Nat.le_of_ble_eq_true rfl) rfl rfl rfl ⟨Nat.le_of_ble_eq_true rfl, Nat.le_of_ble_eq_true rfl⟩ (Nat.le_of_ble_eq_true rfl) dX2_dropUnfit_65 rfl ?_
          refine z_if_ne (tgt := 88) C dX2_dropUnfit_68 (by decide) (fun c20 => ?_) (fun c20 => ?_)
          · replace hf := if_f c20 hf
            obtain ⟨x15, e_x15⟩ : ∃ y : Int32, y = i6 + 1 := ⟨_, rfl⟩
            replace hf := bn_to e_x15 hf
            refine z_iinc C (lv2 := [(0, .ref ((zw K).2.1 39)), (1, .int a1), (2, .int i5), (3, .int i2), (4, .int x15)]) 4 [1, 2, 3, 4, 0] dX2_dropUnfit_88 rfl rfl (Nat.le_of_ble_eq_true rfl) e_x15 rfl ?_
            refine z_goto (tgt := 18) C dX2_dropUnfit_91 (by decide) ?_
            cases hf
            exact z_sub [0, 1, 2, 3, 4] rfl (ih i5 x15 m14 hz)
          · replace hf := if_t c20 hf
            refine z_aload_n C 0 dX2_dropUnfit_71 rfl rfl ?_
            refine z_getr C (t := 40) (Nat.le_of_ble_eq_true rfl) rfl rfl 2 (Nat.le_of_ble_eq_true rfl) rfl kiX2_dropUnfit_X2 kfX2_dropUnfit_9 dX2_dropUnfit_72 ?_
            refine z_iload_n C 3 dX2_dropUnfit_75 rfl rfl ?_
            refine z_dup2 C dX2_dropUnfit_76 ?_
            obtain ⟨hi16, hf⟩ := ck_el hf
            refine z_iald C (k := 40) (Nat.le_of_ble_eq_true rfl) rfl hi16 dX2_dropUnfit_77 ?_
            refine z_iconst C (v := 1) dX2_dropUnfit_78 rfl ?_
            refine z_iload C 4 dX2_dropUnfit_79 rfl ?_
            refine z_ishl C dX2_dropUnfit_81 ?_
            refine z_iconst C (v := (-1)) dX2_dropUnfit_82 (by decide) ?_
            refine z_ixor C dX2_dropUnfit_83 ?_
            refine z_iand C dX2_dropUnfit_84 ?_
            obtain ⟨hi17, hf⟩ := ck_el hf
            refine z_iast C (k := 40) (Nat.le_of_ble_eq_true rfl) rfl hi17 dX2_dropUnfit_85 ?_
            refine z_nm (fun m18 e_m18 => ?_)
            replace hf := bn_to e_m18 hf
            refine z_iconst C (v := 1) dX2_dropUnfit_86 rfl ?_
            refine z_istore_n C (lv2 := [(0, .ref ((zw K).2.1 39)), (1, .int a1), (2, .int 1), (3, .int i2), (4, .int i6)]) [1, 2, 0, 3, 4] dX2_dropUnfit_87 rfl (Nat.le_of_ble_eq_true rfl) rfl ?_
            obtain ⟨x19, e_x19⟩ : ∃ y : Int32, y = i6 + 1 := ⟨_, rfl⟩
            replace hf := bn_to e_x19 hf
            refine z_iinc C (lv2 := [(0, .ref ((zw K).2.1 39)), (1, .int a1), (2, .int 1), (3, .int i2), (4, .int x19)]) 4 [1, 2, 3, 4, 0] dX2_dropUnfit_88 rfl rfl (Nat.le_of_ble_eq_true rfl) e_x19 rfl ?_
            refine z_goto (tgt := 18) C dX2_dropUnfit_91 (by decide) ?_
            cases hf
            exact z_sub [0, 1, 2, 3, 4] rfl (ih 1 x19 m18 hz)
set_option maxRecDepth 100000 in
set_option maxHeartbeats 4000000 in
theorem w_X2_dropUnfit_4 {K : ZK} (C : zOK MX K cX2_dropUnfit 5 (some .boolean) RX2 wsX2_dropUnfit rmX2_dropUnfit) {a1 : Int32}  {o0 : Int32} {o1 : Mem} (hk : zGo MX K o1 [(2, .int o0)] 100 []) : ∀ (n : Nat) (i1 : Int32) (i2 : Int32) (m3 : Mem), l_X2_dropUnfit_4 a1 n i1 i2 m3 = some (o0, o1) → zGo MX K m3 [(0, .ref ((zw K).2.1 39)), (1, .int a1), (2, .int i1), (3, .int i2)] 4 [] := by
  intro n
  induction n with
  | zero =>
    intro i1 i2 m3 hf
    cases hf
  | succ n ih =>
    intro i1 i2 m3 hf
    obtain ⟨z, hf, hz⟩ := zlp_el hf
    replace hf : t_X2_dropUnfit_4 a1 i1 i2 m3 = some z := hf
    unfold t_X2_dropUnfit_4 at hf
    refine z_iload_n C 3 dX2_dropUnfit_4 rfl rfl ?_
    refine z_aload_n C 0 dX2_dropUnfit_5 rfl rfl ?_
    obtain ⟨b4, hb4, e_b4, hf⟩ := zbk_el hf
    refine z_getb C (b := b4) (Nat.le_of_ble_eq_true rfl) rfl rfl 1 (Nat.le_of_ble_eq_true rfl) rfl kiX2_dropUnfit_X2 kfX2_dropUnfit_28 (isb_lt hb4) e_b4 dX2_dropUnfit_6 ?_
    refine z_geti C (isb_k0 hb4) (isb_L0 hb4) rfl 0 (Nat.le_of_ble_eq_true rfl) rfl kiX2_dropUnfit_X0 kfX2_dropUnfit_57 dX2_dropUnfit_9 ?_
    refine z_icmp_ge (tgt := 100) C dX2_dropUnfit_12 (by decide) (fun c27 => ?_) (fun c27 => ?_)
    · replace hf := if_t c27 hf
      cases hf
      replace hz := zlz_r hz
      cases hz
      exact z_sub [2] rfl hk
    · replace hf := if_f c27 hf
      refine z_iconst C (v := 0) dX2_dropUnfit_15 rfl ?_
      refine z_istore C (lv2 := [(0, .ref ((zw K).2.1 39)), (1, .int a1), (2, .int i1), (3, .int i2), (4, .int 0)]) [1, 2, 3, 4, 0] dX2_dropUnfit_16 (Nat.le_of_ble_eq_true rfl) rfl ?_
      obtain ⟨y24, m25, hg, hf⟩ := zb2_el hf
      refine z_sub [0, 1, 2, 3, 4] rfl (w_X2_dropUnfit_18 C  ?_ _ _ _ _ hg)
      clear hg
      obtain ⟨x26, e_x26⟩ : ∃ y : Int32, y = i2 + 1 := ⟨_, rfl⟩
      replace hf := bn_to e_x26 hf
      refine z_iinc C (lv2 := [(0, .ref ((zw K).2.1 39)), (1, .int a1), (2, .int y24), (3, .int x26)]) 3 [1, 2, 3, 0] dX2_dropUnfit_94 rfl rfl (Nat.le_of_ble_eq_true rfl) e_x26 rfl ?_
      refine z_goto (tgt := 4) C dX2_dropUnfit_97 (by decide) ?_
      cases hf
      exact z_sub [0, 1, 2, 3] rfl (ih y24 x26 m25 hz)
set_option maxRecDepth 100000 in
set_option maxHeartbeats 4000000 in
theorem c_X2_dropUnfit (l : Launch) (w : ZW) {m : Mem} {a1 : Int32} {r9 : Int32} {m9 : Mem}  (hf : s_X2_dropUnfit m a1 = some (r9, m9)) : zCi MX l w yX2_dropUnfit wsX2_dropUnfit rmX2_dropUnfit [.ref (w.2.1 39), .int a1] m m9 r9 := by
  refine z_met_z MX_ok (own := RX2) (by decide +kernel) rfl rfl (Nat.le_of_ble_eq_true rfl) ?_
  intro K C hKw hKl hret
  subst hKw
  subst hKl
  unfold s_X2_dropUnfit at hf
  show zGo MX K m [(0, .ref ((zw K).2.1 39)), (1, .int a1)] 0 []
  refine z_iconst C (v := 0) dX2_dropUnfit_0 rfl ?_
  refine z_istore_n C (lv2 := [(0, .ref ((zw K).2.1 39)), (1, .int a1), (2, .int 0)]) [1, 2, 0] dX2_dropUnfit_1 rfl (Nat.le_of_ble_eq_true rfl) rfl ?_
  refine z_iconst C (v := 0) dX2_dropUnfit_2 rfl ?_
  refine z_istore_n C (lv2 := [(0, .ref ((zw K).2.1 39)), (1, .int a1), (2, .int 0), (3, .int 0)]) [1, 2, 3, 0] dX2_dropUnfit_3 rfl (Nat.le_of_ble_eq_true rfl) rfl ?_
  obtain ⟨y28, m29, hg, hf⟩ := zb2_el hf
  refine z_sub [0, 1, 2, 3] rfl (w_X2_dropUnfit_4 C  ?_ _ _ _ _ hg)
  clear hg
  refine z_iload_n C 0 dX2_dropUnfit_100 rfl rfl ?_
  obtain ⟨hz, hf⟩ := ck_el hf
  cases hf
  exact hret _ _ dX2_dropUnfit_101 hz
def rmX2_forget : Room := { frames := 0, cells := 0, slots := 0, locals := 0 }
theorem zdX2_forget : yX2_forget.cls = RX2 ∧ yX2_forget.cls ≠ "java/lang/invoke/MethodHandle" ∧ yX2_forget.cls ≠ "java/lang/invoke/VarHandle" ∧ (parseMethodDescriptor yX2_forget.desc).map (fun d => d.parameters.length) = some 0 := by decide +kernel
theorem kiX2_forget_X2 : ∀ w ∈ wsX20, w ∈ wsX2_forget := by decide +kernel
theorem kfX2_forget_35 : Cond.fieldLink RX2 35 "ShapeJudge$Judge" "fittingIsRead" "Z" ∈ wsX2_forget := by decide +kernel
theorem kfX2_forget_39 : Cond.fieldLink RX2 39 "ShapeJudge$Judge" "sureIsRead" "Z" ∈ wsX2_forget := by decide +kernel
def s_X2_forget (m : Mem)  : Option (Mem) :=
  bn (sto m 39 4 0) fun m1 => bn (sto m1 39 5 0) fun m2 => some m2
set_option maxRecDepth 100000 in
set_option maxHeartbeats 4000000 in
theorem c_X2_forget (l : Launch) (w : ZW) {m : Mem}  {m9 : Mem}  (hf : s_X2_forget m  = some m9) : zCv MX l w yX2_forget wsX2_forget rmX2_forget [.ref (w.2.1 39)] m m9 := by
  refine z_met_v MX_ok (own := RX2) (by decide +kernel) rfl rfl (Nat.le_of_ble_eq_true rfl) ?_
  intro K C hKw hKl hret
  subst hKw
  subst hKl
  unfold s_X2_forget at hf
  show zGo MX K m [(0, .ref ((zw K).2.1 39))] 0 []
  refine z_aload_n C 0 dX2_forget_0 rfl rfl ?_
  refine z_iconst C (v := 0) dX2_forget_1 rfl ?_
  refine z_putz C (Nat.le_of_ble_eq_true rfl) rfl rfl 4 (Nat.le_of_ble_eq_true rfl) rfl kiX2_forget_X2 kfX2_forget_35 tyX2 tyX2_ok nmX2 rfl rfl (Or.inl rfl) dX2_forget_2 ?_
  refine z_nm (fun m1 e_m1 => ?_)
  replace hf := bn_to e_m1 hf
  refine z_aload_n C 0 dX2_forget_5 rfl rfl ?_
  refine z_iconst C (v := 0) dX2_forget_6 rfl ?_
  refine z_putz C (Nat.le_of_ble_eq_true rfl) rfl rfl 5 (Nat.le_of_ble_eq_true rfl) rfl kiX2_forget_X2 kfX2_forget_39 tyX2 tyX2_ok nmX2 rfl rfl (Or.inl rfl) dX2_forget_7 ?_
  refine z_nm (fun m2 e_m2 => ?_)
  replace hf := bn_to e_m2 hf
  cases hf
  exact hret _ _ dX2_forget_10
def rmX2_follow : Room := { frames := 1, cells := 0, slots := 0, locals := 20 }
theorem zdX2_follow : yX2_follow.cls = RX2 ∧ yX2_follow.cls ≠ "java/lang/invoke/MethodHandle" ∧ yX2_follow.cls ≠ "java/lang/invoke/VarHandle" ∧ (parseMethodDescriptor yX2_follow.desc).map (fun d => d.parameters.length) = some 1 := by decide +kernel
theorem kiX2_follow_X2 : ∀ w ∈ wsX20, w ∈ wsX2_follow := by decide +kernel
theorem kfX2_follow_28 : Cond.fieldLink RX2 28 "ShapeJudge$Judge" "book" "LShapeJudge$Book;" ∈ wsX2_follow := by decide +kernel
def s_X2_follow (m : Mem) (bb1 : Nat) : Option (Mem) :=
  bn (sto m 39 1 (nI bb1)) fun m1 => (s_X2_forget m1).bind fun m3 => some m3
set_option maxRecDepth 100000 in
set_option maxHeartbeats 4000000 in
theorem c_X2_follow (l : Launch) (w : ZW) {m : Mem} {bb1 : Nat} {m9 : Mem} (hbb1 : isb bb1) (hf : s_X2_follow m bb1 = some m9) : zCv MX l w yX2_follow wsX2_follow rmX2_follow [.ref (w.2.1 39), .ref (w.2.1 bb1)] m m9 := by
  refine z_met_v MX_ok (own := RX2) (by decide +kernel) rfl rfl (Nat.le_of_ble_eq_true rfl) ?_
  intro K C hKw hKl hret
  subst hKw
  subst hKl
  unfold s_X2_follow at hf
  show zGo MX K m [(0, .ref ((zw K).2.1 39)), (1, .ref ((zw K).2.1 bb1))] 0 []
  refine z_aload_n C 0 dX2_follow_0 rfl rfl ?_
  refine z_aload_n C 1 dX2_follow_1 rfl rfl ?_
  refine z_putb C (b := bb1) (Nat.le_of_ble_eq_true rfl) rfl rfl 1 (Nat.le_of_ble_eq_true rfl) rfl kiX2_follow_X2 kfX2_follow_28 tyX2 tyX2_ok nmX2 rfl (Cr := "ShapeJudge$Book") rfl (isb_lt hbb1) dX2_follow_2 ?_
  refine z_nm (fun m1 e_m1 => ?_)
  replace hf := bn_to e_m1 hf
  refine z_aload_n C 0 dX2_follow_5 rfl rfl ?_
  obtain ⟨m3, hc2, hf⟩ := zb_el hf
  refine z_cVv C (c_X2_forget _ _ hc2) rfl gX2_follow_X2_forget rfl rfl zdX2_forget rfl (Nat.le_of_ble_eq_true rfl) rfl rfl rfl ⟨Nat.le_of_ble_eq_true rfl, Nat.le_of_ble_eq_true rfl⟩ (Nat.le_of_ble_eq_true rfl) dX2_follow_6 rfl ?_
  cases hf
  exact hret _ _ dX2_follow_9
def rmX2_leastPartOf : Room := { frames := 5, cells := 0, slots := 0, locals := 127 }
theorem zdX2_leastPartOf : yX2_leastPartOf.cls = RX2 ∧ yX2_leastPartOf.cls ≠ "java/lang/invoke/MethodHandle" ∧ yX2_leastPartOf.cls ≠ "java/lang/invoke/VarHandle" ∧ (parseMethodDescriptor yX2_leastPartOf.desc).map (fun d => d.parameters.length) = some 3 := by decide +kernel
theorem kiX2_leastPartOf_X2 : ∀ w ∈ wsX20, w ∈ wsX2_leastPartOf := by decide +kernel
theorem kfX2_leastPartOf_18 : Cond.fieldLink RX2 18 "ShapeJudge$Judge" "allowed" "[I" ∈ wsX2_leastPartOf := by decide +kernel
def t_X2_leastPartOf_15 (a1 : Int32) (a2 : Int32) (a3 : Int32) (r2 : Int32) (i3 : Int32) (i4 : Int32) (m5 : Mem) : Option ((Int32 × Int32 × Mem) ⊕ (Int32 × Mem)) :=
  (if a3 < i4 then (some (.inr (i3, m5))) else ((if 5 ≤ i4 then (some (.inr (i3, m5))) else ((if ((r2 >>> (i4 &&& 31)) &&& 1) = 0 then (bn (i4 + 1) fun x6 => some (.inl (i3, x6, m5))) else (zb2 (s_X2_bindToLeastPart m5 a1 a2 i4) fun r8 m9 => bn (i4 + 1) fun x10 => some (.inl (r8, x10, m9))))))))
def l_X2_leastPartOf_15 (a1 : Int32) (a2 : Int32) (a3 : Int32) (r2 : Int32) (n : Nat) (i3 : Int32) (i4 : Int32) (m5 : Mem) : Option (Int32 × Mem) := zlp n (fun a => t_X2_leastPartOf_15 a1 a2 a3 r2 a.1 a.2.1 a.2.2) (i3, i4, m5)
def t_X2_leastPartOf_56  (i16 : Int32) (m17 : Mem) : Option ((Int32 × Mem) ⊕ (Mem)) :=
  (if 5 ≤ i16 then (some (.inr m17)) else (ck (zin i16 5 = true) (bn (sto m17 42 (Int32.toNatClampNeg i16) 63) fun m19 => bn (i16 + 1) fun x20 => some (.inl (x20, m19)))))
def l_X2_leastPartOf_56  (n : Nat) (i16 : Int32) (m17 : Mem) : Option (Mem) := zlp n (fun a => t_X2_leastPartOf_56  a.1 a.2) (i16, m17)
def s_X2_leastPartOf (m : Mem) (a1 : Int32) (a2 : Int32) (a3 : Int32) : Option (Int32 × Mem) :=
  (s_X2_wantedEdges m a1 a2).bind fun r2 => (zb2 (l_X2_leastPartOf_15 a1 a2 a3 r2 FU (-4) 0 m) fun y14 m15 => ((l_X2_leastPartOf_56  FU 0 m15).bind fun m22 => some (y14, m22)))
set_option maxRecDepth 100000 in
set_option maxHeartbeats 4000000 in
theorem w_X2_leastPartOf_15 {K : ZK} (C : zOK MX K cX2_leastPartOf 7 (some .int) RX2 wsX2_leastPartOf rmX2_leastPartOf) {a1 : Int32} {a2 : Int32} {a3 : Int32} {r2 : Int32}  {o0 : Int32} {o1 : Mem} (hk : zGo MX K o1 [(0, .ref ((zw K).2.1 39)), (5, .int o0)] 53 []) : ∀ (n : Nat) (i3 : Int32) (i4 : Int32) (m5 : Mem), l_X2_leastPartOf_15 a1 a2 a3 r2 n i3 i4 m5 = some (o0, o1) → zGo MX K m5 [(0, .ref ((zw K).2.1 39)), (1, .int a1), (2, .int a2), (3, .int a3), (4, .int r2), (5, .int i3), (6, .int i4)] 15 [] := by
  intro n
  induction n with
  | zero =>
    intro i3 i4 m5 hf
    cases hf
  | succ n ih =>
    intro i3 i4 m5 hf
    obtain ⟨z, hf, hz⟩ := zlp_el hf
    replace hf : t_X2_leastPartOf_15 a1 a2 a3 r2 i3 i4 m5 = some z := hf
    unfold t_X2_leastPartOf_15 at hf
    refine z_iload C 6 dX2_leastPartOf_15 rfl ?_
    refine z_iload_n C 3 dX2_leastPartOf_17 rfl rfl ?_
    refine z_icmp_gt (tgt := 53) C dX2_leastPartOf_18 (by decide) (fun c13 => ?_) (fun c13 => ?_)
    · replace hf := if_t c13 hf
      cases hf
      replace hz := zlz_r hz
      cases hz
      exact z_sub [0, 5] rfl hk
    · replace hf := if_f c13 hf
      refine z_iload C 6 dX2_leastPartOf_21 rfl ?_
      refine z_iconst C (v := 5) dX2_leastPartOf_23 rfl ?_
      refine z_icmp_ge (tgt := 53) C dX2_leastPartOf_24 (by decide) (fun c12 => ?_) (fun c12 => ?_)
      · replace hf := if_t c12 hf
        cases hf
        replace hz := zlz_r hz
        cases hz
        exact z_sub [0, 5] rfl hk
      · replace hf := if_f c12 hf
        refine z_iload C 4 dX2_leastPartOf_27 rfl ?_
        refine z_iload C 6 dX2_leastPartOf_29 rfl ?_
        refine z_ishr C dX2_leastPartOf_31 ?_
        refine z_iconst C (v := 1) dX2_leastPartOf_32 rfl ?_
        refine z_iand C dX2_leastPartOf_33 ?_
        refine z_if_eq (tgt := 47) C dX2_leastPartOf_34 (by decide) (fun c11 => ?_) (fun c11 => ?_)
        · replace hf := if_t c11 hf
          obtain ⟨x6, e_x6⟩ : ∃ y : Int32, y = i4 + 1 := ⟨_, rfl⟩
          replace hf := bn_to e_x6 hf
          refine z_iinc C (lv2 := [(0, .ref ((zw K).2.1 39)), (1, .int a1), (2, .int a2), (3, .int a3), (4, .int r2), (5, .int i3), (6, .int x6)]) 6 [1, 2, 3, 4, 5, 6, 0] dX2_leastPartOf_47 rfl rfl (Nat.le_of_ble_eq_true rfl) e_x6 rfl ?_
          refine z_goto (tgt := 15) C dX2_leastPartOf_50 (by decide) ?_
          cases hf
          exact z_sub [0, 1, 2, 3, 4, 5, 6] rfl (ih i3 x6 m5 hz)
        · replace hf := if_f c11 hf
          refine z_aload_n C 0 dX2_leastPartOf_37 rfl rfl ?_
          refine z_iload_n C 1 dX2_leastPartOf_38 rfl rfl ?_
          refine z_iload_n C 2 dX2_leastPartOf_39 rfl rfl ?_
          refine z_iload C 6 dX2_leastPartOf_40 rfl ?_
          obtain ⟨r8, m9, hc7, hf⟩ := zb2_el hf
          refine z_cVi C (c_X2_bindToLeastPart _ _ hc7) rfl gX2_leastPartOf_X2_bindToLeastPart rfl rfl zdX2_bindToLeastPart rfl (Nat.le_of_ble_eq_true rfl) rfl rfl rfl ⟨Nat.le_of_ble_eq_true rfl, Nat.le_of_ble_eq_true rfl⟩ (Nat.le_of_ble_eq_true rfl) dX2_leastPartOf_42 rfl ?_
          refine z_istore C (lv2 := [(0, .ref ((zw K).2.1 39)), (1, .int a1), (2, .int a2), (3, .int a3), (4, .int r2), (5, .int r8), (6, .int i4)]) [1, 2, 3, 4, 5, 0, 6] dX2_leastPartOf_45 (Nat.le_of_ble_eq_true rfl) rfl ?_
          obtain ⟨x10, e_x10⟩ : ∃ y : Int32, y = i4 + 1 := ⟨_, rfl⟩
          replace hf := bn_to e_x10 hf
          refine z_iinc C (lv2 := [(0, .ref ((zw K).2.1 39)), (1, .int a1), (2, .int a2), (3, .int a3), (4, .int r2), (5, .int r8), (6, .int x10)]) 6 [1, 2, 3, 4, 5, 6, 0] dX2_leastPartOf_47 rfl rfl (Nat.le_of_ble_eq_true rfl) e_x10 rfl ?_
          refine z_goto (tgt := 15) C dX2_leastPartOf_50 (by decide) ?_
          cases hf
          exact z_sub [0, 1, 2, 3, 4, 5, 6] rfl (ih r8 x10 m9 hz)
set_option maxRecDepth 100000 in
set_option maxHeartbeats 4000000 in
theorem w_X2_leastPartOf_56 {K : ZK} (C : zOK MX K cX2_leastPartOf 7 (some .int) RX2 wsX2_leastPartOf rmX2_leastPartOf) {y14 : Int32}  {o0 : Mem} (hk : zGo MX K o0 [(5, .int y14)] 77 []) : ∀ (n : Nat) (i16 : Int32) (m17 : Mem), l_X2_leastPartOf_56  n i16 m17 = some o0 → zGo MX K m17 [(0, .ref ((zw K).2.1 39)), (5, .int y14), (6, .int i16)] 56 [] := by
  intro n
  induction n with
  | zero =>
    intro i16 m17 hf
    cases hf
  | succ n ih =>
    intro i16 m17 hf
    obtain ⟨z, hf, hz⟩ := zlp_el hf
    replace hf : t_X2_leastPartOf_56  i16 m17 = some z := hf
    unfold t_X2_leastPartOf_56 at hf
    refine z_iload C 2 dX2_leastPartOf_56 rfl ?_
    refine z_iconst C (v := 5) dX2_leastPartOf_58 rfl ?_
    refine z_icmp_ge (tgt := 77) C dX2_leastPartOf_59 (by decide) (fun c21 => ?_) (fun c21 => ?_)
    · replace hf := if_t c21 hf
      cases hf
      replace hz := zlz_r hz
      cases hz
      exact z_sub [1] rfl hk
    · replace hf := if_f c21 hf
      refine z_aload_n C 0 dX2_leastPartOf_62 rfl rfl ?_
      refine z_getr C (t := 42) (Nat.le_of_ble_eq_true rfl) rfl rfl 6 (Nat.le_of_ble_eq_true rfl) rfl kiX2_leastPartOf_X2 kfX2_leastPartOf_18 dX2_leastPartOf_63 ?_
      refine z_iload C 2 dX2_leastPartOf_66 rfl ?_
      refine z_bipush C (v := 63) dX2_leastPartOf_68 rfl ?_
      obtain ⟨hi18, hf⟩ := ck_el hf
      refine z_iast C (k := 42) (Nat.le_of_ble_eq_true rfl) rfl hi18 dX2_leastPartOf_70 ?_
      refine z_nm (fun m19 e_m19 => ?_)
      replace hf := bn_to e_m19 hf
      obtain ⟨x20, e_x20⟩ : ∃ y : Int32, y = i16 + 1 := ⟨_, rfl⟩
      replace hf := bn_to e_x20 hf
      refine z_iinc C (lv2 := [(0, .ref ((zw K).2.1 39)), (5, .int y14), (6, .int x20)]) 2 [1, 2, 0] dX2_leastPartOf_71 rfl rfl (Nat.le_of_ble_eq_true rfl) e_x20 rfl ?_
      refine z_goto (tgt := 56) C dX2_leastPartOf_74 (by decide) ?_
      cases hf
      exact z_sub [0, 1, 2] rfl (ih x20 m19 hz)
set_option maxRecDepth 100000 in
set_option maxHeartbeats 4000000 in
theorem c_X2_leastPartOf (l : Launch) (w : ZW) {m : Mem} {a1 : Int32} {a2 : Int32} {a3 : Int32} {r9 : Int32} {m9 : Mem}  (hf : s_X2_leastPartOf m a1 a2 a3 = some (r9, m9)) : zCi MX l w yX2_leastPartOf wsX2_leastPartOf rmX2_leastPartOf [.ref (w.2.1 39), .int a1, .int a2, .int a3] m m9 r9 := by
  refine z_met_i MX_ok (own := RX2) (by decide +kernel) rfl rfl (Nat.le_of_ble_eq_true rfl) ?_
  intro K C hKw hKl hret
  subst hKw
  subst hKl
  unfold s_X2_leastPartOf at hf
  show zGo MX K m [(0, .ref ((zw K).2.1 39)), (1, .int a1), (2, .int a2), (3, .int a3)] 0 []
  refine z_aload_n C 0 dX2_leastPartOf_0 rfl rfl ?_
  refine z_iload_n C 1 dX2_leastPartOf_1 rfl rfl ?_
  refine z_iload_n C 2 dX2_leastPartOf_2 rfl rfl ?_
  obtain ⟨r2, hc1, hf⟩ := zb_el hf
  refine z_cVi C (c_X2_wantedEdges _ _ hc1) rfl gX2_leastPartOf_X2_wantedEdges rfl rfl zdX2_wantedEdges rfl (Nat.le_of_ble_eq_true rfl) rfl rfl rfl ⟨Nat.le_of_ble_eq_true rfl, Nat.le_of_ble_eq_true rfl⟩ (Nat.le_of_ble_eq_true rfl) dX2_leastPartOf_3 rfl ?_
  refine z_istore C (lv2 := [(0, .ref ((zw K).2.1 39)), (1, .int a1), (2, .int a2), (3, .int a3), (4, .int r2)]) [1, 2, 3, 4, 0] dX2_leastPartOf_6 (Nat.le_of_ble_eq_true rfl) rfl ?_
  refine z_bipush C (v := (-4)) dX2_leastPartOf_8 (by decide) ?_
  refine z_istore C (lv2 := [(0, .ref ((zw K).2.1 39)), (1, .int a1), (2, .int a2), (3, .int a3), (4, .int r2), (5, .int (-4))]) [1, 2, 3, 4, 5, 0] dX2_leastPartOf_10 (Nat.le_of_ble_eq_true rfl) rfl ?_
  refine z_iconst C (v := 0) dX2_leastPartOf_12 rfl ?_
  refine z_istore C (lv2 := [(0, .ref ((zw K).2.1 39)), (1, .int a1), (2, .int a2), (3, .int a3), (4, .int r2), (5, .int (-4)), (6, .int 0)]) [1, 2, 3, 4, 5, 6, 0] dX2_leastPartOf_13 (Nat.le_of_ble_eq_true rfl) rfl ?_
  obtain ⟨y14, m15, hg, hf⟩ := zb2_el hf
  refine z_sub [0, 1, 2, 3, 4, 5, 6] rfl (w_X2_leastPartOf_15 C  ?_ _ _ _ _ hg)
  clear hg
  refine z_iconst C (v := 0) dX2_leastPartOf_53 rfl ?_
  refine z_istore C (lv2 := [(0, .ref ((zw K).2.1 39)), (5, .int y14), (6, .int 0)]) [1, 2, 0] dX2_leastPartOf_54 (Nat.le_of_ble_eq_true rfl) rfl ?_
  obtain ⟨m22, hg, hf⟩ := zb_el hf
  refine z_sub [0, 1, 2] rfl (w_X2_leastPartOf_56 C  ?_ _ _ _ hg)
  clear hg
  refine z_iload C 0 dX2_leastPartOf_77 rfl ?_
  cases hf
  exact hret _ _ dX2_leastPartOf_79
def rmX2_readFits : Room := { frames := 5, cells := 0, slots := 0, locals := 127 }
theorem zdX2_readFits : yX2_readFits.cls = RX2 ∧ yX2_readFits.cls ≠ "java/lang/invoke/MethodHandle" ∧ yX2_readFits.cls ≠ "java/lang/invoke/VarHandle" ∧ (parseMethodDescriptor yX2_readFits.desc).map (fun d => d.parameters.length) = some 0 := by decide +kernel
theorem kiX2_readFits_X2 : ∀ w ∈ wsX20, w ∈ wsX2_readFits := by decide +kernel
theorem kfX2_readFits_35 : Cond.fieldLink RX2 35 "ShapeJudge$Judge" "fittingIsRead" "Z" ∈ wsX2_readFits := by decide +kernel
theorem kfX2_readFits_9 : Cond.fieldLink RX2 9 "ShapeJudge$Judge" "fitting" "[I" ∈ wsX2_readFits := by decide +kernel
theorem kfX2_readFits_28 : Cond.fieldLink RX2 28 "ShapeJudge$Judge" "book" "LShapeJudge$Book;" ∈ wsX2_readFits := by decide +kernel
theorem kfX2_readFits_24 : Cond.fieldLink RX2 24 "ShapeJudge$Judge" "graph" "LShapeJudge$Graph;" ∈ wsX2_readFits := by decide +kernel
theorem kiX2_readFits_X1 : ∀ w ∈ wsX10, w ∈ wsX2_readFits := by decide +kernel
theorem kfX2_readFits_48 : Cond.fieldLink RX2 48 "ShapeJudge$Graph" "nodes" "I" ∈ wsX2_readFits := by decide +kernel
def t_X2_readFits_10  (i1 : Int32) (m2 : Mem) : Option ((Int32 × Mem) ⊕ (Mem)) :=
  (if 6 ≤ i1 then (some (.inr m2)) else (zbk (m2 39 1) fun b3 => (s_X0_hasShape m2 b3 i1).bind fun r5 => (if r5 = 0 then (ck (zin i1 6 = true) (bn (sto m2 40 (Int32.toNatClampNeg i1) 0) fun m7 => bn (i1 + 1) fun x8 => some (.inl (x8, m7)))) else (ck (zin i1 6 = true) (bn (sto m2 40 (Int32.toNatClampNeg i1) (((1 : Int32) <<< ((m2 1 0) &&& 31)) - 1)) fun m10 => bn (i1 + 1) fun x11 => some (.inl (x11, m10)))))))
def l_X2_readFits_10  (n : Nat) (i1 : Int32) (m2 : Mem) : Option (Mem) := zlp n (fun a => t_X2_readFits_10  a.1 a.2) (i1, m2)
def t_X2_readFits_66 (i15 : Int32) (i17 : Int32) (i18 : Int32) (m19 : Mem) : Option ((Int32 × Int32 × Mem) ⊕ (Mem)) :=
  (if i17 = 0 then (some (.inr m19)) else ((if 60 < i18 then (some (.inr m19)) else (zb2 (s_X2_dropUnfit m19 i15) fun r21 m22 => bn (i18 + 1) fun x23 => some (.inl (r21, x23, m22))))))
def l_X2_readFits_66 (i15 : Int32) (n : Nat) (i17 : Int32) (i18 : Int32) (m19 : Mem) : Option (Mem) := zlp n (fun a => t_X2_readFits_66 i15 a.1 a.2.1 a.2.2) (i17, i18, m19)
def t_X2_readFits_56  (i15 : Int32) (m16 : Mem) : Option ((Int32 × Mem) ⊕ (Mem)) :=
  (if 6 ≤ i15 then (some (.inr m16)) else (((l_X2_readFits_66 i15 FU 1 0 m16).bind fun m26 => bn (i15 + 1) fun x27 => some (.inl (x27, m26)))))
def l_X2_readFits_56  (n : Nat) (i15 : Int32) (m16 : Mem) : Option (Mem) := zlp n (fun a => t_X2_readFits_56  a.1 a.2) (i15, m16)
def s_X2_readFits (m : Mem)  : Option (Mem) :=
  (if (m 39 4) = 0 then (((l_X2_readFits_10  FU 0 m).bind fun m14 => ((l_X2_readFits_56  FU 0 m14).bind fun m29 => bn (sto m29 39 4 1) fun m30 => some m30))) else (some m))
set_option maxRecDepth 100000 in
set_option maxHeartbeats 4000000 in
theorem w_X2_readFits_10 {K : ZK} (C : zOK MX K cX2_readFits 4 none RX2 wsX2_readFits rmX2_readFits)   {o0 : Mem} (hk : zGo MX K o0 [(0, .ref ((zw K).2.1 39))] 54 []) : ∀ (n : Nat) (i1 : Int32) (m2 : Mem), l_X2_readFits_10  n i1 m2 = some o0 → zGo MX K m2 [(0, .ref ((zw K).2.1 39)), (1, .int i1)] 10 [] := by
  intro n
  induction n with
  | zero =>
    intro i1 m2 hf
    cases hf
  | succ n ih =>
    intro i1 m2 hf
    obtain ⟨z, hf, hz⟩ := zlp_el hf
    replace hf : t_X2_readFits_10  i1 m2 = some z := hf
    unfold t_X2_readFits_10 at hf
    refine z_iload_n C 1 dX2_readFits_10 rfl rfl ?_
    refine z_bipush C (v := 6) dX2_readFits_11 rfl ?_
    refine z_icmp_ge (tgt := 54) C dX2_readFits_13 (by decide) (fun c13 => ?_) (fun c13 => ?_)
    · replace hf := if_t c13 hf
      cases hf
      replace hz := zlz_r hz
      cases hz
      exact z_sub [0] rfl hk
    · replace hf := if_f c13 hf
      refine z_aload_n C 0 dX2_readFits_16 rfl rfl ?_
      refine z_getr C (t := 40) (Nat.le_of_ble_eq_true rfl) rfl rfl 2 (Nat.le_of_ble_eq_true rfl) rfl kiX2_readFits_X2 kfX2_readFits_9 dX2_readFits_17 ?_
      refine z_iload_n C 1 dX2_readFits_20 rfl rfl ?_
      refine z_aload_n C 0 dX2_readFits_21 rfl rfl ?_
      obtain ⟨b3, hb3, e_b3, hf⟩ := zbk_el hf
      refine z_getb C (b := b3) (Nat.le_of_ble_eq_true rfl) rfl rfl 1 (Nat.le_of_ble_eq_true rfl) rfl kiX2_readFits_X2 kfX2_readFits_28 (isb_lt hb3) e_b3 dX2_readFits_22 ?_
      refine z_iload_n C 1 dX2_readFits_25 rfl rfl ?_
      obtain ⟨r5, hc4, hf⟩ := zb_el hf
      refine z_cVi C (c_X0_hasShape _ _ hb3 hc4) rfl gX2_readFits_X0_hasShape rfl rfl zdX0_hasShape rfl (isb_k0 hb3) (isb_L0 hb3) rfl rfl ⟨Nat.le_of_ble_eq_true rfl, Nat.le_of_ble_eq_true rfl⟩ (Nat.le_of_ble_eq_true rfl) dX2_readFits_26 rfl ?_
      refine z_if_eq (tgt := 46) C dX2_readFits_29 (by decide) (fun c12 => ?_) (fun c12 => ?_)
      · replace hf := if_t c12 hf
        refine z_iconst C (v := 0) dX2_readFits_46 rfl ?_
        obtain ⟨hi6, hf⟩ := ck_el hf
        refine z_iast C (k := 40) (Nat.le_of_ble_eq_true rfl) rfl hi6 dX2_readFits_47 ?_
        refine z_nm (fun m7 e_m7 => ?_)
        replace hf := bn_to e_m7 hf
        obtain ⟨x8, e_x8⟩ : ∃ y : Int32, y = i1 + 1 := ⟨_, rfl⟩
        replace hf := bn_to e_x8 hf
        refine z_iinc C (lv2 := [(0, .ref ((zw K).2.1 39)), (1, .int x8)]) 1 [1, 0] dX2_readFits_48 rfl rfl (Nat.le_of_ble_eq_true rfl) e_x8 rfl ?_
        refine z_goto (tgt := 10) C dX2_readFits_51 (by decide) ?_
        cases hf
        exact z_sub [0, 1] rfl (ih x8 m7 hz)
      · replace hf := if_f c12 hf
        refine z_iconst C (v := 1) dX2_readFits_32 rfl ?_
        refine z_aload_n C 0 dX2_readFits_33 rfl rfl ?_
        refine z_getr C (t := 1) (Nat.le_of_ble_eq_true rfl) rfl rfl 0 (Nat.le_of_ble_eq_true rfl) rfl kiX2_readFits_X2 kfX2_readFits_24 dX2_readFits_34 ?_
        refine z_geti C (Nat.le_of_ble_eq_true rfl) rfl rfl 0 (Nat.le_of_ble_eq_true rfl) rfl kiX2_readFits_X1 kfX2_readFits_48 dX2_readFits_37 ?_
        refine z_ishl C dX2_readFits_40 ?_
        refine z_iconst C (v := 1) dX2_readFits_41 rfl ?_
        refine z_isub C dX2_readFits_42 ?_
        refine z_goto (tgt := 47) C dX2_readFits_43 (by decide) ?_
        obtain ⟨hi9, hf⟩ := ck_el hf
        refine z_iast C (k := 40) (Nat.le_of_ble_eq_true rfl) rfl hi9 dX2_readFits_47 ?_
        refine z_nm (fun m10 e_m10 => ?_)
        replace hf := bn_to e_m10 hf
        obtain ⟨x11, e_x11⟩ : ∃ y : Int32, y = i1 + 1 := ⟨_, rfl⟩
        replace hf := bn_to e_x11 hf
        refine z_iinc C (lv2 := [(0, .ref ((zw K).2.1 39)), (1, .int x11)]) 1 [1, 0] dX2_readFits_48 rfl rfl (Nat.le_of_ble_eq_true rfl) e_x11 rfl ?_
        refine z_goto (tgt := 10) C dX2_readFits_51 (by decide) ?_
        cases hf
        exact z_sub [0, 1] rfl (ih x11 m10 hz)
set_option maxRecDepth 100000 in
set_option maxHeartbeats 4000000 in
theorem w_X2_readFits_66 {K : ZK} (C : zOK MX K cX2_readFits 4 none RX2 wsX2_readFits rmX2_readFits) {i15 : Int32}  {o0 : Mem} (hk : zGo MX K o0 [(0, .ref ((zw K).2.1 39)), (1, .int i15)] 88 []) : ∀ (n : Nat) (i17 : Int32) (i18 : Int32) (m19 : Mem), l_X2_readFits_66 i15 n i17 i18 m19 = some o0 → zGo MX K m19 [(0, .ref ((zw K).2.1 39)), (1, .int i15), (2, .int i17), (3, .int i18)] 66 [] := by
  intro n
  induction n with
  | zero =>
    intro i17 i18 m19 hf
    cases hf
  | succ n ih =>
    intro i17 i18 m19 hf
    obtain ⟨z, hf, hz⟩ := zlp_el hf
    replace hf : t_X2_readFits_66 i15 i17 i18 m19 = some z := hf
    unfold t_X2_readFits_66 at hf
    refine z_iload_n C 2 dX2_readFits_66 rfl rfl ?_
    refine z_if_eq (tgt := 88) C dX2_readFits_67 (by decide) (fun c25 => ?_) (fun c25 => ?_)
    · replace hf := if_t c25 hf
      cases hf
      replace hz := zlz_r hz
      cases hz
      exact z_sub [0, 1] rfl hk
    · replace hf := if_f c25 hf
      refine z_iload_n C 3 dX2_readFits_70 rfl rfl ?_
      refine z_bipush C (v := 60) dX2_readFits_71 rfl ?_
      refine z_icmp_gt (tgt := 88) C dX2_readFits_73 (by decide) (fun c24 => ?_) (fun c24 => ?_)
      · replace hf := if_t c24 hf
        cases hf
        replace hz := zlz_r hz
        cases hz
        exact z_sub [0, 1] rfl hk
      · replace hf := if_f c24 hf
        refine z_aload_n C 0 dX2_readFits_76 rfl rfl ?_
        refine z_iload_n C 1 dX2_readFits_77 rfl rfl ?_
        obtain ⟨r21, m22, hc20, hf⟩ := zb2_el hf
        refine z_cVi C (c_X2_dropUnfit _ _ hc20) rfl gX2_readFits_X2_dropUnfit rfl rfl zdX2_dropUnfit rfl (Nat.le_of_ble_eq_true rfl) rfl rfl rfl ⟨Nat.le_of_ble_eq_true rfl, Nat.le_of_ble_eq_true rfl⟩ (Nat.le_of_ble_eq_true rfl) dX2_readFits_78 rfl ?_
        refine z_istore_n C (lv2 := [(0, .ref ((zw K).2.1 39)), (1, .int i15), (2, .int r21), (3, .int i18)]) [1, 2, 0, 3] dX2_readFits_81 rfl (Nat.le_of_ble_eq_true rfl) rfl ?_
        obtain ⟨x23, e_x23⟩ : ∃ y : Int32, y = i18 + 1 := ⟨_, rfl⟩
        replace hf := bn_to e_x23 hf
        refine z_iinc C (lv2 := [(0, .ref ((zw K).2.1 39)), (1, .int i15), (2, .int r21), (3, .int x23)]) 3 [1, 2, 3, 0] dX2_readFits_82 rfl rfl (Nat.le_of_ble_eq_true rfl) e_x23 rfl ?_
        refine z_goto (tgt := 66) C dX2_readFits_85 (by decide) ?_
        cases hf
        exact z_sub [0, 1, 2, 3] rfl (ih r21 x23 m22 hz)
set_option maxRecDepth 100000 in
set_option maxHeartbeats 4000000 in
theorem w_X2_readFits_56 {K : ZK} (C : zOK MX K cX2_readFits 4 none RX2 wsX2_readFits rmX2_readFits)   {o0 : Mem} (hk : zGo MX K o0 [(0, .ref ((zw K).2.1 39))] 94 []) : ∀ (n : Nat) (i15 : Int32) (m16 : Mem), l_X2_readFits_56  n i15 m16 = some o0 → zGo MX K m16 [(0, .ref ((zw K).2.1 39)), (1, .int i15)] 56 [] := by
  intro n
  induction n with
  | zero =>
    intro i15 m16 hf
    cases hf
  | succ n ih =>
    intro i15 m16 hf
    obtain ⟨z, hf, hz⟩ := zlp_el hf
    replace hf : t_X2_readFits_56  i15 m16 = some z := hf
    unfold t_X2_readFits_56 at hf
    refine z_iload_n C 1 dX2_readFits_56 rfl rfl ?_
    refine z_bipush C (v := 6) dX2_readFits_57 rfl ?_
    refine z_icmp_ge (tgt := 94) C dX2_readFits_59 (by decide) (fun c28 => ?_) (fun c28 => ?_)
    · replace hf := if_t c28 hf
      cases hf
      replace hz := zlz_r hz
      cases hz
      exact z_sub [0] rfl hk
    · replace hf := if_f c28 hf
      refine z_iconst C (v := 1) dX2_readFits_62 rfl ?_
      refine z_istore_n C (lv2 := [(0, .ref ((zw K).2.1 39)), (1, .int i15), (2, .int 1)]) [1, 2, 0] dX2_readFits_63 rfl (Nat.le_of_ble_eq_true rfl) rfl ?_
      refine z_iconst C (v := 0) dX2_readFits_64 rfl ?_
      refine z_istore_n C (lv2 := [(0, .ref ((zw K).2.1 39)), (1, .int i15), (2, .int 1), (3, .int 0)]) [1, 2, 3, 0] dX2_readFits_65 rfl (Nat.le_of_ble_eq_true rfl) rfl ?_
      obtain ⟨m26, hg, hf⟩ := zb_el hf
      refine z_sub [0, 1, 2, 3] rfl (w_X2_readFits_66 C  ?_ _ _ _ _ hg)
      clear hg
      obtain ⟨x27, e_x27⟩ : ∃ y : Int32, y = i15 + 1 := ⟨_, rfl⟩
      replace hf := bn_to e_x27 hf
      refine z_iinc C (lv2 := [(0, .ref ((zw K).2.1 39)), (1, .int x27)]) 1 [1, 0] dX2_readFits_88 rfl rfl (Nat.le_of_ble_eq_true rfl) e_x27 rfl ?_
      refine z_goto (tgt := 56) C dX2_readFits_91 (by decide) ?_
      cases hf
      exact z_sub [0, 1] rfl (ih x27 m26 hz)
set_option maxRecDepth 100000 in
set_option maxHeartbeats 4000000 in
theorem c_X2_readFits (l : Launch) (w : ZW) {m : Mem}  {m9 : Mem}  (hf : s_X2_readFits m  = some m9) : zCv MX l w yX2_readFits wsX2_readFits rmX2_readFits [.ref (w.2.1 39)] m m9 := by
  refine z_met_v MX_ok (own := RX2) (by decide +kernel) rfl rfl (Nat.le_of_ble_eq_true rfl) ?_
  intro K C hKw hKl hret
  subst hKw
  subst hKl
  unfold s_X2_readFits at hf
  show zGo MX K m [(0, .ref ((zw K).2.1 39))] 0 []
  refine z_aload_n C 0 dX2_readFits_0 rfl rfl ?_
  refine z_geti C (Nat.le_of_ble_eq_true rfl) rfl rfl 4 (Nat.le_of_ble_eq_true rfl) rfl kiX2_readFits_X2 kfX2_readFits_35 dX2_readFits_1 ?_
  refine z_if_eq (tgt := 8) C dX2_readFits_4 (by decide) (fun c31 => ?_) (fun c31 => ?_)
  · replace hf := if_t c31 hf
    refine z_iconst C (v := 0) dX2_readFits_8 rfl ?_
    refine z_istore_n C (lv2 := [(0, .ref ((zw K).2.1 39)), (1, .int 0)]) [1, 0] dX2_readFits_9 rfl (Nat.le_of_ble_eq_true rfl) rfl ?_
    obtain ⟨m14, hg, hf⟩ := zb_el hf
    refine z_sub [0, 1] rfl (w_X2_readFits_10 C  ?_ _ _ _ hg)
    clear hg
    refine z_iconst C (v := 0) dX2_readFits_54 rfl ?_
    refine z_istore_n C (lv2 := [(0, .ref ((zw K).2.1 39)), (1, .int 0)]) [1, 0] dX2_readFits_55 rfl (Nat.le_of_ble_eq_true rfl) rfl ?_
    obtain ⟨m29, hg, hf⟩ := zb_el hf
    refine z_sub [0, 1] rfl (w_X2_readFits_56 C  ?_ _ _ _ hg)
    clear hg
    refine z_aload_n C 0 dX2_readFits_94 rfl rfl ?_
    refine z_iconst C (v := 1) dX2_readFits_95 rfl ?_
    refine z_putz C (Nat.le_of_ble_eq_true rfl) rfl rfl 4 (Nat.le_of_ble_eq_true rfl) rfl kiX2_readFits_X2 kfX2_readFits_35 tyX2 tyX2_ok nmX2 rfl rfl (Or.inr rfl) dX2_readFits_96 ?_
    refine z_nm (fun m30 e_m30 => ?_)
    replace hf := bn_to e_m30 hf
    cases hf
    exact hret _ _ dX2_readFits_99
  · replace hf := if_f c31 hf
    cases hf
    exact hret _ _ dX2_readFits_7
def rmX2_readSure : Room := { frames := 5, cells := 0, slots := 0, locals := 126 }
theorem zdX2_readSure : yX2_readSure.cls = RX2 ∧ yX2_readSure.cls ≠ "java/lang/invoke/MethodHandle" ∧ yX2_readSure.cls ≠ "java/lang/invoke/VarHandle" ∧ (parseMethodDescriptor yX2_readSure.desc).map (fun d => d.parameters.length) = some 0 := by decide +kernel
theorem kiX2_readSure_X2 : ∀ w ∈ wsX20, w ∈ wsX2_readSure := by decide +kernel
theorem kfX2_readSure_39 : Cond.fieldLink RX2 39 "ShapeJudge$Judge" "sureIsRead" "Z" ∈ wsX2_readSure := by decide +kernel
theorem kfX2_readSure_15 : Cond.fieldLink RX2 15 "ShapeJudge$Judge" "sure" "[I" ∈ wsX2_readSure := by decide +kernel
def t_X2_readSure_10  (i1 : Int32) (m2 : Mem) : Option ((Int32 × Mem) ⊕ (Mem)) :=
  (if 6 ≤ i1 then (some (.inr m2)) else (ck (zin i1 6 = true) (bn (sto m2 41 (Int32.toNatClampNeg i1) 0) fun m4 => bn (i1 + 1) fun x5 => some (.inl (x5, m4)))))
def l_X2_readSure_10  (n : Nat) (i1 : Int32) (m2 : Mem) : Option (Mem) := zlp n (fun a => t_X2_readSure_10  a.1 a.2) (i1, m2)
def t_X2_readSure_33  (i8 : Int32) (i9 : Int32) (m10 : Mem) : Option ((Int32 × Int32 × Mem) ⊕ (Mem)) :=
  (if i8 = 0 then (some (.inr m10)) else ((if 60 < i9 then (some (.inr m10)) else (zb2 (s_X2_addSuiting m10) fun r12 m13 => bn (i9 + 1) fun x14 => some (.inl (r12, x14, m13))))))
def l_X2_readSure_33  (n : Nat) (i8 : Int32) (i9 : Int32) (m10 : Mem) : Option (Mem) := zlp n (fun a => t_X2_readSure_33  a.1 a.2.1 a.2.2) (i8, i9, m10)
def s_X2_readSure (m : Mem)  : Option (Mem) :=
  (if (m 39 5) = 0 then (((l_X2_readSure_10  FU 0 m).bind fun m7 => ((l_X2_readSure_33  FU 1 0 m7).bind fun m17 => bn (sto m17 39 5 1) fun m18 => some m18))) else (some m))
set_option maxRecDepth 100000 in
set_option maxHeartbeats 4000000 in
theorem w_X2_readSure_10 {K : ZK} (C : zOK MX K cX2_readSure 3 none RX2 wsX2_readSure rmX2_readSure)   {o0 : Mem} (hk : zGo MX K o0 [(0, .ref ((zw K).2.1 39))] 29 []) : ∀ (n : Nat) (i1 : Int32) (m2 : Mem), l_X2_readSure_10  n i1 m2 = some o0 → zGo MX K m2 [(0, .ref ((zw K).2.1 39)), (1, .int i1)] 10 [] := by
  intro n
  induction n with
  | zero =>
    intro i1 m2 hf
    cases hf
  | succ n ih =>
    intro i1 m2 hf
    obtain ⟨z, hf, hz⟩ := zlp_el hf
    replace hf : t_X2_readSure_10  i1 m2 = some z := hf
    unfold t_X2_readSure_10 at hf
    refine z_iload_n C 1 dX2_readSure_10 rfl rfl ?_
    refine z_bipush C (v := 6) dX2_readSure_11 rfl ?_
    refine z_icmp_ge (tgt := 29) C dX2_readSure_13 (by decide) (fun c6 => ?_) (fun c6 => ?_)
    · replace hf := if_t c6 hf
      cases hf
      replace hz := zlz_r hz
      cases hz
      exact z_sub [0] rfl hk
    · replace hf := if_f c6 hf
      refine z_aload_n C 0 dX2_readSure_16 rfl rfl ?_
      refine z_getr C (t := 41) (Nat.le_of_ble_eq_true rfl) rfl rfl 3 (Nat.le_of_ble_eq_true rfl) rfl kiX2_readSure_X2 kfX2_readSure_15 dX2_readSure_17 ?_
      refine z_iload_n C 1 dX2_readSure_20 rfl rfl ?_
      refine z_iconst C (v := 0) dX2_readSure_21 rfl ?_
      obtain ⟨hi3, hf⟩ := ck_el hf
      refine z_iast C (k := 41) (Nat.le_of_ble_eq_true rfl) rfl hi3 dX2_readSure_22 ?_
      refine z_nm (fun m4 e_m4 => ?_)
      replace hf := bn_to e_m4 hf
      obtain ⟨x5, e_x5⟩ : ∃ y : Int32, y = i1 + 1 := ⟨_, rfl⟩
      replace hf := bn_to e_x5 hf
      refine z_iinc C (lv2 := [(0, .ref ((zw K).2.1 39)), (1, .int x5)]) 1 [1, 0] dX2_readSure_23 rfl rfl (Nat.le_of_ble_eq_true rfl) e_x5 rfl ?_
      refine z_goto (tgt := 10) C dX2_readSure_26 (by decide) ?_
      cases hf
      exact z_sub [0, 1] rfl (ih x5 m4 hz)
set_option maxRecDepth 100000 in
set_option maxHeartbeats 4000000 in
theorem w_X2_readSure_33 {K : ZK} (C : zOK MX K cX2_readSure 3 none RX2 wsX2_readSure rmX2_readSure)   {o0 : Mem} (hk : zGo MX K o0 [(0, .ref ((zw K).2.1 39))] 54 []) : ∀ (n : Nat) (i8 : Int32) (i9 : Int32) (m10 : Mem), l_X2_readSure_33  n i8 i9 m10 = some o0 → zGo MX K m10 [(0, .ref ((zw K).2.1 39)), (1, .int i8), (2, .int i9)] 33 [] := by
  intro n
  induction n with
  | zero =>
    intro i8 i9 m10 hf
    cases hf
  | succ n ih =>
    intro i8 i9 m10 hf
    obtain ⟨z, hf, hz⟩ := zlp_el hf
    replace hf : t_X2_readSure_33  i8 i9 m10 = some z := hf
    unfold t_X2_readSure_33 at hf
    refine z_iload_n C 1 dX2_readSure_33 rfl rfl ?_
    refine z_if_eq (tgt := 54) C dX2_readSure_34 (by decide) (fun c16 => ?_) (fun c16 => ?_)
    · replace hf := if_t c16 hf
      cases hf
      replace hz := zlz_r hz
      cases hz
      exact z_sub [0] rfl hk
    · replace hf := if_f c16 hf
      refine z_iload_n C 2 dX2_readSure_37 rfl rfl ?_
      refine z_bipush C (v := 60) dX2_readSure_38 rfl ?_
      refine z_icmp_gt (tgt := 54) C dX2_readSure_40 (by decide) (fun c15 => ?_) (fun c15 => ?_)
      · replace hf := if_t c15 hf
        cases hf
        replace hz := zlz_r hz
        cases hz
        exact z_sub [0] rfl hk
      · replace hf := if_f c15 hf
        refine z_aload_n C 0 dX2_readSure_43 rfl rfl ?_
        obtain ⟨r12, m13, hc11, hf⟩ := zb2_el hf
        refine z_cVi C (c_X2_addSuiting _ _ hc11) rfl gX2_readSure_X2_addSuiting rfl rfl zdX2_addSuiting rfl (Nat.le_of_ble_eq_true rfl) rfl rfl rfl ⟨Nat.le_of_ble_eq_true rfl, Nat.le_of_ble_eq_true rfl⟩ (Nat.le_of_ble_eq_true rfl) dX2_readSure_44 rfl ?_
        refine z_istore_n C (lv2 := [(0, .ref ((zw K).2.1 39)), (1, .int r12), (2, .int i9)]) [1, 0, 2] dX2_readSure_47 rfl (Nat.le_of_ble_eq_true rfl) rfl ?_
        obtain ⟨x14, e_x14⟩ : ∃ y : Int32, y = i9 + 1 := ⟨_, rfl⟩
        replace hf := bn_to e_x14 hf
        refine z_iinc C (lv2 := [(0, .ref ((zw K).2.1 39)), (1, .int r12), (2, .int x14)]) 2 [1, 2, 0] dX2_readSure_48 rfl rfl (Nat.le_of_ble_eq_true rfl) e_x14 rfl ?_
        refine z_goto (tgt := 33) C dX2_readSure_51 (by decide) ?_
        cases hf
        exact z_sub [0, 1, 2] rfl (ih r12 x14 m13 hz)
set_option maxRecDepth 100000 in
set_option maxHeartbeats 4000000 in
theorem c_X2_readSure (l : Launch) (w : ZW) {m : Mem}  {m9 : Mem}  (hf : s_X2_readSure m  = some m9) : zCv MX l w yX2_readSure wsX2_readSure rmX2_readSure [.ref (w.2.1 39)] m m9 := by
  refine z_met_v MX_ok (own := RX2) (by decide +kernel) rfl rfl (Nat.le_of_ble_eq_true rfl) ?_
  intro K C hKw hKl hret
  subst hKw
  subst hKl
  unfold s_X2_readSure at hf
  show zGo MX K m [(0, .ref ((zw K).2.1 39))] 0 []
  refine z_aload_n C 0 dX2_readSure_0 rfl rfl ?_
  refine z_geti C (Nat.le_of_ble_eq_true rfl) rfl rfl 5 (Nat.le_of_ble_eq_true rfl) rfl kiX2_readSure_X2 kfX2_readSure_39 dX2_readSure_1 ?_
  refine z_if_eq (tgt := 8) C dX2_readSure_4 (by decide) (fun c19 => ?_) (fun c19 => ?_)
  · replace hf := if_t c19 hf
    refine z_iconst C (v := 0) dX2_readSure_8 rfl ?_
    refine z_istore_n C (lv2 := [(0, .ref ((zw K).2.1 39)), (1, .int 0)]) [1, 0] dX2_readSure_9 rfl (Nat.le_of_ble_eq_true rfl) rfl ?_
    obtain ⟨m7, hg, hf⟩ := zb_el hf
    refine z_sub [0, 1] rfl (w_X2_readSure_10 C  ?_ _ _ _ hg)
    clear hg
    refine z_iconst C (v := 1) dX2_readSure_29 rfl ?_
    refine z_istore_n C (lv2 := [(0, .ref ((zw K).2.1 39)), (1, .int 1)]) [1, 0] dX2_readSure_30 rfl (Nat.le_of_ble_eq_true rfl) rfl ?_
    refine z_iconst C (v := 0) dX2_readSure_31 rfl ?_
    refine z_istore_n C (lv2 := [(0, .ref ((zw K).2.1 39)), (1, .int 1), (2, .int 0)]) [1, 2, 0] dX2_readSure_32 rfl (Nat.le_of_ble_eq_true rfl) rfl ?_
    obtain ⟨m17, hg, hf⟩ := zb_el hf
    refine z_sub [0, 1, 2] rfl (w_X2_readSure_33 C  ?_ _ _ _ _ hg)
    clear hg
    refine z_aload_n C 0 dX2_readSure_54 rfl rfl ?_
    refine z_iconst C (v := 1) dX2_readSure_55 rfl ?_
    refine z_putz C (Nat.le_of_ble_eq_true rfl) rfl rfl 5 (Nat.le_of_ble_eq_true rfl) rfl kiX2_readSure_X2 kfX2_readSure_39 tyX2 tyX2_ok nmX2 rfl rfl (Or.inr rfl) dX2_readSure_56 ?_
    refine z_nm (fun m18 e_m18 => ?_)
    replace hf := bn_to e_m18 hf
    cases hf
    exact hret _ _ dX2_readSure_59
  · replace hf := if_f c19 hf
    cases hf
    exact hret _ _ dX2_readSure_7
def rmX2_surplusEdges : Room := { frames := 6, cells := 0, slots := 0, locals := 150 }
theorem zdX2_surplusEdges : yX2_surplusEdges.cls = RX2 ∧ yX2_surplusEdges.cls ≠ "java/lang/invoke/MethodHandle" ∧ yX2_surplusEdges.cls ≠ "java/lang/invoke/VarHandle" ∧ (parseMethodDescriptor yX2_surplusEdges.desc).map (fun d => d.parameters.length) = some 2 := by decide +kernel
theorem kiX2_surplusEdges_X2 : ∀ w ∈ wsX20, w ∈ wsX2_surplusEdges := by decide +kernel
theorem kfX2_surplusEdges_9 : Cond.fieldLink RX2 9 "ShapeJudge$Judge" "fitting" "[I" ∈ wsX2_surplusEdges := by decide +kernel
theorem kfX2_surplusEdges_24 : Cond.fieldLink RX2 24 "ShapeJudge$Judge" "graph" "LShapeJudge$Graph;" ∈ wsX2_surplusEdges := by decide +kernel
theorem kiX2_surplusEdges_X1 : ∀ w ∈ wsX10, w ∈ wsX2_surplusEdges := by decide +kernel
theorem kfX2_surplusEdges_71 : Cond.fieldLink RX2 71 "ShapeJudge$Graph" "degrees" "[I" ∈ wsX2_surplusEdges := by decide +kernel
theorem kfX2_surplusEdges_74 : Cond.fieldLink RX2 74 "ShapeJudge$Judge" "thinNode" "I" ∈ wsX2_surplusEdges := by decide +kernel
theorem kfX2_surplusEdges_77 : Cond.fieldLink RX2 77 "ShapeJudge$Judge" "goneEdges" "I" ∈ wsX2_surplusEdges := by decide +kernel
def t_X2_surplusEdges_58 (a1 : Int32) (a2 : Int32) (x5 : Int32) (i8 : Int32) (i10 : Int32) (i11 : Int32) (m12 : Mem) : Option ((Int32 × Int32 × Mem) ⊕ (Int32 × Mem)) :=
  (if x5 ≤ i11 then (some (.inr (i10, m12))) else ((if i10 = (-4) then ((s_J6_bitCount_0f7a4 i11).bind fun r14 => (if r14 = i8 then (bn (sto m12 39 9 i11) fun m16 => (s_X2_forget m16).bind fun m18 => (s_X2_readFits m18).bind fun m20 => ck (zin a2 6 = true) ((if (((m20 40 (Int32.toNatClampNeg a2)) >>> (a1 &&& 31)) &&& 1) = 0 then (bn (i11 + 1) fun x22 => some (.inl ((-4), x22, m20))) else (bn (i11 + 1) fun x23 => some (.inl (i11, x23, m20)))))) else (bn (i11 + 1) fun x15 => some (.inl (i10, x15, m12))))) else (some (.inr (i10, m12))))))
def l_X2_surplusEdges_58 (a1 : Int32) (a2 : Int32) (x5 : Int32) (i8 : Int32) (n : Nat) (i10 : Int32) (i11 : Int32) (m12 : Mem) : Option (Int32 × Mem) := zlp n (fun a => t_X2_surplusEdges_58 a1 a2 x5 i8 a.1 a.2.1 a.2.2) (i10, i11, m12)
def t_X2_surplusEdges_43 (a1 : Int32) (a2 : Int32) (x5 : Int32) (i7 : Int32) (i8 : Int32) (m9 : Mem) : Option ((Int32 × Int32 × Mem) ⊕ (Int32 × Mem)) :=
  (if 2 < i8 then (some (.inr (i7, m9))) else ((if i7 = (-4) then ((zb2 (l_X2_surplusEdges_58 a1 a2 x5 i8 FU i7 1 m9) fun y28 m29 => bn (i8 + 1) fun x30 => some (.inl (y28, x30, m29)))) else (some (.inr (i7, m9))))))
def l_X2_surplusEdges_43 (a1 : Int32) (a2 : Int32) (x5 : Int32) (n : Nat) (i7 : Int32) (i8 : Int32) (m9 : Mem) : Option (Int32 × Mem) := zlp n (fun a => t_X2_surplusEdges_43 a1 a2 x5 a.1 a.2.1 a.2.2) (i7, i8, m9)
def s_X2_surplusEdges (m : Mem) (a1 : Int32) (a2 : Int32) : Option (Int32 × Mem) :=
  (s_X2_readFits m).bind fun m2 => ck (zin a2 6 = true) ((if (((m2 40 (Int32.toNatClampNeg a2)) >>> (a1 &&& 31)) &&& 1) = 0 then (ck (zin a1 10 = true) (bn ((1 : Int32) <<< ((m2 4 (Int32.toNatClampNeg a1)) &&& 31)) fun x5 => bn (sto m2 39 8 a1) fun m6 => (zb2 (l_X2_surplusEdges_43 a1 a2 x5 FU (-4) 1 m6) fun y33 m34 => bn (sto m34 39 9 0) fun m35 => (s_X2_forget m35).bind fun m37 => some (y33, m37)))) else (some (0, m2))))
set_option maxRecDepth 100000 in
set_option maxHeartbeats 4000000 in
theorem w_X2_surplusEdges_58 {K : ZK} (C : zOK MX K cX2_surplusEdges 7 (some .int) RX2 wsX2_surplusEdges rmX2_surplusEdges) {a1 : Int32} {a2 : Int32} {x5 : Int32} {i8 : Int32}  {o0 : Int32} {o1 : Mem} (hk : zGo MX K o1 [(0, .ref ((zw K).2.1 39)), (1, .int a1), (2, .int a2), (3, .int o0), (4, .int x5), (5, .int i8)] 122 []) : ∀ (n : Nat) (i10 : Int32) (i11 : Int32) (m12 : Mem), l_X2_surplusEdges_58 a1 a2 x5 i8 n i10 i11 m12 = some (o0, o1) → zGo MX K m12 [(0, .ref ((zw K).2.1 39)), (1, .int a1), (2, .int a2), (3, .int i10), (4, .int x5), (5, .int i8), (6, .int i11)] 58 [] := by
  intro n
  induction n with
  | zero =>
    intro i10 i11 m12 hf
    cases hf
  | succ n ih =>
    intro i10 i11 m12 hf
    obtain ⟨z, hf, hz⟩ := zlp_el hf
    replace hf : t_X2_surplusEdges_58 a1 a2 x5 i8 i10 i11 m12 = some z := hf
    unfold t_X2_surplusEdges_58 at hf
    refine z_iload C 6 dX2_surplusEdges_58 rfl ?_
    refine z_iload C 4 dX2_surplusEdges_60 rfl ?_
    refine z_icmp_ge (tgt := 122) C dX2_surplusEdges_62 (by decide) (fun c27 => ?_) (fun c27 => ?_)
    · replace hf := if_t c27 hf
      cases hf
      replace hz := zlz_r hz
      cases hz
      exact z_sub [0, 1, 2, 3, 4, 5] rfl hk
    · replace hf := if_f c27 hf
      refine z_iload_n C 3 dX2_surplusEdges_65 rfl rfl ?_
      refine z_bipush C (v := (-4)) dX2_surplusEdges_66 (by decide) ?_
      refine z_icmp_ne (tgt := 122) C dX2_surplusEdges_68 (by decide) (fun c26 => ?_) (fun c26 => ?_)
      · replace hf := if_f c26 hf
        cases hf
        replace hz := zlz_r hz
        cases hz
        exact z_sub [0, 1, 2, 3, 4, 5] rfl hk
      · replace hf := if_t c26 hf
        refine z_iload C 6 dX2_surplusEdges_71 rfl ?_
        obtain ⟨r14, hc13, hf⟩ := zb_el hf
        refine z_cSi C (c_J6_bitCount_0f7a4 _ _ hc13) rfl gX2_surplusEdges_J6_bitCount_0f7a4 rfl rfl zdJ6_bitCount_0f7a4.2 rfl ⟨Nat.le_of_ble_eq_true rfl, Nat.le_of_ble_eq_true rfl⟩ (Nat.le_of_ble_eq_true rfl) dX2_surplusEdges_73 rfl ?_
        refine z_iload C 5 dX2_surplusEdges_76 rfl ?_
        refine z_icmp_ne (tgt := 116) C dX2_surplusEdges_78 (by decide) (fun c25 => ?_) (fun c25 => ?_)
        · replace hf := if_f c25 hf
          obtain ⟨x15, e_x15⟩ : ∃ y : Int32, y = i11 + 1 := ⟨_, rfl⟩
          replace hf := bn_to e_x15 hf
          refine z_iinc C (lv2 := [(0, .ref ((zw K).2.1 39)), (1, .int a1), (2, .int a2), (3, .int i10), (4, .int x5), (5, .int i8), (6, .int x15)]) 6 [1, 2, 3, 4, 5, 6, 0] dX2_surplusEdges_116 rfl rfl (Nat.le_of_ble_eq_true rfl) e_x15 rfl ?_
          refine z_goto (tgt := 58) C dX2_surplusEdges_119 (by decide) ?_
          cases hf
          exact z_sub [0, 1, 2, 3, 4, 5, 6] rfl (ih i10 x15 m12 hz)
        · replace hf := if_t c25 hf
          refine z_aload_n C 0 dX2_surplusEdges_81 rfl rfl ?_
          refine z_iload C 6 dX2_surplusEdges_82 rfl ?_
          refine z_puti C (Nat.le_of_ble_eq_true rfl) rfl rfl 9 (Nat.le_of_ble_eq_true rfl) rfl kiX2_surplusEdges_X2 kfX2_surplusEdges_77 tyX2 tyX2_ok nmX2 rfl rfl dX2_surplusEdges_84 ?_
          refine z_nm (fun m16 e_m16 => ?_)
          replace hf := bn_to e_m16 hf
          refine z_aload_n C 0 dX2_surplusEdges_87 rfl rfl ?_
          obtain ⟨m18, hc17, hf⟩ := zb_el hf
          refine z_cVv C (c_X2_forget _ _ hc17) rfl gX2_surplusEdges_X2_forget rfl rfl zdX2_forget rfl (Nat.le_of_ble_eq_true rfl) rfl rfl rfl ⟨Nat.le_of_ble_eq_true rfl, Nat.le_of_ble_eq_true rfl⟩ (Nat.le_of_ble_eq_true rfl) dX2_surplusEdges_88 rfl ?_
          refine z_aload_n C 0 dX2_surplusEdges_91 rfl rfl ?_
          obtain ⟨m20, hc19, hf⟩ := zb_el hf
          refine z_cVv C (c_X2_readFits _ _ hc19) rfl gX2_surplusEdges_X2_readFits rfl rfl zdX2_readFits rfl (Nat.le_of_ble_eq_true rfl) rfl rfl rfl ⟨Nat.le_of_ble_eq_true rfl, Nat.le_of_ble_eq_true rfl⟩ (Nat.le_of_ble_eq_true rfl) dX2_surplusEdges_92 rfl ?_
          refine z_aload_n C 0 dX2_surplusEdges_95 rfl rfl ?_
          refine z_getr C (t := 40) (Nat.le_of_ble_eq_true rfl) rfl rfl 2 (Nat.le_of_ble_eq_true rfl) rfl kiX2_surplusEdges_X2 kfX2_surplusEdges_9 dX2_surplusEdges_96 ?_
          refine z_iload_n C 2 dX2_surplusEdges_99 rfl rfl ?_
          obtain ⟨hi21, hf⟩ := ck_el hf
          refine z_iald C (k := 40) (Nat.le_of_ble_eq_true rfl) rfl hi21 dX2_surplusEdges_100 ?_
          refine z_iload_n C 1 dX2_surplusEdges_101 rfl rfl ?_
          refine z_ishr C dX2_surplusEdges_102 ?_
          refine z_iconst C (v := 1) dX2_surplusEdges_103 rfl ?_
          refine z_iand C dX2_surplusEdges_104 ?_
          refine z_if_eq (tgt := 113) C dX2_surplusEdges_105 (by decide) (fun c24 => ?_) (fun c24 => ?_)
          · replace hf := if_t c24 hf
            refine z_bipush C (v := (-4)) dX2_surplusEdges_113 (by decide) ?_
            refine z_istore_n C (lv2 := [(0, .ref ((zw K).2.1 39)), (1, .int a1), (2, .int a2), (3, .int (-4)), (4, .int x5), (5, .int i8), (6, .int i11)]) [1, 2, 3, 0, 4, 5, 6] dX2_surplusEdges_115 rfl (Nat.le_of_ble_eq_true rfl) rfl ?_
            obtain ⟨x22, e_x22⟩ : ∃ y : Int32, y = i11 + 1 := ⟨_, rfl⟩
            replace hf := bn_to e_x22 hf
            refine z_iinc C (lv2 := [(0, .ref ((zw K).2.1 39)), (1, .int a1), (2, .int a2), (3, .int (-4)), (4, .int x5), (5, .int i8), (6, .int x22)]) 6 [1, 2, 3, 4, 5, 6, 0] dX2_surplusEdges_116 rfl rfl (Nat.le_of_ble_eq_true rfl) e_x22 rfl ?_
            refine z_goto (tgt := 58) C dX2_surplusEdges_119 (by decide) ?_
            cases hf
            exact z_sub [0, 1, 2, 3, 4, 5, 6] rfl (ih (-4) x22 m20 hz)
          · replace hf := if_f c24 hf
            refine z_iload C 6 dX2_surplusEdges_108 rfl ?_
            refine z_goto (tgt := 115) C dX2_surplusEdges_110 (by decide) ?_
            refine z_istore_n C (lv2 := [(0, .ref ((zw K).2.1 39)), (1, .int a1), (2, .int a2), (3, .int i11), (4, .int x5), (5, .int i8), (6, .int i11)]) [1, 2, 3, 0, 4, 5, 6] dX2_surplusEdges_115 rfl (Nat.le_of_ble_eq_true rfl) rfl ?_
            obtain ⟨x23, e_x23⟩ : ∃ y : Int32, y = i11 + 1 := ⟨_, rfl⟩
            replace hf := bn_to e_x23 hf
            refine z_iinc C (lv2 := [(0, .ref ((zw K).2.1 39)), (1, .int a1), (2, .int a2), (3, .int i11), (4, .int x5), (5, .int i8), (6, .int x23)]) 6 [1, 2, 3, 4, 5, 6, 0] dX2_surplusEdges_116 rfl rfl (Nat.le_of_ble_eq_true rfl) e_x23 rfl ?_
            refine z_goto (tgt := 58) C dX2_surplusEdges_119 (by decide) ?_
            cases hf
            exact z_sub [0, 1, 2, 3, 4, 5, 6] rfl (ih i11 x23 m20 hz)
set_option maxRecDepth 100000 in
set_option maxHeartbeats 4000000 in
theorem w_X2_surplusEdges_43 {K : ZK} (C : zOK MX K cX2_surplusEdges 7 (some .int) RX2 wsX2_surplusEdges rmX2_surplusEdges) {a1 : Int32} {a2 : Int32} {x5 : Int32}  {o0 : Int32} {o1 : Mem} (hk : zGo MX K o1 [(0, .ref ((zw K).2.1 39)), (3, .int o0)] 128 []) : ∀ (n : Nat) (i7 : Int32) (i8 : Int32) (m9 : Mem), l_X2_surplusEdges_43 a1 a2 x5 n i7 i8 m9 = some (o0, o1) → zGo MX K m9 [(0, .ref ((zw K).2.1 39)), (1, .int a1), (2, .int a2), (3, .int i7), (4, .int x5), (5, .int i8)] 43 [] := by
  intro n
  induction n with
  | zero =>
    intro i7 i8 m9 hf
    cases hf
  | succ n ih =>
    intro i7 i8 m9 hf
    obtain ⟨z, hf, hz⟩ := zlp_el hf
    replace hf : t_X2_surplusEdges_43 a1 a2 x5 i7 i8 m9 = some z := hf
    unfold t_X2_surplusEdges_43 at hf
    refine z_iload C 5 dX2_surplusEdges_43 rfl ?_
    refine z_iconst C (v := 2) dX2_surplusEdges_45 rfl ?_
    refine z_icmp_gt (tgt := 128) C dX2_surplusEdges_46 (by decide) (fun c32 => ?_) (fun c32 => ?_)
    · replace hf := if_t c32 hf
      cases hf
      replace hz := zlz_r hz
      cases hz
      exact z_sub [0, 3] rfl hk
    · replace hf := if_f c32 hf
      refine z_iload_n C 3 dX2_surplusEdges_49 rfl rfl ?_
      refine z_bipush C (v := (-4)) dX2_surplusEdges_50 (by decide) ?_
      refine z_icmp_ne (tgt := 128) C dX2_surplusEdges_52 (by decide) (fun c31 => ?_) (fun c31 => ?_)
      · replace hf := if_f c31 hf
        cases hf
        replace hz := zlz_r hz
        cases hz
        exact z_sub [0, 3] rfl hk
      · replace hf := if_t c31 hf
        refine z_iconst C (v := 1) dX2_surplusEdges_55 rfl ?_
        refine z_istore C (lv2 := [(0, .ref ((zw K).2.1 39)), (1, .int a1), (2, .int a2), (3, .int i7), (4, .int x5), (5, .int i8), (6, .int 1)]) [1, 2, 3, 4, 5, 6, 0] dX2_surplusEdges_56 (Nat.le_of_ble_eq_true rfl) rfl ?_
        obtain ⟨y28, m29, hg, hf⟩ := zb2_el hf
        refine z_sub [0, 1, 2, 3, 4, 5, 6] rfl (w_X2_surplusEdges_58 C  ?_ _ _ _ _ hg)
        clear hg
        obtain ⟨x30, e_x30⟩ : ∃ y : Int32, y = i8 + 1 := ⟨_, rfl⟩
        replace hf := bn_to e_x30 hf
        refine z_iinc C (lv2 := [(0, .ref ((zw K).2.1 39)), (1, .int a1), (2, .int a2), (3, .int y28), (4, .int x5), (5, .int x30)]) 5 [1, 2, 3, 4, 5, 0] dX2_surplusEdges_122 rfl rfl (Nat.le_of_ble_eq_true rfl) e_x30 rfl ?_
        refine z_goto (tgt := 43) C dX2_surplusEdges_125 (by decide) ?_
        cases hf
        exact z_sub [0, 1, 2, 3, 4, 5] rfl (ih y28 x30 m29 hz)
set_option maxRecDepth 100000 in
set_option maxHeartbeats 4000000 in
theorem c_X2_surplusEdges (l : Launch) (w : ZW) {m : Mem} {a1 : Int32} {a2 : Int32} {r9 : Int32} {m9 : Mem}  (hf : s_X2_surplusEdges m a1 a2 = some (r9, m9)) : zCi MX l w yX2_surplusEdges wsX2_surplusEdges rmX2_surplusEdges [.ref (w.2.1 39), .int a1, .int a2] m m9 r9 := by
  refine z_met_i MX_ok (own := RX2) (by decide +kernel) rfl rfl (Nat.le_of_ble_eq_true rfl) ?_
  intro K C hKw hKl hret
  subst hKw
  subst hKl
  unfold s_X2_surplusEdges at hf
  show zGo MX K m [(0, .ref ((zw K).2.1 39)), (1, .int a1), (2, .int a2)] 0 []
  refine z_aload_n C 0 dX2_surplusEdges_0 rfl rfl ?_
  obtain ⟨m2, hc1, hf⟩ := zb_el hf
  refine z_cVv C (c_X2_readFits _ _ hc1) rfl gX2_surplusEdges_X2_readFits rfl rfl zdX2_readFits rfl (Nat.le_of_ble_eq_true rfl) rfl rfl rfl ⟨Nat.le_of_ble_eq_true rfl, Nat.le_of_ble_eq_true rfl⟩ (Nat.le_of_ble_eq_true rfl) dX2_surplusEdges_1 rfl ?_
  refine z_aload_n C 0 dX2_surplusEdges_4 rfl rfl ?_
  refine z_getr C (t := 40) (Nat.le_of_ble_eq_true rfl) rfl rfl 2 (Nat.le_of_ble_eq_true rfl) rfl kiX2_surplusEdges_X2 kfX2_surplusEdges_9 dX2_surplusEdges_5 ?_
  refine z_iload_n C 2 dX2_surplusEdges_8 rfl rfl ?_
  obtain ⟨hi3, hf⟩ := ck_el hf
  refine z_iald C (k := 40) (Nat.le_of_ble_eq_true rfl) rfl hi3 dX2_surplusEdges_9 ?_
  refine z_iload_n C 1 dX2_surplusEdges_10 rfl rfl ?_
  refine z_ishr C dX2_surplusEdges_11 ?_
  refine z_iconst C (v := 1) dX2_surplusEdges_12 rfl ?_
  refine z_iand C dX2_surplusEdges_13 ?_
  refine z_if_eq (tgt := 19) C dX2_surplusEdges_14 (by decide) (fun c38 => ?_) (fun c38 => ?_)
  · replace hf := if_t c38 hf
    refine z_bipush C (v := (-4)) dX2_surplusEdges_19 (by decide) ?_
    refine z_istore_n C (lv2 := [(0, .ref ((zw K).2.1 39)), (1, .int a1), (2, .int a2), (3, .int (-4))]) [1, 2, 3, 0] dX2_surplusEdges_21 rfl (Nat.le_of_ble_eq_true rfl) rfl ?_
    refine z_iconst C (v := 1) dX2_surplusEdges_22 rfl ?_
    refine z_aload_n C 0 dX2_surplusEdges_23 rfl rfl ?_
    refine z_getr C (t := 1) (Nat.le_of_ble_eq_true rfl) rfl rfl 0 (Nat.le_of_ble_eq_true rfl) rfl kiX2_surplusEdges_X2 kfX2_surplusEdges_24 dX2_surplusEdges_24 ?_
    refine z_getr C (t := 4) (Nat.le_of_ble_eq_true rfl) rfl rfl 4 (Nat.le_of_ble_eq_true rfl) rfl kiX2_surplusEdges_X1 kfX2_surplusEdges_71 dX2_surplusEdges_27 ?_
    refine z_iload_n C 1 dX2_surplusEdges_30 rfl rfl ?_
    obtain ⟨hi4, hf⟩ := ck_el hf
    refine z_iald C (k := 4) (Nat.le_of_ble_eq_true rfl) rfl hi4 dX2_surplusEdges_31 ?_
    refine z_ishl C dX2_surplusEdges_32 ?_
    refine z_topi (fun x5 e_x5 => ?_)
    replace hf := bn_to e_x5 hf
    refine z_istore C (lv2 := [(0, .ref ((zw K).2.1 39)), (1, .int a1), (2, .int a2), (3, .int (-4)), (4, .int x5)]) [1, 2, 3, 4, 0] dX2_surplusEdges_33 (Nat.le_of_ble_eq_true rfl) rfl ?_
    refine z_aload_n C 0 dX2_surplusEdges_35 rfl rfl ?_
    refine z_iload_n C 1 dX2_surplusEdges_36 rfl rfl ?_
    refine z_puti C (Nat.le_of_ble_eq_true rfl) rfl rfl 8 (Nat.le_of_ble_eq_true rfl) rfl kiX2_surplusEdges_X2 kfX2_surplusEdges_74 tyX2 tyX2_ok nmX2 rfl rfl dX2_surplusEdges_37 ?_
    refine z_nm (fun m6 e_m6 => ?_)
    replace hf := bn_to e_m6 hf
    refine z_iconst C (v := 1) dX2_surplusEdges_40 rfl ?_
    refine z_istore C (lv2 := [(0, .ref ((zw K).2.1 39)), (1, .int a1), (2, .int a2), (3, .int (-4)), (4, .int x5), (5, .int 1)]) [1, 2, 3, 4, 5, 0] dX2_surplusEdges_41 (Nat.le_of_ble_eq_true rfl) rfl ?_
    obtain ⟨y33, m34, hg, hf⟩ := zb2_el hf
    refine z_sub [0, 1, 2, 3, 4, 5] rfl (w_X2_surplusEdges_43 C  ?_ _ _ _ _ hg)
    clear hg
    refine z_aload_n C 0 dX2_surplusEdges_128 rfl rfl ?_
    refine z_iconst C (v := 0) dX2_surplusEdges_129 rfl ?_
    refine z_puti C (Nat.le_of_ble_eq_true rfl) rfl rfl 9 (Nat.le_of_ble_eq_true rfl) rfl kiX2_surplusEdges_X2 kfX2_surplusEdges_77 tyX2 tyX2_ok nmX2 rfl rfl dX2_surplusEdges_130 ?_
    refine z_nm (fun m35 e_m35 => ?_)
    replace hf := bn_to e_m35 hf
    refine z_aload_n C 0 dX2_surplusEdges_133 rfl rfl ?_
    obtain ⟨m37, hc36, hf⟩ := zb_el hf
    refine z_cVv C (c_X2_forget _ _ hc36) rfl gX2_surplusEdges_X2_forget rfl rfl zdX2_forget rfl (Nat.le_of_ble_eq_true rfl) rfl rfl rfl ⟨Nat.le_of_ble_eq_true rfl, Nat.le_of_ble_eq_true rfl⟩ (Nat.le_of_ble_eq_true rfl) dX2_surplusEdges_134 rfl ?_
    refine z_iload_n C 1 dX2_surplusEdges_137 rfl rfl ?_
    cases hf
    exact hret _ _ dX2_surplusEdges_138
  · replace hf := if_f c38 hf
    refine z_iconst C (v := 0) dX2_surplusEdges_17 rfl ?_
    cases hf
    exact hret _ _ dX2_surplusEdges_18
