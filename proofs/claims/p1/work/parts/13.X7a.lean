def rmX7_in : Room := { frames := 0, cells := 0, slots := 0, locals := 0 }
theorem zdX7_in : yX7_in.cls = RX7 ∧ yX7_in.cls ≠ "java/lang/invoke/MethodHandle" ∧ yX7_in.cls ≠ "java/lang/invoke/VarHandle" ∧ (parseMethodDescriptor yX7_in.desc).map (fun d => d.parameters.length) = some 3 := by decide +kernel
def s_X7_in (a1 : Int64) (a2 : Int64) (a3 : Int64) : Option (Int32) :=
  (if (lg_cmp a1 a2) < 0 then (some 0) else ((if 0 < (lg_cmp a1 a3) then (some 0) else (some 1))))
set_option maxRecDepth 100000 in
set_option maxHeartbeats 4000000 in
theorem c_X7_in (l : Launch) (w : ZW) {m : Mem} {a1 : Int64} {a2 : Int64} {a3 : Int64} {r9 : Int32}  (hf : s_X7_in a1 a2 a3 = some r9) : zCi MM l w yX7_in wsX7_in rmX7_in [.long a1, .long a2, .long a3] m m r9 := by
  refine z_met_z MM_ok (own := RX7) (by decide +kernel) rfl rfl (Nat.le_of_ble_eq_true rfl) ?_
  intro K C hKw hKl hret
  subst hKw
  subst hKl
  unfold s_X7_in at hf
  show zGo MM K m [(0, .long a1), (2, .long a2), (4, .long a3)] 0 []
  refine z_lload_n C 0 dX7_in_0 rfl rfl ?_
  refine z_lload_n C 1 dX7_in_1 rfl rfl ?_
  refine z_lcmp C dX7_in_2 ?_
  refine z_if_lt (tgt := 17) C dX7_in_3 (by decide) (fun c2 => ?_) (fun c2 => ?_)
  · replace hf := if_t c2 hf
    refine z_iconst C (v := 0) dX7_in_17 rfl ?_
    cases hf
    exact hret _ _ dX7_in_18 (Or.inl rfl)
  · replace hf := if_f c2 hf
    refine z_lload_n C 0 dX7_in_6 rfl rfl ?_
    refine z_lload C 2 dX7_in_7 rfl ?_
    refine z_lcmp C dX7_in_9 ?_
    refine z_if_gt (tgt := 17) C dX7_in_10 (by decide) (fun c1 => ?_) (fun c1 => ?_)
    · replace hf := if_t c1 hf
      refine z_iconst C (v := 0) dX7_in_17 rfl ?_
      cases hf
      exact hret _ _ dX7_in_18 (Or.inl rfl)
    · replace hf := if_f c1 hf
      refine z_iconst C (v := 1) dX7_in_13 rfl ?_
      refine z_goto (tgt := 18) C dX7_in_14 (by decide) ?_
      cases hf
      exact hret _ _ dX7_in_18 (Or.inr rfl)
def rmX7_isShape : Room := { frames := 1, cells := 0, slots := 0, locals := 25 }
theorem zdX7_isShape : yX7_isShape.cls = RX7 ∧ yX7_isShape.cls ≠ "java/lang/invoke/MethodHandle" ∧ yX7_isShape.cls ≠ "java/lang/invoke/VarHandle" ∧ (parseMethodDescriptor yX7_isShape.desc).map (fun d => d.parameters.length) = some 1 := by decide +kernel
theorem kiX7_isShape_X7 : ∀ w ∈ wsX70, w ∈ wsX7_isShape := by decide +kernel
theorem kfX7_isShape_258 : Cond.fieldLink RX7 258 "ShapeJudgeModel" "shapes" "I" ∈ wsX7_isShape := by decide +kernel
def s_X7_isShape (m : Mem) (a1 : Int32) : Option (Int32) :=
  (s_X7_in (a1.toInt64) 0 ((m 0 7) - 1).toInt64).bind fun r2 => ck (r2 = 0 ∨ r2 = 1) (some r2)
set_option maxRecDepth 100000 in
set_option maxHeartbeats 4000000 in
theorem c_X7_isShape (l : Launch) (w : ZW) {m : Mem} {a1 : Int32} {r9 : Int32}  (hf : s_X7_isShape m a1 = some r9) : zCi MM l w yX7_isShape wsX7_isShape rmX7_isShape [.ref (w.2.1 0), .int a1] m m r9 := by
  refine z_met_z MM_ok (own := RX7) (by decide +kernel) rfl rfl (Nat.le_of_ble_eq_true rfl) ?_
  intro K C hKw hKl hret
  subst hKw
  subst hKl
  unfold s_X7_isShape at hf
  show zGo MM K m [(0, .ref ((zw K).2.1 0)), (1, .int a1)] 0 []
  refine z_iload_n C 1 dX7_isShape_0 rfl rfl ?_
  refine z_i2l C dX7_isShape_1 ?_
  refine z_lconst C (v := 0) dX7_isShape_2 rfl ?_
  refine z_aload_n C 0 dX7_isShape_3 rfl rfl ?_
  refine z_geti C (Nat.le_of_ble_eq_true rfl) rfl rfl 7 (Nat.le_of_ble_eq_true rfl) rfl kiX7_isShape_X7 kfX7_isShape_258 dX7_isShape_4 ?_
  refine z_iconst C (v := 1) dX7_isShape_7 rfl ?_
  refine z_isub C dX7_isShape_8 ?_
  refine z_i2l C dX7_isShape_9 ?_
  obtain ⟨r2, hc1, hf⟩ := zb_el hf
  refine z_cSi C (c_X7_in _ _ hc1) rfl gX7_isShape_X7_in rfl rfl zdX7_in.2 rfl ⟨Nat.le_of_ble_eq_true rfl, Nat.le_of_ble_eq_true rfl⟩ (Nat.le_of_ble_eq_true rfl) dX7_isShape_10 rfl ?_
  obtain ⟨hz, hf⟩ := ck_el hf
  cases hf
  exact hret _ _ dX7_isShape_13 hz
def rmX7_free : Room := { frames := 0, cells := 0, slots := 0, locals := 0 }
theorem zdX7_free : yX7_free.cls = RX7 ∧ yX7_free.cls ≠ "java/lang/invoke/MethodHandle" ∧ yX7_free.cls ≠ "java/lang/invoke/VarHandle" ∧ (parseMethodDescriptor yX7_free.desc).map (fun d => d.parameters.length) = some 0 := by decide +kernel
theorem kiX7_free_X7 : ∀ w ∈ wsX70, w ∈ wsX7_free := by decide +kernel
theorem kfX7_free_125 : Cond.fieldLink RX7 125 "ShapeJudgeModel" "only" "[I" ∈ wsX7_free := by decide +kernel
def t_X7_free_2  (i1 : Int32) (m2 : Mem) : Option ((Int32 × Mem) ⊕ (Mem)) :=
  (if 5 ≤ i1 then (some (.inr m2)) else (ck (zin i1 5 = true) (bn (sto m2 39 (Int32.toNatClampNeg i1) (-4)) fun m4 => bn (i1 + 1) fun x5 => some (.inl (x5, m4)))))
def l_X7_free_2  (n : Nat) (i1 : Int32) (m2 : Mem) : Option (Mem) := zlp n (fun a => t_X7_free_2  a.1 a.2) (i1, m2)
def s_X7_free (m : Mem)  : Option (Mem) :=
  ((l_X7_free_2  FU 0 m).bind fun m7 => some m7)
set_option maxRecDepth 100000 in
set_option maxHeartbeats 4000000 in
theorem w_X7_free_2 {K : ZK} (C : zOK MM K cX7_free 2 none RX7 wsX7_free rmX7_free)   {o0 : Mem} (hk : zGo MM K o0 [] 21 []) : ∀ (n : Nat) (i1 : Int32) (m2 : Mem), l_X7_free_2  n i1 m2 = some o0 → zGo MM K m2 [(0, .ref ((zw K).2.1 0)), (1, .int i1)] 2 [] := by
  intro n
  induction n with
  | zero =>
    intro i1 m2 hf
    cases hf
  | succ n ih =>
    intro i1 m2 hf
    obtain ⟨z, hf, hz⟩ := zlp_el hf
    replace hf : t_X7_free_2  i1 m2 = some z := hf
    unfold t_X7_free_2 at hf
    refine z_iload_n C 1 dX7_free_2 rfl rfl ?_
    refine z_iconst C (v := 5) dX7_free_3 rfl ?_
    refine z_icmp_ge (tgt := 21) C dX7_free_4 (by decide) (fun c6 => ?_) (fun c6 => ?_)
    · replace hf := if_t c6 hf
      cases hf
      replace hz := zlz_r hz
      cases hz
      exact z_sub [] rfl hk
    · replace hf := if_f c6 hf
      refine z_aload_n C 0 dX7_free_7 rfl rfl ?_
      refine z_getr C (t := 39) (Nat.le_of_ble_eq_true rfl) rfl rfl 50 (Nat.le_of_ble_eq_true rfl) rfl kiX7_free_X7 kfX7_free_125 dX7_free_8 ?_
      refine z_iload_n C 1 dX7_free_11 rfl rfl ?_
      refine z_bipush C (v := (-4)) dX7_free_12 (by decide) ?_
      obtain ⟨hi3, hf⟩ := ck_el hf
      refine z_iast C (k := 39) (Nat.le_of_ble_eq_true rfl) rfl hi3 dX7_free_14 ?_
      refine z_nm (fun m4 e_m4 => ?_)
      replace hf := bn_to e_m4 hf
      obtain ⟨x5, e_x5⟩ : ∃ y : Int32, y = i1 + 1 := ⟨_, rfl⟩
      replace hf := bn_to e_x5 hf
      refine z_iinc C (lv2 := [(0, .ref ((zw K).2.1 0)), (1, .int x5)]) 1 [1, 0] dX7_free_15 rfl rfl (Nat.le_of_ble_eq_true rfl) e_x5 rfl ?_
      refine z_goto (tgt := 2) C dX7_free_18 (by decide) ?_
      cases hf
      exact z_sub [0, 1] rfl (ih x5 m4 hz)
set_option maxRecDepth 100000 in
set_option maxHeartbeats 4000000 in
theorem c_X7_free (l : Launch) (w : ZW) {m : Mem}  {m9 : Mem}  (hf : s_X7_free m  = some m9) : zCv MM l w yX7_free wsX7_free rmX7_free [.ref (w.2.1 0)] m m9 := by
  refine z_met_v MM_ok (own := RX7) (by decide +kernel) rfl rfl (Nat.le_of_ble_eq_true rfl) ?_
  intro K C hKw hKl hret
  subst hKw
  subst hKl
  unfold s_X7_free at hf
  show zGo MM K m [(0, .ref ((zw K).2.1 0))] 0 []
  refine z_iconst C (v := 0) dX7_free_0 rfl ?_
  refine z_istore_n C (lv2 := [(0, .ref ((zw K).2.1 0)), (1, .int 0)]) [1, 0] dX7_free_1 rfl (Nat.le_of_ble_eq_true rfl) rfl ?_
  obtain ⟨m7, hg, hf⟩ := zb_el hf
  refine z_sub [0, 1] rfl (w_X7_free_2 C  ?_ _ _ _ hg)
  clear hg
  cases hf
  exact hret _ _ dX7_free_21
def rmX7_findRanks : Room := { frames := 0, cells := 0, slots := 0, locals := 0 }
theorem zdX7_findRanks : yX7_findRanks.cls = RX7 ∧ yX7_findRanks.cls ≠ "java/lang/invoke/MethodHandle" ∧ yX7_findRanks.cls ≠ "java/lang/invoke/VarHandle" ∧ (parseMethodDescriptor yX7_findRanks.desc).map (fun d => d.parameters.length) = some 0 := by decide +kernel
theorem kiX7_findRanks_X7 : ∀ w ∈ wsX70, w ∈ wsX7_findRanks := by decide +kernel
theorem kfX7_findRanks_258 : Cond.fieldLink RX7 258 "ShapeJudgeModel" "shapes" "I" ∈ wsX7_findRanks := by decide +kernel
theorem kfX7_findRanks_131 : Cond.fieldLink RX7 131 "ShapeJudgeModel" "ranks" "[I" ∈ wsX7_findRanks := by decide +kernel
theorem kfX7_findRanks_32 : Cond.fieldLink RX7 32 "ShapeJudgeModel" "parts" "[I" ∈ wsX7_findRanks := by decide +kernel
theorem kfX7_findRanks_38 : Cond.fieldLink RX7 38 "ShapeJudgeModel" "pTest" "[I" ∈ wsX7_findRanks := by decide +kernel
theorem kfX7_findRanks_41 : Cond.fieldLink RX7 41 "ShapeJudgeModel" "pFirst" "[I" ∈ wsX7_findRanks := by decide +kernel
def t_X7_findRanks_2  (i1 : Int32) (m2 : Mem) : Option ((Int32 × Mem) ⊕ (Mem)) :=
  (if (m2 0 7) ≤ i1 then (some (.inr m2)) else (ck (zin i1 6 = true) (bn (sto m2 41 (Int32.toNatClampNeg i1) 0) fun m4 => bn (i1 + 1) fun x5 => some (.inl (x5, m4)))))
def l_X7_findRanks_2  (n : Nat) (i1 : Int32) (m2 : Mem) : Option (Mem) := zlp n (fun a => t_X7_findRanks_2  a.1 a.2) (i1, m2)
def t_X7_findRanks_43 (i10 : Int32) (i12 : Int32) (m13 : Mem) : Option ((Int32 × Mem) ⊕ (Mem)) :=
  ck (zin i10 6 = true) ((if (m13 8 (Int32.toNatClampNeg i10)) ≤ i12 then (some (.inr m13)) else (bn (((6 : Int32) * i10) + i12) fun x15 => ck (zin x15 36 = true) ((if (m13 10 (Int32.toNatClampNeg x15)) = 1 then (ck (zin x15 36 = true) (ck (zin (m13 11 (Int32.toNatClampNeg x15)) 6 = true) (ck (zin x15 36 = true) ((((if (m13 10 (Int32.toNatClampNeg x15)) = 2 then (some 1) else (some 0)) : Option (Int32)).bind fun y20 => bn ((m13 41 (Int32.toNatClampNeg (m13 11 (Int32.toNatClampNeg x15)))) + y20) fun x21 => ck (zin i10 6 = true) ((if x21 ≤ (m13 41 (Int32.toNatClampNeg i10)) then (ck (zin i10 6 = true) (ck (zin i10 6 = true) (bn (sto m13 41 (Int32.toNatClampNeg i10) (m13 41 (Int32.toNatClampNeg i10))) fun m25 => bn (i12 + 1) fun x26 => some (.inl (x26, m25))))) else (ck (zin i10 6 = true) (bn (sto m13 41 (Int32.toNatClampNeg i10) x21) fun m28 => bn (i12 + 1) fun x29 => some (.inl (x29, m28))))))))))) else (ck (zin x15 36 = true) ((if (m13 10 (Int32.toNatClampNeg x15)) = 2 then (ck (zin x15 36 = true) (ck (zin (m13 11 (Int32.toNatClampNeg x15)) 6 = true) (ck (zin x15 36 = true) ((((if (m13 10 (Int32.toNatClampNeg x15)) = 2 then (some 1) else (some 0)) : Option (Int32)).bind fun y37 => bn ((m13 41 (Int32.toNatClampNeg (m13 11 (Int32.toNatClampNeg x15)))) + y37) fun x38 => ck (zin i10 6 = true) ((if x38 ≤ (m13 41 (Int32.toNatClampNeg i10)) then (ck (zin i10 6 = true) (ck (zin i10 6 = true) (bn (sto m13 41 (Int32.toNatClampNeg i10) (m13 41 (Int32.toNatClampNeg i10))) fun m42 => bn (i12 + 1) fun x43 => some (.inl (x43, m42))))) else (ck (zin i10 6 = true) (bn (sto m13 41 (Int32.toNatClampNeg i10) x38) fun m45 => bn (i12 + 1) fun x46 => some (.inl (x46, m45))))))))))) else (bn (i12 + 1) fun x33 => some (.inl (x33, m13)))))))))))
def l_X7_findRanks_43 (i10 : Int32) (n : Nat) (i12 : Int32) (m13 : Mem) : Option (Mem) := zlp n (fun a => t_X7_findRanks_43 i10 a.1 a.2) (i12, m13)
def t_X7_findRanks_33  (i10 : Int32) (m11 : Mem) : Option ((Int32 × Mem) ⊕ (Mem)) :=
  (if (m11 0 7) ≤ i10 then (some (.inr m11)) else (((l_X7_findRanks_43 i10 FU 0 m11).bind fun m52 => bn (i10 + 1) fun x53 => some (.inl (x53, m52)))))
def l_X7_findRanks_33  (n : Nat) (i10 : Int32) (m11 : Mem) : Option (Mem) := zlp n (fun a => t_X7_findRanks_33  a.1 a.2) (i10, m11)
def t_X7_findRanks_25  (i8 : Int32) (m9 : Mem) : Option ((Int32 × Mem) ⊕ (Mem)) :=
  (if 7 ≤ i8 then (some (.inr m9)) else (((l_X7_findRanks_33  FU 0 m9).bind fun m55 => bn (i8 + 1) fun x56 => some (.inl (x56, m55)))))
def l_X7_findRanks_25  (n : Nat) (i8 : Int32) (m9 : Mem) : Option (Mem) := zlp n (fun a => t_X7_findRanks_25  a.1 a.2) (i8, m9)
def s_X7_findRanks (m : Mem)  : Option (Mem) :=
  ((l_X7_findRanks_2  FU 0 m).bind fun m7 => ((l_X7_findRanks_25  FU 0 m7).bind fun m58 => some m58))
set_option maxRecDepth 100000 in
set_option maxHeartbeats 4000000 in
theorem w_X7_findRanks_2 {K : ZK} (C : zOK MM K cX7_findRanks 6 none RX7 wsX7_findRanks rmX7_findRanks)   {o0 : Mem} (hk : zGo MM K o0 [(0, .ref ((zw K).2.1 0))] 23 []) : ∀ (n : Nat) (i1 : Int32) (m2 : Mem), l_X7_findRanks_2  n i1 m2 = some o0 → zGo MM K m2 [(0, .ref ((zw K).2.1 0)), (1, .int i1)] 2 [] := by
  intro n
  induction n with
  | zero =>
    intro i1 m2 hf
    cases hf
  | succ n ih =>
    intro i1 m2 hf
    obtain ⟨z, hf, hz⟩ := zlp_el hf
    replace hf : t_X7_findRanks_2  i1 m2 = some z := hf
    unfold t_X7_findRanks_2 at hf
    refine z_iload_n C 1 dX7_findRanks_2 rfl rfl ?_
    refine z_aload_n C 0 dX7_findRanks_3 rfl rfl ?_
    refine z_geti C (Nat.le_of_ble_eq_true rfl) rfl rfl 7 (Nat.le_of_ble_eq_true rfl) rfl kiX7_findRanks_X7 kfX7_findRanks_258 dX7_findRanks_4 ?_
    refine z_icmp_ge (tgt := 23) C dX7_findRanks_7 (by decide) (fun c6 => ?_) (fun c6 => ?_)
    · replace hf := if_t c6 hf
      cases hf
      replace hz := zlz_r hz
      cases hz
      exact z_sub [0] rfl hk
    · replace hf := if_f c6 hf
      refine z_aload_n C 0 dX7_findRanks_10 rfl rfl ?_
      refine z_getr C (t := 41) (Nat.le_of_ble_eq_true rfl) rfl rfl 52 (Nat.le_of_ble_eq_true rfl) rfl kiX7_findRanks_X7 kfX7_findRanks_131 dX7_findRanks_11 ?_
      refine z_iload_n C 1 dX7_findRanks_14 rfl rfl ?_
      refine z_iconst C (v := 0) dX7_findRanks_15 rfl ?_
      obtain ⟨hi3, hf⟩ := ck_el hf
      refine z_iast C (k := 41) (Nat.le_of_ble_eq_true rfl) rfl hi3 dX7_findRanks_16 ?_
      refine z_nm (fun m4 e_m4 => ?_)
      replace hf := bn_to e_m4 hf
      obtain ⟨x5, e_x5⟩ : ∃ y : Int32, y = i1 + 1 := ⟨_, rfl⟩
      replace hf := bn_to e_x5 hf
      refine z_iinc C (lv2 := [(0, .ref ((zw K).2.1 0)), (1, .int x5)]) 1 [1, 0] dX7_findRanks_17 rfl rfl (Nat.le_of_ble_eq_true rfl) e_x5 rfl ?_
      refine z_goto (tgt := 2) C dX7_findRanks_20 (by decide) ?_
      cases hf
      exact z_sub [0, 1] rfl (ih x5 m4 hz)
set_option maxRecDepth 100000 in
set_option maxHeartbeats 4000000 in
theorem w_X7_findRanks_43 {K : ZK} (C : zOK MM K cX7_findRanks 6 none RX7 wsX7_findRanks rmX7_findRanks) {i8 : Int32} {i10 : Int32}  {o0 : Mem} (hk : zGo MM K o0 [(0, .ref ((zw K).2.1 0)), (1, .int i8), (2, .int i10)] 148 []) : ∀ (n : Nat) (i12 : Int32) (m13 : Mem), l_X7_findRanks_43 i10 n i12 m13 = some o0 → zGo MM K m13 [(0, .ref ((zw K).2.1 0)), (1, .int i8), (2, .int i10), (3, .int i12)] 43 [] := by
  intro n
  induction n with
  | zero =>
    intro i12 m13 hf
    cases hf
  | succ n ih =>
    intro i12 m13 hf
    obtain ⟨z, hf, hz⟩ := zlp_el hf
    replace hf : t_X7_findRanks_43 i10 i12 m13 = some z := hf
    unfold t_X7_findRanks_43 at hf
    refine z_iload_n C 3 dX7_findRanks_43 rfl rfl ?_
    refine z_aload_n C 0 dX7_findRanks_44 rfl rfl ?_
    refine z_getr C (t := 8) (Nat.le_of_ble_eq_true rfl) rfl rfl 10 (Nat.le_of_ble_eq_true rfl) rfl kiX7_findRanks_X7 kfX7_findRanks_32 dX7_findRanks_45 ?_
    refine z_iload_n C 2 dX7_findRanks_48 rfl rfl ?_
    obtain ⟨hi14, hf⟩ := ck_el hf
    refine z_iald C (k := 8) (Nat.le_of_ble_eq_true rfl) rfl hi14 dX7_findRanks_49 ?_
    refine z_icmp_ge (tgt := 148) C dX7_findRanks_50 (by decide) (fun c51 => ?_) (fun c51 => ?_)
    · replace hf := if_t c51 hf
      cases hf
      replace hz := zlz_r hz
      cases hz
      exact z_sub [0, 1, 2] rfl hk
    · replace hf := if_f c51 hf
      refine z_bipush C (v := 6) dX7_findRanks_53 rfl ?_
      refine z_iload_n C 2 dX7_findRanks_55 rfl rfl ?_
      refine z_imul C dX7_findRanks_56 ?_
      refine z_iload_n C 3 dX7_findRanks_57 rfl rfl ?_
      refine z_iadd C dX7_findRanks_58 ?_
      refine z_topi (fun x15 e_x15 => ?_)
      replace hf := bn_to e_x15 hf
      refine z_istore C (lv2 := [(0, .ref ((zw K).2.1 0)), (1, .int i8), (2, .int i10), (3, .int i12), (4, .int x15)]) [1, 2, 3, 4, 0] dX7_findRanks_59 (Nat.le_of_ble_eq_true rfl) rfl ?_
      refine z_aload_n C 0 dX7_findRanks_61 rfl rfl ?_
      refine z_getr C (t := 10) (Nat.le_of_ble_eq_true rfl) rfl rfl 12 (Nat.le_of_ble_eq_true rfl) rfl kiX7_findRanks_X7 kfX7_findRanks_38 dX7_findRanks_62 ?_
      refine z_iload C 4 dX7_findRanks_65 rfl ?_
      obtain ⟨hi16, hf⟩ := ck_el hf
      refine z_iald C (k := 10) (Nat.le_of_ble_eq_true rfl) rfl hi16 dX7_findRanks_67 ?_
      refine z_iconst C (v := 1) dX7_findRanks_68 rfl ?_
      refine z_icmp_eq (tgt := 83) C dX7_findRanks_69 (by decide) (fun c50 => ?_) (fun c50 => ?_)
      · replace hf := if_t c50 hf
        refine z_aload_n C 0 dX7_findRanks_83 rfl rfl ?_
        refine z_getr C (t := 41) (Nat.le_of_ble_eq_true rfl) rfl rfl 52 (Nat.le_of_ble_eq_true rfl) rfl kiX7_findRanks_X7 kfX7_findRanks_131 dX7_findRanks_84 ?_
        refine z_aload_n C 0 dX7_findRanks_87 rfl rfl ?_
        refine z_getr C (t := 11) (Nat.le_of_ble_eq_true rfl) rfl rfl 13 (Nat.le_of_ble_eq_true rfl) rfl kiX7_findRanks_X7 kfX7_findRanks_41 dX7_findRanks_88 ?_
        refine z_iload C 4 dX7_findRanks_91 rfl ?_
        obtain ⟨hi17, hf⟩ := ck_el hf
        refine z_iald C (k := 11) (Nat.le_of_ble_eq_true rfl) rfl hi17 dX7_findRanks_93 ?_
        obtain ⟨hi18, hf⟩ := ck_el hf
        refine z_iald C (k := 41) (Nat.le_of_ble_eq_true rfl) rfl hi18 dX7_findRanks_94 ?_
        refine z_aload_n C 0 dX7_findRanks_95 rfl rfl ?_
        refine z_getr C (t := 10) (Nat.le_of_ble_eq_true rfl) rfl rfl 12 (Nat.le_of_ble_eq_true rfl) rfl kiX7_findRanks_X7 kfX7_findRanks_38 dX7_findRanks_96 ?_
        refine z_iload C 4 dX7_findRanks_99 rfl ?_
        obtain ⟨hi19, hf⟩ := ck_el hf
        refine z_iald C (k := 10) (Nat.le_of_ble_eq_true rfl) rfl hi19 dX7_findRanks_101 ?_
        refine z_iconst C (v := 2) dX7_findRanks_102 rfl ?_
        obtain ⟨y20, hg, hf⟩ := zb_el hf
        have hj : zGo MM K m13 [(0, .ref ((zw K).2.1 0)), (1, .int i8), (2, .int i10), (3, .int i12)] 111 [.int y20, .int (m13 41 (Int32.toNatClampNeg (m13 11 (Int32.toNatClampNeg x15))))] := by
          refine z_iadd C dX7_findRanks_111 ?_
          refine z_topi (fun x21 e_x21 => ?_)
          replace hf := bn_to e_x21 hf
          refine z_istore C (lv2 := [(0, .ref ((zw K).2.1 0)), (1, .int i8), (2, .int i10), (3, .int i12), (5, .int x21)]) [1, 2, 3, 4, 0] dX7_findRanks_112 (Nat.le_of_ble_eq_true rfl) rfl ?_
          refine z_aload_n C 0 dX7_findRanks_114 rfl rfl ?_
          refine z_getr C (t := 41) (Nat.le_of_ble_eq_true rfl) rfl rfl 52 (Nat.le_of_ble_eq_true rfl) rfl kiX7_findRanks_X7 kfX7_findRanks_131 dX7_findRanks_115 ?_
          refine z_iload_n C 2 dX7_findRanks_118 rfl rfl ?_
          refine z_iload C 4 dX7_findRanks_119 rfl ?_
          refine z_aload_n C 0 dX7_findRanks_121 rfl rfl ?_
          refine z_getr C (t := 41) (Nat.le_of_ble_eq_true rfl) rfl rfl 52 (Nat.le_of_ble_eq_true rfl) rfl kiX7_findRanks_X7 kfX7_findRanks_131 dX7_findRanks_122 ?_
          refine z_iload_n C 2 dX7_findRanks_125 rfl rfl ?_
          obtain ⟨hi22, hf⟩ := ck_el hf
          refine z_iald C (k := 41) (Nat.le_of_ble_eq_true rfl) rfl hi22 dX7_findRanks_126 ?_
          refine z_icmp_le (tgt := 135) C dX7_findRanks_127 (by decide) (fun c30 => ?_) (fun c30 => ?_)
          · replace hf := if_t c30 hf
            refine z_aload_n C 0 dX7_findRanks_135 rfl rfl ?_
            refine z_getr C (t := 41) (Nat.le_of_ble_eq_true rfl) rfl rfl 52 (Nat.le_of_ble_eq_true rfl) rfl kiX7_findRanks_X7 kfX7_findRanks_131 dX7_findRanks_136 ?_
            refine z_iload_n C 2 dX7_findRanks_139 rfl rfl ?_
            obtain ⟨hi23, hf⟩ := ck_el hf
            refine z_iald C (k := 41) (Nat.le_of_ble_eq_true rfl) rfl hi23 dX7_findRanks_140 ?_
            obtain ⟨hi24, hf⟩ := ck_el hf
            refine z_iast C (k := 41) (Nat.le_of_ble_eq_true rfl) rfl hi24 dX7_findRanks_141 ?_
            refine z_nm (fun m25 e_m25 => ?_)
            replace hf := bn_to e_m25 hf
            obtain ⟨x26, e_x26⟩ : ∃ y : Int32, y = i12 + 1 := ⟨_, rfl⟩
            replace hf := bn_to e_x26 hf
            refine z_iinc C (lv2 := [(0, .ref ((zw K).2.1 0)), (1, .int i8), (2, .int i10), (3, .int x26), (5, .int x21)]) 3 [1, 2, 3, 0, 4] dX7_findRanks_142 rfl rfl (Nat.le_of_ble_eq_true rfl) e_x26 rfl ?_
            refine z_goto (tgt := 43) C dX7_findRanks_145 (by decide) ?_
            cases hf
            exact z_sub [0, 1, 2, 3] rfl (ih x26 m25 hz)
          · replace hf := if_f c30 hf
            refine z_iload C 4 dX7_findRanks_130 rfl ?_
            refine z_goto (tgt := 141) C dX7_findRanks_132 (by decide) ?_
            obtain ⟨hi27, hf⟩ := ck_el hf
            refine z_iast C (k := 41) (Nat.le_of_ble_eq_true rfl) rfl hi27 dX7_findRanks_141 ?_
            refine z_nm (fun m28 e_m28 => ?_)
            replace hf := bn_to e_m28 hf
            obtain ⟨x29, e_x29⟩ : ∃ y : Int32, y = i12 + 1 := ⟨_, rfl⟩
            replace hf := bn_to e_x29 hf
            refine z_iinc C (lv2 := [(0, .ref ((zw K).2.1 0)), (1, .int i8), (2, .int i10), (3, .int x29), (5, .int x21)]) 3 [1, 2, 3, 0, 4] dX7_findRanks_142 rfl rfl (Nat.le_of_ble_eq_true rfl) e_x29 rfl ?_
            refine z_goto (tgt := 43) C dX7_findRanks_145 (by decide) ?_
            cases hf
            exact z_sub [0, 1, 2, 3] rfl (ih x29 m28 hz)
        replace hf := hg
        clear hg
        refine z_icmp_ne (tgt := 110) C dX7_findRanks_103 (by decide) (fun c31 => ?_) (fun c31 => ?_)
        · replace hf := if_f c31 hf
          refine z_iconst C (v := 0) dX7_findRanks_110 rfl ?_
          cases hf
          exact z_sub [0, 1, 2, 3] rfl hj
        · replace hf := if_t c31 hf
          refine z_iconst C (v := 1) dX7_findRanks_106 rfl ?_
          refine z_goto (tgt := 111) C dX7_findRanks_107 (by decide) ?_
          cases hf
          exact z_sub [0, 1, 2, 3] rfl hj
      · replace hf := if_f c50 hf
        refine z_aload_n C 0 dX7_findRanks_72 rfl rfl ?_
        refine z_getr C (t := 10) (Nat.le_of_ble_eq_true rfl) rfl rfl 12 (Nat.le_of_ble_eq_true rfl) rfl kiX7_findRanks_X7 kfX7_findRanks_38 dX7_findRanks_73 ?_
        refine z_iload C 4 dX7_findRanks_76 rfl ?_
        obtain ⟨hi32, hf⟩ := ck_el hf
        refine z_iald C (k := 10) (Nat.le_of_ble_eq_true rfl) rfl hi32 dX7_findRanks_78 ?_
        refine z_iconst C (v := 2) dX7_findRanks_79 rfl ?_
        refine z_icmp_ne (tgt := 142) C dX7_findRanks_80 (by decide) (fun c49 => ?_) (fun c49 => ?_)
        · replace hf := if_f c49 hf
          obtain ⟨x33, e_x33⟩ : ∃ y : Int32, y = i12 + 1 := ⟨_, rfl⟩
          replace hf := bn_to e_x33 hf
          refine z_iinc C (lv2 := [(0, .ref ((zw K).2.1 0)), (1, .int i8), (2, .int i10), (3, .int x33), (4, .int x15)]) 3 [1, 2, 3, 0, 4] dX7_findRanks_142 rfl rfl (Nat.le_of_ble_eq_true rfl) e_x33 rfl ?_
          refine z_goto (tgt := 43) C dX7_findRanks_145 (by decide) ?_
          cases hf
          exact z_sub [0, 1, 2, 3] rfl (ih x33 m13 hz)
        · replace hf := if_t c49 hf
          refine z_aload_n C 0 dX7_findRanks_83 rfl rfl ?_
          refine z_getr C (t := 41) (Nat.le_of_ble_eq_true rfl) rfl rfl 52 (Nat.le_of_ble_eq_true rfl) rfl kiX7_findRanks_X7 kfX7_findRanks_131 dX7_findRanks_84 ?_
          refine z_aload_n C 0 dX7_findRanks_87 rfl rfl ?_
          refine z_getr C (t := 11) (Nat.le_of_ble_eq_true rfl) rfl rfl 13 (Nat.le_of_ble_eq_true rfl) rfl kiX7_findRanks_X7 kfX7_findRanks_41 dX7_findRanks_88 ?_
          refine z_iload C 4 dX7_findRanks_91 rfl ?_
          obtain ⟨hi34, hf⟩ := ck_el hf
          refine z_iald C (k := 11) (Nat.le_of_ble_eq_true rfl) rfl hi34 dX7_findRanks_93 ?_
          obtain ⟨hi35, hf⟩ := ck_el hf
          refine z_iald C (k := 41) (Nat.le_of_ble_eq_true rfl) rfl hi35 dX7_findRanks_94 ?_
          refine z_aload_n C 0 dX7_findRanks_95 rfl rfl ?_
          refine z_getr C (t := 10) (Nat.le_of_ble_eq_true rfl) rfl rfl 12 (Nat.le_of_ble_eq_true rfl) rfl kiX7_findRanks_X7 kfX7_findRanks_38 dX7_findRanks_96 ?_
          refine z_iload C 4 dX7_findRanks_99 rfl ?_
          obtain ⟨hi36, hf⟩ := ck_el hf
          refine z_iald C (k := 10) (Nat.le_of_ble_eq_true rfl) rfl hi36 dX7_findRanks_101 ?_
          refine z_iconst C (v := 2) dX7_findRanks_102 rfl ?_
          obtain ⟨y37, hg, hf⟩ := zb_el hf
          have hj : zGo MM K m13 [(0, .ref ((zw K).2.1 0)), (1, .int i8), (2, .int i10), (3, .int i12)] 111 [.int y37, .int (m13 41 (Int32.toNatClampNeg (m13 11 (Int32.toNatClampNeg x15))))] := by
            refine z_iadd C dX7_findRanks_111 ?_
            refine z_topi (fun x38 e_x38 => ?_)
            replace hf := bn_to e_x38 hf
            refine z_istore C (lv2 := [(0, .ref ((zw K).2.1 0)), (1, .int i8), (2, .int i10), (3, .int i12), (5, .int x38)]) [1, 2, 3, 4, 0] dX7_findRanks_112 (Nat.le_of_ble_eq_true rfl) rfl ?_
            refine z_aload_n C 0 dX7_findRanks_114 rfl rfl ?_
            refine z_getr C (t := 41) (Nat.le_of_ble_eq_true rfl) rfl rfl 52 (Nat.le_of_ble_eq_true rfl) rfl kiX7_findRanks_X7 kfX7_findRanks_131 dX7_findRanks_115 ?_
            refine z_iload_n C 2 dX7_findRanks_118 rfl rfl ?_
            refine z_iload C 4 dX7_findRanks_119 rfl ?_
            refine z_aload_n C 0 dX7_findRanks_121 rfl rfl ?_
            refine z_getr C (t := 41) (Nat.le_of_ble_eq_true rfl) rfl rfl 52 (Nat.le_of_ble_eq_true rfl) rfl kiX7_findRanks_X7 kfX7_findRanks_131 dX7_findRanks_122 ?_
            refine z_iload_n C 2 dX7_findRanks_125 rfl rfl ?_
            obtain ⟨hi39, hf⟩ := ck_el hf
            refine z_iald C (k := 41) (Nat.le_of_ble_eq_true rfl) rfl hi39 dX7_findRanks_126 ?_
            refine z_icmp_le (tgt := 135) C dX7_findRanks_127 (by decide) (fun c47 => ?_) (fun c47 => ?_)
            · replace hf := if_t c47 hf
              refine z_aload_n C 0 dX7_findRanks_135 rfl rfl ?_
              refine z_getr C (t := 41) (Nat.le_of_ble_eq_true rfl) rfl rfl 52 (Nat.le_of_ble_eq_true rfl) rfl kiX7_findRanks_X7 kfX7_findRanks_131 dX7_findRanks_136 ?_
              refine z_iload_n C 2 dX7_findRanks_139 rfl rfl ?_
              obtain ⟨hi40, hf⟩ := ck_el hf
              refine z_iald C (k := 41) (Nat.le_of_ble_eq_true rfl) rfl hi40 dX7_findRanks_140 ?_
              obtain ⟨hi41, hf⟩ := ck_el hf
              refine z_iast C (k := 41) (Nat.le_of_ble_eq_true rfl) rfl hi41 dX7_findRanks_141 ?_
              refine z_nm (fun m42 e_m42 => ?_)
              replace hf := bn_to e_m42 hf
              obtain ⟨x43, e_x43⟩ : ∃ y : Int32, y = i12 + 1 := ⟨_, rfl⟩
              replace hf := bn_to e_x43 hf
              refine z_iinc C (lv2 := [(0, .ref ((zw K).2.1 0)), (1, .int i8), (2, .int i10), (3, .int x43), (5, .int x38)]) 3 [1, 2, 3, 0, 4] dX7_findRanks_142 rfl rfl (Nat.le_of_ble_eq_true rfl) e_x43 rfl ?_
              refine z_goto (tgt := 43) C dX7_findRanks_145 (by decide) ?_
              cases hf
              exact z_sub [0, 1, 2, 3] rfl (ih x43 m42 hz)
            · replace hf := if_f c47 hf
              refine z_iload C 4 dX7_findRanks_130 rfl ?_
              refine z_goto (tgt := 141) C dX7_findRanks_132 (by decide) ?_
              obtain ⟨hi44, hf⟩ := ck_el hf
              refine z_iast C (k := 41) (Nat.le_of_ble_eq_true rfl) rfl hi44 dX7_findRanks_141 ?_
              refine z_nm (fun m45 e_m45 => ?_)
              replace hf := bn_to e_m45 hf
              obtain ⟨x46, e_x46⟩ : ∃ y : Int32, y = i12 + 1 := ⟨_, rfl⟩
              replace hf := bn_to e_x46 hf
              refine z_iinc C (lv2 := [(0, .ref ((zw K).2.1 0)), (1, .int i8), (2, .int i10), (3, .int x46), (5, .int x38)]) 3 [1, 2, 3, 0, 4] dX7_findRanks_142 rfl rfl (Nat.le_of_ble_eq_true rfl) e_x46 rfl ?_
              refine z_goto (tgt := 43) C dX7_findRanks_145 (by decide) ?_
              cases hf
              exact z_sub [0, 1, 2, 3] rfl (ih x46 m45 hz)
          replace hf := hg
          clear hg
          refine z_icmp_ne (tgt := 110) C dX7_findRanks_103 (by decide) (fun c48 => ?_) (fun c48 => ?_)
          · replace hf := if_f c48 hf
            refine z_iconst C (v := 0) dX7_findRanks_110 rfl ?_
            cases hf
            exact z_sub [0, 1, 2, 3] rfl hj
          · replace hf := if_t c48 hf
            refine z_iconst C (v := 1) dX7_findRanks_106 rfl ?_
            refine z_goto (tgt := 111) C dX7_findRanks_107 (by decide) ?_
            cases hf
            exact z_sub [0, 1, 2, 3] rfl hj
set_option maxRecDepth 100000 in
set_option maxHeartbeats 4000000 in
theorem w_X7_findRanks_33 {K : ZK} (C : zOK MM K cX7_findRanks 6 none RX7 wsX7_findRanks rmX7_findRanks) {i8 : Int32}  {o0 : Mem} (hk : zGo MM K o0 [(0, .ref ((zw K).2.1 0)), (1, .int i8)] 154 []) : ∀ (n : Nat) (i10 : Int32) (m11 : Mem), l_X7_findRanks_33  n i10 m11 = some o0 → zGo MM K m11 [(0, .ref ((zw K).2.1 0)), (1, .int i8), (2, .int i10)] 33 [] := by
  intro n
  induction n with
  | zero =>
    intro i10 m11 hf
    cases hf
  | succ n ih =>
    intro i10 m11 hf
    obtain ⟨z, hf, hz⟩ := zlp_el hf
    replace hf : t_X7_findRanks_33  i10 m11 = some z := hf
    unfold t_X7_findRanks_33 at hf
    refine z_iload_n C 2 dX7_findRanks_33 rfl rfl ?_
    refine z_aload_n C 0 dX7_findRanks_34 rfl rfl ?_
    refine z_geti C (Nat.le_of_ble_eq_true rfl) rfl rfl 7 (Nat.le_of_ble_eq_true rfl) rfl kiX7_findRanks_X7 kfX7_findRanks_258 dX7_findRanks_35 ?_
    refine z_icmp_ge (tgt := 154) C dX7_findRanks_38 (by decide) (fun c54 => ?_) (fun c54 => ?_)
    · replace hf := if_t c54 hf
      cases hf
      replace hz := zlz_r hz
      cases hz
      exact z_sub [0, 1] rfl hk
    · replace hf := if_f c54 hf
      refine z_iconst C (v := 0) dX7_findRanks_41 rfl ?_
      refine z_istore_n C (lv2 := [(0, .ref ((zw K).2.1 0)), (1, .int i8), (2, .int i10), (3, .int 0)]) [1, 2, 3, 0] dX7_findRanks_42 rfl (Nat.le_of_ble_eq_true rfl) rfl ?_
      obtain ⟨m52, hg, hf⟩ := zb_el hf
      refine z_sub [0, 1, 2, 3] rfl (w_X7_findRanks_43 C  ?_ _ _ _ hg)
      clear hg
      obtain ⟨x53, e_x53⟩ : ∃ y : Int32, y = i10 + 1 := ⟨_, rfl⟩
      replace hf := bn_to e_x53 hf
      refine z_iinc C (lv2 := [(0, .ref ((zw K).2.1 0)), (1, .int i8), (2, .int x53)]) 2 [1, 2, 0] dX7_findRanks_148 rfl rfl (Nat.le_of_ble_eq_true rfl) e_x53 rfl ?_
      refine z_goto (tgt := 33) C dX7_findRanks_151 (by decide) ?_
      cases hf
      exact z_sub [0, 1, 2] rfl (ih x53 m52 hz)
set_option maxRecDepth 100000 in
set_option maxHeartbeats 4000000 in
theorem w_X7_findRanks_25 {K : ZK} (C : zOK MM K cX7_findRanks 6 none RX7 wsX7_findRanks rmX7_findRanks)   {o0 : Mem} (hk : zGo MM K o0 [] 160 []) : ∀ (n : Nat) (i8 : Int32) (m9 : Mem), l_X7_findRanks_25  n i8 m9 = some o0 → zGo MM K m9 [(0, .ref ((zw K).2.1 0)), (1, .int i8)] 25 [] := by
  intro n
  induction n with
  | zero =>
    intro i8 m9 hf
    cases hf
  | succ n ih =>
    intro i8 m9 hf
    obtain ⟨z, hf, hz⟩ := zlp_el hf
    replace hf : t_X7_findRanks_25  i8 m9 = some z := hf
    unfold t_X7_findRanks_25 at hf
    refine z_iload_n C 1 dX7_findRanks_25 rfl rfl ?_
    refine z_bipush C (v := 7) dX7_findRanks_26 rfl ?_
    refine z_icmp_ge (tgt := 160) C dX7_findRanks_28 (by decide) (fun c57 => ?_) (fun c57 => ?_)
    · replace hf := if_t c57 hf
      cases hf
      replace hz := zlz_r hz
      cases hz
      exact z_sub [] rfl hk
    · replace hf := if_f c57 hf
      refine z_iconst C (v := 0) dX7_findRanks_31 rfl ?_
      refine z_istore_n C (lv2 := [(0, .ref ((zw K).2.1 0)), (1, .int i8), (2, .int 0)]) [1, 2, 0] dX7_findRanks_32 rfl (Nat.le_of_ble_eq_true rfl) rfl ?_
      obtain ⟨m55, hg, hf⟩ := zb_el hf
      refine z_sub [0, 1, 2] rfl (w_X7_findRanks_33 C  ?_ _ _ _ hg)
      clear hg
      obtain ⟨x56, e_x56⟩ : ∃ y : Int32, y = i8 + 1 := ⟨_, rfl⟩
      replace hf := bn_to e_x56 hf
      refine z_iinc C (lv2 := [(0, .ref ((zw K).2.1 0)), (1, .int x56)]) 1 [1, 0] dX7_findRanks_154 rfl rfl (Nat.le_of_ble_eq_true rfl) e_x56 rfl ?_
      refine z_goto (tgt := 25) C dX7_findRanks_157 (by decide) ?_
      cases hf
      exact z_sub [0, 1] rfl (ih x56 m55 hz)
set_option maxRecDepth 100000 in
set_option maxHeartbeats 4000000 in
theorem c_X7_findRanks (l : Launch) (w : ZW) {m : Mem}  {m9 : Mem}  (hf : s_X7_findRanks m  = some m9) : zCv MM l w yX7_findRanks wsX7_findRanks rmX7_findRanks [.ref (w.2.1 0)] m m9 := by
  refine z_met_v MM_ok (own := RX7) (by decide +kernel) rfl rfl (Nat.le_of_ble_eq_true rfl) ?_
  intro K C hKw hKl hret
  subst hKw
  subst hKl
  unfold s_X7_findRanks at hf
  show zGo MM K m [(0, .ref ((zw K).2.1 0))] 0 []
  refine z_iconst C (v := 0) dX7_findRanks_0 rfl ?_
  refine z_istore_n C (lv2 := [(0, .ref ((zw K).2.1 0)), (1, .int 0)]) [1, 0] dX7_findRanks_1 rfl (Nat.le_of_ble_eq_true rfl) rfl ?_
  obtain ⟨m7, hg, hf⟩ := zb_el hf
  refine z_sub [0, 1] rfl (w_X7_findRanks_2 C  ?_ _ _ _ hg)
  clear hg
  refine z_iconst C (v := 0) dX7_findRanks_23 rfl ?_
  refine z_istore_n C (lv2 := [(0, .ref ((zw K).2.1 0)), (1, .int 0)]) [1, 0] dX7_findRanks_24 rfl (Nat.le_of_ble_eq_true rfl) rfl ?_
  obtain ⟨m58, hg, hf⟩ := zb_el hf
  refine z_sub [0, 1] rfl (w_X7_findRanks_25 C  ?_ _ _ _ hg)
  clear hg
  cases hf
  exact hret _ _ dX7_findRanks_160
def rmX7_isWanted : Room := { frames := 0, cells := 0, slots := 0, locals := 0 }
theorem zdX7_isWanted : yX7_isWanted.cls = RX7 ∧ yX7_isWanted.cls ≠ "java/lang/invoke/MethodHandle" ∧ yX7_isWanted.cls ≠ "java/lang/invoke/VarHandle" ∧ (parseMethodDescriptor yX7_isWanted.desc).map (fun d => d.parameters.length) = some 2 := by decide +kernel
theorem kiX7_isWanted_X7 : ∀ w ∈ wsX70, w ∈ wsX7_isWanted := by decide +kernel
theorem kfX7_isWanted_32 : Cond.fieldLink RX7 32 "ShapeJudgeModel" "parts" "[I" ∈ wsX7_isWanted := by decide +kernel
theorem kfX7_isWanted_35 : Cond.fieldLink RX7 35 "ShapeJudgeModel" "pName" "[I" ∈ wsX7_isWanted := by decide +kernel
def t_X7_isWanted_5 (m : Mem) (a1 : Int32) (a2 : Int32) (i1 : Int32) (i2 : Int32) : Option ((Int32 × Int32) ⊕ (Int32)) :=
  ck (zin a1 6 = true) ((if (m 8 (Int32.toNatClampNeg a1)) ≤ i2 then (some (.inr i1)) else ((if i1 = 0 then (ck (zin (((6 : Int32) * a1) + i2) 36 = true) ((if (m 9 (Int32.toNatClampNeg (((6 : Int32) * a1) + i2))) = a2 then (bn (i2 + 1) fun x7 => some (.inl (1, x7))) else (bn (i2 + 1) fun x6 => some (.inl (0, x6)))))) else (bn (i2 + 1) fun x4 => some (.inl (1, x4)))))))
def l_X7_isWanted_5 (m : Mem) (a1 : Int32) (a2 : Int32) (n : Nat) (i1 : Int32) (i2 : Int32) : Option (Int32) := zlp n (fun a => t_X7_isWanted_5 m a1 a2 a.1 a.2) (i1, i2)
def s_X7_isWanted (m : Mem) (a1 : Int32) (a2 : Int32) : Option (Int32) :=
  ((l_X7_isWanted_5 m a1 a2 FU 0 0).bind fun y11 => ck (y11 = 0 ∨ y11 = 1) (some y11))
set_option maxRecDepth 100000 in
set_option maxHeartbeats 4000000 in
theorem w_X7_isWanted_5 {K : ZK} (C : zOK MM K cX7_isWanted 5 (some .boolean) RX7 wsX7_isWanted rmX7_isWanted) {m : Mem} {a1 : Int32} {a2 : Int32}  {o0 : Int32} (hk : zGo MM K m [(3, .int o0)] 48 []) : ∀ (n : Nat) (i1 : Int32) (i2 : Int32), l_X7_isWanted_5 m a1 a2 n i1 i2 = some o0 → zGo MM K m [(0, .ref ((zw K).2.1 0)), (1, .int a1), (2, .int a2), (3, .int i1), (4, .int i2)] 5 [] := by
  intro n
  induction n with
  | zero =>
    intro i1 i2 hf
    cases hf
  | succ n ih =>
    intro i1 i2 hf
    obtain ⟨z, hf, hz⟩ := zlp_el hf
    replace hf : t_X7_isWanted_5 m a1 a2 i1 i2 = some z := hf
    unfold t_X7_isWanted_5 at hf
    refine z_iload C 4 dX7_isWanted_5 rfl ?_
    refine z_aload_n C 0 dX7_isWanted_7 rfl rfl ?_
    refine z_getr C (t := 8) (Nat.le_of_ble_eq_true rfl) rfl rfl 10 (Nat.le_of_ble_eq_true rfl) rfl kiX7_isWanted_X7 kfX7_isWanted_32 dX7_isWanted_8 ?_
    refine z_iload_n C 1 dX7_isWanted_11 rfl rfl ?_
    obtain ⟨hi3, hf⟩ := ck_el hf
    refine z_iald C (k := 8) (Nat.le_of_ble_eq_true rfl) rfl hi3 dX7_isWanted_12 ?_
    refine z_icmp_ge (tgt := 48) C dX7_isWanted_13 (by decide) (fun c10 => ?_) (fun c10 => ?_)
    · replace hf := if_t c10 hf
      cases hf
      replace hz := zlz_r hz
      cases hz
      exact z_sub [3] rfl hk
    · replace hf := if_f c10 hf
      refine z_iload_n C 3 dX7_isWanted_16 rfl rfl ?_
      refine z_if_ne (tgt := 36) C dX7_isWanted_17 (by decide) (fun c9 => ?_) (fun c9 => ?_)
      · replace hf := if_f c9 hf
        refine z_iconst C (v := 1) dX7_isWanted_36 rfl ?_
        refine z_goto (tgt := 41) C dX7_isWanted_37 (by decide) ?_
        refine z_istore_n C (lv2 := [(0, .ref ((zw K).2.1 0)), (1, .int a1), (2, .int a2), (3, .int 1), (4, .int i2)]) [1, 2, 3, 0, 4] dX7_isWanted_41 rfl (Nat.le_of_ble_eq_true rfl) rfl ?_
        obtain ⟨x4, e_x4⟩ : ∃ y : Int32, y = i2 + 1 := ⟨_, rfl⟩
        replace hf := bn_to e_x4 hf
        refine z_iinc C (lv2 := [(0, .ref ((zw K).2.1 0)), (1, .int a1), (2, .int a2), (3, .int 1), (4, .int x4)]) 4 [1, 2, 3, 4, 0] dX7_isWanted_42 rfl rfl (Nat.le_of_ble_eq_true rfl) e_x4 rfl ?_
        refine z_goto (tgt := 5) C dX7_isWanted_45 (by decide) ?_
        cases hf
        exact z_sub [0, 1, 2, 3, 4] rfl (ih 1 x4 hz)
      · replace hf := if_t c9 hf
        refine z_aload_n C 0 dX7_isWanted_20 rfl rfl ?_
        refine z_getr C (t := 9) (Nat.le_of_ble_eq_true rfl) rfl rfl 11 (Nat.le_of_ble_eq_true rfl) rfl kiX7_isWanted_X7 kfX7_isWanted_35 dX7_isWanted_21 ?_
        refine z_bipush C (v := 6) dX7_isWanted_24 rfl ?_
        refine z_iload_n C 1 dX7_isWanted_26 rfl rfl ?_
        refine z_imul C dX7_isWanted_27 ?_
        refine z_iload C 4 dX7_isWanted_28 rfl ?_
        refine z_iadd C dX7_isWanted_30 ?_
        obtain ⟨hi5, hf⟩ := ck_el hf
        refine z_iald C (k := 9) (Nat.le_of_ble_eq_true rfl) rfl hi5 dX7_isWanted_31 ?_
        refine z_iload_n C 2 dX7_isWanted_32 rfl rfl ?_
        refine z_icmp_ne (tgt := 40) C dX7_isWanted_33 (by decide) (fun c8 => ?_) (fun c8 => ?_)
        · replace hf := if_f c8 hf
          refine z_iconst C (v := 0) dX7_isWanted_40 rfl ?_
          refine z_istore_n C (lv2 := [(0, .ref ((zw K).2.1 0)), (1, .int a1), (2, .int a2), (3, .int 0), (4, .int i2)]) [1, 2, 3, 0, 4] dX7_isWanted_41 rfl (Nat.le_of_ble_eq_true rfl) rfl ?_
          obtain ⟨x6, e_x6⟩ : ∃ y : Int32, y = i2 + 1 := ⟨_, rfl⟩
          replace hf := bn_to e_x6 hf
          refine z_iinc C (lv2 := [(0, .ref ((zw K).2.1 0)), (1, .int a1), (2, .int a2), (3, .int 0), (4, .int x6)]) 4 [1, 2, 3, 4, 0] dX7_isWanted_42 rfl rfl (Nat.le_of_ble_eq_true rfl) e_x6 rfl ?_
          refine z_goto (tgt := 5) C dX7_isWanted_45 (by decide) ?_
          cases hf
          exact z_sub [0, 1, 2, 3, 4] rfl (ih 0 x6 hz)
        · replace hf := if_t c8 hf
          refine z_iconst C (v := 1) dX7_isWanted_36 rfl ?_
          refine z_goto (tgt := 41) C dX7_isWanted_37 (by decide) ?_
          refine z_istore_n C (lv2 := [(0, .ref ((zw K).2.1 0)), (1, .int a1), (2, .int a2), (3, .int 1), (4, .int i2)]) [1, 2, 3, 0, 4] dX7_isWanted_41 rfl (Nat.le_of_ble_eq_true rfl) rfl ?_
          obtain ⟨x7, e_x7⟩ : ∃ y : Int32, y = i2 + 1 := ⟨_, rfl⟩
          replace hf := bn_to e_x7 hf
          refine z_iinc C (lv2 := [(0, .ref ((zw K).2.1 0)), (1, .int a1), (2, .int a2), (3, .int 1), (4, .int x7)]) 4 [1, 2, 3, 4, 0] dX7_isWanted_42 rfl rfl (Nat.le_of_ble_eq_true rfl) e_x7 rfl ?_
          refine z_goto (tgt := 5) C dX7_isWanted_45 (by decide) ?_
          cases hf
          exact z_sub [0, 1, 2, 3, 4] rfl (ih 1 x7 hz)
set_option maxRecDepth 100000 in
set_option maxHeartbeats 4000000 in
theorem c_X7_isWanted (l : Launch) (w : ZW) {m : Mem} {a1 : Int32} {a2 : Int32} {r9 : Int32}  (hf : s_X7_isWanted m a1 a2 = some r9) : zCi MM l w yX7_isWanted wsX7_isWanted rmX7_isWanted [.ref (w.2.1 0), .int a1, .int a2] m m r9 := by
  refine z_met_z MM_ok (own := RX7) (by decide +kernel) rfl rfl (Nat.le_of_ble_eq_true rfl) ?_
  intro K C hKw hKl hret
  subst hKw
  subst hKl
  unfold s_X7_isWanted at hf
  show zGo MM K m [(0, .ref ((zw K).2.1 0)), (1, .int a1), (2, .int a2)] 0 []
  refine z_iconst C (v := 0) dX7_isWanted_0 rfl ?_
  refine z_istore_n C (lv2 := [(0, .ref ((zw K).2.1 0)), (1, .int a1), (2, .int a2), (3, .int 0)]) [1, 2, 3, 0] dX7_isWanted_1 rfl (Nat.le_of_ble_eq_true rfl) rfl ?_
  refine z_iconst C (v := 0) dX7_isWanted_2 rfl ?_
  refine z_istore C (lv2 := [(0, .ref ((zw K).2.1 0)), (1, .int a1), (2, .int a2), (3, .int 0), (4, .int 0)]) [1, 2, 3, 4, 0] dX7_isWanted_3 (Nat.le_of_ble_eq_true rfl) rfl ?_
  obtain ⟨y11, hg, hf⟩ := zb_el hf
  refine z_sub [0, 1, 2, 3, 4] rfl (w_X7_isWanted_5 C  ?_ _ _ _ hg)
  clear hg
  refine z_iload_n C 0 dX7_isWanted_48 rfl rfl ?_
  obtain ⟨hz, hf⟩ := ck_el hf
  cases hf
  exact hret _ _ dX7_isWanted_49 hz
def rmX7_wantedSet : Room := { frames := 1, cells := 0, slots := 0, locals := 24 }
theorem zdX7_wantedSet : yX7_wantedSet.cls = RX7 ∧ yX7_wantedSet.cls ≠ "java/lang/invoke/MethodHandle" ∧ yX7_wantedSet.cls ≠ "java/lang/invoke/VarHandle" ∧ (parseMethodDescriptor yX7_wantedSet.desc).map (fun d => d.parameters.length) = some 2 := by decide +kernel
theorem kiX7_wantedSet_X7 : ∀ w ∈ wsX70, w ∈ wsX7_wantedSet := by decide +kernel
theorem kfX7_wantedSet_17 : Cond.fieldLink RX7 17 "ShapeJudgeModel" "many" "[I" ∈ wsX7_wantedSet := by decide +kernel
theorem kfX7_wantedSet_20 : Cond.fieldLink RX7 20 "ShapeJudgeModel" "names" "[I" ∈ wsX7_wantedSet := by decide +kernel
def t_X7_wantedSet_5 (m : Mem) (a1 : Int32) (a2 : Int32) (i1 : Int32) (i2 : Int32) : Option ((Int32 × Int32) ⊕ (Int32)) :=
  ck (zin a2 10 = true) ((if (m 3 (Int32.toNatClampNeg a2)) ≤ i2 then (some (.inr i1)) else (ck (zin (((5 : Int32) * a2) + i2) 50 = true) ((s_X7_isWanted m a1 (m 4 (Int32.toNatClampNeg (((5 : Int32) * a2) + i2)))).bind fun r6 => (if r6 = 0 then (bn (i1 ||| 0) fun x7 => bn (i2 + 1) fun x8 => some (.inl (x7, x8))) else (bn (i1 ||| ((1 : Int32) <<< (i2 &&& 31))) fun x9 => bn (i2 + 1) fun x10 => some (.inl (x9, x10))))))))
def l_X7_wantedSet_5 (m : Mem) (a1 : Int32) (a2 : Int32) (n : Nat) (i1 : Int32) (i2 : Int32) : Option (Int32) := zlp n (fun a => t_X7_wantedSet_5 m a1 a2 a.1 a.2) (i1, i2)
def s_X7_wantedSet (m : Mem) (a1 : Int32) (a2 : Int32) : Option (Int32) :=
  ((l_X7_wantedSet_5 m a1 a2 FU 0 0).bind fun y13 => some y13)
set_option maxRecDepth 100000 in
set_option maxHeartbeats 4000000 in
theorem w_X7_wantedSet_5 {K : ZK} (C : zOK MM K cX7_wantedSet 5 (some .int) RX7 wsX7_wantedSet rmX7_wantedSet) {m : Mem} {a1 : Int32} {a2 : Int32}  {o0 : Int32} (hk : zGo MM K m [(3, .int o0)] 52 []) : ∀ (n : Nat) (i1 : Int32) (i2 : Int32), l_X7_wantedSet_5 m a1 a2 n i1 i2 = some o0 → zGo MM K m [(0, .ref ((zw K).2.1 0)), (1, .int a1), (2, .int a2), (3, .int i1), (4, .int i2)] 5 [] := by
  intro n
  induction n with
  | zero =>
    intro i1 i2 hf
    cases hf
  | succ n ih =>
    intro i1 i2 hf
    obtain ⟨z, hf, hz⟩ := zlp_el hf
    replace hf : t_X7_wantedSet_5 m a1 a2 i1 i2 = some z := hf
    unfold t_X7_wantedSet_5 at hf
    refine z_iload C 4 dX7_wantedSet_5 rfl ?_
    refine z_aload_n C 0 dX7_wantedSet_7 rfl rfl ?_
    refine z_getr C (t := 3) (Nat.le_of_ble_eq_true rfl) rfl rfl 3 (Nat.le_of_ble_eq_true rfl) rfl kiX7_wantedSet_X7 kfX7_wantedSet_17 dX7_wantedSet_8 ?_
    refine z_iload_n C 2 dX7_wantedSet_11 rfl rfl ?_
    obtain ⟨hi3, hf⟩ := ck_el hf
    refine z_iald C (k := 3) (Nat.le_of_ble_eq_true rfl) rfl hi3 dX7_wantedSet_12 ?_
    refine z_icmp_ge (tgt := 52) C dX7_wantedSet_13 (by decide) (fun c12 => ?_) (fun c12 => ?_)
    · replace hf := if_t c12 hf
      cases hf
      replace hz := zlz_r hz
      cases hz
      exact z_sub [3] rfl hk
    · replace hf := if_f c12 hf
      refine z_iload_n C 3 dX7_wantedSet_16 rfl rfl ?_
      refine z_aload_n C 0 dX7_wantedSet_17 rfl rfl ?_
      refine z_iload_n C 1 dX7_wantedSet_18 rfl rfl ?_
      refine z_aload_n C 0 dX7_wantedSet_19 rfl rfl ?_
      refine z_getr C (t := 4) (Nat.le_of_ble_eq_true rfl) rfl rfl 4 (Nat.le_of_ble_eq_true rfl) rfl kiX7_wantedSet_X7 kfX7_wantedSet_20 dX7_wantedSet_20 ?_
      refine z_iconst C (v := 5) dX7_wantedSet_23 rfl ?_
      refine z_iload_n C 2 dX7_wantedSet_24 rfl rfl ?_
      refine z_imul C dX7_wantedSet_25 ?_
      refine z_iload C 4 dX7_wantedSet_26 rfl ?_
      refine z_iadd C dX7_wantedSet_28 ?_
      obtain ⟨hi4, hf⟩ := ck_el hf
      refine z_iald C (k := 4) (Nat.le_of_ble_eq_true rfl) rfl hi4 dX7_wantedSet_29 ?_
      obtain ⟨r6, hc5, hf⟩ := zb_el hf
      refine z_cVi C (c_X7_isWanted _ _ hc5) rfl gX7_wantedSet_X7_isWanted rfl rfl zdX7_isWanted rfl (Nat.le_of_ble_eq_true rfl) rfl rfl rfl ⟨Nat.le_of_ble_eq_true rfl, Nat.le_of_ble_eq_true rfl⟩ (Nat.le_of_ble_eq_true rfl) dX7_wantedSet_30 rfl ?_
      refine z_if_eq (tgt := 43) C dX7_wantedSet_33 (by decide) (fun c11 => ?_) (fun c11 => ?_)
      · replace hf := if_t c11 hf
        refine z_iconst C (v := 0) dX7_wantedSet_43 rfl ?_
        refine z_ior C dX7_wantedSet_44 ?_
        refine z_topi (fun x7 e_x7 => ?_)
        replace hf := bn_to e_x7 hf
        refine z_istore_n C (lv2 := [(0, .ref ((zw K).2.1 0)), (1, .int a1), (2, .int a2), (3, .int x7), (4, .int i2)]) [1, 2, 3, 0, 4] dX7_wantedSet_45 rfl (Nat.le_of_ble_eq_true rfl) rfl ?_
        obtain ⟨x8, e_x8⟩ : ∃ y : Int32, y = i2 + 1 := ⟨_, rfl⟩
        replace hf := bn_to e_x8 hf
        refine z_iinc C (lv2 := [(0, .ref ((zw K).2.1 0)), (1, .int a1), (2, .int a2), (3, .int x7), (4, .int x8)]) 4 [1, 2, 3, 4, 0] dX7_wantedSet_46 rfl rfl (Nat.le_of_ble_eq_true rfl) e_x8 rfl ?_
        refine z_goto (tgt := 5) C dX7_wantedSet_49 (by decide) ?_
        cases hf
        exact z_sub [0, 1, 2, 3, 4] rfl (ih x7 x8 hz)
      · replace hf := if_f c11 hf
        refine z_iconst C (v := 1) dX7_wantedSet_36 rfl ?_
        refine z_iload C 4 dX7_wantedSet_37 rfl ?_
        refine z_ishl C dX7_wantedSet_39 ?_
        refine z_goto (tgt := 44) C dX7_wantedSet_40 (by decide) ?_
        refine z_ior C dX7_wantedSet_44 ?_
        refine z_topi (fun x9 e_x9 => ?_)
        replace hf := bn_to e_x9 hf
        refine z_istore_n C (lv2 := [(0, .ref ((zw K).2.1 0)), (1, .int a1), (2, .int a2), (3, .int x9), (4, .int i2)]) [1, 2, 3, 0, 4] dX7_wantedSet_45 rfl (Nat.le_of_ble_eq_true rfl) rfl ?_
        obtain ⟨x10, e_x10⟩ : ∃ y : Int32, y = i2 + 1 := ⟨_, rfl⟩
        replace hf := bn_to e_x10 hf
        refine z_iinc C (lv2 := [(0, .ref ((zw K).2.1 0)), (1, .int a1), (2, .int a2), (3, .int x9), (4, .int x10)]) 4 [1, 2, 3, 4, 0] dX7_wantedSet_46 rfl rfl (Nat.le_of_ble_eq_true rfl) e_x10 rfl ?_
        refine z_goto (tgt := 5) C dX7_wantedSet_49 (by decide) ?_
        cases hf
        exact z_sub [0, 1, 2, 3, 4] rfl (ih x9 x10 hz)
set_option maxRecDepth 100000 in
set_option maxHeartbeats 4000000 in
theorem c_X7_wantedSet (l : Launch) (w : ZW) {m : Mem} {a1 : Int32} {a2 : Int32} {r9 : Int32}  (hf : s_X7_wantedSet m a1 a2 = some r9) : zCi MM l w yX7_wantedSet wsX7_wantedSet rmX7_wantedSet [.ref (w.2.1 0), .int a1, .int a2] m m r9 := by
  refine z_met_i MM_ok (own := RX7) (by decide +kernel) rfl rfl (Nat.le_of_ble_eq_true rfl) ?_
  intro K C hKw hKl hret
  subst hKw
  subst hKl
  unfold s_X7_wantedSet at hf
  show zGo MM K m [(0, .ref ((zw K).2.1 0)), (1, .int a1), (2, .int a2)] 0 []
  refine z_iconst C (v := 0) dX7_wantedSet_0 rfl ?_
  refine z_istore_n C (lv2 := [(0, .ref ((zw K).2.1 0)), (1, .int a1), (2, .int a2), (3, .int 0)]) [1, 2, 3, 0] dX7_wantedSet_1 rfl (Nat.le_of_ble_eq_true rfl) rfl ?_
  refine z_iconst C (v := 0) dX7_wantedSet_2 rfl ?_
  refine z_istore C (lv2 := [(0, .ref ((zw K).2.1 0)), (1, .int a1), (2, .int a2), (3, .int 0), (4, .int 0)]) [1, 2, 3, 4, 0] dX7_wantedSet_3 (Nat.le_of_ble_eq_true rfl) rfl ?_
  obtain ⟨y13, hg, hf⟩ := zb_el hf
  refine z_sub [0, 1, 2, 3, 4] rfl (w_X7_wantedSet_5 C  ?_ _ _ _ hg)
  clear hg
  refine z_iload_n C 0 dX7_wantedSet_52 rfl rfl ?_
  cases hf
  exact hret _ _ dX7_wantedSet_53
def rmX7_takes : Room := { frames := 1, cells := 0, slots := 0, locals := 25 }
theorem zdX7_takes : yX7_takes.cls = RX7 ∧ yX7_takes.cls ≠ "java/lang/invoke/MethodHandle" ∧ yX7_takes.cls ≠ "java/lang/invoke/VarHandle" ∧ (parseMethodDescriptor yX7_takes.desc).map (fun d => d.parameters.length) = some 4 := by decide +kernel
theorem kiX7_takes_X7 : ∀ w ∈ wsX70, w ∈ wsX7_takes := by decide +kernel
theorem kfX7_takes_20 : Cond.fieldLink RX7 20 "ShapeJudgeModel" "names" "[I" ∈ wsX7_takes := by decide +kernel
theorem kfX7_takes_35 : Cond.fieldLink RX7 35 "ShapeJudgeModel" "pName" "[I" ∈ wsX7_takes := by decide +kernel
theorem kfX7_takes_23 : Cond.fieldLink RX7 23 "ShapeJudgeModel" "tos" "[I" ∈ wsX7_takes := by decide +kernel
theorem kfX7_takes_38 : Cond.fieldLink RX7 38 "ShapeJudgeModel" "pTest" "[I" ∈ wsX7_takes := by decide +kernel
theorem kfX7_takes_7 : Cond.fieldLink RX7 7 "ShapeJudgeModel" "hasValue" "[Z" ∈ wsX7_takes := by decide +kernel
theorem kfX7_takes_13 : Cond.fieldLink RX7 13 "ShapeJudgeModel" "values" "[I" ∈ wsX7_takes := by decide +kernel
theorem kfX7_takes_41 : Cond.fieldLink RX7 41 "ShapeJudgeModel" "pFirst" "[I" ∈ wsX7_takes := by decide +kernel
theorem kfX7_takes_44 : Cond.fieldLink RX7 44 "ShapeJudgeModel" "pSecond" "[I" ∈ wsX7_takes := by decide +kernel
theorem kfX7_takes_119 : Cond.fieldLink RX7 119 "ShapeJudgeModel" "fitting" "[Z" ∈ wsX7_takes := by decide +kernel
theorem kfX7_takes_122 : Cond.fieldLink RX7 122 "ShapeJudgeModel" "sure" "[Z" ∈ wsX7_takes := by decide +kernel
def s_X7_takes (m : Mem) (a1 : Int32) (a2 : Int32) (a3 : Int32) (a4 : Int32) : Option (Int32) :=
  ck (zin (((5 : Int32) * a2) + a3) 50 = true) (ck (zin a1 36 = true) ((if (m 4 (Int32.toNatClampNeg (((5 : Int32) * a2) + a3))) = (m 9 (Int32.toNatClampNeg a1)) then (ck (zin (((5 : Int32) * a2) + a3) 50 = true) (bn (m 5 (Int32.toNatClampNeg (((5 : Int32) * a2) + a3))) fun x4 => ck (zin a1 36 = true) ((if (m 10 (Int32.toNatClampNeg a1)) = 1 then ((if a4 = 0 then (ck (zin a1 36 = true) (ck (zin (((10 : Int32) * (m 11 (Int32.toNatClampNeg a1))) + x4) 60 = true) (ck ((m 37 (Int32.toNatClampNeg (((10 : Int32) * (m 11 (Int32.toNatClampNeg a1))) + x4))) = 0 ∨ (m 37 (Int32.toNatClampNeg (((10 : Int32) * (m 11 (Int32.toNatClampNeg a1))) + x4))) = 1) (some (m 37 (Int32.toNatClampNeg (((10 : Int32) * (m 11 (Int32.toNatClampNeg a1))) + x4))))))) else (ck (zin a1 36 = true) (ck (zin (((10 : Int32) * (m 11 (Int32.toNatClampNeg a1))) + x4) 60 = true) (ck ((m 38 (Int32.toNatClampNeg (((10 : Int32) * (m 11 (Int32.toNatClampNeg a1))) + x4))) = 0 ∨ (m 38 (Int32.toNatClampNeg (((10 : Int32) * (m 11 (Int32.toNatClampNeg a1))) + x4))) = 1) (some (m 38 (Int32.toNatClampNeg (((10 : Int32) * (m 11 (Int32.toNatClampNeg a1))) + x4))))))))) else (ck (zin a1 36 = true) ((if (m 10 (Int32.toNatClampNeg a1)) = 2 then (ck (zin a1 36 = true) (ck (zin (((10 : Int32) * (m 11 (Int32.toNatClampNeg a1))) + x4) 60 = true) ((if (m 37 (Int32.toNatClampNeg (((10 : Int32) * (m 11 (Int32.toNatClampNeg a1))) + x4))) = 0 then (some 1) else (some 0))))) else (ck (zin a1 36 = true) ((if (m 10 (Int32.toNatClampNeg a1)) = 0 then (some 1) else (ck (zin x4 10 = true) ((if (m 1 (Int32.toNatClampNeg x4)) = 0 then (some 0) else (ck (zin x4 10 = true) (ck (zin a1 36 = true) (ck (zin a1 36 = true) ((s_X7_in (m 2 (Int32.toNatClampNeg x4)).toInt64 (m 11 (Int32.toNatClampNeg a1)).toInt64 (m 12 (Int32.toNatClampNeg a1)).toInt64).bind fun r13 => (if r13 = 0 then (some 0) else (some 1))))))))))))))))))) else (some 0))))
set_option maxRecDepth 100000 in
set_option maxHeartbeats 4000000 in
theorem c_X7_takes (l : Launch) (w : ZW) {m : Mem} {a1 : Int32} {a2 : Int32} {a3 : Int32} {a4 : Int32} {r9 : Int32}  (hf : s_X7_takes m a1 a2 a3 a4 = some r9) : zCi MM l w yX7_takes wsX7_takes rmX7_takes [.ref (w.2.1 0), .int a1, .int a2, .int a3, .int a4] m m r9 := by
  refine z_met_z MM_ok (own := RX7) (by decide +kernel) rfl rfl (Nat.le_of_ble_eq_true rfl) ?_
  intro K C hKw hKl hret
  subst hKw
  subst hKl
  unfold s_X7_takes at hf
  show zGo MM K m [(0, .ref ((zw K).2.1 0)), (1, .int a1), (2, .int a2), (3, .int a3), (4, .int a4)] 0 []
  refine z_aload_n C 0 dX7_takes_0 rfl rfl ?_
  refine z_getr C (t := 4) (Nat.le_of_ble_eq_true rfl) rfl rfl 4 (Nat.le_of_ble_eq_true rfl) rfl kiX7_takes_X7 kfX7_takes_20 dX7_takes_1 ?_
  refine z_iconst C (v := 5) dX7_takes_4 rfl ?_
  refine z_iload_n C 2 dX7_takes_5 rfl rfl ?_
  refine z_imul C dX7_takes_6 ?_
  refine z_iload_n C 3 dX7_takes_7 rfl rfl ?_
  refine z_iadd C dX7_takes_8 ?_
  obtain ⟨hi1, hf⟩ := ck_el hf
  refine z_iald C (k := 4) (Nat.le_of_ble_eq_true rfl) rfl hi1 dX7_takes_9 ?_
  refine z_aload_n C 0 dX7_takes_10 rfl rfl ?_
  refine z_getr C (t := 9) (Nat.le_of_ble_eq_true rfl) rfl rfl 11 (Nat.le_of_ble_eq_true rfl) rfl kiX7_takes_X7 kfX7_takes_35 dX7_takes_11 ?_
  refine z_iload_n C 1 dX7_takes_14 rfl rfl ?_
  obtain ⟨hi2, hf⟩ := ck_el hf
  refine z_iald C (k := 9) (Nat.le_of_ble_eq_true rfl) rfl hi2 dX7_takes_15 ?_
  refine z_icmp_eq (tgt := 21) C dX7_takes_16 (by decide) (fun c27 => ?_) (fun c27 => ?_)
  · replace hf := if_t c27 hf
    refine z_aload_n C 0 dX7_takes_21 rfl rfl ?_
    refine z_getr C (t := 5) (Nat.le_of_ble_eq_true rfl) rfl rfl 5 (Nat.le_of_ble_eq_true rfl) rfl kiX7_takes_X7 kfX7_takes_23 dX7_takes_22 ?_
    refine z_iconst C (v := 5) dX7_takes_25 rfl ?_
    refine z_iload_n C 2 dX7_takes_26 rfl rfl ?_
    refine z_imul C dX7_takes_27 ?_
    refine z_iload_n C 3 dX7_takes_28 rfl rfl ?_
    refine z_iadd C dX7_takes_29 ?_
    obtain ⟨hi3, hf⟩ := ck_el hf
    refine z_iald C (k := 5) (Nat.le_of_ble_eq_true rfl) rfl hi3 dX7_takes_30 ?_
    refine z_topi (fun x4 e_x4 => ?_)
    replace hf := bn_to e_x4 hf
    refine z_istore C (lv2 := [(0, .ref ((zw K).2.1 0)), (1, .int a1), (2, .int a2), (3, .int a3), (4, .int a4), (5, .int x4)]) [1, 2, 3, 4, 5, 0] dX7_takes_31 (Nat.le_of_ble_eq_true rfl) rfl ?_
    refine z_aload_n C 0 dX7_takes_33 rfl rfl ?_
    refine z_getr C (t := 10) (Nat.le_of_ble_eq_true rfl) rfl rfl 12 (Nat.le_of_ble_eq_true rfl) rfl kiX7_takes_X7 kfX7_takes_38 dX7_takes_34 ?_
    refine z_iload_n C 1 dX7_takes_37 rfl rfl ?_
    obtain ⟨hi5, hf⟩ := ck_el hf
    refine z_iald C (k := 10) (Nat.le_of_ble_eq_true rfl) rfl hi5 dX7_takes_38 ?_
    refine z_iconst C (v := 1) dX7_takes_39 rfl ?_
    refine z_icmp_ne (tgt := 86) C dX7_takes_40 (by decide) (fun c26 => ?_) (fun c26 => ?_)
    · replace hf := if_f c26 hf
      refine z_aload_n C 0 dX7_takes_86 rfl rfl ?_
      refine z_getr C (t := 10) (Nat.le_of_ble_eq_true rfl) rfl rfl 12 (Nat.le_of_ble_eq_true rfl) rfl kiX7_takes_X7 kfX7_takes_38 dX7_takes_87 ?_
      refine z_iload_n C 1 dX7_takes_90 rfl rfl ?_
      obtain ⟨hi6, hf⟩ := ck_el hf
      refine z_iald C (k := 10) (Nat.le_of_ble_eq_true rfl) rfl hi6 dX7_takes_91 ?_
      refine z_iconst C (v := 2) dX7_takes_92 rfl ?_
      refine z_icmp_ne (tgt := 122) C dX7_takes_93 (by decide) (fun c20 => ?_) (fun c20 => ?_)
      · replace hf := if_f c20 hf
        refine z_aload_n C 0 dX7_takes_122 rfl rfl ?_
        refine z_getr C (t := 10) (Nat.le_of_ble_eq_true rfl) rfl rfl 12 (Nat.le_of_ble_eq_true rfl) rfl kiX7_takes_X7 kfX7_takes_38 dX7_takes_123 ?_
        refine z_iload_n C 1 dX7_takes_126 rfl rfl ?_
        obtain ⟨hi7, hf⟩ := ck_el hf
        refine z_iald C (k := 10) (Nat.le_of_ble_eq_true rfl) rfl hi7 dX7_takes_127 ?_
        refine z_if_eq (tgt := 169) C dX7_takes_128 (by decide) (fun c16 => ?_) (fun c16 => ?_)
        · replace hf := if_t c16 hf
          refine z_iconst C (v := 1) dX7_takes_169 rfl ?_
          refine z_goto (tgt := 174) C dX7_takes_170 (by decide) ?_
          cases hf
          exact hret _ _ dX7_takes_174 (Or.inr rfl)
        · replace hf := if_f c16 hf
          refine z_aload_n C 0 dX7_takes_131 rfl rfl ?_
          refine z_getr C (t := 1) (Nat.le_of_ble_eq_true rfl) rfl rfl 1 (Nat.le_of_ble_eq_true rfl) rfl kiX7_takes_X7 kfX7_takes_7 dX7_takes_132 ?_
          refine z_iload C 5 dX7_takes_135 rfl ?_
          obtain ⟨hi8, hf⟩ := ck_el hf
          refine z_zald C (k := 1) (Nat.le_of_ble_eq_true rfl) rfl hi8 dX7_takes_137 ?_
          refine z_if_eq (tgt := 173) C dX7_takes_138 (by decide) (fun c15 => ?_) (fun c15 => ?_)
          · replace hf := if_t c15 hf
            refine z_iconst C (v := 0) dX7_takes_173 rfl ?_
            cases hf
            exact hret _ _ dX7_takes_174 (Or.inl rfl)
          · replace hf := if_f c15 hf
            refine z_aload_n C 0 dX7_takes_141 rfl rfl ?_
            refine z_getr C (t := 2) (Nat.le_of_ble_eq_true rfl) rfl rfl 2 (Nat.le_of_ble_eq_true rfl) rfl kiX7_takes_X7 kfX7_takes_13 dX7_takes_142 ?_
            refine z_iload C 5 dX7_takes_145 rfl ?_
            obtain ⟨hi9, hf⟩ := ck_el hf
            refine z_iald C (k := 2) (Nat.le_of_ble_eq_true rfl) rfl hi9 dX7_takes_147 ?_
            refine z_i2l C dX7_takes_148 ?_
            refine z_aload_n C 0 dX7_takes_149 rfl rfl ?_
            refine z_getr C (t := 11) (Nat.le_of_ble_eq_true rfl) rfl rfl 13 (Nat.le_of_ble_eq_true rfl) rfl kiX7_takes_X7 kfX7_takes_41 dX7_takes_150 ?_
            refine z_iload_n C 1 dX7_takes_153 rfl rfl ?_
            obtain ⟨hi10, hf⟩ := ck_el hf
            refine z_iald C (k := 11) (Nat.le_of_ble_eq_true rfl) rfl hi10 dX7_takes_154 ?_
            refine z_i2l C dX7_takes_155 ?_
            refine z_aload_n C 0 dX7_takes_156 rfl rfl ?_
            refine z_getr C (t := 12) (Nat.le_of_ble_eq_true rfl) rfl rfl 14 (Nat.le_of_ble_eq_true rfl) rfl kiX7_takes_X7 kfX7_takes_44 dX7_takes_157 ?_
            refine z_iload_n C 1 dX7_takes_160 rfl rfl ?_
            obtain ⟨hi11, hf⟩ := ck_el hf
            refine z_iald C (k := 12) (Nat.le_of_ble_eq_true rfl) rfl hi11 dX7_takes_161 ?_
            refine z_i2l C dX7_takes_162 ?_
            obtain ⟨r13, hc12, hf⟩ := zb_el hf
            refine z_cSi C (c_X7_in _ _ hc12) rfl gX7_takes_X7_in rfl rfl zdX7_in.2 rfl ⟨Nat.le_of_ble_eq_true rfl, Nat.le_of_ble_eq_true rfl⟩ (Nat.le_of_ble_eq_true rfl) dX7_takes_163 rfl ?_
            refine z_if_eq (tgt := 173) C dX7_takes_166 (by decide) (fun c14 => ?_) (fun c14 => ?_)
            · replace hf := if_t c14 hf
              refine z_iconst C (v := 0) dX7_takes_173 rfl ?_
              cases hf
              exact hret _ _ dX7_takes_174 (Or.inl rfl)
            · replace hf := if_f c14 hf
              refine z_iconst C (v := 1) dX7_takes_169 rfl ?_
              refine z_goto (tgt := 174) C dX7_takes_170 (by decide) ?_
              cases hf
              exact hret _ _ dX7_takes_174 (Or.inr rfl)
      · replace hf := if_t c20 hf
        refine z_aload_n C 0 dX7_takes_96 rfl rfl ?_
        refine z_getr C (t := 37) (Nat.le_of_ble_eq_true rfl) rfl rfl 48 (Nat.le_of_ble_eq_true rfl) rfl kiX7_takes_X7 kfX7_takes_119 dX7_takes_97 ?_
        refine z_bipush C (v := 10) dX7_takes_100 rfl ?_
        refine z_aload_n C 0 dX7_takes_102 rfl rfl ?_
        refine z_getr C (t := 11) (Nat.le_of_ble_eq_true rfl) rfl rfl 13 (Nat.le_of_ble_eq_true rfl) rfl kiX7_takes_X7 kfX7_takes_41 dX7_takes_103 ?_
        refine z_iload_n C 1 dX7_takes_106 rfl rfl ?_
        obtain ⟨hi17, hf⟩ := ck_el hf
        refine z_iald C (k := 11) (Nat.le_of_ble_eq_true rfl) rfl hi17 dX7_takes_107 ?_
        refine z_imul C dX7_takes_108 ?_
        refine z_iload C 5 dX7_takes_109 rfl ?_
        refine z_iadd C dX7_takes_111 ?_
        obtain ⟨hi18, hf⟩ := ck_el hf
        refine z_zald C (k := 37) (Nat.le_of_ble_eq_true rfl) rfl hi18 dX7_takes_112 ?_
        refine z_if_ne (tgt := 120) C dX7_takes_113 (by decide) (fun c19 => ?_) (fun c19 => ?_)
        · replace hf := if_f c19 hf
          refine z_iconst C (v := 0) dX7_takes_120 rfl ?_
          cases hf
          exact hret _ _ dX7_takes_121 (Or.inl rfl)
        · replace hf := if_t c19 hf
          refine z_iconst C (v := 1) dX7_takes_116 rfl ?_
          refine z_goto (tgt := 121) C dX7_takes_117 (by decide) ?_
          cases hf
          exact hret _ _ dX7_takes_121 (Or.inr rfl)
    · replace hf := if_t c26 hf
      refine z_iload C 4 dX7_takes_43 rfl ?_
      refine z_if_eq (tgt := 68) C dX7_takes_45 (by decide) (fun c25 => ?_) (fun c25 => ?_)
      · replace hf := if_t c25 hf
        refine z_aload_n C 0 dX7_takes_68 rfl rfl ?_
        refine z_getr C (t := 37) (Nat.le_of_ble_eq_true rfl) rfl rfl 48 (Nat.le_of_ble_eq_true rfl) rfl kiX7_takes_X7 kfX7_takes_119 dX7_takes_69 ?_
        refine z_bipush C (v := 10) dX7_takes_72 rfl ?_
        refine z_aload_n C 0 dX7_takes_74 rfl rfl ?_
        refine z_getr C (t := 11) (Nat.le_of_ble_eq_true rfl) rfl rfl 13 (Nat.le_of_ble_eq_true rfl) rfl kiX7_takes_X7 kfX7_takes_41 dX7_takes_75 ?_
        refine z_iload_n C 1 dX7_takes_78 rfl rfl ?_
        obtain ⟨hi21, hf⟩ := ck_el hf
        refine z_iald C (k := 11) (Nat.le_of_ble_eq_true rfl) rfl hi21 dX7_takes_79 ?_
        refine z_imul C dX7_takes_80 ?_
        refine z_iload C 5 dX7_takes_81 rfl ?_
        refine z_iadd C dX7_takes_83 ?_
        obtain ⟨hi22, hf⟩ := ck_el hf
        refine z_zald C (k := 37) (Nat.le_of_ble_eq_true rfl) rfl hi22 dX7_takes_84 ?_
        obtain ⟨hz, hf⟩ := ck_el hf
        cases hf
        exact hret _ _ dX7_takes_85 hz
      · replace hf := if_f c25 hf
        refine z_aload_n C 0 dX7_takes_48 rfl rfl ?_
        refine z_getr C (t := 38) (Nat.le_of_ble_eq_true rfl) rfl rfl 49 (Nat.le_of_ble_eq_true rfl) rfl kiX7_takes_X7 kfX7_takes_122 dX7_takes_49 ?_
        refine z_bipush C (v := 10) dX7_takes_52 rfl ?_
        refine z_aload_n C 0 dX7_takes_54 rfl rfl ?_
        refine z_getr C (t := 11) (Nat.le_of_ble_eq_true rfl) rfl rfl 13 (Nat.le_of_ble_eq_true rfl) rfl kiX7_takes_X7 kfX7_takes_41 dX7_takes_55 ?_
        refine z_iload_n C 1 dX7_takes_58 rfl rfl ?_
        obtain ⟨hi23, hf⟩ := ck_el hf
        refine z_iald C (k := 11) (Nat.le_of_ble_eq_true rfl) rfl hi23 dX7_takes_59 ?_
        refine z_imul C dX7_takes_60 ?_
        refine z_iload C 5 dX7_takes_61 rfl ?_
        refine z_iadd C dX7_takes_63 ?_
        obtain ⟨hi24, hf⟩ := ck_el hf
        refine z_zald C (k := 38) (Nat.le_of_ble_eq_true rfl) rfl hi24 dX7_takes_64 ?_
        refine z_goto (tgt := 85) C dX7_takes_65 (by decide) ?_
        obtain ⟨hz, hf⟩ := ck_el hf
        cases hf
        exact hret _ _ dX7_takes_85 hz
  · replace hf := if_f c27 hf
    refine z_iconst C (v := 0) dX7_takes_19 rfl ?_
    cases hf
    exact hret _ _ dX7_takes_20 (Or.inl rfl)
def rmX7_joined : Room := { frames := 0, cells := 0, slots := 0, locals := 0 }
theorem zdX7_joined : yX7_joined.cls = RX7 ∧ yX7_joined.cls ≠ "java/lang/invoke/MethodHandle" ∧ yX7_joined.cls ≠ "java/lang/invoke/VarHandle" ∧ (parseMethodDescriptor yX7_joined.desc).map (fun d => d.parameters.length) = some 2 := by decide +kernel
def t_X7_joined_22 (a2 : Int32) (i2 : Int32) (i4 : Int32) (i5 : Int32) : Option ((Int32 × Int32) ⊕ (Int32)) :=
  (if 32 ≤ i5 then (some (.inr i4)) else ((if ((a2 >>> (i5 &&& 31)) &&& 1) = 1 then ((if (i2 &&& i5) = 0 then (bn (i4 ||| ((1 : Int32) <<< ((i2 ||| i5) &&& 31))) fun x8 => bn (i5 + 1) fun x9 => some (.inl (x8, x9))) else (bn (i5 + 1) fun x7 => some (.inl (i4, x7))))) else (bn (i5 + 1) fun x6 => some (.inl (i4, x6))))))
def l_X7_joined_22 (a2 : Int32) (i2 : Int32) (n : Nat) (i4 : Int32) (i5 : Int32) : Option (Int32) := zlp n (fun a => t_X7_joined_22 a2 i2 a.1 a.2) (i4, i5)
def t_X7_joined_4 (a1 : Int32) (a2 : Int32) (i1 : Int32) (i2 : Int32) : Option ((Int32 × Int32) ⊕ (Int32)) :=
  (if 32 ≤ i2 then (some (.inr i1)) else ((if ((a1 >>> (i2 &&& 31)) &&& 1) = 1 then (((l_X7_joined_22 a2 i2 FU i1 0).bind fun y13 => bn (i2 + 1) fun x14 => some (.inl (y13, x14)))) else (bn (i2 + 1) fun x3 => some (.inl (i1, x3))))))
def l_X7_joined_4 (a1 : Int32) (a2 : Int32) (n : Nat) (i1 : Int32) (i2 : Int32) : Option (Int32) := zlp n (fun a => t_X7_joined_4 a1 a2 a.1 a.2) (i1, i2)
def s_X7_joined (a1 : Int32) (a2 : Int32) : Option (Int32) :=
  ((l_X7_joined_4 a1 a2 FU 0 0).bind fun y17 => some y17)
set_option maxRecDepth 100000 in
set_option maxHeartbeats 4000000 in
theorem w_X7_joined_22 {K : ZK} (C : zOK MM K cX7_joined 5 (some .int) RX7 wsX7_joined rmX7_joined) {m : Mem} {a1 : Int32} {a2 : Int32} {i2 : Int32}  {o0 : Int32} (hk : zGo MM K m [(0, .int a1), (1, .int a2), (2, .int o0), (3, .int i2)] 61 []) : ∀ (n : Nat) (i4 : Int32) (i5 : Int32), l_X7_joined_22 a2 i2 n i4 i5 = some o0 → zGo MM K m [(0, .int a1), (1, .int a2), (2, .int i4), (3, .int i2), (4, .int i5)] 22 [] := by
  intro n
  induction n with
  | zero =>
    intro i4 i5 hf
    cases hf
  | succ n ih =>
    intro i4 i5 hf
    obtain ⟨z, hf, hz⟩ := zlp_el hf
    replace hf : t_X7_joined_22 a2 i2 i4 i5 = some z := hf
    unfold t_X7_joined_22 at hf
    refine z_iload C 4 dX7_joined_22 rfl ?_
    refine z_bipush C (v := 32) dX7_joined_24 rfl ?_
    refine z_icmp_ge (tgt := 61) C dX7_joined_26 (by decide) (fun c12 => ?_) (fun c12 => ?_)
    · replace hf := if_t c12 hf
      cases hf
      replace hz := zlz_r hz
      cases hz
      exact z_sub [0, 1, 2, 3] rfl hk
    · replace hf := if_f c12 hf
      refine z_iload_n C 1 dX7_joined_29 rfl rfl ?_
      refine z_iload C 4 dX7_joined_30 rfl ?_
      refine z_ishr C dX7_joined_32 ?_
      refine z_iconst C (v := 1) dX7_joined_33 rfl ?_
      refine z_iand C dX7_joined_34 ?_
      refine z_iconst C (v := 1) dX7_joined_35 rfl ?_
      refine z_icmp_ne (tgt := 55) C dX7_joined_36 (by decide) (fun c11 => ?_) (fun c11 => ?_)
      · replace hf := if_f c11 hf
        obtain ⟨x6, e_x6⟩ : ∃ y : Int32, y = i5 + 1 := ⟨_, rfl⟩
        replace hf := bn_to e_x6 hf
        refine z_iinc C (lv2 := [(0, .int a1), (1, .int a2), (2, .int i4), (3, .int i2), (4, .int x6)]) 4 [1, 2, 3, 4, 0] dX7_joined_55 rfl rfl (Nat.le_of_ble_eq_true rfl) e_x6 rfl ?_
        refine z_goto (tgt := 22) C dX7_joined_58 (by decide) ?_
        cases hf
        exact z_sub [0, 1, 2, 3, 4] rfl (ih i4 x6 hz)
      · replace hf := if_t c11 hf
        refine z_iload_n C 3 dX7_joined_39 rfl rfl ?_
        refine z_iload C 4 dX7_joined_40 rfl ?_
        refine z_iand C dX7_joined_42 ?_
        refine z_if_ne (tgt := 55) C dX7_joined_43 (by decide) (fun c10 => ?_) (fun c10 => ?_)
        · replace hf := if_f c10 hf
          obtain ⟨x7, e_x7⟩ : ∃ y : Int32, y = i5 + 1 := ⟨_, rfl⟩
          replace hf := bn_to e_x7 hf
          refine z_iinc C (lv2 := [(0, .int a1), (1, .int a2), (2, .int i4), (3, .int i2), (4, .int x7)]) 4 [1, 2, 3, 4, 0] dX7_joined_55 rfl rfl (Nat.le_of_ble_eq_true rfl) e_x7 rfl ?_
          refine z_goto (tgt := 22) C dX7_joined_58 (by decide) ?_
          cases hf
          exact z_sub [0, 1, 2, 3, 4] rfl (ih i4 x7 hz)
        · replace hf := if_t c10 hf
          refine z_iload_n C 2 dX7_joined_46 rfl rfl ?_
          refine z_iconst C (v := 1) dX7_joined_47 rfl ?_
          refine z_iload_n C 3 dX7_joined_48 rfl rfl ?_
          refine z_iload C 4 dX7_joined_49 rfl ?_
          refine z_ior C dX7_joined_51 ?_
          refine z_ishl C dX7_joined_52 ?_
          refine z_ior C dX7_joined_53 ?_
          refine z_topi (fun x8 e_x8 => ?_)
          replace hf := bn_to e_x8 hf
          refine z_istore_n C (lv2 := [(0, .int a1), (1, .int a2), (2, .int x8), (3, .int i2), (4, .int i5)]) [1, 2, 0, 3, 4] dX7_joined_54 rfl (Nat.le_of_ble_eq_true rfl) rfl ?_
          obtain ⟨x9, e_x9⟩ : ∃ y : Int32, y = i5 + 1 := ⟨_, rfl⟩
          replace hf := bn_to e_x9 hf
          refine z_iinc C (lv2 := [(0, .int a1), (1, .int a2), (2, .int x8), (3, .int i2), (4, .int x9)]) 4 [1, 2, 3, 4, 0] dX7_joined_55 rfl rfl (Nat.le_of_ble_eq_true rfl) e_x9 rfl ?_
          refine z_goto (tgt := 22) C dX7_joined_58 (by decide) ?_
          cases hf
          exact z_sub [0, 1, 2, 3, 4] rfl (ih x8 x9 hz)
set_option maxRecDepth 100000 in
set_option maxHeartbeats 4000000 in
theorem w_X7_joined_4 {K : ZK} (C : zOK MM K cX7_joined 5 (some .int) RX7 wsX7_joined rmX7_joined) {m : Mem} {a1 : Int32} {a2 : Int32}  {o0 : Int32} (hk : zGo MM K m [(2, .int o0)] 67 []) : ∀ (n : Nat) (i1 : Int32) (i2 : Int32), l_X7_joined_4 a1 a2 n i1 i2 = some o0 → zGo MM K m [(0, .int a1), (1, .int a2), (2, .int i1), (3, .int i2)] 4 [] := by
  intro n
  induction n with
  | zero =>
    intro i1 i2 hf
    cases hf
  | succ n ih =>
    intro i1 i2 hf
    obtain ⟨z, hf, hz⟩ := zlp_el hf
    replace hf : t_X7_joined_4 a1 a2 i1 i2 = some z := hf
    unfold t_X7_joined_4 at hf
    refine z_iload_n C 3 dX7_joined_4 rfl rfl ?_
    refine z_bipush C (v := 32) dX7_joined_5 rfl ?_
    refine z_icmp_ge (tgt := 67) C dX7_joined_7 (by decide) (fun c16 => ?_) (fun c16 => ?_)
    · replace hf := if_t c16 hf
      cases hf
      replace hz := zlz_r hz
      cases hz
      exact z_sub [2] rfl hk
    · replace hf := if_f c16 hf
      refine z_iload_n C 0 dX7_joined_10 rfl rfl ?_
      refine z_iload_n C 3 dX7_joined_11 rfl rfl ?_
      refine z_ishr C dX7_joined_12 ?_
      refine z_iconst C (v := 1) dX7_joined_13 rfl ?_
      refine z_iand C dX7_joined_14 ?_
      refine z_iconst C (v := 1) dX7_joined_15 rfl ?_
      refine z_icmp_ne (tgt := 61) C dX7_joined_16 (by decide) (fun c15 => ?_) (fun c15 => ?_)
      · replace hf := if_f c15 hf
        obtain ⟨x3, e_x3⟩ : ∃ y : Int32, y = i2 + 1 := ⟨_, rfl⟩
        replace hf := bn_to e_x3 hf
        refine z_iinc C (lv2 := [(0, .int a1), (1, .int a2), (2, .int i1), (3, .int x3)]) 3 [1, 2, 3, 0] dX7_joined_61 rfl rfl (Nat.le_of_ble_eq_true rfl) e_x3 rfl ?_
        refine z_goto (tgt := 4) C dX7_joined_64 (by decide) ?_
        cases hf
        exact z_sub [0, 1, 2, 3] rfl (ih i1 x3 hz)
      · replace hf := if_t c15 hf
        refine z_iconst C (v := 0) dX7_joined_19 rfl ?_
        refine z_istore C (lv2 := [(0, .int a1), (1, .int a2), (2, .int i1), (3, .int i2), (4, .int 0)]) [1, 2, 3, 4, 0] dX7_joined_20 (Nat.le_of_ble_eq_true rfl) rfl ?_
        obtain ⟨y13, hg, hf⟩ := zb_el hf
        refine z_sub [0, 1, 2, 3, 4] rfl (w_X7_joined_22 C  ?_ _ _ _ hg)
        clear hg
        obtain ⟨x14, e_x14⟩ : ∃ y : Int32, y = i2 + 1 := ⟨_, rfl⟩
        replace hf := bn_to e_x14 hf
        refine z_iinc C (lv2 := [(0, .int a1), (1, .int a2), (2, .int y13), (3, .int x14)]) 3 [1, 2, 3, 0] dX7_joined_61 rfl rfl (Nat.le_of_ble_eq_true rfl) e_x14 rfl ?_
        refine z_goto (tgt := 4) C dX7_joined_64 (by decide) ?_
        cases hf
        exact z_sub [0, 1, 2, 3] rfl (ih y13 x14 hz)
set_option maxRecDepth 100000 in
set_option maxHeartbeats 4000000 in
theorem c_X7_joined (l : Launch) (w : ZW) {m : Mem} {a1 : Int32} {a2 : Int32} {r9 : Int32}  (hf : s_X7_joined a1 a2 = some r9) : zCi MM l w yX7_joined wsX7_joined rmX7_joined [.int a1, .int a2] m m r9 := by
  refine z_met_i MM_ok (own := RX7) (by decide +kernel) rfl rfl (Nat.le_of_ble_eq_true rfl) ?_
  intro K C hKw hKl hret
  subst hKw
  subst hKl
  unfold s_X7_joined at hf
  show zGo MM K m [(0, .int a1), (1, .int a2)] 0 []
  refine z_iconst C (v := 0) dX7_joined_0 rfl ?_
  refine z_istore_n C (lv2 := [(0, .int a1), (1, .int a2), (2, .int 0)]) [1, 2, 0] dX7_joined_1 rfl (Nat.le_of_ble_eq_true rfl) rfl ?_
  refine z_iconst C (v := 0) dX7_joined_2 rfl ?_
  refine z_istore_n C (lv2 := [(0, .int a1), (1, .int a2), (2, .int 0), (3, .int 0)]) [1, 2, 3, 0] dX7_joined_3 rfl (Nat.le_of_ble_eq_true rfl) rfl ?_
  obtain ⟨y17, hg, hf⟩ := zb_el hf
  refine z_sub [0, 1, 2, 3] rfl (w_X7_joined_4 C  ?_ _ _ _ hg)
  clear hg
  refine z_iload_n C 0 dX7_joined_67 rfl rfl ?_
  cases hf
  exact hret _ _ dX7_joined_68
def rmX7_counted : Room := { frames := 1, cells := 0, slots := 0, locals := 24 }
theorem zdX7_counted : yX7_counted.cls = RX7 ∧ yX7_counted.cls ≠ "java/lang/invoke/MethodHandle" ∧ yX7_counted.cls ≠ "java/lang/invoke/VarHandle" ∧ (parseMethodDescriptor yX7_counted.desc).map (fun d => d.parameters.length) = some 3 := by decide +kernel
def t_X7_counted_17 (a1 : Int32) (a2 : Int32) (a3 : Int32) (i2 : Int32) (i3 : Int32) (i4 : Int32) : Option ((Int32 × Int32 × Int32) ⊕ (Int32)) :=
  (if a3 < i4 then (some (.inr i3)) else ((s_X7_joined i2 a1).bind fun r6 => (if i4 < a2 then (bn (i3 ||| 0) fun x7 => bn (i4 + 1) fun x8 => some (.inl (r6, x7, x8))) else (bn (i3 ||| r6) fun x9 => bn (i4 + 1) fun x10 => some (.inl (r6, x9, x10))))))
def l_X7_counted_17 (a1 : Int32) (a2 : Int32) (a3 : Int32) (n : Nat) (i2 : Int32) (i3 : Int32) (i4 : Int32) : Option (Int32) := zlp n (fun a => t_X7_counted_17 a1 a2 a3 a.1 a.2.1 a.2.2) (i2, i3, i4)
def s_X7_counted (a1 : Int32) (a2 : Int32) (a3 : Int32) : Option (Int32) :=
  (((if a2 = 0 then (some 1) else (some 0)) : Option (Int32)).bind fun y1 => ((l_X7_counted_17 a1 a2 a3 FU 1 y1 1).bind fun y13 => some y13))
set_option maxRecDepth 100000 in
set_option maxHeartbeats 4000000 in
theorem w_X7_counted_17 {K : ZK} (C : zOK MM K cX7_counted 7 (some .int) RX7 wsX7_counted rmX7_counted) {m : Mem} {a1 : Int32} {a2 : Int32} {a3 : Int32}  {o0 : Int32} (hk : zGo MM K m [(5, .int o0)] 54 []) : ∀ (n : Nat) (i2 : Int32) (i3 : Int32) (i4 : Int32), l_X7_counted_17 a1 a2 a3 n i2 i3 i4 = some o0 → zGo MM K m [(1, .int a1), (2, .int a2), (3, .int a3), (4, .int i2), (5, .int i3), (6, .int i4)] 17 [] := by
  intro n
  induction n with
  | zero =>
    intro i2 i3 i4 hf
    cases hf
  | succ n ih =>
    intro i2 i3 i4 hf
    obtain ⟨z, hf, hz⟩ := zlp_el hf
    replace hf : t_X7_counted_17 a1 a2 a3 i2 i3 i4 = some z := hf
    unfold t_X7_counted_17 at hf
    refine z_iload C 5 dX7_counted_17 rfl ?_
    refine z_iload_n C 2 dX7_counted_19 rfl rfl ?_
    refine z_icmp_gt (tgt := 54) C dX7_counted_20 (by decide) (fun c12 => ?_) (fun c12 => ?_)
    · replace hf := if_t c12 hf
      cases hf
      replace hz := zlz_r hz
      cases hz
      exact z_sub [4] rfl hk
    · replace hf := if_f c12 hf
      refine z_iload C 3 dX7_counted_23 rfl ?_
      refine z_iload_n C 0 dX7_counted_25 rfl rfl ?_
      obtain ⟨r6, hc5, hf⟩ := zb_el hf
      refine z_cSi C (c_X7_joined _ _ hc5) rfl gX7_counted_X7_joined rfl rfl zdX7_joined.2 rfl ⟨Nat.le_of_ble_eq_true rfl, Nat.le_of_ble_eq_true rfl⟩ (Nat.le_of_ble_eq_true rfl) dX7_counted_26 rfl ?_
      refine z_istore C (lv2 := [(1, .int a1), (2, .int a2), (3, .int a3), (4, .int r6), (5, .int i3), (6, .int i4)]) [1, 2, 3, 0, 4, 5] dX7_counted_29 (Nat.le_of_ble_eq_true rfl) rfl ?_
      refine z_iload C 4 dX7_counted_31 rfl ?_
      refine z_iload C 5 dX7_counted_33 rfl ?_
      refine z_iload_n C 1 dX7_counted_35 rfl rfl ?_
      refine z_icmp_lt (tgt := 44) C dX7_counted_36 (by decide) (fun c11 => ?_) (fun c11 => ?_)
      · replace hf := if_t c11 hf
        refine z_iconst C (v := 0) dX7_counted_44 rfl ?_
        refine z_ior C dX7_counted_45 ?_
        refine z_topi (fun x7 e_x7 => ?_)
        replace hf := bn_to e_x7 hf
        refine z_istore C (lv2 := [(1, .int a1), (2, .int a2), (3, .int a3), (4, .int r6), (5, .int x7), (6, .int i4)]) [1, 2, 3, 4, 0, 5] dX7_counted_46 (Nat.le_of_ble_eq_true rfl) rfl ?_
        obtain ⟨x8, e_x8⟩ : ∃ y : Int32, y = i4 + 1 := ⟨_, rfl⟩
        replace hf := bn_to e_x8 hf
        refine z_iinc C (lv2 := [(1, .int a1), (2, .int a2), (3, .int a3), (4, .int r6), (5, .int x7), (6, .int x8)]) 5 [1, 2, 3, 4, 5, 0] dX7_counted_48 rfl rfl (Nat.le_of_ble_eq_true rfl) e_x8 rfl ?_
        refine z_goto (tgt := 17) C dX7_counted_51 (by decide) ?_
        cases hf
        exact z_sub [0, 1, 2, 3, 4, 5] rfl (ih r6 x7 x8 hz)
      · replace hf := if_f c11 hf
        refine z_iload C 3 dX7_counted_39 rfl ?_
        refine z_goto (tgt := 45) C dX7_counted_41 (by decide) ?_
        refine z_ior C dX7_counted_45 ?_
        refine z_topi (fun x9 e_x9 => ?_)
        replace hf := bn_to e_x9 hf
        refine z_istore C (lv2 := [(1, .int a1), (2, .int a2), (3, .int a3), (4, .int r6), (5, .int x9), (6, .int i4)]) [1, 2, 3, 4, 0, 5] dX7_counted_46 (Nat.le_of_ble_eq_true rfl) rfl ?_
        obtain ⟨x10, e_x10⟩ : ∃ y : Int32, y = i4 + 1 := ⟨_, rfl⟩
        replace hf := bn_to e_x10 hf
        refine z_iinc C (lv2 := [(1, .int a1), (2, .int a2), (3, .int a3), (4, .int r6), (5, .int x9), (6, .int x10)]) 5 [1, 2, 3, 4, 5, 0] dX7_counted_48 rfl rfl (Nat.le_of_ble_eq_true rfl) e_x10 rfl ?_
        refine z_goto (tgt := 17) C dX7_counted_51 (by decide) ?_
        cases hf
        exact z_sub [0, 1, 2, 3, 4, 5] rfl (ih r6 x9 x10 hz)
set_option maxRecDepth 100000 in
set_option maxHeartbeats 4000000 in
theorem c_X7_counted (l : Launch) (w : ZW) {m : Mem} {a1 : Int32} {a2 : Int32} {a3 : Int32} {r9 : Int32}  (hf : s_X7_counted a1 a2 a3 = some r9) : zCi MM l w yX7_counted wsX7_counted rmX7_counted [.ref (w.2.1 0), .int a1, .int a2, .int a3] m m r9 := by
  refine z_met_i MM_ok (own := RX7) (by decide +kernel) rfl rfl (Nat.le_of_ble_eq_true rfl) ?_
  intro K C hKw hKl hret
  subst hKw
  subst hKl
  unfold s_X7_counted at hf
  show zGo MM K m [(0, .ref ((zw K).2.1 0)), (1, .int a1), (2, .int a2), (3, .int a3)] 0 []
  refine z_iconst C (v := 1) dX7_counted_0 rfl ?_
  refine z_istore C (lv2 := [(0, .ref ((zw K).2.1 0)), (1, .int a1), (2, .int a2), (3, .int a3), (4, .int 1)]) [1, 2, 3, 4, 0] dX7_counted_1 (Nat.le_of_ble_eq_true rfl) rfl ?_
  refine z_iload_n C 2 dX7_counted_3 rfl rfl ?_
  obtain ⟨y1, hg, hf⟩ := zb_el hf
  have hj : zGo MM K m [(1, .int a1), (2, .int a2), (3, .int a3), (4, .int 1)] 12 [.int y1] := by
    refine z_istore C (lv2 := [(1, .int a1), (2, .int a2), (3, .int a3), (4, .int 1), (5, .int y1)]) [1, 2, 3, 4, 0] dX7_counted_12 (Nat.le_of_ble_eq_true rfl) rfl ?_
    refine z_iconst C (v := 1) dX7_counted_14 rfl ?_
    refine z_istore C (lv2 := [(1, .int a1), (2, .int a2), (3, .int a3), (4, .int 1), (5, .int y1), (6, .int 1)]) [1, 2, 3, 4, 5, 0] dX7_counted_15 (Nat.le_of_ble_eq_true rfl) rfl ?_
    obtain ⟨y13, hg, hf⟩ := zb_el hf
    refine z_sub [0, 1, 2, 3, 4, 5] rfl (w_X7_counted_17 C  ?_ _ _ _ _ hg)
    clear hg
    refine z_iload C 0 dX7_counted_54 rfl ?_
    cases hf
    exact hret _ _ dX7_counted_56
  replace hf := hg
  clear hg
  refine z_if_ne (tgt := 11) C dX7_counted_4 (by decide) (fun c14 => ?_) (fun c14 => ?_)
  · replace hf := if_f c14 hf
    refine z_iconst C (v := 0) dX7_counted_11 rfl ?_
    cases hf
    exact z_sub [1, 2, 3, 4] rfl hj
  · replace hf := if_t c14 hf
    refine z_iconst C (v := 1) dX7_counted_7 rfl ?_
    refine z_goto (tgt := 12) C dX7_counted_8 (by decide) ?_
    cases hf
    exact z_sub [1, 2, 3, 4] rfl hj
def rmX7_dealtTo : Room := { frames := 2, cells := 0, slots := 0, locals := 50 }
theorem zdX7_dealtTo : yX7_dealtTo.cls = RX7 ∧ yX7_dealtTo.cls ≠ "java/lang/invoke/MethodHandle" ∧ yX7_dealtTo.cls ≠ "java/lang/invoke/VarHandle" ∧ (parseMethodDescriptor yX7_dealtTo.desc).map (fun d => d.parameters.length) = some 3 := by decide +kernel
theorem kiX7_dealtTo_X7 : ∀ w ∈ wsX70, w ∈ wsX7_dealtTo := by decide +kernel
theorem kfX7_dealtTo_47 : Cond.fieldLink RX7 47 "ShapeJudgeModel" "size" "[I" ∈ wsX7_dealtTo := by decide +kernel
theorem kfX7_dealtTo_128 : Cond.fieldLink RX7 128 "ShapeJudgeModel" "sets" "[I" ∈ wsX7_dealtTo := by decide +kernel
theorem kfX7_dealtTo_50 : Cond.fieldLink RX7 50 "ShapeJudgeModel" "kind" "[I" ∈ wsX7_dealtTo := by decide +kernel
theorem kfX7_dealtTo_53 : Cond.fieldLink RX7 53 "ShapeJudgeModel" "around" "[I" ∈ wsX7_dealtTo := by decide +kernel
theorem kfX7_dealtTo_62 : Cond.fieldLink RX7 62 "ShapeJudgeModel" "partOf" "[I" ∈ wsX7_dealtTo := by decide +kernel
theorem kfX7_dealtTo_17 : Cond.fieldLink RX7 17 "ShapeJudgeModel" "many" "[I" ∈ wsX7_dealtTo := by decide +kernel
theorem kfX7_dealtTo_125 : Cond.fieldLink RX7 125 "ShapeJudgeModel" "only" "[I" ∈ wsX7_dealtTo := by decide +kernel
theorem kfX7_dealtTo_56 : Cond.fieldLink RX7 56 "ShapeJudgeModel" "least" "[I" ∈ wsX7_dealtTo := by decide +kernel
theorem kfX7_dealtTo_59 : Cond.fieldLink RX7 59 "ShapeJudgeModel" "most" "[I" ∈ wsX7_dealtTo := by decide +kernel
def t_X7_dealtTo_10 (a1 : Int32) (x1 : Int32) (i2 : Int32) (m3 : Mem) : Option ((Int32 × Mem) ⊕ (Mem)) :=
  ck (zin a1 6 = true) ((if (m3 13 (Int32.toNatClampNeg a1)) ≤ i2 then (some (.inr m3)) else (ck (zin (x1 + i2) 960 = true) ((if (m3 14 (Int32.toNatClampNeg (x1 + i2))) = 1 then (ck (zin i2 160 = true) (bn (sto m3 40 (Int32.toNatClampNeg i2) 1) fun m10 => bn (i2 + 1) fun x11 => some (.inl (x11, m10)))) else (ck (zin i2 160 = true) (bn (sto m3 40 (Int32.toNatClampNeg i2) 0) fun m7 => bn (i2 + 1) fun x8 => some (.inl (x8, m7)))))))))
def l_X7_dealtTo_10 (a1 : Int32) (x1 : Int32) (n : Nat) (i2 : Int32) (m3 : Mem) : Option (Mem) := zlp n (fun a => t_X7_dealtTo_10 a1 x1 a.1 a.2) (i2, m3)
def t_X7_dealtTo_144 (a2 : Int32) (a3 : Int32) (m19 : Mem) (x39 : Int32) (i42 : Int32) (i43 : Int32) : Option ((Int32 × Int32) ⊕ (Int32)) :=
  ck (zin a2 10 = true) ((if (m19 3 (Int32.toNatClampNeg a2)) ≤ i43 then (some (.inr i42)) else ((if x39 = (-4) then (some (.inr i42)) else (ck (zin i43 5 = true) ((((if (m19 39 (Int32.toNatClampNeg i43)) = (-4) then (some 1) else (ck (zin i43 5 = true) ((if (m19 39 (Int32.toNatClampNeg i43)) = x39 then (some 1) else (some 0))))) : Option (Int32)).bind fun y46 => (if y46 = 0 then (bn (i42 ||| 0) fun x47 => bn (i43 + 1) fun x48 => some (.inl (x47, x48))) else ((s_X7_takes m19 x39 a2 i43 a3).bind fun r50 => (if r50 = 0 then (bn (i42 ||| 0) fun x51 => bn (i43 + 1) fun x52 => some (.inl (x51, x52))) else (bn (i42 ||| ((1 : Int32) <<< (((1 : Int32) <<< (i43 &&& 31)) &&& 31))) fun x53 => bn (i43 + 1) fun x54 => some (.inl (x53, x54)))))))))))))
def l_X7_dealtTo_144 (a2 : Int32) (a3 : Int32) (m19 : Mem) (x39 : Int32) (n : Nat) (i42 : Int32) (i43 : Int32) : Option (Int32) := zlp n (fun a => t_X7_dealtTo_144 a2 a3 m19 x39 a.1 a.2) (i42, i43)
def t_X7_dealtTo_66 (a2 : Int32) (a3 : Int32) (x1 : Int32) (i17 : Int32) (i18 : Int32) (m19 : Mem) : Option ((Int32 × Int32 × Mem) ⊕ (Int32 × Mem)) :=
  (if i18 < 0 then (some (.inr (i17, m19))) else (ck (zin (x1 + i18) 960 = true) ((((if (m19 15 (Int32.toNatClampNeg (x1 + i18))) = (-4) then (some (-4)) else (ck (zin (x1 + i18) 960 = true) (some ((m19 15 (Int32.toNatClampNeg (x1 + i18))) - x1)))) : Option (Int32)).bind fun y21 => ck (zin (x1 + i18) 960 = true) ((if (m19 14 (Int32.toNatClampNeg (x1 + i18))) = 2 then (ck (zin (x1 + i18) 960 = true) (bn (m19 18 (Int32.toNatClampNeg (x1 + i18))) fun x39 => ck (zin i18 160 = true) (bn (m19 40 (Int32.toNatClampNeg i18)) fun x41 => ((l_X7_dealtTo_144 a2 a3 m19 x39 FU x41 0).bind fun y62 => ck (zin y21 160 = true) (ck (zin (x1 + i18) 960 = true) (ck (zin (x1 + i18) 960 = true) ((s_X7_counted y62 (m19 16 (Int32.toNatClampNeg (x1 + i18))) (m19 17 (Int32.toNatClampNeg (x1 + i18)))).bind fun r67 => (s_X7_joined (m19 40 (Int32.toNatClampNeg y21)) r67).bind fun r69 => ck (zin y21 160 = true) (bn (sto m19 40 (Int32.toNatClampNeg y21) r69) fun m71 => bn (i18 + (-1)) fun x72 => some (.inl (i17, x72, m71)))))))))) else (ck (zin (x1 + i18) 960 = true) ((if (m19 14 (Int32.toNatClampNeg (x1 + i18))) = 1 then (ck (zin y21 160 = true) (ck (zin i18 160 = true) (ck (zin y21 160 = true) (bn (sto m19 40 (Int32.toNatClampNeg y21) ((m19 40 (Int32.toNatClampNeg y21)) ||| (m19 40 (Int32.toNatClampNeg i18)))) fun m35 => bn (i18 + (-1)) fun x36 => some (.inl (i17, x36, m35)))))) else ((if y21 = (-4) then (ck (zin i18 160 = true) (bn (m19 40 (Int32.toNatClampNeg i18)) fun x29 => bn (i18 + (-1)) fun x30 => some (.inl (x29, x30, m19)))) else (ck (zin i18 160 = true) (ck (zin y21 160 = true) (bn (sto m19 40 (Int32.toNatClampNeg y21) (m19 40 (Int32.toNatClampNeg i18))) fun m26 => bn (i18 + (-1)) fun x27 => some (.inl (i17, x27, m26))))))))))))))))
def l_X7_dealtTo_66 (a2 : Int32) (a3 : Int32) (x1 : Int32) (n : Nat) (i17 : Int32) (i18 : Int32) (m19 : Mem) : Option (Int32 × Mem) := zlp n (fun a => t_X7_dealtTo_66 a2 a3 x1 a.1 a.2.1 a.2.2) (i17, i18, m19)
def s_X7_dealtTo (m : Mem) (a1 : Int32) (a2 : Int32) (a3 : Int32) : Option (Int32 × Mem) :=
  bn ((160 : Int32) * a1) fun x1 => ((l_X7_dealtTo_10 a1 x1 FU 0 m).bind fun m14 => ck (zin a1 6 = true) (bn ((m14 13 (Int32.toNatClampNeg a1)) - 1) fun x16 => (zb2 (l_X7_dealtTo_66 a2 a3 x1 FU 1 x16 m14) fun y77 m78 => some (y77, m78))))
set_option maxRecDepth 100000 in
set_option maxHeartbeats 4000000 in
theorem w_X7_dealtTo_10 {K : ZK} (C : zOK MM K cX7_dealtTo 12 (some .int) RX7 wsX7_dealtTo rmX7_dealtTo) {a1 : Int32} {a2 : Int32} {a3 : Int32} {x1 : Int32}  {o0 : Mem} (hk : zGo MM K o0 [(0, .ref ((zw K).2.1 0)), (1, .int a1), (2, .int a2), (3, .int a3), (4, .int x1)] 53 []) : ∀ (n : Nat) (i2 : Int32) (m3 : Mem), l_X7_dealtTo_10 a1 x1 n i2 m3 = some o0 → zGo MM K m3 [(0, .ref ((zw K).2.1 0)), (1, .int a1), (2, .int a2), (3, .int a3), (4, .int x1), (5, .int i2)] 10 [] := by
  intro n
  induction n with
  | zero =>
    intro i2 m3 hf
    cases hf
  | succ n ih =>
    intro i2 m3 hf
    obtain ⟨z, hf, hz⟩ := zlp_el hf
    replace hf : t_X7_dealtTo_10 a1 x1 i2 m3 = some z := hf
    unfold t_X7_dealtTo_10 at hf
    refine z_iload C 5 dX7_dealtTo_10 rfl ?_
    refine z_aload_n C 0 dX7_dealtTo_12 rfl rfl ?_
    refine z_getr C (t := 13) (Nat.le_of_ble_eq_true rfl) rfl rfl 15 (Nat.le_of_ble_eq_true rfl) rfl kiX7_dealtTo_X7 kfX7_dealtTo_47 dX7_dealtTo_13 ?_
    refine z_iload_n C 1 dX7_dealtTo_16 rfl rfl ?_
    obtain ⟨hi4, hf⟩ := ck_el hf
    refine z_iald C (k := 13) (Nat.le_of_ble_eq_true rfl) rfl hi4 dX7_dealtTo_17 ?_
    refine z_icmp_ge (tgt := 53) C dX7_dealtTo_18 (by decide) (fun c13 => ?_) (fun c13 => ?_)
    · replace hf := if_t c13 hf
      cases hf
      replace hz := zlz_r hz
      cases hz
      exact z_sub [0, 1, 2, 3, 4] rfl hk
    · replace hf := if_f c13 hf
      refine z_aload_n C 0 dX7_dealtTo_21 rfl rfl ?_
      refine z_getr C (t := 40) (Nat.le_of_ble_eq_true rfl) rfl rfl 51 (Nat.le_of_ble_eq_true rfl) rfl kiX7_dealtTo_X7 kfX7_dealtTo_128 dX7_dealtTo_22 ?_
      refine z_iload C 5 dX7_dealtTo_25 rfl ?_
      refine z_aload_n C 0 dX7_dealtTo_27 rfl rfl ?_
      refine z_getr C (t := 14) (Nat.le_of_ble_eq_true rfl) rfl rfl 16 (Nat.le_of_ble_eq_true rfl) rfl kiX7_dealtTo_X7 kfX7_dealtTo_50 dX7_dealtTo_28 ?_
      refine z_iload C 4 dX7_dealtTo_31 rfl ?_
      refine z_iload C 5 dX7_dealtTo_33 rfl ?_
      refine z_iadd C dX7_dealtTo_35 ?_
      obtain ⟨hi5, hf⟩ := ck_el hf
      refine z_iald C (k := 14) (Nat.le_of_ble_eq_true rfl) rfl hi5 dX7_dealtTo_36 ?_
      refine z_iconst C (v := 1) dX7_dealtTo_37 rfl ?_
      refine z_icmp_ne (tgt := 45) C dX7_dealtTo_38 (by decide) (fun c12 => ?_) (fun c12 => ?_)
      · replace hf := if_f c12 hf
        refine z_iconst C (v := 0) dX7_dealtTo_45 rfl ?_
        obtain ⟨hi6, hf⟩ := ck_el hf
        refine z_iast C (k := 40) (Nat.le_of_ble_eq_true rfl) rfl hi6 dX7_dealtTo_46 ?_
        refine z_nm (fun m7 e_m7 => ?_)
        replace hf := bn_to e_m7 hf
        obtain ⟨x8, e_x8⟩ : ∃ y : Int32, y = i2 + 1 := ⟨_, rfl⟩
        replace hf := bn_to e_x8 hf
        refine z_iinc C (lv2 := [(0, .ref ((zw K).2.1 0)), (1, .int a1), (2, .int a2), (3, .int a3), (4, .int x1), (5, .int x8)]) 5 [1, 2, 3, 4, 5, 0] dX7_dealtTo_47 rfl rfl (Nat.le_of_ble_eq_true rfl) e_x8 rfl ?_
        refine z_goto (tgt := 10) C dX7_dealtTo_50 (by decide) ?_
        cases hf
        exact z_sub [0, 1, 2, 3, 4, 5] rfl (ih x8 m7 hz)
      · replace hf := if_t c12 hf
        refine z_iconst C (v := 1) dX7_dealtTo_41 rfl ?_
        refine z_goto (tgt := 46) C dX7_dealtTo_42 (by decide) ?_
        obtain ⟨hi9, hf⟩ := ck_el hf
        refine z_iast C (k := 40) (Nat.le_of_ble_eq_true rfl) rfl hi9 dX7_dealtTo_46 ?_
        refine z_nm (fun m10 e_m10 => ?_)
        replace hf := bn_to e_m10 hf
        obtain ⟨x11, e_x11⟩ : ∃ y : Int32, y = i2 + 1 := ⟨_, rfl⟩
        replace hf := bn_to e_x11 hf
        refine z_iinc C (lv2 := [(0, .ref ((zw K).2.1 0)), (1, .int a1), (2, .int a2), (3, .int a3), (4, .int x1), (5, .int x11)]) 5 [1, 2, 3, 4, 5, 0] dX7_dealtTo_47 rfl rfl (Nat.le_of_ble_eq_true rfl) e_x11 rfl ?_
        refine z_goto (tgt := 10) C dX7_dealtTo_50 (by decide) ?_
        cases hf
        exact z_sub [0, 1, 2, 3, 4, 5] rfl (ih x11 m10 hz)
set_option maxRecDepth 100000 in
set_option maxHeartbeats 4000000 in
theorem w_X7_dealtTo_144 {K : ZK} (C : zOK MM K cX7_dealtTo 12 (some .int) RX7 wsX7_dealtTo rmX7_dealtTo) {a2 : Int32} {a3 : Int32} {x1 : Int32} {i17 : Int32} {i18 : Int32} {m19 : Mem} {y21 : Int32} {x39 : Int32}  {o0 : Int32} (hk : zGo MM K m19 [(0, .ref ((zw K).2.1 0)), (2, .int a2), (3, .int a3), (4, .int x1), (5, .int i17), (6, .int i18), (7, .int y21), (9, .int o0)] 232 []) : ∀ (n : Nat) (i42 : Int32) (i43 : Int32), l_X7_dealtTo_144 a2 a3 m19 x39 n i42 i43 = some o0 → zGo MM K m19 [(0, .ref ((zw K).2.1 0)), (2, .int a2), (3, .int a3), (4, .int x1), (5, .int i17), (6, .int i18), (7, .int y21), (8, .int x39), (9, .int i42), (10, .int i43)] 144 [] := by
  intro n
  induction n with
  | zero =>
    intro i42 i43 hf
    cases hf
  | succ n ih =>
    intro i42 i43 hf
    obtain ⟨z, hf, hz⟩ := zlp_el hf
    replace hf : t_X7_dealtTo_144 a2 a3 m19 x39 i42 i43 = some z := hf
    unfold t_X7_dealtTo_144 at hf
    refine z_iload C 9 dX7_dealtTo_144 rfl ?_
    refine z_aload_n C 0 dX7_dealtTo_146 rfl rfl ?_
    refine z_getr C (t := 3) (Nat.le_of_ble_eq_true rfl) rfl rfl 3 (Nat.le_of_ble_eq_true rfl) rfl kiX7_dealtTo_X7 kfX7_dealtTo_17 dX7_dealtTo_147 ?_
    refine z_iload_n C 1 dX7_dealtTo_150 rfl rfl ?_
    obtain ⟨hi44, hf⟩ := ck_el hf
    refine z_iald C (k := 3) (Nat.le_of_ble_eq_true rfl) rfl hi44 dX7_dealtTo_151 ?_
    refine z_icmp_ge (tgt := 232) C dX7_dealtTo_152 (by decide) (fun c61 => ?_) (fun c61 => ?_)
    · replace hf := if_t c61 hf
      cases hf
      replace hz := zlz_r hz
      cases hz
      exact z_sub [0, 1, 2, 3, 4, 5, 6, 8] rfl hk
    · replace hf := if_f c61 hf
      refine z_iload C 7 dX7_dealtTo_155 rfl ?_
      refine z_bipush C (v := (-4)) dX7_dealtTo_157 (by decide) ?_
      refine z_icmp_eq (tgt := 232) C dX7_dealtTo_159 (by decide) (fun c60 => ?_) (fun c60 => ?_)
      · replace hf := if_t c60 hf
        cases hf
        replace hz := zlz_r hz
        cases hz
        exact z_sub [0, 1, 2, 3, 4, 5, 6, 8] rfl hk
      · replace hf := if_f c60 hf
        refine z_aload_n C 0 dX7_dealtTo_162 rfl rfl ?_
        refine z_getr C (t := 39) (Nat.le_of_ble_eq_true rfl) rfl rfl 50 (Nat.le_of_ble_eq_true rfl) rfl kiX7_dealtTo_X7 kfX7_dealtTo_125 dX7_dealtTo_163 ?_
        refine z_iload C 9 dX7_dealtTo_166 rfl ?_
        obtain ⟨hi45, hf⟩ := ck_el hf
        refine z_iald C (k := 39) (Nat.le_of_ble_eq_true rfl) rfl hi45 dX7_dealtTo_168 ?_
        refine z_bipush C (v := (-4)) dX7_dealtTo_169 (by decide) ?_
        obtain ⟨y46, hg, hf⟩ := zb_el hf
        have hj : zGo MM K m19 [(0, .ref ((zw K).2.1 0)), (2, .int a2), (3, .int a3), (4, .int x1), (5, .int i17), (6, .int i18), (7, .int y21), (8, .int x39), (9, .int i42), (10, .int i43)] 191 [.int y46] := by
          refine z_istore C (lv2 := [(0, .ref ((zw K).2.1 0)), (2, .int a2), (3, .int a3), (4, .int x1), (5, .int i17), (6, .int i18), (7, .int y21), (8, .int x39), (9, .int i42), (10, .int i43), (11, .int y46)]) [1, 2, 3, 4, 5, 6, 7, 8, 9, 10, 0] dX7_dealtTo_191 (Nat.le_of_ble_eq_true rfl) rfl ?_
          refine z_iload C 8 dX7_dealtTo_193 rfl ?_
          refine z_iload C 10 dX7_dealtTo_195 rfl ?_
          refine z_if_eq (tgt := 222) C dX7_dealtTo_197 (by decide) (fun c56 => ?_) (fun c56 => ?_)
          · replace hf := if_t c56 hf
            refine z_iconst C (v := 0) dX7_dealtTo_222 rfl ?_
            refine z_ior C dX7_dealtTo_223 ?_
            refine z_topi (fun x47 e_x47 => ?_)
            replace hf := bn_to e_x47 hf
            refine z_istore C (lv2 := [(0, .ref ((zw K).2.1 0)), (2, .int a2), (3, .int a3), (4, .int x1), (5, .int i17), (6, .int i18), (7, .int y21), (8, .int x39), (9, .int x47), (10, .int i43), (11, .int y46)]) [1, 2, 3, 4, 5, 6, 7, 8, 0, 9, 10] dX7_dealtTo_224 (Nat.le_of_ble_eq_true rfl) rfl ?_
            obtain ⟨x48, e_x48⟩ : ∃ y : Int32, y = i43 + 1 := ⟨_, rfl⟩
            replace hf := bn_to e_x48 hf
            refine z_iinc C (lv2 := [(0, .ref ((zw K).2.1 0)), (2, .int a2), (3, .int a3), (4, .int x1), (5, .int i17), (6, .int i18), (7, .int y21), (8, .int x39), (9, .int x47), (10, .int x48), (11, .int y46)]) 9 [1, 2, 3, 4, 5, 6, 7, 8, 9, 0, 10] dX7_dealtTo_226 rfl rfl (Nat.le_of_ble_eq_true rfl) e_x48 rfl ?_
            refine z_goto (tgt := 144) C dX7_dealtTo_229 (by decide) ?_
            cases hf
            exact z_sub [0, 1, 2, 3, 4, 5, 6, 7, 8, 9] rfl (ih x47 x48 hz)
          · replace hf := if_f c56 hf
            refine z_aload_n C 0 dX7_dealtTo_200 rfl rfl ?_
            refine z_iload C 7 dX7_dealtTo_201 rfl ?_
            refine z_iload_n C 1 dX7_dealtTo_203 rfl rfl ?_
            refine z_iload C 9 dX7_dealtTo_204 rfl ?_
            refine z_iload_n C 2 dX7_dealtTo_206 rfl rfl ?_
            obtain ⟨r50, hc49, hf⟩ := zb_el hf
            refine z_cVi C (c_X7_takes _ _ hc49) rfl gX7_dealtTo_X7_takes rfl rfl zdX7_takes rfl (Nat.le_of_ble_eq_true rfl) rfl rfl rfl ⟨Nat.le_of_ble_eq_true rfl, Nat.le_of_ble_eq_true rfl⟩ (Nat.le_of_ble_eq_true rfl) dX7_dealtTo_207 rfl ?_
            refine z_if_eq (tgt := 222) C dX7_dealtTo_210 (by decide) (fun c55 => ?_) (fun c55 => ?_)
            · replace hf := if_t c55 hf
              refine z_iconst C (v := 0) dX7_dealtTo_222 rfl ?_
              refine z_ior C dX7_dealtTo_223 ?_
              refine z_topi (fun x51 e_x51 => ?_)
              replace hf := bn_to e_x51 hf
              refine z_istore C (lv2 := [(0, .ref ((zw K).2.1 0)), (2, .int a2), (3, .int a3), (4, .int x1), (5, .int i17), (6, .int i18), (7, .int y21), (8, .int x39), (9, .int x51), (10, .int i43), (11, .int y46)]) [1, 2, 3, 4, 5, 6, 7, 8, 0, 9, 10] dX7_dealtTo_224 (Nat.le_of_ble_eq_true rfl) rfl ?_
              obtain ⟨x52, e_x52⟩ : ∃ y : Int32, y = i43 + 1 := ⟨_, rfl⟩
              replace hf := bn_to e_x52 hf
              refine z_iinc C (lv2 := [(0, .ref ((zw K).2.1 0)), (2, .int a2), (3, .int a3), (4, .int x1), (5, .int i17), (6, .int i18), (7, .int y21), (8, .int x39), (9, .int x51), (10, .int x52), (11, .int y46)]) 9 [1, 2, 3, 4, 5, 6, 7, 8, 9, 0, 10] dX7_dealtTo_226 rfl rfl (Nat.le_of_ble_eq_true rfl) e_x52 rfl ?_
              refine z_goto (tgt := 144) C dX7_dealtTo_229 (by decide) ?_
              cases hf
              exact z_sub [0, 1, 2, 3, 4, 5, 6, 7, 8, 9] rfl (ih x51 x52 hz)
            · replace hf := if_f c55 hf
              refine z_iconst C (v := 1) dX7_dealtTo_213 rfl ?_
              refine z_iconst C (v := 1) dX7_dealtTo_214 rfl ?_
              refine z_iload C 9 dX7_dealtTo_215 rfl ?_
              refine z_ishl C dX7_dealtTo_217 ?_
              refine z_ishl C dX7_dealtTo_218 ?_
              refine z_goto (tgt := 223) C dX7_dealtTo_219 (by decide) ?_
              refine z_ior C dX7_dealtTo_223 ?_
              refine z_topi (fun x53 e_x53 => ?_)
              replace hf := bn_to e_x53 hf
              refine z_istore C (lv2 := [(0, .ref ((zw K).2.1 0)), (2, .int a2), (3, .int a3), (4, .int x1), (5, .int i17), (6, .int i18), (7, .int y21), (8, .int x39), (9, .int x53), (10, .int i43), (11, .int y46)]) [1, 2, 3, 4, 5, 6, 7, 8, 0, 9, 10] dX7_dealtTo_224 (Nat.le_of_ble_eq_true rfl) rfl ?_
              obtain ⟨x54, e_x54⟩ : ∃ y : Int32, y = i43 + 1 := ⟨_, rfl⟩
              replace hf := bn_to e_x54 hf
              refine z_iinc C (lv2 := [(0, .ref ((zw K).2.1 0)), (2, .int a2), (3, .int a3), (4, .int x1), (5, .int i17), (6, .int i18), (7, .int y21), (8, .int x39), (9, .int x53), (10, .int x54), (11, .int y46)]) 9 [1, 2, 3, 4, 5, 6, 7, 8, 9, 0, 10] dX7_dealtTo_226 rfl rfl (Nat.le_of_ble_eq_true rfl) e_x54 rfl ?_
              refine z_goto (tgt := 144) C dX7_dealtTo_229 (by decide) ?_
              cases hf
              exact z_sub [0, 1, 2, 3, 4, 5, 6, 7, 8, 9] rfl (ih x53 x54 hz)
        replace hf := hg
        clear hg
        refine z_icmp_eq (tgt := 186) C dX7_dealtTo_171 (by decide) (fun c59 => ?_) (fun c59 => ?_)
        · replace hf := if_t c59 hf
          refine z_iconst C (v := 1) dX7_dealtTo_186 rfl ?_
          refine z_goto (tgt := 191) C dX7_dealtTo_187 (by decide) ?_
          cases hf
          exact z_sub [0, 1, 2, 3, 4, 5, 6, 7, 8, 9] rfl hj
        · replace hf := if_f c59 hf
          refine z_aload_n C 0 dX7_dealtTo_174 rfl rfl ?_
          refine z_getr C (t := 39) (Nat.le_of_ble_eq_true rfl) rfl rfl 50 (Nat.le_of_ble_eq_true rfl) rfl kiX7_dealtTo_X7 kfX7_dealtTo_125 dX7_dealtTo_175 ?_
          refine z_iload C 9 dX7_dealtTo_178 rfl ?_
          obtain ⟨hi57, hf⟩ := ck_el hf
          refine z_iald C (k := 39) (Nat.le_of_ble_eq_true rfl) rfl hi57 dX7_dealtTo_180 ?_
          refine z_iload C 7 dX7_dealtTo_181 rfl ?_
          refine z_icmp_ne (tgt := 190) C dX7_dealtTo_183 (by decide) (fun c58 => ?_) (fun c58 => ?_)
          · replace hf := if_f c58 hf
            refine z_iconst C (v := 0) dX7_dealtTo_190 rfl ?_
            cases hf
            exact z_sub [0, 1, 2, 3, 4, 5, 6, 7, 8, 9] rfl hj
          · replace hf := if_t c58 hf
            refine z_iconst C (v := 1) dX7_dealtTo_186 rfl ?_
            refine z_goto (tgt := 191) C dX7_dealtTo_187 (by decide) ?_
            cases hf
            exact z_sub [0, 1, 2, 3, 4, 5, 6, 7, 8, 9] rfl hj
set_option maxRecDepth 100000 in
set_option maxHeartbeats 4000000 in
theorem w_X7_dealtTo_66 {K : ZK} (C : zOK MM K cX7_dealtTo 12 (some .int) RX7 wsX7_dealtTo rmX7_dealtTo) {a2 : Int32} {a3 : Int32} {x1 : Int32}  {o0 : Int32} {o1 : Mem} (hk : zGo MM K o1 [(5, .int o0)] 351 []) : ∀ (n : Nat) (i17 : Int32) (i18 : Int32) (m19 : Mem), l_X7_dealtTo_66 a2 a3 x1 n i17 i18 m19 = some (o0, o1) → zGo MM K m19 [(0, .ref ((zw K).2.1 0)), (2, .int a2), (3, .int a3), (4, .int x1), (5, .int i17), (6, .int i18)] 66 [] := by
  intro n
  induction n with
  | zero =>
    intro i17 i18 m19 hf
    cases hf
  | succ n ih =>
    intro i17 i18 m19 hf
    obtain ⟨z, hf, hz⟩ := zlp_el hf
    replace hf : t_X7_dealtTo_66 a2 a3 x1 i17 i18 m19 = some z := hf
    unfold t_X7_dealtTo_66 at hf
    refine z_iload C 5 dX7_dealtTo_66 rfl ?_
    refine z_if_lt (tgt := 351) C dX7_dealtTo_68 (by decide) (fun c76 => ?_) (fun c76 => ?_)
    · replace hf := if_t c76 hf
      cases hf
      replace hz := zlz_r hz
      cases hz
      exact z_sub [4] rfl hk
    · replace hf := if_f c76 hf
      refine z_aload_n C 0 dX7_dealtTo_71 rfl rfl ?_
      refine z_getr C (t := 15) (Nat.le_of_ble_eq_true rfl) rfl rfl 17 (Nat.le_of_ble_eq_true rfl) rfl kiX7_dealtTo_X7 kfX7_dealtTo_53 dX7_dealtTo_72 ?_
      refine z_iload C 3 dX7_dealtTo_75 rfl ?_
      refine z_iload C 5 dX7_dealtTo_77 rfl ?_
      refine z_iadd C dX7_dealtTo_79 ?_
      obtain ⟨hi20, hf⟩ := ck_el hf
      refine z_iald C (k := 15) (Nat.le_of_ble_eq_true rfl) rfl hi20 dX7_dealtTo_80 ?_
      refine z_bipush C (v := (-4)) dX7_dealtTo_81 (by decide) ?_
      obtain ⟨y21, hg, hf⟩ := zb_el hf
      have hj : zGo MM K m19 [(0, .ref ((zw K).2.1 0)), (2, .int a2), (3, .int a3), (4, .int x1), (5, .int i17), (6, .int i18)] 104 [.int y21] := by
        refine z_istore C (lv2 := [(0, .ref ((zw K).2.1 0)), (2, .int a2), (3, .int a3), (4, .int x1), (5, .int i17), (6, .int i18), (7, .int y21)]) [1, 2, 3, 4, 5, 6, 0] dX7_dealtTo_104 (Nat.le_of_ble_eq_true rfl) rfl ?_
        refine z_aload_n C 0 dX7_dealtTo_106 rfl rfl ?_
        refine z_getr C (t := 14) (Nat.le_of_ble_eq_true rfl) rfl rfl 16 (Nat.le_of_ble_eq_true rfl) rfl kiX7_dealtTo_X7 kfX7_dealtTo_50 dX7_dealtTo_107 ?_
        refine z_iload C 3 dX7_dealtTo_110 rfl ?_
        refine z_iload C 5 dX7_dealtTo_112 rfl ?_
        refine z_iadd C dX7_dealtTo_114 ?_
        obtain ⟨hi22, hf⟩ := ck_el hf
        refine z_iald C (k := 14) (Nat.le_of_ble_eq_true rfl) rfl hi22 dX7_dealtTo_115 ?_
        refine z_iconst C (v := 2) dX7_dealtTo_116 rfl ?_
        refine z_icmp_ne (tgt := 278) C dX7_dealtTo_117 (by decide) (fun c73 => ?_) (fun c73 => ?_)
        · replace hf := if_f c73 hf
          refine z_aload_n C 0 dX7_dealtTo_278 rfl rfl ?_
          refine z_getr C (t := 14) (Nat.le_of_ble_eq_true rfl) rfl rfl 16 (Nat.le_of_ble_eq_true rfl) rfl kiX7_dealtTo_X7 kfX7_dealtTo_50 dX7_dealtTo_279 ?_
          refine z_iload C 3 dX7_dealtTo_282 rfl ?_
          refine z_iload C 5 dX7_dealtTo_284 rfl ?_
          refine z_iadd C dX7_dealtTo_286 ?_
          obtain ⟨hi23, hf⟩ := ck_el hf
          refine z_iald C (k := 14) (Nat.le_of_ble_eq_true rfl) rfl hi23 dX7_dealtTo_287 ?_
          refine z_iconst C (v := 1) dX7_dealtTo_288 rfl ?_
          refine z_icmp_ne (tgt := 312) C dX7_dealtTo_289 (by decide) (fun c37 => ?_) (fun c37 => ?_)
          · replace hf := if_f c37 hf
            refine z_iload C 6 dX7_dealtTo_312 rfl ?_
            refine z_bipush C (v := (-4)) dX7_dealtTo_314 (by decide) ?_
            refine z_icmp_ne (tgt := 331) C dX7_dealtTo_316 (by decide) (fun c31 => ?_) (fun c31 => ?_)
            · replace hf := if_f c31 hf
              refine z_aload_n C 0 dX7_dealtTo_331 rfl rfl ?_
              refine z_getr C (t := 40) (Nat.le_of_ble_eq_true rfl) rfl rfl 51 (Nat.le_of_ble_eq_true rfl) rfl kiX7_dealtTo_X7 kfX7_dealtTo_128 dX7_dealtTo_332 ?_
              refine z_iload C 6 dX7_dealtTo_335 rfl ?_
              refine z_aload_n C 0 dX7_dealtTo_337 rfl rfl ?_
              refine z_getr C (t := 40) (Nat.le_of_ble_eq_true rfl) rfl rfl 51 (Nat.le_of_ble_eq_true rfl) rfl kiX7_dealtTo_X7 kfX7_dealtTo_128 dX7_dealtTo_338 ?_
              refine z_iload C 5 dX7_dealtTo_341 rfl ?_
              obtain ⟨hi24, hf⟩ := ck_el hf
              refine z_iald C (k := 40) (Nat.le_of_ble_eq_true rfl) rfl hi24 dX7_dealtTo_343 ?_
              obtain ⟨hi25, hf⟩ := ck_el hf
              refine z_iast C (k := 40) (Nat.le_of_ble_eq_true rfl) rfl hi25 dX7_dealtTo_344 ?_
              refine z_nm (fun m26 e_m26 => ?_)
              replace hf := bn_to e_m26 hf
              obtain ⟨x27, e_x27⟩ : ∃ y : Int32, y = i18 + (-1) := ⟨_, rfl⟩
              replace hf := bn_to e_x27 hf
              refine z_iinc C (lv2 := [(0, .ref ((zw K).2.1 0)), (2, .int a2), (3, .int a3), (4, .int x1), (5, .int i17), (6, .int x27), (7, .int y21)]) 5 [1, 2, 3, 4, 5, 0, 6] dX7_dealtTo_345 (by decide) rfl (Nat.le_of_ble_eq_true rfl) e_x27 rfl ?_
              refine z_goto (tgt := 66) C dX7_dealtTo_348 (by decide) ?_
              cases hf
              exact z_sub [0, 1, 2, 3, 4, 5] rfl (ih i17 x27 m26 hz)
            · replace hf := if_t c31 hf
              refine z_aload_n C 0 dX7_dealtTo_319 rfl rfl ?_
              refine z_getr C (t := 40) (Nat.le_of_ble_eq_true rfl) rfl rfl 51 (Nat.le_of_ble_eq_true rfl) rfl kiX7_dealtTo_X7 kfX7_dealtTo_128 dX7_dealtTo_320 ?_
              refine z_iload C 5 dX7_dealtTo_323 rfl ?_
              obtain ⟨hi28, hf⟩ := ck_el hf
              refine z_iald C (k := 40) (Nat.le_of_ble_eq_true rfl) rfl hi28 dX7_dealtTo_325 ?_
              refine z_topi (fun x29 e_x29 => ?_)
              replace hf := bn_to e_x29 hf
              refine z_istore C (lv2 := [(0, .ref ((zw K).2.1 0)), (2, .int a2), (3, .int a3), (4, .int x1), (5, .int x29), (6, .int i18), (7, .int y21)]) [1, 2, 3, 4, 0, 5, 6] dX7_dealtTo_326 (Nat.le_of_ble_eq_true rfl) rfl ?_
              refine z_goto (tgt := 345) C dX7_dealtTo_328 (by decide) ?_
              obtain ⟨x30, e_x30⟩ : ∃ y : Int32, y = i18 + (-1) := ⟨_, rfl⟩
              replace hf := bn_to e_x30 hf
              refine z_iinc C (lv2 := [(0, .ref ((zw K).2.1 0)), (2, .int a2), (3, .int a3), (4, .int x1), (5, .int x29), (6, .int x30), (7, .int y21)]) 5 [1, 2, 3, 4, 5, 0, 6] dX7_dealtTo_345 (by decide) rfl (Nat.le_of_ble_eq_true rfl) e_x30 rfl ?_
              refine z_goto (tgt := 66) C dX7_dealtTo_348 (by decide) ?_
              cases hf
              exact z_sub [0, 1, 2, 3, 4, 5] rfl (ih x29 x30 m19 hz)
          · replace hf := if_t c37 hf
            refine z_aload_n C 0 dX7_dealtTo_292 rfl rfl ?_
            refine z_getr C (t := 40) (Nat.le_of_ble_eq_true rfl) rfl rfl 51 (Nat.le_of_ble_eq_true rfl) rfl kiX7_dealtTo_X7 kfX7_dealtTo_128 dX7_dealtTo_293 ?_
            refine z_iload C 6 dX7_dealtTo_296 rfl ?_
            refine z_dup2 C dX7_dealtTo_298 ?_
            obtain ⟨hi32, hf⟩ := ck_el hf
            refine z_iald C (k := 40) (Nat.le_of_ble_eq_true rfl) rfl hi32 dX7_dealtTo_299 ?_
            refine z_aload_n C 0 dX7_dealtTo_300 rfl rfl ?_
            refine z_getr C (t := 40) (Nat.le_of_ble_eq_true rfl) rfl rfl 51 (Nat.le_of_ble_eq_true rfl) rfl kiX7_dealtTo_X7 kfX7_dealtTo_128 dX7_dealtTo_301 ?_
            refine z_iload C 5 dX7_dealtTo_304 rfl ?_
            obtain ⟨hi33, hf⟩ := ck_el hf
            refine z_iald C (k := 40) (Nat.le_of_ble_eq_true rfl) rfl hi33 dX7_dealtTo_306 ?_
            refine z_ior C dX7_dealtTo_307 ?_
            obtain ⟨hi34, hf⟩ := ck_el hf
            refine z_iast C (k := 40) (Nat.le_of_ble_eq_true rfl) rfl hi34 dX7_dealtTo_308 ?_
            refine z_nm (fun m35 e_m35 => ?_)
            replace hf := bn_to e_m35 hf
            refine z_goto (tgt := 345) C dX7_dealtTo_309 (by decide) ?_
            obtain ⟨x36, e_x36⟩ : ∃ y : Int32, y = i18 + (-1) := ⟨_, rfl⟩
            replace hf := bn_to e_x36 hf
            refine z_iinc C (lv2 := [(0, .ref ((zw K).2.1 0)), (2, .int a2), (3, .int a3), (4, .int x1), (5, .int i17), (6, .int x36), (7, .int y21)]) 5 [1, 2, 3, 4, 5, 0, 6] dX7_dealtTo_345 (by decide) rfl (Nat.le_of_ble_eq_true rfl) e_x36 rfl ?_
            refine z_goto (tgt := 66) C dX7_dealtTo_348 (by decide) ?_
            cases hf
            exact z_sub [0, 1, 2, 3, 4, 5] rfl (ih i17 x36 m35 hz)
        · replace hf := if_t c73 hf
          refine z_aload_n C 0 dX7_dealtTo_120 rfl rfl ?_
          refine z_getr C (t := 18) (Nat.le_of_ble_eq_true rfl) rfl rfl 20 (Nat.le_of_ble_eq_true rfl) rfl kiX7_dealtTo_X7 kfX7_dealtTo_62 dX7_dealtTo_121 ?_
          refine z_iload C 3 dX7_dealtTo_124 rfl ?_
          refine z_iload C 5 dX7_dealtTo_126 rfl ?_
          refine z_iadd C dX7_dealtTo_128 ?_
          obtain ⟨hi38, hf⟩ := ck_el hf
          refine z_iald C (k := 18) (Nat.le_of_ble_eq_true rfl) rfl hi38 dX7_dealtTo_129 ?_
          refine z_topi (fun x39 e_x39 => ?_)
          replace hf := bn_to e_x39 hf
          refine z_istore C (lv2 := [(0, .ref ((zw K).2.1 0)), (2, .int a2), (3, .int a3), (4, .int x1), (5, .int i17), (6, .int i18), (7, .int y21), (8, .int x39)]) [1, 2, 3, 4, 5, 6, 7, 0] dX7_dealtTo_130 (Nat.le_of_ble_eq_true rfl) rfl ?_
          refine z_aload_n C 0 dX7_dealtTo_132 rfl rfl ?_
          refine z_getr C (t := 40) (Nat.le_of_ble_eq_true rfl) rfl rfl 51 (Nat.le_of_ble_eq_true rfl) rfl kiX7_dealtTo_X7 kfX7_dealtTo_128 dX7_dealtTo_133 ?_
          refine z_iload C 5 dX7_dealtTo_136 rfl ?_
          obtain ⟨hi40, hf⟩ := ck_el hf
          refine z_iald C (k := 40) (Nat.le_of_ble_eq_true rfl) rfl hi40 dX7_dealtTo_138 ?_
          refine z_topi (fun x41 e_x41 => ?_)
          replace hf := bn_to e_x41 hf
          refine z_istore C (lv2 := [(0, .ref ((zw K).2.1 0)), (2, .int a2), (3, .int a3), (4, .int x1), (5, .int i17), (6, .int i18), (7, .int y21), (8, .int x39), (9, .int x41)]) [1, 2, 3, 4, 5, 6, 7, 8, 0] dX7_dealtTo_139 (Nat.le_of_ble_eq_true rfl) rfl ?_
          refine z_iconst C (v := 0) dX7_dealtTo_141 rfl ?_
          refine z_istore C (lv2 := [(0, .ref ((zw K).2.1 0)), (2, .int a2), (3, .int a3), (4, .int x1), (5, .int i17), (6, .int i18), (7, .int y21), (8, .int x39), (9, .int x41), (10, .int 0)]) [1, 2, 3, 4, 5, 6, 7, 8, 9, 0] dX7_dealtTo_142 (Nat.le_of_ble_eq_true rfl) rfl ?_
          obtain ⟨y62, hg, hf⟩ := zb_el hf
          refine z_sub [0, 1, 2, 3, 4, 5, 6, 7, 8, 9] rfl (w_X7_dealtTo_144 C  ?_ _ _ _ hg)
          clear hg
          refine z_aload_n C 0 dX7_dealtTo_232 rfl rfl ?_
          refine z_getr C (t := 40) (Nat.le_of_ble_eq_true rfl) rfl rfl 51 (Nat.le_of_ble_eq_true rfl) rfl kiX7_dealtTo_X7 kfX7_dealtTo_128 dX7_dealtTo_233 ?_
          refine z_iload C 6 dX7_dealtTo_236 rfl ?_
          refine z_aload_n C 0 dX7_dealtTo_238 rfl rfl ?_
          refine z_getr C (t := 40) (Nat.le_of_ble_eq_true rfl) rfl rfl 51 (Nat.le_of_ble_eq_true rfl) rfl kiX7_dealtTo_X7 kfX7_dealtTo_128 dX7_dealtTo_239 ?_
          refine z_iload C 6 dX7_dealtTo_242 rfl ?_
          obtain ⟨hi63, hf⟩ := ck_el hf
          refine z_iald C (k := 40) (Nat.le_of_ble_eq_true rfl) rfl hi63 dX7_dealtTo_244 ?_
          refine z_aload_n C 0 dX7_dealtTo_245 rfl rfl ?_
          refine z_iload C 7 dX7_dealtTo_246 rfl ?_
          refine z_aload_n C 0 dX7_dealtTo_248 rfl rfl ?_
          refine z_getr C (t := 16) (Nat.le_of_ble_eq_true rfl) rfl rfl 18 (Nat.le_of_ble_eq_true rfl) rfl kiX7_dealtTo_X7 kfX7_dealtTo_56 dX7_dealtTo_249 ?_
          refine z_iload C 3 dX7_dealtTo_252 rfl ?_
          refine z_iload C 5 dX7_dealtTo_254 rfl ?_
          refine z_iadd C dX7_dealtTo_256 ?_
          obtain ⟨hi64, hf⟩ := ck_el hf
          refine z_iald C (k := 16) (Nat.le_of_ble_eq_true rfl) rfl hi64 dX7_dealtTo_257 ?_
          refine z_aload_n C 0 dX7_dealtTo_258 rfl rfl ?_
          refine z_getr C (t := 17) (Nat.le_of_ble_eq_true rfl) rfl rfl 19 (Nat.le_of_ble_eq_true rfl) rfl kiX7_dealtTo_X7 kfX7_dealtTo_59 dX7_dealtTo_259 ?_
          refine z_iload C 3 dX7_dealtTo_262 rfl ?_
          refine z_iload C 5 dX7_dealtTo_264 rfl ?_
          refine z_iadd C dX7_dealtTo_266 ?_
          obtain ⟨hi65, hf⟩ := ck_el hf
          refine z_iald C (k := 17) (Nat.le_of_ble_eq_true rfl) rfl hi65 dX7_dealtTo_267 ?_
          obtain ⟨r67, hc66, hf⟩ := zb_el hf
          refine z_cVi C (c_X7_counted _ _ hc66) rfl gX7_dealtTo_X7_counted rfl rfl zdX7_counted rfl (Nat.le_of_ble_eq_true rfl) rfl rfl rfl ⟨Nat.le_of_ble_eq_true rfl, Nat.le_of_ble_eq_true rfl⟩ (Nat.le_of_ble_eq_true rfl) dX7_dealtTo_268 rfl ?_
          obtain ⟨r69, hc68, hf⟩ := zb_el hf
          refine z_cSi C (c_X7_joined _ _ hc68) rfl gX7_dealtTo_X7_joined rfl rfl zdX7_joined.2 rfl ⟨Nat.le_of_ble_eq_true rfl, Nat.le_of_ble_eq_true rfl⟩ (Nat.le_of_ble_eq_true rfl) dX7_dealtTo_271 rfl ?_
          obtain ⟨hi70, hf⟩ := ck_el hf
          refine z_iast C (k := 40) (Nat.le_of_ble_eq_true rfl) rfl hi70 dX7_dealtTo_274 ?_
          refine z_nm (fun m71 e_m71 => ?_)
          replace hf := bn_to e_m71 hf
          refine z_goto (tgt := 345) C dX7_dealtTo_275 (by decide) ?_
          obtain ⟨x72, e_x72⟩ : ∃ y : Int32, y = i18 + (-1) := ⟨_, rfl⟩
          replace hf := bn_to e_x72 hf
          refine z_iinc C (lv2 := [(0, .ref ((zw K).2.1 0)), (2, .int a2), (3, .int a3), (4, .int x1), (5, .int i17), (6, .int x72), (7, .int y21), (9, .int y62)]) 5 [1, 2, 3, 4, 5, 0, 6, 7] dX7_dealtTo_345 (by decide) rfl (Nat.le_of_ble_eq_true rfl) e_x72 rfl ?_
          refine z_goto (tgt := 66) C dX7_dealtTo_348 (by decide) ?_
          cases hf
          exact z_sub [0, 1, 2, 3, 4, 5] rfl (ih i17 x72 m71 hz)
      replace hf := hg
      clear hg
      refine z_icmp_ne (tgt := 91) C dX7_dealtTo_83 (by decide) (fun c75 => ?_) (fun c75 => ?_)
      · replace hf := if_f c75 hf
        refine z_aload_n C 0 dX7_dealtTo_91 rfl rfl ?_
        refine z_getr C (t := 15) (Nat.le_of_ble_eq_true rfl) rfl rfl 17 (Nat.le_of_ble_eq_true rfl) rfl kiX7_dealtTo_X7 kfX7_dealtTo_53 dX7_dealtTo_92 ?_
        refine z_iload C 3 dX7_dealtTo_95 rfl ?_
        refine z_iload C 5 dX7_dealtTo_97 rfl ?_
        refine z_iadd C dX7_dealtTo_99 ?_
        obtain ⟨hi74, hf⟩ := ck_el hf
        refine z_iald C (k := 15) (Nat.le_of_ble_eq_true rfl) rfl hi74 dX7_dealtTo_100 ?_
        refine z_iload C 3 dX7_dealtTo_101 rfl ?_
        refine z_isub C dX7_dealtTo_103 ?_
        cases hf
        exact z_sub [0, 1, 2, 3, 4, 5] rfl hj
      · replace hf := if_t c75 hf
        refine z_bipush C (v := (-4)) dX7_dealtTo_86 (by decide) ?_
        refine z_goto (tgt := 104) C dX7_dealtTo_88 (by decide) ?_
        cases hf
        exact z_sub [0, 1, 2, 3, 4, 5] rfl hj
set_option maxRecDepth 100000 in
set_option maxHeartbeats 4000000 in
theorem c_X7_dealtTo (l : Launch) (w : ZW) {m : Mem} {a1 : Int32} {a2 : Int32} {a3 : Int32} {r9 : Int32} {m9 : Mem}  (hf : s_X7_dealtTo m a1 a2 a3 = some (r9, m9)) : zCi MM l w yX7_dealtTo wsX7_dealtTo rmX7_dealtTo [.ref (w.2.1 0), .int a1, .int a2, .int a3] m m9 r9 := by
  refine z_met_i MM_ok (own := RX7) (by decide +kernel) rfl rfl (Nat.le_of_ble_eq_true rfl) ?_
  intro K C hKw hKl hret
  subst hKw
  subst hKl
  unfold s_X7_dealtTo at hf
  show zGo MM K m [(0, .ref ((zw K).2.1 0)), (1, .int a1), (2, .int a2), (3, .int a3)] 0 []
  refine z_sipush C (v := 160) dX7_dealtTo_0 rfl ?_
  refine z_iload_n C 1 dX7_dealtTo_3 rfl rfl ?_
  refine z_imul C dX7_dealtTo_4 ?_
  refine z_topi (fun x1 e_x1 => ?_)
  replace hf := bn_to e_x1 hf
  refine z_istore C (lv2 := [(0, .ref ((zw K).2.1 0)), (1, .int a1), (2, .int a2), (3, .int a3), (4, .int x1)]) [1, 2, 3, 4, 0] dX7_dealtTo_5 (Nat.le_of_ble_eq_true rfl) rfl ?_
  refine z_iconst C (v := 0) dX7_dealtTo_7 rfl ?_
  refine z_istore C (lv2 := [(0, .ref ((zw K).2.1 0)), (1, .int a1), (2, .int a2), (3, .int a3), (4, .int x1), (5, .int 0)]) [1, 2, 3, 4, 5, 0] dX7_dealtTo_8 (Nat.le_of_ble_eq_true rfl) rfl ?_
  obtain ⟨m14, hg, hf⟩ := zb_el hf
  refine z_sub [0, 1, 2, 3, 4, 5] rfl (w_X7_dealtTo_10 C  ?_ _ _ _ hg)
  clear hg
  refine z_iconst C (v := 1) dX7_dealtTo_53 rfl ?_
  refine z_istore C (lv2 := [(0, .ref ((zw K).2.1 0)), (1, .int a1), (2, .int a2), (3, .int a3), (4, .int x1), (5, .int 1)]) [1, 2, 3, 4, 5, 0] dX7_dealtTo_54 (Nat.le_of_ble_eq_true rfl) rfl ?_
  refine z_aload_n C 0 dX7_dealtTo_56 rfl rfl ?_
  refine z_getr C (t := 13) (Nat.le_of_ble_eq_true rfl) rfl rfl 15 (Nat.le_of_ble_eq_true rfl) rfl kiX7_dealtTo_X7 kfX7_dealtTo_47 dX7_dealtTo_57 ?_
  refine z_iload_n C 1 dX7_dealtTo_60 rfl rfl ?_
  obtain ⟨hi15, hf⟩ := ck_el hf
  refine z_iald C (k := 13) (Nat.le_of_ble_eq_true rfl) rfl hi15 dX7_dealtTo_61 ?_
  refine z_iconst C (v := 1) dX7_dealtTo_62 rfl ?_
  refine z_isub C dX7_dealtTo_63 ?_
  refine z_topi (fun x16 e_x16 => ?_)
  replace hf := bn_to e_x16 hf
  refine z_istore C (lv2 := [(0, .ref ((zw K).2.1 0)), (1, .int a1), (2, .int a2), (3, .int a3), (4, .int x1), (5, .int 1), (6, .int x16)]) [1, 2, 3, 4, 5, 6, 0] dX7_dealtTo_64 (Nat.le_of_ble_eq_true rfl) rfl ?_
  obtain ⟨y77, m78, hg, hf⟩ := zb2_el hf
  refine z_sub [0, 2, 3, 4, 5, 6] rfl (w_X7_dealtTo_66 C  ?_ _ _ _ _ hg)
  clear hg
  refine z_iload C 0 dX7_dealtTo_351 rfl ?_
  cases hf
  exact hret _ _ dX7_dealtTo_353
def rmX7_can : Room := { frames := 3, cells := 0, slots := 0, locals := 81 }
theorem zdX7_can : yX7_can.cls = RX7 ∧ yX7_can.cls ≠ "java/lang/invoke/MethodHandle" ∧ yX7_can.cls ≠ "java/lang/invoke/VarHandle" ∧ (parseMethodDescriptor yX7_can.desc).map (fun d => d.parameters.length) = some 3 := by decide +kernel
theorem kiX7_can_X7 : ∀ w ∈ wsX70, w ∈ wsX7_can := by decide +kernel
theorem kfX7_can_29 : Cond.fieldLink RX7 29 "ShapeJudgeModel" "closed" "[Z" ∈ wsX7_can := by decide +kernel
theorem kfX7_can_17 : Cond.fieldLink RX7 17 "ShapeJudgeModel" "many" "[I" ∈ wsX7_can := by decide +kernel
def s_X7_can (m : Mem) (a1 : Int32) (a2 : Int32) (a3 : Int32) : Option (Int32 × Mem) :=
  (s_X7_wantedSet m a1 a2).bind fun r2 => ck (zin a1 6 = true) ((if (m 7 (Int32.toNatClampNeg a1)) = 0 then (zb2 (s_X7_dealtTo m a1 a2 a3) fun r5 m6 => (if ((r5 >>> (r2 &&& 31)) &&& 1) = 1 then (some (1, m6)) else (some (0, m6)))) else (ck (zin a2 10 = true) ((if r2 = (((1 : Int32) <<< ((m 3 (Int32.toNatClampNeg a2)) &&& 31)) - 1) then (zb2 (s_X7_dealtTo m a1 a2 a3) fun r10 m11 => (if ((r10 >>> (r2 &&& 31)) &&& 1) = 1 then (some (1, m11)) else (some (0, m11)))) else (some (0, m)))))))
set_option maxRecDepth 100000 in
set_option maxHeartbeats 4000000 in
theorem c_X7_can (l : Launch) (w : ZW) {m : Mem} {a1 : Int32} {a2 : Int32} {a3 : Int32} {r9 : Int32} {m9 : Mem}  (hf : s_X7_can m a1 a2 a3 = some (r9, m9)) : zCi MM l w yX7_can wsX7_can rmX7_can [.ref (w.2.1 0), .int a1, .int a2, .int a3] m m9 r9 := by
  refine z_met_z MM_ok (own := RX7) (by decide +kernel) rfl rfl (Nat.le_of_ble_eq_true rfl) ?_
  intro K C hKw hKl hret
  subst hKw
  subst hKl
  unfold s_X7_can at hf
  show zGo MM K m [(0, .ref ((zw K).2.1 0)), (1, .int a1), (2, .int a2), (3, .int a3)] 0 []
  refine z_aload_n C 0 dX7_can_0 rfl rfl ?_
  refine z_iload_n C 1 dX7_can_1 rfl rfl ?_
  refine z_iload_n C 2 dX7_can_2 rfl rfl ?_
  obtain ⟨r2, hc1, hf⟩ := zb_el hf
  refine z_cVi C (c_X7_wantedSet _ _ hc1) rfl gX7_can_X7_wantedSet rfl rfl zdX7_wantedSet rfl (Nat.le_of_ble_eq_true rfl) rfl rfl rfl ⟨Nat.le_of_ble_eq_true rfl, Nat.le_of_ble_eq_true rfl⟩ (Nat.le_of_ble_eq_true rfl) dX7_can_3 rfl ?_
  refine z_istore C (lv2 := [(0, .ref ((zw K).2.1 0)), (1, .int a1), (2, .int a2), (3, .int a3), (4, .int r2)]) [1, 2, 3, 4, 0] dX7_can_6 (Nat.le_of_ble_eq_true rfl) rfl ?_
  refine z_aload_n C 0 dX7_can_8 rfl rfl ?_
  refine z_getr C (t := 7) (Nat.le_of_ble_eq_true rfl) rfl rfl 9 (Nat.le_of_ble_eq_true rfl) rfl kiX7_can_X7 kfX7_can_29 dX7_can_9 ?_
  refine z_iload_n C 1 dX7_can_12 rfl rfl ?_
  obtain ⟨hi3, hf⟩ := ck_el hf
  refine z_zald C (k := 7) (Nat.le_of_ble_eq_true rfl) rfl hi3 dX7_can_13 ?_
  refine z_if_eq (tgt := 34) C dX7_can_14 (by decide) (fun c14 => ?_) (fun c14 => ?_)
  · replace hf := if_t c14 hf
    refine z_aload_n C 0 dX7_can_34 rfl rfl ?_
    refine z_iload_n C 1 dX7_can_35 rfl rfl ?_
    refine z_iload_n C 2 dX7_can_36 rfl rfl ?_
    refine z_iload_n C 3 dX7_can_37 rfl rfl ?_
    obtain ⟨r5, m6, hc4, hf⟩ := zb2_el hf
    refine z_cVi C (c_X7_dealtTo _ _ hc4) rfl gX7_can_X7_dealtTo rfl rfl zdX7_dealtTo rfl (Nat.le_of_ble_eq_true rfl) rfl rfl rfl ⟨Nat.le_of_ble_eq_true rfl, Nat.le_of_ble_eq_true rfl⟩ (Nat.le_of_ble_eq_true rfl) dX7_can_38 rfl ?_
    refine z_iload C 4 dX7_can_41 rfl ?_
    refine z_ishr C dX7_can_43 ?_
    refine z_iconst C (v := 1) dX7_can_44 rfl ?_
    refine z_iand C dX7_can_45 ?_
    refine z_iconst C (v := 1) dX7_can_46 rfl ?_
    refine z_icmp_ne (tgt := 54) C dX7_can_47 (by decide) (fun c7 => ?_) (fun c7 => ?_)
    · replace hf := if_f c7 hf
      refine z_iconst C (v := 0) dX7_can_54 rfl ?_
      cases hf
      exact hret _ _ dX7_can_55 (Or.inl rfl)
    · replace hf := if_t c7 hf
      refine z_iconst C (v := 1) dX7_can_50 rfl ?_
      refine z_goto (tgt := 55) C dX7_can_51 (by decide) ?_
      cases hf
      exact hret _ _ dX7_can_55 (Or.inr rfl)
  · replace hf := if_f c14 hf
    refine z_iload C 4 dX7_can_17 rfl ?_
    refine z_iconst C (v := 1) dX7_can_19 rfl ?_
    refine z_aload_n C 0 dX7_can_20 rfl rfl ?_
    refine z_getr C (t := 3) (Nat.le_of_ble_eq_true rfl) rfl rfl 3 (Nat.le_of_ble_eq_true rfl) rfl kiX7_can_X7 kfX7_can_17 dX7_can_21 ?_
    refine z_iload_n C 2 dX7_can_24 rfl rfl ?_
    obtain ⟨hi8, hf⟩ := ck_el hf
    refine z_iald C (k := 3) (Nat.le_of_ble_eq_true rfl) rfl hi8 dX7_can_25 ?_
    refine z_ishl C dX7_can_26 ?_
    refine z_iconst C (v := 1) dX7_can_27 rfl ?_
    refine z_isub C dX7_can_28 ?_
    refine z_icmp_eq (tgt := 34) C dX7_can_29 (by decide) (fun c13 => ?_) (fun c13 => ?_)
    · replace hf := if_t c13 hf
      refine z_aload_n C 0 dX7_can_34 rfl rfl ?_
      refine z_iload_n C 1 dX7_can_35 rfl rfl ?_
      refine z_iload_n C 2 dX7_can_36 rfl rfl ?_
      refine z_iload_n C 3 dX7_can_37 rfl rfl ?_
      obtain ⟨r10, m11, hc9, hf⟩ := zb2_el hf
      refine z_cVi C (c_X7_dealtTo _ _ hc9) rfl gX7_can_X7_dealtTo rfl rfl zdX7_dealtTo rfl (Nat.le_of_ble_eq_true rfl) rfl rfl rfl ⟨Nat.le_of_ble_eq_true rfl, Nat.le_of_ble_eq_true rfl⟩ (Nat.le_of_ble_eq_true rfl) dX7_can_38 rfl ?_
      refine z_iload C 4 dX7_can_41 rfl ?_
      refine z_ishr C dX7_can_43 ?_
      refine z_iconst C (v := 1) dX7_can_44 rfl ?_
      refine z_iand C dX7_can_45 ?_
      refine z_iconst C (v := 1) dX7_can_46 rfl ?_
      refine z_icmp_ne (tgt := 54) C dX7_can_47 (by decide) (fun c12 => ?_) (fun c12 => ?_)
      · replace hf := if_f c12 hf
        refine z_iconst C (v := 0) dX7_can_54 rfl ?_
        cases hf
        exact hret _ _ dX7_can_55 (Or.inl rfl)
      · replace hf := if_t c12 hf
        refine z_iconst C (v := 1) dX7_can_50 rfl ?_
        refine z_goto (tgt := 55) C dX7_can_51 (by decide) ?_
        cases hf
        exact hret _ _ dX7_can_55 (Or.inr rfl)
    · replace hf := if_f c13 hf
      refine z_iconst C (v := 0) dX7_can_32 rfl ?_
      cases hf
      exact hret _ _ dX7_can_33 (Or.inl rfl)
def rmX7_changes : Room := { frames := 4, cells := 0, slots := 0, locals := 105 }
theorem zdX7_changes : yX7_changes.cls = RX7 ∧ yX7_changes.cls ≠ "java/lang/invoke/MethodHandle" ∧ yX7_changes.cls ≠ "java/lang/invoke/VarHandle" ∧ (parseMethodDescriptor yX7_changes.desc).map (fun d => d.parameters.length) = some 2 := by decide +kernel
theorem kiX7_changes_X7 : ∀ w ∈ wsX70, w ∈ wsX7_changes := by decide +kernel
theorem kfX7_changes_258 : Cond.fieldLink RX7 258 "ShapeJudgeModel" "shapes" "I" ∈ wsX7_changes := by decide +kernel
theorem kfX7_changes_140 : Cond.fieldLink RX7 140 "ShapeJudgeModel" "nodes" "I" ∈ wsX7_changes := by decide +kernel
theorem kfX7_changes_131 : Cond.fieldLink RX7 131 "ShapeJudgeModel" "ranks" "[I" ∈ wsX7_changes := by decide +kernel
theorem kfX7_changes_119 : Cond.fieldLink RX7 119 "ShapeJudgeModel" "fitting" "[Z" ∈ wsX7_changes := by decide +kernel
theorem kfX7_changes_122 : Cond.fieldLink RX7 122 "ShapeJudgeModel" "sure" "[Z" ∈ wsX7_changes := by decide +kernel
def t_X7_changes_17 (a1 : Int32) (a2 : Int32) (i2 : Int32) (i4 : Int32) (i5 : Int32) (m6 : Mem) : Option ((Int32 × Int32 × Mem) ⊕ (Int32 × Mem)) :=
  (if (m6 0 0) ≤ i5 then (some (.inr (i4, m6))) else (ck (zin i2 6 = true) ((if (m6 41 (Int32.toNatClampNeg i2)) = a1 then (bn (((10 : Int32) * i2) + i5) fun x8 => (if a2 = 0 then (ck (zin x8 60 = true) ((if (m6 37 (Int32.toNatClampNeg x8)) = 0 then (bn (i5 + 1) fun x10 => some (.inl (i4, x10, m6))) else (zb2 (s_X7_can m6 i2 i5 0) fun r12 m13 => (if r12 = 0 then ((if a2 = 0 then (ck (zin x8 60 = true) (bn (sto m13 37 (Int32.toNatClampNeg x8) (vp_nar .boolean 0)) fun m16 => ck (zin x8 60 = true) (bn (sto m16 38 (Int32.toNatClampNeg x8) (vp_nar .boolean a2)) fun m18 => bn (i5 + 1) fun x19 => some (.inl (1, x19, m18))))) else (ck (zin x8 60 = true) (ck (zin x8 60 = true) (bn (sto m13 37 (Int32.toNatClampNeg x8) (vp_nar .boolean (m13 37 (Int32.toNatClampNeg x8)))) fun m22 => ck (zin x8 60 = true) (bn (sto m22 38 (Int32.toNatClampNeg x8) (vp_nar .boolean a2)) fun m24 => bn (i5 + 1) fun x25 => some (.inl (1, x25, m24)))))))) else (bn (i5 + 1) fun x14 => some (.inl (i4, x14, m13)))))))) else (ck (zin x8 60 = true) ((if (m6 38 (Int32.toNatClampNeg x8)) = 0 then (zb2 (s_X7_can m6 i2 i5 1) fun r32 m33 => (if r32 = 0 then (bn (i5 + 1) fun x34 => some (.inl (i4, x34, m33))) else ((if a2 = 0 then (ck (zin x8 60 = true) (bn (sto m33 37 (Int32.toNatClampNeg x8) (vp_nar .boolean 0)) fun m36 => ck (zin x8 60 = true) (bn (sto m36 38 (Int32.toNatClampNeg x8) (vp_nar .boolean a2)) fun m38 => bn (i5 + 1) fun x39 => some (.inl (1, x39, m38))))) else (ck (zin x8 60 = true) (ck (zin x8 60 = true) (bn (sto m33 37 (Int32.toNatClampNeg x8) (vp_nar .boolean (m33 37 (Int32.toNatClampNeg x8)))) fun m42 => ck (zin x8 60 = true) (bn (sto m42 38 (Int32.toNatClampNeg x8) (vp_nar .boolean a2)) fun m44 => bn (i5 + 1) fun x45 => some (.inl (1, x45, m44)))))))))) else (bn (i5 + 1) fun x30 => some (.inl (i4, x30, m6)))))))) else (some (.inr (i4, m6)))))))
def l_X7_changes_17 (a1 : Int32) (a2 : Int32) (i2 : Int32) (n : Nat) (i4 : Int32) (i5 : Int32) (m6 : Mem) : Option (Int32 × Mem) := zlp n (fun a => t_X7_changes_17 a1 a2 i2 a.1 a.2.1 a.2.2) (i4, i5, m6)
def t_X7_changes_5 (a1 : Int32) (a2 : Int32) (i1 : Int32) (i2 : Int32) (m3 : Mem) : Option ((Int32 × Int32 × Mem) ⊕ (Int32 × Mem)) :=
  (if (m3 0 7) ≤ i2 then (some (.inr (i1, m3))) else ((zb2 (l_X7_changes_17 a1 a2 i2 FU i1 0 m3) fun y52 m53 => bn (i2 + 1) fun x54 => some (.inl (y52, x54, m53)))))
def l_X7_changes_5 (a1 : Int32) (a2 : Int32) (n : Nat) (i1 : Int32) (i2 : Int32) (m3 : Mem) : Option (Int32 × Mem) := zlp n (fun a => t_X7_changes_5 a1 a2 a.1 a.2.1 a.2.2) (i1, i2, m3)
def s_X7_changes (m : Mem) (a1 : Int32) (a2 : Int32) : Option (Int32 × Mem) :=
  (zb2 (l_X7_changes_5 a1 a2 FU 0 0 m) fun y56 m57 => ck (y56 = 0 ∨ y56 = 1) (some (y56, m57)))
set_option maxRecDepth 100000 in
set_option maxHeartbeats 4000000 in
theorem w_X7_changes_17 {K : ZK} (C : zOK MM K cX7_changes 7 (some .boolean) RX7 wsX7_changes rmX7_changes) {a1 : Int32} {a2 : Int32} {i2 : Int32}  {o0 : Int32} {o1 : Mem} (hk : zGo MM K o1 [(0, .ref ((zw K).2.1 0)), (1, .int a1), (2, .int a2), (3, .int o0), (4, .int i2)] 136 []) : ∀ (n : Nat) (i4 : Int32) (i5 : Int32) (m6 : Mem), l_X7_changes_17 a1 a2 i2 n i4 i5 m6 = some (o0, o1) → zGo MM K m6 [(0, .ref ((zw K).2.1 0)), (1, .int a1), (2, .int a2), (3, .int i4), (4, .int i2), (5, .int i5)] 17 [] := by
  intro n
  induction n with
  | zero =>
    intro i4 i5 m6 hf
    cases hf
  | succ n ih =>
    intro i4 i5 m6 hf
    obtain ⟨z, hf, hz⟩ := zlp_el hf
    replace hf : t_X7_changes_17 a1 a2 i2 i4 i5 m6 = some z := hf
    unfold t_X7_changes_17 at hf
    refine z_iload C 5 dX7_changes_17 rfl ?_
    refine z_aload_n C 0 dX7_changes_19 rfl rfl ?_
    refine z_geti C (Nat.le_of_ble_eq_true rfl) rfl rfl 0 (Nat.le_of_ble_eq_true rfl) rfl kiX7_changes_X7 kfX7_changes_140 dX7_changes_20 ?_
    refine z_icmp_ge (tgt := 136) C dX7_changes_23 (by decide) (fun c51 => ?_) (fun c51 => ?_)
    · replace hf := if_t c51 hf
      cases hf
      replace hz := zlz_r hz
      cases hz
      exact z_sub [0, 1, 2, 3, 4] rfl hk
    · replace hf := if_f c51 hf
      refine z_aload_n C 0 dX7_changes_26 rfl rfl ?_
      refine z_getr C (t := 41) (Nat.le_of_ble_eq_true rfl) rfl rfl 52 (Nat.le_of_ble_eq_true rfl) rfl kiX7_changes_X7 kfX7_changes_131 dX7_changes_27 ?_
      refine z_iload C 4 dX7_changes_30 rfl ?_
      obtain ⟨hi7, hf⟩ := ck_el hf
      refine z_iald C (k := 41) (Nat.le_of_ble_eq_true rfl) rfl hi7 dX7_changes_32 ?_
      refine z_iload_n C 1 dX7_changes_33 rfl rfl ?_
      refine z_icmp_ne (tgt := 136) C dX7_changes_34 (by decide) (fun c50 => ?_) (fun c50 => ?_)
      · replace hf := if_f c50 hf
        cases hf
        replace hz := zlz_r hz
        cases hz
        exact z_sub [0, 1, 2, 3, 4] rfl hk
      · replace hf := if_t c50 hf
        refine z_bipush C (v := 10) dX7_changes_37 rfl ?_
        refine z_iload C 4 dX7_changes_39 rfl ?_
        refine z_imul C dX7_changes_41 ?_
        refine z_iload C 5 dX7_changes_42 rfl ?_
        refine z_iadd C dX7_changes_44 ?_
        refine z_topi (fun x8 e_x8 => ?_)
        replace hf := bn_to e_x8 hf
        refine z_istore C (lv2 := [(0, .ref ((zw K).2.1 0)), (1, .int a1), (2, .int a2), (3, .int i4), (4, .int i2), (5, .int i5), (6, .int x8)]) [1, 2, 3, 4, 5, 6, 0] dX7_changes_45 (Nat.le_of_ble_eq_true rfl) rfl ?_
        refine z_iload_n C 2 dX7_changes_47 rfl rfl ?_
        refine z_if_eq (tgt := 76) C dX7_changes_48 (by decide) (fun c49 => ?_) (fun c49 => ?_)
        · replace hf := if_t c49 hf
          refine z_aload_n C 0 dX7_changes_76 rfl rfl ?_
          refine z_getr C (t := 37) (Nat.le_of_ble_eq_true rfl) rfl rfl 48 (Nat.le_of_ble_eq_true rfl) rfl kiX7_changes_X7 kfX7_changes_119 dX7_changes_77 ?_
          refine z_iload C 6 dX7_changes_80 rfl ?_
          obtain ⟨hi9, hf⟩ := ck_el hf
          refine z_zald C (k := 37) (Nat.le_of_ble_eq_true rfl) rfl hi9 dX7_changes_82 ?_
          refine z_if_eq (tgt := 130) C dX7_changes_83 (by decide) (fun c28 => ?_) (fun c28 => ?_)
          · replace hf := if_t c28 hf
            obtain ⟨x10, e_x10⟩ : ∃ y : Int32, y = i5 + 1 := ⟨_, rfl⟩
            replace hf := bn_to e_x10 hf
            refine z_iinc C (lv2 := [(0, .ref ((zw K).2.1 0)), (1, .int a1), (2, .int a2), (3, .int i4), (4, .int i2), (5, .int x10), (6, .int x8)]) 5 [1, 2, 3, 4, 5, 0, 6] dX7_changes_130 rfl rfl (Nat.le_of_ble_eq_true rfl) e_x10 rfl ?_
            refine z_goto (tgt := 17) C dX7_changes_133 (by decide) ?_
            cases hf
            exact z_sub [0, 1, 2, 3, 4, 5] rfl (ih i4 x10 m6 hz)
          · replace hf := if_f c28 hf
            refine z_aload_n C 0 dX7_changes_86 rfl rfl ?_
            refine z_iload C 4 dX7_changes_87 rfl ?_
            refine z_iload C 5 dX7_changes_89 rfl ?_
            refine z_iconst C (v := 0) dX7_changes_91 rfl ?_
            obtain ⟨r12, m13, hc11, hf⟩ := zb2_el hf
            refine z_cVi C (c_X7_can _ _ hc11) rfl gX7_changes_X7_can rfl rfl zdX7_can rfl (Nat.le_of_ble_eq_true rfl) rfl rfl rfl ⟨Nat.le_of_ble_eq_true rfl, Nat.le_of_ble_eq_true rfl⟩ (Nat.le_of_ble_eq_true rfl) dX7_changes_92 rfl ?_
            refine z_if_ne (tgt := 130) C dX7_changes_95 (by decide) (fun c27 => ?_) (fun c27 => ?_)
            · replace hf := if_f c27 hf
              obtain ⟨x14, e_x14⟩ : ∃ y : Int32, y = i5 + 1 := ⟨_, rfl⟩
              replace hf := bn_to e_x14 hf
              refine z_iinc C (lv2 := [(0, .ref ((zw K).2.1 0)), (1, .int a1), (2, .int a2), (3, .int i4), (4, .int i2), (5, .int x14), (6, .int x8)]) 5 [1, 2, 3, 4, 5, 0, 6] dX7_changes_130 rfl rfl (Nat.le_of_ble_eq_true rfl) e_x14 rfl ?_
              refine z_goto (tgt := 17) C dX7_changes_133 (by decide) ?_
              cases hf
              exact z_sub [0, 1, 2, 3, 4, 5] rfl (ih i4 x14 m13 hz)
            · replace hf := if_t c27 hf
              refine z_aload_n C 0 dX7_changes_98 rfl rfl ?_
              refine z_getr C (t := 37) (Nat.le_of_ble_eq_true rfl) rfl rfl 48 (Nat.le_of_ble_eq_true rfl) rfl kiX7_changes_X7 kfX7_changes_119 dX7_changes_99 ?_
              refine z_iload C 6 dX7_changes_102 rfl ?_
              refine z_iload_n C 2 dX7_changes_104 rfl rfl ?_
              refine z_if_eq (tgt := 118) C dX7_changes_105 (by decide) (fun c26 => ?_) (fun c26 => ?_)
              · replace hf := if_t c26 hf
                refine z_iconst C (v := 0) dX7_changes_118 rfl ?_
                obtain ⟨hi15, hf⟩ := ck_el hf
                refine z_zast C (k := 37) (Nat.le_of_ble_eq_true rfl) rfl hi15 dX7_changes_119 ?_
                refine z_nm (fun m16 e_m16 => ?_)
                replace hf := bn_to e_m16 hf
                refine z_aload_n C 0 dX7_changes_120 rfl rfl ?_
                refine z_getr C (t := 38) (Nat.le_of_ble_eq_true rfl) rfl rfl 49 (Nat.le_of_ble_eq_true rfl) rfl kiX7_changes_X7 kfX7_changes_122 dX7_changes_121 ?_
                refine z_iload C 6 dX7_changes_124 rfl ?_
                refine z_iload_n C 2 dX7_changes_126 rfl rfl ?_
                obtain ⟨hi17, hf⟩ := ck_el hf
                refine z_zast C (k := 38) (Nat.le_of_ble_eq_true rfl) rfl hi17 dX7_changes_127 ?_
                refine z_nm (fun m18 e_m18 => ?_)
                replace hf := bn_to e_m18 hf
                refine z_iconst C (v := 1) dX7_changes_128 rfl ?_
                refine z_istore_n C (lv2 := [(0, .ref ((zw K).2.1 0)), (1, .int a1), (2, .int a2), (3, .int 1), (4, .int i2), (5, .int i5), (6, .int x8)]) [1, 2, 3, 0, 4, 5, 6] dX7_changes_129 rfl (Nat.le_of_ble_eq_true rfl) rfl ?_
                obtain ⟨x19, e_x19⟩ : ∃ y : Int32, y = i5 + 1 := ⟨_, rfl⟩
                replace hf := bn_to e_x19 hf
                refine z_iinc C (lv2 := [(0, .ref ((zw K).2.1 0)), (1, .int a1), (2, .int a2), (3, .int 1), (4, .int i2), (5, .int x19), (6, .int x8)]) 5 [1, 2, 3, 4, 5, 0, 6] dX7_changes_130 rfl rfl (Nat.le_of_ble_eq_true rfl) e_x19 rfl ?_
                refine z_goto (tgt := 17) C dX7_changes_133 (by decide) ?_
                cases hf
                exact z_sub [0, 1, 2, 3, 4, 5] rfl (ih 1 x19 m18 hz)
              · replace hf := if_f c26 hf
                refine z_aload_n C 0 dX7_changes_108 rfl rfl ?_
                refine z_getr C (t := 37) (Nat.le_of_ble_eq_true rfl) rfl rfl 48 (Nat.le_of_ble_eq_true rfl) rfl kiX7_changes_X7 kfX7_changes_119 dX7_changes_109 ?_
                refine z_iload C 6 dX7_changes_112 rfl ?_
                obtain ⟨hi20, hf⟩ := ck_el hf
                refine z_zald C (k := 37) (Nat.le_of_ble_eq_true rfl) rfl hi20 dX7_changes_114 ?_
                refine z_goto (tgt := 119) C dX7_changes_115 (by decide) ?_
                obtain ⟨hi21, hf⟩ := ck_el hf
                refine z_zast C (k := 37) (Nat.le_of_ble_eq_true rfl) rfl hi21 dX7_changes_119 ?_
                refine z_nm (fun m22 e_m22 => ?_)
                replace hf := bn_to e_m22 hf
                refine z_aload_n C 0 dX7_changes_120 rfl rfl ?_
                refine z_getr C (t := 38) (Nat.le_of_ble_eq_true rfl) rfl rfl 49 (Nat.le_of_ble_eq_true rfl) rfl kiX7_changes_X7 kfX7_changes_122 dX7_changes_121 ?_
                refine z_iload C 6 dX7_changes_124 rfl ?_
                refine z_iload_n C 2 dX7_changes_126 rfl rfl ?_
                obtain ⟨hi23, hf⟩ := ck_el hf
                refine z_zast C (k := 38) (Nat.le_of_ble_eq_true rfl) rfl hi23 dX7_changes_127 ?_
                refine z_nm (fun m24 e_m24 => ?_)
                replace hf := bn_to e_m24 hf
                refine z_iconst C (v := 1) dX7_changes_128 rfl ?_
                refine z_istore_n C (lv2 := [(0, .ref ((zw K).2.1 0)), (1, .int a1), (2, .int a2), (3, .int 1), (4, .int i2), (5, .int i5), (6, .int x8)]) [1, 2, 3, 0, 4, 5, 6] dX7_changes_129 rfl (Nat.le_of_ble_eq_true rfl) rfl ?_
                obtain ⟨x25, e_x25⟩ : ∃ y : Int32, y = i5 + 1 := ⟨_, rfl⟩
                replace hf := bn_to e_x25 hf
                refine z_iinc C (lv2 := [(0, .ref ((zw K).2.1 0)), (1, .int a1), (2, .int a2), (3, .int 1), (4, .int i2), (5, .int x25), (6, .int x8)]) 5 [1, 2, 3, 4, 5, 0, 6] dX7_changes_130 rfl rfl (Nat.le_of_ble_eq_true rfl) e_x25 rfl ?_
                refine z_goto (tgt := 17) C dX7_changes_133 (by decide) ?_
                cases hf
                exact z_sub [0, 1, 2, 3, 4, 5] rfl (ih 1 x25 m24 hz)
        · replace hf := if_f c49 hf
          refine z_aload_n C 0 dX7_changes_51 rfl rfl ?_
          refine z_getr C (t := 38) (Nat.le_of_ble_eq_true rfl) rfl rfl 49 (Nat.le_of_ble_eq_true rfl) rfl kiX7_changes_X7 kfX7_changes_122 dX7_changes_52 ?_
          refine z_iload C 6 dX7_changes_55 rfl ?_
          obtain ⟨hi29, hf⟩ := ck_el hf
          refine z_zald C (k := 38) (Nat.le_of_ble_eq_true rfl) rfl hi29 dX7_changes_57 ?_
          refine z_if_ne (tgt := 130) C dX7_changes_58 (by decide) (fun c48 => ?_) (fun c48 => ?_)
          · replace hf := if_f c48 hf
            obtain ⟨x30, e_x30⟩ : ∃ y : Int32, y = i5 + 1 := ⟨_, rfl⟩
            replace hf := bn_to e_x30 hf
            refine z_iinc C (lv2 := [(0, .ref ((zw K).2.1 0)), (1, .int a1), (2, .int a2), (3, .int i4), (4, .int i2), (5, .int x30), (6, .int x8)]) 5 [1, 2, 3, 4, 5, 0, 6] dX7_changes_130 rfl rfl (Nat.le_of_ble_eq_true rfl) e_x30 rfl ?_
            refine z_goto (tgt := 17) C dX7_changes_133 (by decide) ?_
            cases hf
            exact z_sub [0, 1, 2, 3, 4, 5] rfl (ih i4 x30 m6 hz)
          · replace hf := if_t c48 hf
            refine z_aload_n C 0 dX7_changes_61 rfl rfl ?_
            refine z_iload C 4 dX7_changes_62 rfl ?_
            refine z_iload C 5 dX7_changes_64 rfl ?_
            refine z_iconst C (v := 1) dX7_changes_66 rfl ?_
            obtain ⟨r32, m33, hc31, hf⟩ := zb2_el hf
            refine z_cVi C (c_X7_can _ _ hc31) rfl gX7_changes_X7_can rfl rfl zdX7_can rfl (Nat.le_of_ble_eq_true rfl) rfl rfl rfl ⟨Nat.le_of_ble_eq_true rfl, Nat.le_of_ble_eq_true rfl⟩ (Nat.le_of_ble_eq_true rfl) dX7_changes_67 rfl ?_
            refine z_if_eq (tgt := 130) C dX7_changes_70 (by decide) (fun c47 => ?_) (fun c47 => ?_)
            · replace hf := if_t c47 hf
              obtain ⟨x34, e_x34⟩ : ∃ y : Int32, y = i5 + 1 := ⟨_, rfl⟩
              replace hf := bn_to e_x34 hf
              refine z_iinc C (lv2 := [(0, .ref ((zw K).2.1 0)), (1, .int a1), (2, .int a2), (3, .int i4), (4, .int i2), (5, .int x34), (6, .int x8)]) 5 [1, 2, 3, 4, 5, 0, 6] dX7_changes_130 rfl rfl (Nat.le_of_ble_eq_true rfl) e_x34 rfl ?_
              refine z_goto (tgt := 17) C dX7_changes_133 (by decide) ?_
              cases hf
              exact z_sub [0, 1, 2, 3, 4, 5] rfl (ih i4 x34 m33 hz)
            · replace hf := if_f c47 hf
              refine z_goto (tgt := 98) C dX7_changes_73 (by decide) ?_
              refine z_aload_n C 0 dX7_changes_98 rfl rfl ?_
              refine z_getr C (t := 37) (Nat.le_of_ble_eq_true rfl) rfl rfl 48 (Nat.le_of_ble_eq_true rfl) rfl kiX7_changes_X7 kfX7_changes_119 dX7_changes_99 ?_
              refine z_iload C 6 dX7_changes_102 rfl ?_
              refine z_iload_n C 2 dX7_changes_104 rfl rfl ?_
              refine z_if_eq (tgt := 118) C dX7_changes_105 (by decide) (fun c46 => ?_) (fun c46 => ?_)
              · replace hf := if_t c46 hf
                refine z_iconst C (v := 0) dX7_changes_118 rfl ?_
                obtain ⟨hi35, hf⟩ := ck_el hf
                refine z_zast C (k := 37) (Nat.le_of_ble_eq_true rfl) rfl hi35 dX7_changes_119 ?_
                refine z_nm (fun m36 e_m36 => ?_)
                replace hf := bn_to e_m36 hf
                refine z_aload_n C 0 dX7_changes_120 rfl rfl ?_
                refine z_getr C (t := 38) (Nat.le_of_ble_eq_true rfl) rfl rfl 49 (Nat.le_of_ble_eq_true rfl) rfl kiX7_changes_X7 kfX7_changes_122 dX7_changes_121 ?_
                refine z_iload C 6 dX7_changes_124 rfl ?_
                refine z_iload_n C 2 dX7_changes_126 rfl rfl ?_
                obtain ⟨hi37, hf⟩ := ck_el hf
                refine z_zast C (k := 38) (Nat.le_of_ble_eq_true rfl) rfl hi37 dX7_changes_127 ?_
                refine z_nm (fun m38 e_m38 => ?_)
                replace hf := bn_to e_m38 hf
                refine z_iconst C (v := 1) dX7_changes_128 rfl ?_
                refine z_istore_n C (lv2 := [(0, .ref ((zw K).2.1 0)), (1, .int a1), (2, .int a2), (3, .int 1), (4, .int i2), (5, .int i5), (6, .int x8)]) [1, 2, 3, 0, 4, 5, 6] dX7_changes_129 rfl (Nat.le_of_ble_eq_true rfl) rfl ?_
                obtain ⟨x39, e_x39⟩ : ∃ y : Int32, y = i5 + 1 := ⟨_, rfl⟩
                replace hf := bn_to e_x39 hf
                refine z_iinc C (lv2 := [(0, .ref ((zw K).2.1 0)), (1, .int a1), (2, .int a2), (3, .int 1), (4, .int i2), (5, .int x39), (6, .int x8)]) 5 [1, 2, 3, 4, 5, 0, 6] dX7_changes_130 rfl rfl (Nat.le_of_ble_eq_true rfl) e_x39 rfl ?_
                refine z_goto (tgt := 17) C dX7_changes_133 (by decide) ?_
                cases hf
                exact z_sub [0, 1, 2, 3, 4, 5] rfl (ih 1 x39 m38 hz)
              · replace hf := if_f c46 hf
                refine z_aload_n C 0 dX7_changes_108 rfl rfl ?_
                refine z_getr C (t := 37) (Nat.le_of_ble_eq_true rfl) rfl rfl 48 (Nat.le_of_ble_eq_true rfl) rfl kiX7_changes_X7 kfX7_changes_119 dX7_changes_109 ?_
                refine z_iload C 6 dX7_changes_112 rfl ?_
                obtain ⟨hi40, hf⟩ := ck_el hf
                refine z_zald C (k := 37) (Nat.le_of_ble_eq_true rfl) rfl hi40 dX7_changes_114 ?_
                refine z_goto (tgt := 119) C dX7_changes_115 (by decide) ?_
                obtain ⟨hi41, hf⟩ := ck_el hf
                refine z_zast C (k := 37) (Nat.le_of_ble_eq_true rfl) rfl hi41 dX7_changes_119 ?_
                refine z_nm (fun m42 e_m42 => ?_)
                replace hf := bn_to e_m42 hf
                refine z_aload_n C 0 dX7_changes_120 rfl rfl ?_
                refine z_getr C (t := 38) (Nat.le_of_ble_eq_true rfl) rfl rfl 49 (Nat.le_of_ble_eq_true rfl) rfl kiX7_changes_X7 kfX7_changes_122 dX7_changes_121 ?_
                refine z_iload C 6 dX7_changes_124 rfl ?_
                refine z_iload_n C 2 dX7_changes_126 rfl rfl ?_
                obtain ⟨hi43, hf⟩ := ck_el hf
                refine z_zast C (k := 38) (Nat.le_of_ble_eq_true rfl) rfl hi43 dX7_changes_127 ?_
                refine z_nm (fun m44 e_m44 => ?_)
                replace hf := bn_to e_m44 hf
                refine z_iconst C (v := 1) dX7_changes_128 rfl ?_
                refine z_istore_n C (lv2 := [(0, .ref ((zw K).2.1 0)), (1, .int a1), (2, .int a2), (3, .int 1), (4, .int i2), (5, .int i5), (6, .int x8)]) [1, 2, 3, 0, 4, 5, 6] dX7_changes_129 rfl (Nat.le_of_ble_eq_true rfl) rfl ?_
                obtain ⟨x45, e_x45⟩ : ∃ y : Int32, y = i5 + 1 := ⟨_, rfl⟩
                replace hf := bn_to e_x45 hf
                refine z_iinc C (lv2 := [(0, .ref ((zw K).2.1 0)), (1, .int a1), (2, .int a2), (3, .int 1), (4, .int i2), (5, .int x45), (6, .int x8)]) 5 [1, 2, 3, 4, 5, 0, 6] dX7_changes_130 rfl rfl (Nat.le_of_ble_eq_true rfl) e_x45 rfl ?_
                refine z_goto (tgt := 17) C dX7_changes_133 (by decide) ?_
                cases hf
                exact z_sub [0, 1, 2, 3, 4, 5] rfl (ih 1 x45 m44 hz)
set_option maxRecDepth 100000 in
set_option maxHeartbeats 4000000 in
theorem w_X7_changes_5 {K : ZK} (C : zOK MM K cX7_changes 7 (some .boolean) RX7 wsX7_changes rmX7_changes) {a1 : Int32} {a2 : Int32}  {o0 : Int32} {o1 : Mem} (hk : zGo MM K o1 [(3, .int o0)] 142 []) : ∀ (n : Nat) (i1 : Int32) (i2 : Int32) (m3 : Mem), l_X7_changes_5 a1 a2 n i1 i2 m3 = some (o0, o1) → zGo MM K m3 [(0, .ref ((zw K).2.1 0)), (1, .int a1), (2, .int a2), (3, .int i1), (4, .int i2)] 5 [] := by
  intro n
  induction n with
  | zero =>
    intro i1 i2 m3 hf
    cases hf
  | succ n ih =>
    intro i1 i2 m3 hf
    obtain ⟨z, hf, hz⟩ := zlp_el hf
    replace hf : t_X7_changes_5 a1 a2 i1 i2 m3 = some z := hf
    unfold t_X7_changes_5 at hf
    refine z_iload C 4 dX7_changes_5 rfl ?_
    refine z_aload_n C 0 dX7_changes_7 rfl rfl ?_
    refine z_geti C (Nat.le_of_ble_eq_true rfl) rfl rfl 7 (Nat.le_of_ble_eq_true rfl) rfl kiX7_changes_X7 kfX7_changes_258 dX7_changes_8 ?_
    refine z_icmp_ge (tgt := 142) C dX7_changes_11 (by decide) (fun c55 => ?_) (fun c55 => ?_)
    · replace hf := if_t c55 hf
      cases hf
      replace hz := zlz_r hz
      cases hz
      exact z_sub [3] rfl hk
    · replace hf := if_f c55 hf
      refine z_iconst C (v := 0) dX7_changes_14 rfl ?_
      refine z_istore C (lv2 := [(0, .ref ((zw K).2.1 0)), (1, .int a1), (2, .int a2), (3, .int i1), (4, .int i2), (5, .int 0)]) [1, 2, 3, 4, 5, 0] dX7_changes_15 (Nat.le_of_ble_eq_true rfl) rfl ?_
      obtain ⟨y52, m53, hg, hf⟩ := zb2_el hf
      refine z_sub [0, 1, 2, 3, 4, 5] rfl (w_X7_changes_17 C  ?_ _ _ _ _ hg)
      clear hg
      obtain ⟨x54, e_x54⟩ : ∃ y : Int32, y = i2 + 1 := ⟨_, rfl⟩
      replace hf := bn_to e_x54 hf
      refine z_iinc C (lv2 := [(0, .ref ((zw K).2.1 0)), (1, .int a1), (2, .int a2), (3, .int y52), (4, .int x54)]) 4 [1, 2, 3, 4, 0] dX7_changes_136 rfl rfl (Nat.le_of_ble_eq_true rfl) e_x54 rfl ?_
      refine z_goto (tgt := 5) C dX7_changes_139 (by decide) ?_
      cases hf
      exact z_sub [0, 1, 2, 3, 4] rfl (ih y52 x54 m53 hz)
set_option maxRecDepth 100000 in
set_option maxHeartbeats 4000000 in
theorem c_X7_changes (l : Launch) (w : ZW) {m : Mem} {a1 : Int32} {a2 : Int32} {r9 : Int32} {m9 : Mem}  (hf : s_X7_changes m a1 a2 = some (r9, m9)) : zCi MM l w yX7_changes wsX7_changes rmX7_changes [.ref (w.2.1 0), .int a1, .int a2] m m9 r9 := by
  refine z_met_z MM_ok (own := RX7) (by decide +kernel) rfl rfl (Nat.le_of_ble_eq_true rfl) ?_
  intro K C hKw hKl hret
  subst hKw
  subst hKl
  unfold s_X7_changes at hf
  show zGo MM K m [(0, .ref ((zw K).2.1 0)), (1, .int a1), (2, .int a2)] 0 []
  refine z_iconst C (v := 0) dX7_changes_0 rfl ?_
  refine z_istore_n C (lv2 := [(0, .ref ((zw K).2.1 0)), (1, .int a1), (2, .int a2), (3, .int 0)]) [1, 2, 3, 0] dX7_changes_1 rfl (Nat.le_of_ble_eq_true rfl) rfl ?_
  refine z_iconst C (v := 0) dX7_changes_2 rfl ?_
  refine z_istore C (lv2 := [(0, .ref ((zw K).2.1 0)), (1, .int a1), (2, .int a2), (3, .int 0), (4, .int 0)]) [1, 2, 3, 4, 0] dX7_changes_3 (Nat.le_of_ble_eq_true rfl) rfl ?_
  obtain ⟨y56, m57, hg, hf⟩ := zb2_el hf
  refine z_sub [0, 1, 2, 3, 4] rfl (w_X7_changes_5 C  ?_ _ _ _ _ hg)
  clear hg
  refine z_iload_n C 0 dX7_changes_142 rfl rfl ?_
  obtain ⟨hz, hf⟩ := ck_el hf
  cases hf
  exact hret _ _ dX7_changes_143 hz
def rmX7_read : Room := { frames := 5, cells := 0, slots := 0, locals := 131 }
theorem zdX7_read : yX7_read.cls = RX7 ∧ yX7_read.cls ≠ "java/lang/invoke/MethodHandle" ∧ yX7_read.cls ≠ "java/lang/invoke/VarHandle" ∧ (parseMethodDescriptor yX7_read.desc).map (fun d => d.parameters.length) = some 0 := by decide +kernel
theorem kiX7_read_X7 : ∀ w ∈ wsX70, w ∈ wsX7_read := by decide +kernel
theorem kfX7_read_148 : Cond.fieldLink RX7 148 "ShapeJudgeModel" "isRead" "Z" ∈ wsX7_read := by decide +kernel
theorem kfX7_read_119 : Cond.fieldLink RX7 119 "ShapeJudgeModel" "fitting" "[Z" ∈ wsX7_read := by decide +kernel
theorem kfX7_read_122 : Cond.fieldLink RX7 122 "ShapeJudgeModel" "sure" "[Z" ∈ wsX7_read := by decide +kernel
def t_X7_read_23  (i6 : Int32) (m7 : Mem) : Option ((Int32 × Mem) ⊕ (Mem)) :=
  (if 60 ≤ i6 then (some (.inr m7)) else (ck (zin i6 60 = true) (bn (sto m7 37 (Int32.toNatClampNeg i6) (vp_nar .boolean 1)) fun m9 => ck (zin i6 60 = true) (bn (sto m9 38 (Int32.toNatClampNeg i6) (vp_nar .boolean 0)) fun m11 => bn (i6 + 1) fun x12 => some (.inl (x12, m11))))))
def l_X7_read_23  (n : Nat) (i6 : Int32) (m7 : Mem) : Option (Mem) := zlp n (fun a => t_X7_read_23  a.1 a.2) (i6, m7)
def t_X7_read_59 (i15 : Int32) (i17 : Int32) (m18 : Mem) : Option ((Int32 × Mem) ⊕ (Mem)) :=
  (if i17 = 0 then (some (.inr m18)) else (zb2 (s_X7_changes m18 i15 0) fun r20 m21 => some (.inl (r20, m21))))
def l_X7_read_59 (i15 : Int32) (n : Nat) (i17 : Int32) (m18 : Mem) : Option (Mem) := zlp n (fun a => t_X7_read_59 i15 a.1 a.2) (i17, m18)
def t_X7_read_51  (i15 : Int32) (m16 : Mem) : Option ((Int32 × Mem) ⊕ (Mem)) :=
  (if 7 ≤ i15 then (some (.inr m16)) else (((l_X7_read_59 i15 FU 1 m16).bind fun m23 => bn (i15 + 1) fun x24 => some (.inl (x24, m23)))))
def l_X7_read_51  (n : Nat) (i15 : Int32) (m16 : Mem) : Option (Mem) := zlp n (fun a => t_X7_read_51  a.1 a.2) (i15, m16)
def t_X7_read_89 (i27 : Int32) (i29 : Int32) (m30 : Mem) : Option ((Int32 × Mem) ⊕ (Mem)) :=
  (if i29 = 0 then (some (.inr m30)) else (zb2 (s_X7_changes m30 i27 1) fun r32 m33 => some (.inl (r32, m33))))
def l_X7_read_89 (i27 : Int32) (n : Nat) (i29 : Int32) (m30 : Mem) : Option (Mem) := zlp n (fun a => t_X7_read_89 i27 a.1 a.2) (i29, m30)
def t_X7_read_81  (i27 : Int32) (m28 : Mem) : Option ((Int32 × Mem) ⊕ (Mem)) :=
  (if 7 ≤ i27 then (some (.inr m28)) else (((l_X7_read_89 i27 FU 1 m28).bind fun m35 => bn (i27 + 1) fun x36 => some (.inl (x36, m35)))))
def l_X7_read_81  (n : Nat) (i27 : Int32) (m28 : Mem) : Option (Mem) := zlp n (fun a => t_X7_read_81  a.1 a.2) (i27, m28)
def s_X7_read (m : Mem)  : Option (Mem) :=
  (if (m 0 6) = 0 then (bn (sto m 0 6 1) fun m1 => (s_X7_free m1).bind fun m3 => (s_X7_findRanks m3).bind fun m5 => ((l_X7_read_23  FU 0 m5).bind fun m14 => ((l_X7_read_51  FU 0 m14).bind fun m26 => ((l_X7_read_81  FU 0 m26).bind fun m38 => some m38)))) else (some m))
set_option maxRecDepth 100000 in
set_option maxHeartbeats 4000000 in
theorem w_X7_read_23 {K : ZK} (C : zOK MM K cX7_read 3 none RX7 wsX7_read rmX7_read)   {o0 : Mem} (hk : zGo MM K o0 [(0, .ref ((zw K).2.1 0))] 49 []) : ∀ (n : Nat) (i6 : Int32) (m7 : Mem), l_X7_read_23  n i6 m7 = some o0 → zGo MM K m7 [(0, .ref ((zw K).2.1 0)), (1, .int i6)] 23 [] := by
  intro n
  induction n with
  | zero =>
    intro i6 m7 hf
    cases hf
  | succ n ih =>
    intro i6 m7 hf
    obtain ⟨z, hf, hz⟩ := zlp_el hf
    replace hf : t_X7_read_23  i6 m7 = some z := hf
    unfold t_X7_read_23 at hf
    refine z_iload_n C 1 dX7_read_23 rfl rfl ?_
    refine z_bipush C (v := 60) dX7_read_24 rfl ?_
    refine z_icmp_ge (tgt := 49) C dX7_read_26 (by decide) (fun c13 => ?_) (fun c13 => ?_)
    · replace hf := if_t c13 hf
      cases hf
      replace hz := zlz_r hz
      cases hz
      exact z_sub [0] rfl hk
    · replace hf := if_f c13 hf
      refine z_aload_n C 0 dX7_read_29 rfl rfl ?_
      refine z_getr C (t := 37) (Nat.le_of_ble_eq_true rfl) rfl rfl 48 (Nat.le_of_ble_eq_true rfl) rfl kiX7_read_X7 kfX7_read_119 dX7_read_30 ?_
      refine z_iload_n C 1 dX7_read_33 rfl rfl ?_
      refine z_iconst C (v := 1) dX7_read_34 rfl ?_
      obtain ⟨hi8, hf⟩ := ck_el hf
      refine z_zast C (k := 37) (Nat.le_of_ble_eq_true rfl) rfl hi8 dX7_read_35 ?_
      refine z_nm (fun m9 e_m9 => ?_)
      replace hf := bn_to e_m9 hf
      refine z_aload_n C 0 dX7_read_36 rfl rfl ?_
      refine z_getr C (t := 38) (Nat.le_of_ble_eq_true rfl) rfl rfl 49 (Nat.le_of_ble_eq_true rfl) rfl kiX7_read_X7 kfX7_read_122 dX7_read_37 ?_
      refine z_iload_n C 1 dX7_read_40 rfl rfl ?_
      refine z_iconst C (v := 0) dX7_read_41 rfl ?_
      obtain ⟨hi10, hf⟩ := ck_el hf
      refine z_zast C (k := 38) (Nat.le_of_ble_eq_true rfl) rfl hi10 dX7_read_42 ?_
      refine z_nm (fun m11 e_m11 => ?_)
      replace hf := bn_to e_m11 hf
      obtain ⟨x12, e_x12⟩ : ∃ y : Int32, y = i6 + 1 := ⟨_, rfl⟩
      replace hf := bn_to e_x12 hf
      refine z_iinc C (lv2 := [(0, .ref ((zw K).2.1 0)), (1, .int x12)]) 1 [1, 0] dX7_read_43 rfl rfl (Nat.le_of_ble_eq_true rfl) e_x12 rfl ?_
      refine z_goto (tgt := 23) C dX7_read_46 (by decide) ?_
      cases hf
      exact z_sub [0, 1] rfl (ih x12 m11 hz)
set_option maxRecDepth 100000 in
set_option maxHeartbeats 4000000 in
theorem w_X7_read_59 {K : ZK} (C : zOK MM K cX7_read 3 none RX7 wsX7_read rmX7_read) {i15 : Int32}  {o0 : Mem} (hk : zGo MM K o0 [(0, .ref ((zw K).2.1 0)), (1, .int i15)] 73 []) : ∀ (n : Nat) (i17 : Int32) (m18 : Mem), l_X7_read_59 i15 n i17 m18 = some o0 → zGo MM K m18 [(0, .ref ((zw K).2.1 0)), (1, .int i15), (2, .int i17)] 59 [] := by
  intro n
  induction n with
  | zero =>
    intro i17 m18 hf
    cases hf
  | succ n ih =>
    intro i17 m18 hf
    obtain ⟨z, hf, hz⟩ := zlp_el hf
    replace hf : t_X7_read_59 i15 i17 m18 = some z := hf
    unfold t_X7_read_59 at hf
    refine z_iload_n C 2 dX7_read_59 rfl rfl ?_
    refine z_if_eq (tgt := 73) C dX7_read_60 (by decide) (fun c22 => ?_) (fun c22 => ?_)
    · replace hf := if_t c22 hf
      cases hf
      replace hz := zlz_r hz
      cases hz
      exact z_sub [0, 1] rfl hk
    · replace hf := if_f c22 hf
      refine z_aload_n C 0 dX7_read_63 rfl rfl ?_
      refine z_iload_n C 1 dX7_read_64 rfl rfl ?_
      refine z_iconst C (v := 0) dX7_read_65 rfl ?_
      obtain ⟨r20, m21, hc19, hf⟩ := zb2_el hf
      refine z_cVi C (c_X7_changes _ _ hc19) rfl gX7_read_X7_changes rfl rfl zdX7_changes rfl (Nat.le_of_ble_eq_true rfl) rfl rfl rfl ⟨Nat.le_of_ble_eq_true rfl, Nat.le_of_ble_eq_true rfl⟩ (Nat.le_of_ble_eq_true rfl) dX7_read_66 rfl ?_
      refine z_istore_n C (lv2 := [(0, .ref ((zw K).2.1 0)), (1, .int i15), (2, .int r20)]) [1, 2, 0] dX7_read_69 rfl (Nat.le_of_ble_eq_true rfl) rfl ?_
      refine z_goto (tgt := 59) C dX7_read_70 (by decide) ?_
      cases hf
      exact z_sub [0, 1, 2] rfl (ih r20 m21 hz)
set_option maxRecDepth 100000 in
set_option maxHeartbeats 4000000 in
theorem w_X7_read_51 {K : ZK} (C : zOK MM K cX7_read 3 none RX7 wsX7_read rmX7_read)   {o0 : Mem} (hk : zGo MM K o0 [(0, .ref ((zw K).2.1 0))] 79 []) : ∀ (n : Nat) (i15 : Int32) (m16 : Mem), l_X7_read_51  n i15 m16 = some o0 → zGo MM K m16 [(0, .ref ((zw K).2.1 0)), (1, .int i15)] 51 [] := by
  intro n
  induction n with
  | zero =>
    intro i15 m16 hf
    cases hf
  | succ n ih =>
    intro i15 m16 hf
    obtain ⟨z, hf, hz⟩ := zlp_el hf
    replace hf : t_X7_read_51  i15 m16 = some z := hf
    unfold t_X7_read_51 at hf
    refine z_iload_n C 1 dX7_read_51 rfl rfl ?_
    refine z_bipush C (v := 7) dX7_read_52 rfl ?_
    refine z_icmp_ge (tgt := 79) C dX7_read_54 (by decide) (fun c25 => ?_) (fun c25 => ?_)
    · replace hf := if_t c25 hf
      cases hf
      replace hz := zlz_r hz
      cases hz
      exact z_sub [0] rfl hk
    · replace hf := if_f c25 hf
      refine z_iconst C (v := 1) dX7_read_57 rfl ?_
      refine z_istore_n C (lv2 := [(0, .ref ((zw K).2.1 0)), (1, .int i15), (2, .int 1)]) [1, 2, 0] dX7_read_58 rfl (Nat.le_of_ble_eq_true rfl) rfl ?_
      obtain ⟨m23, hg, hf⟩ := zb_el hf
      refine z_sub [0, 1, 2] rfl (w_X7_read_59 C  ?_ _ _ _ hg)
      clear hg
      obtain ⟨x24, e_x24⟩ : ∃ y : Int32, y = i15 + 1 := ⟨_, rfl⟩
      replace hf := bn_to e_x24 hf
      refine z_iinc C (lv2 := [(0, .ref ((zw K).2.1 0)), (1, .int x24)]) 1 [1, 0] dX7_read_73 rfl rfl (Nat.le_of_ble_eq_true rfl) e_x24 rfl ?_
      refine z_goto (tgt := 51) C dX7_read_76 (by decide) ?_
      cases hf
      exact z_sub [0, 1] rfl (ih x24 m23 hz)
set_option maxRecDepth 100000 in
set_option maxHeartbeats 4000000 in
theorem w_X7_read_89 {K : ZK} (C : zOK MM K cX7_read 3 none RX7 wsX7_read rmX7_read) {i27 : Int32}  {o0 : Mem} (hk : zGo MM K o0 [(0, .ref ((zw K).2.1 0)), (1, .int i27)] 103 []) : ∀ (n : Nat) (i29 : Int32) (m30 : Mem), l_X7_read_89 i27 n i29 m30 = some o0 → zGo MM K m30 [(0, .ref ((zw K).2.1 0)), (1, .int i27), (2, .int i29)] 89 [] := by
  intro n
  induction n with
  | zero =>
    intro i29 m30 hf
    cases hf
  | succ n ih =>
    intro i29 m30 hf
    obtain ⟨z, hf, hz⟩ := zlp_el hf
    replace hf : t_X7_read_89 i27 i29 m30 = some z := hf
    unfold t_X7_read_89 at hf
    refine z_iload_n C 2 dX7_read_89 rfl rfl ?_
    refine z_if_eq (tgt := 103) C dX7_read_90 (by decide) (fun c34 => ?_) (fun c34 => ?_)
    · replace hf := if_t c34 hf
      cases hf
      replace hz := zlz_r hz
      cases hz
      exact z_sub [0, 1] rfl hk
    · replace hf := if_f c34 hf
      refine z_aload_n C 0 dX7_read_93 rfl rfl ?_
      refine z_iload_n C 1 dX7_read_94 rfl rfl ?_
      refine z_iconst C (v := 1) dX7_read_95 rfl ?_
      obtain ⟨r32, m33, hc31, hf⟩ := zb2_el hf
      refine z_cVi C (c_X7_changes _ _ hc31) rfl gX7_read_X7_changes rfl rfl zdX7_changes rfl (Nat.le_of_ble_eq_true rfl) rfl rfl rfl ⟨Nat.le_of_ble_eq_true rfl, Nat.le_of_ble_eq_true rfl⟩ (Nat.le_of_ble_eq_true rfl) dX7_read_96 rfl ?_
      refine z_istore_n C (lv2 := [(0, .ref ((zw K).2.1 0)), (1, .int i27), (2, .int r32)]) [1, 2, 0] dX7_read_99 rfl (Nat.le_of_ble_eq_true rfl) rfl ?_
      refine z_goto (tgt := 89) C dX7_read_100 (by decide) ?_
      cases hf
      exact z_sub [0, 1, 2] rfl (ih r32 m33 hz)
set_option maxRecDepth 100000 in
set_option maxHeartbeats 4000000 in
theorem w_X7_read_81 {K : ZK} (C : zOK MM K cX7_read 3 none RX7 wsX7_read rmX7_read)   {o0 : Mem} (hk : zGo MM K o0 [] 109 []) : ∀ (n : Nat) (i27 : Int32) (m28 : Mem), l_X7_read_81  n i27 m28 = some o0 → zGo MM K m28 [(0, .ref ((zw K).2.1 0)), (1, .int i27)] 81 [] := by
  intro n
  induction n with
  | zero =>
    intro i27 m28 hf
    cases hf
  | succ n ih =>
    intro i27 m28 hf
    obtain ⟨z, hf, hz⟩ := zlp_el hf
    replace hf : t_X7_read_81  i27 m28 = some z := hf
    unfold t_X7_read_81 at hf
    refine z_iload_n C 1 dX7_read_81 rfl rfl ?_
    refine z_bipush C (v := 7) dX7_read_82 rfl ?_
    refine z_icmp_ge (tgt := 109) C dX7_read_84 (by decide) (fun c37 => ?_) (fun c37 => ?_)
    · replace hf := if_t c37 hf
      cases hf
      replace hz := zlz_r hz
      cases hz
      exact z_sub [] rfl hk
    · replace hf := if_f c37 hf
      refine z_iconst C (v := 1) dX7_read_87 rfl ?_
      refine z_istore_n C (lv2 := [(0, .ref ((zw K).2.1 0)), (1, .int i27), (2, .int 1)]) [1, 2, 0] dX7_read_88 rfl (Nat.le_of_ble_eq_true rfl) rfl ?_
      obtain ⟨m35, hg, hf⟩ := zb_el hf
      refine z_sub [0, 1, 2] rfl (w_X7_read_89 C  ?_ _ _ _ hg)
      clear hg
      obtain ⟨x36, e_x36⟩ : ∃ y : Int32, y = i27 + 1 := ⟨_, rfl⟩
      replace hf := bn_to e_x36 hf
      refine z_iinc C (lv2 := [(0, .ref ((zw K).2.1 0)), (1, .int x36)]) 1 [1, 0] dX7_read_103 rfl rfl (Nat.le_of_ble_eq_true rfl) e_x36 rfl ?_
      refine z_goto (tgt := 81) C dX7_read_106 (by decide) ?_
      cases hf
      exact z_sub [0, 1] rfl (ih x36 m35 hz)
set_option maxRecDepth 100000 in
set_option maxHeartbeats 4000000 in
theorem c_X7_read (l : Launch) (w : ZW) {m : Mem}  {m9 : Mem}  (hf : s_X7_read m  = some m9) : zCv MM l w yX7_read wsX7_read rmX7_read [.ref (w.2.1 0)] m m9 := by
  refine z_met_v MM_ok (own := RX7) (by decide +kernel) rfl rfl (Nat.le_of_ble_eq_true rfl) ?_
  intro K C hKw hKl hret
  subst hKw
  subst hKl
  unfold s_X7_read at hf
  show zGo MM K m [(0, .ref ((zw K).2.1 0))] 0 []
  refine z_aload_n C 0 dX7_read_0 rfl rfl ?_
  refine z_geti C (Nat.le_of_ble_eq_true rfl) rfl rfl 6 (Nat.le_of_ble_eq_true rfl) rfl kiX7_read_X7 kfX7_read_148 dX7_read_1 ?_
  refine z_if_eq (tgt := 8) C dX7_read_4 (by decide) (fun c39 => ?_) (fun c39 => ?_)
  · replace hf := if_t c39 hf
    refine z_aload_n C 0 dX7_read_8 rfl rfl ?_
    refine z_iconst C (v := 1) dX7_read_9 rfl ?_
    refine z_putz C (Nat.le_of_ble_eq_true rfl) rfl rfl 6 (Nat.le_of_ble_eq_true rfl) rfl kiX7_read_X7 kfX7_read_148 tyX7 tyX7_ok nmX7 rfl rfl (Or.inr rfl) dX7_read_10 ?_
    refine z_nm (fun m1 e_m1 => ?_)
    replace hf := bn_to e_m1 hf
    refine z_aload_n C 0 dX7_read_13 rfl rfl ?_
    obtain ⟨m3, hc2, hf⟩ := zb_el hf
    refine z_cVv C (c_X7_free _ _ hc2) rfl gX7_read_X7_free rfl rfl zdX7_free rfl (Nat.le_of_ble_eq_true rfl) rfl rfl rfl ⟨Nat.le_of_ble_eq_true rfl, Nat.le_of_ble_eq_true rfl⟩ (Nat.le_of_ble_eq_true rfl) dX7_read_14 rfl ?_
    refine z_aload_n C 0 dX7_read_17 rfl rfl ?_
    obtain ⟨m5, hc4, hf⟩ := zb_el hf
    refine z_cVv C (c_X7_findRanks _ _ hc4) rfl gX7_read_X7_findRanks rfl rfl zdX7_findRanks rfl (Nat.le_of_ble_eq_true rfl) rfl rfl rfl ⟨Nat.le_of_ble_eq_true rfl, Nat.le_of_ble_eq_true rfl⟩ (Nat.le_of_ble_eq_true rfl) dX7_read_18 rfl ?_
    refine z_iconst C (v := 0) dX7_read_21 rfl ?_
    refine z_istore_n C (lv2 := [(0, .ref ((zw K).2.1 0)), (1, .int 0)]) [1, 0] dX7_read_22 rfl (Nat.le_of_ble_eq_true rfl) rfl ?_
    obtain ⟨m14, hg, hf⟩ := zb_el hf
    refine z_sub [0, 1] rfl (w_X7_read_23 C  ?_ _ _ _ hg)
    clear hg
    refine z_iconst C (v := 0) dX7_read_49 rfl ?_
    refine z_istore_n C (lv2 := [(0, .ref ((zw K).2.1 0)), (1, .int 0)]) [1, 0] dX7_read_50 rfl (Nat.le_of_ble_eq_true rfl) rfl ?_
    obtain ⟨m26, hg, hf⟩ := zb_el hf
    refine z_sub [0, 1] rfl (w_X7_read_51 C  ?_ _ _ _ hg)
    clear hg
    refine z_iconst C (v := 0) dX7_read_79 rfl ?_
    refine z_istore_n C (lv2 := [(0, .ref ((zw K).2.1 0)), (1, .int 0)]) [1, 0] dX7_read_80 rfl (Nat.le_of_ble_eq_true rfl) rfl ?_
    obtain ⟨m38, hg, hf⟩ := zb_el hf
    refine z_sub [0, 1] rfl (w_X7_read_81 C  ?_ _ _ _ hg)
    clear hg
    cases hf
    exact hret _ _ dX7_read_109
  · replace hf := if_f c39 hf
    cases hf
    exact hret _ _ dX7_read_7
def rmX7_all : Room := { frames := 6, cells := 0, slots := 0, locals := 153 }
theorem zdX7_all : yX7_all.cls = RX7 ∧ yX7_all.cls ≠ "java/lang/invoke/MethodHandle" ∧ yX7_all.cls ≠ "java/lang/invoke/VarHandle" ∧ (parseMethodDescriptor yX7_all.desc).map (fun d => d.parameters.length) = some 1 := by decide +kernel
theorem kiX7_all_X7 : ∀ w ∈ wsX70, w ∈ wsX7_all := by decide +kernel
theorem kfX7_all_140 : Cond.fieldLink RX7 140 "ShapeJudgeModel" "nodes" "I" ∈ wsX7_all := by decide +kernel
theorem kfX7_all_119 : Cond.fieldLink RX7 119 "ShapeJudgeModel" "fitting" "[Z" ∈ wsX7_all := by decide +kernel
def t_X7_all_18 (a1 : Int32) (m4 : Mem) (i5 : Int32) (i6 : Int32) : Option ((Int32 × Int32) ⊕ (Int32)) :=
  (if (m4 0 0) ≤ i6 then (some (.inr i5)) else (ck (zin (((10 : Int32) * a1) + i6) 60 = true) ((if (m4 37 (Int32.toNatClampNeg (((10 : Int32) * a1) + i6))) = 0 then (bn (i5 + 0) fun x8 => bn (i6 + 1) fun x9 => some (.inl (x8, x9))) else (bn (i5 + ((1 : Int32) <<< (i6 &&& 31))) fun x10 => bn (i6 + 1) fun x11 => some (.inl (x10, x11)))))))
def l_X7_all_18 (a1 : Int32) (m4 : Mem) (n : Nat) (i5 : Int32) (i6 : Int32) : Option (Int32) := zlp n (fun a => t_X7_all_18 a1 m4 a.1 a.2) (i5, i6)
def s_X7_all (m : Mem) (a1 : Int32) : Option (Int32 × Mem) :=
  (s_X7_isShape m a1).bind fun r2 => (if r2 = 0 then (some ((-1), m)) else ((s_X7_read m).bind fun m4 => ((l_X7_all_18 a1 m4 FU 0 0).bind fun y14 => some (y14, m4))))
set_option maxRecDepth 100000 in
set_option maxHeartbeats 4000000 in
theorem w_X7_all_18 {K : ZK} (C : zOK MM K cX7_all 4 (some .int) RX7 wsX7_all rmX7_all) {a1 : Int32} {m4 : Mem}  {o0 : Int32} (hk : zGo MM K m4 [(2, .int o0)] 56 []) : ∀ (n : Nat) (i5 : Int32) (i6 : Int32), l_X7_all_18 a1 m4 n i5 i6 = some o0 → zGo MM K m4 [(0, .ref ((zw K).2.1 0)), (1, .int a1), (2, .int i5), (3, .int i6)] 18 [] := by
  intro n
  induction n with
  | zero =>
    intro i5 i6 hf
    cases hf
  | succ n ih =>
    intro i5 i6 hf
    obtain ⟨z, hf, hz⟩ := zlp_el hf
    replace hf : t_X7_all_18 a1 m4 i5 i6 = some z := hf
    unfold t_X7_all_18 at hf
    refine z_iload_n C 3 dX7_all_18 rfl rfl ?_
    refine z_aload_n C 0 dX7_all_19 rfl rfl ?_
    refine z_geti C (Nat.le_of_ble_eq_true rfl) rfl rfl 0 (Nat.le_of_ble_eq_true rfl) rfl kiX7_all_X7 kfX7_all_140 dX7_all_20 ?_
    refine z_icmp_ge (tgt := 56) C dX7_all_23 (by decide) (fun c13 => ?_) (fun c13 => ?_)
    · replace hf := if_t c13 hf
      cases hf
      replace hz := zlz_r hz
      cases hz
      exact z_sub [2] rfl hk
    · replace hf := if_f c13 hf
      refine z_iload_n C 2 dX7_all_26 rfl rfl ?_
      refine z_aload_n C 0 dX7_all_27 rfl rfl ?_
      refine z_getr C (t := 37) (Nat.le_of_ble_eq_true rfl) rfl rfl 48 (Nat.le_of_ble_eq_true rfl) rfl kiX7_all_X7 kfX7_all_119 dX7_all_28 ?_
      refine z_bipush C (v := 10) dX7_all_31 rfl ?_
      refine z_iload_n C 1 dX7_all_33 rfl rfl ?_
      refine z_imul C dX7_all_34 ?_
      refine z_iload_n C 3 dX7_all_35 rfl rfl ?_
      refine z_iadd C dX7_all_36 ?_
      obtain ⟨hi7, hf⟩ := ck_el hf
      refine z_zald C (k := 37) (Nat.le_of_ble_eq_true rfl) rfl hi7 dX7_all_37 ?_
      refine z_if_eq (tgt := 47) C dX7_all_38 (by decide) (fun c12 => ?_) (fun c12 => ?_)
      · replace hf := if_t c12 hf
        refine z_iconst C (v := 0) dX7_all_47 rfl ?_
        refine z_iadd C dX7_all_48 ?_
        refine z_topi (fun x8 e_x8 => ?_)
        replace hf := bn_to e_x8 hf
        refine z_istore_n C (lv2 := [(0, .ref ((zw K).2.1 0)), (1, .int a1), (2, .int x8), (3, .int i6)]) [1, 2, 0, 3] dX7_all_49 rfl (Nat.le_of_ble_eq_true rfl) rfl ?_
        obtain ⟨x9, e_x9⟩ : ∃ y : Int32, y = i6 + 1 := ⟨_, rfl⟩
        replace hf := bn_to e_x9 hf
        refine z_iinc C (lv2 := [(0, .ref ((zw K).2.1 0)), (1, .int a1), (2, .int x8), (3, .int x9)]) 3 [1, 2, 3, 0] dX7_all_50 rfl rfl (Nat.le_of_ble_eq_true rfl) e_x9 rfl ?_
        refine z_goto (tgt := 18) C dX7_all_53 (by decide) ?_
        cases hf
        exact z_sub [0, 1, 2, 3] rfl (ih x8 x9 hz)
      · replace hf := if_f c12 hf
        refine z_iconst C (v := 1) dX7_all_41 rfl ?_
        refine z_iload_n C 3 dX7_all_42 rfl rfl ?_
        refine z_ishl C dX7_all_43 ?_
        refine z_goto (tgt := 48) C dX7_all_44 (by decide) ?_
        refine z_iadd C dX7_all_48 ?_
        refine z_topi (fun x10 e_x10 => ?_)
        replace hf := bn_to e_x10 hf
        refine z_istore_n C (lv2 := [(0, .ref ((zw K).2.1 0)), (1, .int a1), (2, .int x10), (3, .int i6)]) [1, 2, 0, 3] dX7_all_49 rfl (Nat.le_of_ble_eq_true rfl) rfl ?_
        obtain ⟨x11, e_x11⟩ : ∃ y : Int32, y = i6 + 1 := ⟨_, rfl⟩
        replace hf := bn_to e_x11 hf
        refine z_iinc C (lv2 := [(0, .ref ((zw K).2.1 0)), (1, .int a1), (2, .int x10), (3, .int x11)]) 3 [1, 2, 3, 0] dX7_all_50 rfl rfl (Nat.le_of_ble_eq_true rfl) e_x11 rfl ?_
        refine z_goto (tgt := 18) C dX7_all_53 (by decide) ?_
        cases hf
        exact z_sub [0, 1, 2, 3] rfl (ih x10 x11 hz)
set_option maxRecDepth 100000 in
set_option maxHeartbeats 4000000 in
theorem c_X7_all (l : Launch) (w : ZW) {m : Mem} {a1 : Int32} {r9 : Int32} {m9 : Mem}  (hf : s_X7_all m a1 = some (r9, m9)) : zCi MM l w yX7_all wsX7_all rmX7_all [.ref (w.2.1 0), .int a1] m m9 r9 := by
  refine z_met_i MM_ok (own := RX7) (by decide +kernel) rfl rfl (Nat.le_of_ble_eq_true rfl) ?_
  intro K C hKw hKl hret
  subst hKw
  subst hKl
  unfold s_X7_all at hf
  show zGo MM K m [(0, .ref ((zw K).2.1 0)), (1, .int a1)] 0 []
  refine z_aload_n C 0 dX7_all_0 rfl rfl ?_
  refine z_iload_n C 1 dX7_all_1 rfl rfl ?_
  obtain ⟨r2, hc1, hf⟩ := zb_el hf
  refine z_cVi C (c_X7_isShape _ _ hc1) rfl gX7_all_X7_isShape rfl rfl zdX7_isShape rfl (Nat.le_of_ble_eq_true rfl) rfl rfl rfl ⟨Nat.le_of_ble_eq_true rfl, Nat.le_of_ble_eq_true rfl⟩ (Nat.le_of_ble_eq_true rfl) dX7_all_2 rfl ?_
  refine z_if_ne (tgt := 10) C dX7_all_5 (by decide) (fun c15 => ?_) (fun c15 => ?_)
  · replace hf := if_f c15 hf
    refine z_aload_n C 0 dX7_all_10 rfl rfl ?_
    obtain ⟨m4, hc3, hf⟩ := zb_el hf
    refine z_cVv C (c_X7_read _ _ hc3) rfl gX7_all_X7_read rfl rfl zdX7_read rfl (Nat.le_of_ble_eq_true rfl) rfl rfl rfl ⟨Nat.le_of_ble_eq_true rfl, Nat.le_of_ble_eq_true rfl⟩ (Nat.le_of_ble_eq_true rfl) dX7_all_11 rfl ?_
    refine z_iconst C (v := 0) dX7_all_14 rfl ?_
    refine z_istore_n C (lv2 := [(0, .ref ((zw K).2.1 0)), (1, .int a1), (2, .int 0)]) [1, 2, 0] dX7_all_15 rfl (Nat.le_of_ble_eq_true rfl) rfl ?_
    refine z_iconst C (v := 0) dX7_all_16 rfl ?_
    refine z_istore_n C (lv2 := [(0, .ref ((zw K).2.1 0)), (1, .int a1), (2, .int 0), (3, .int 0)]) [1, 2, 3, 0] dX7_all_17 rfl (Nat.le_of_ble_eq_true rfl) rfl ?_
    obtain ⟨y14, hg, hf⟩ := zb_el hf
    refine z_sub [0, 1, 2, 3] rfl (w_X7_all_18 C  ?_ _ _ _ hg)
    clear hg
    refine z_iload_n C 0 dX7_all_56 rfl rfl ?_
    cases hf
    exact hret _ _ dX7_all_57
  · replace hf := if_t c15 hf
    refine z_iconst C (v := (-1)) dX7_all_8 (by decide) ?_
    cases hf
    exact hret _ _ dX7_all_9
def rmX7_isNode : Room := { frames := 1, cells := 0, slots := 0, locals := 25 }
theorem zdX7_isNode : yX7_isNode.cls = RX7 ∧ yX7_isNode.cls ≠ "java/lang/invoke/MethodHandle" ∧ yX7_isNode.cls ≠ "java/lang/invoke/VarHandle" ∧ (parseMethodDescriptor yX7_isNode.desc).map (fun d => d.parameters.length) = some 1 := by decide +kernel
theorem kiX7_isNode_X7 : ∀ w ∈ wsX70, w ∈ wsX7_isNode := by decide +kernel
theorem kfX7_isNode_140 : Cond.fieldLink RX7 140 "ShapeJudgeModel" "nodes" "I" ∈ wsX7_isNode := by decide +kernel
def s_X7_isNode (m : Mem) (a1 : Int32) : Option (Int32) :=
  (s_X7_in (a1.toInt64) 0 ((m 0 0) - 1).toInt64).bind fun r2 => ck (r2 = 0 ∨ r2 = 1) (some r2)
set_option maxRecDepth 100000 in
set_option maxHeartbeats 4000000 in
theorem c_X7_isNode (l : Launch) (w : ZW) {m : Mem} {a1 : Int32} {r9 : Int32}  (hf : s_X7_isNode m a1 = some r9) : zCi MM l w yX7_isNode wsX7_isNode rmX7_isNode [.ref (w.2.1 0), .int a1] m m r9 := by
  refine z_met_z MM_ok (own := RX7) (by decide +kernel) rfl rfl (Nat.le_of_ble_eq_true rfl) ?_
  intro K C hKw hKl hret
  subst hKw
  subst hKl
  unfold s_X7_isNode at hf
  show zGo MM K m [(0, .ref ((zw K).2.1 0)), (1, .int a1)] 0 []
  refine z_iload_n C 1 dX7_isNode_0 rfl rfl ?_
  refine z_i2l C dX7_isNode_1 ?_
  refine z_lconst C (v := 0) dX7_isNode_2 rfl ?_
  refine z_aload_n C 0 dX7_isNode_3 rfl rfl ?_
  refine z_geti C (Nat.le_of_ble_eq_true rfl) rfl rfl 0 (Nat.le_of_ble_eq_true rfl) rfl kiX7_isNode_X7 kfX7_isNode_140 dX7_isNode_4 ?_
  refine z_iconst C (v := 1) dX7_isNode_7 rfl ?_
  refine z_isub C dX7_isNode_8 ?_
  refine z_i2l C dX7_isNode_9 ?_
  obtain ⟨r2, hc1, hf⟩ := zb_el hf
  refine z_cSi C (c_X7_in _ _ hc1) rfl gX7_isNode_X7_in rfl rfl zdX7_in.2 rfl ⟨Nat.le_of_ble_eq_true rfl, Nat.le_of_ble_eq_true rfl⟩ (Nat.le_of_ble_eq_true rfl) dX7_isNode_10 rfl ?_
  obtain ⟨hz, hf⟩ := ck_el hf
  cases hf
  exact hret _ _ dX7_isNode_13 hz
def rmX7_areBoth : Room := { frames := 2, cells := 0, slots := 0, locals := 46 }
theorem zdX7_areBoth : yX7_areBoth.cls = RX7 ∧ yX7_areBoth.cls ≠ "java/lang/invoke/MethodHandle" ∧ yX7_areBoth.cls ≠ "java/lang/invoke/VarHandle" ∧ (parseMethodDescriptor yX7_areBoth.desc).map (fun d => d.parameters.length) = some 2 := by decide +kernel
def s_X7_areBoth (m : Mem) (a1 : Int32) (a2 : Int32) : Option (Int32) :=
  (s_X7_isNode m a1).bind fun r2 => (if r2 = 0 then (some 0) else ((s_X7_isShape m a2).bind fun r4 => (if r4 = 0 then (some 0) else (some 1))))
set_option maxRecDepth 100000 in
set_option maxHeartbeats 4000000 in
theorem c_X7_areBoth (l : Launch) (w : ZW) {m : Mem} {a1 : Int32} {a2 : Int32} {r9 : Int32}  (hf : s_X7_areBoth m a1 a2 = some r9) : zCi MM l w yX7_areBoth wsX7_areBoth rmX7_areBoth [.ref (w.2.1 0), .int a1, .int a2] m m r9 := by
  refine z_met_z MM_ok (own := RX7) (by decide +kernel) rfl rfl (Nat.le_of_ble_eq_true rfl) ?_
  intro K C hKw hKl hret
  subst hKw
  subst hKl
  unfold s_X7_areBoth at hf
  show zGo MM K m [(0, .ref ((zw K).2.1 0)), (1, .int a1), (2, .int a2)] 0 []
  refine z_aload_n C 0 dX7_areBoth_0 rfl rfl ?_
  refine z_iload_n C 1 dX7_areBoth_1 rfl rfl ?_
  obtain ⟨r2, hc1, hf⟩ := zb_el hf
  refine z_cVi C (c_X7_isNode _ _ hc1) rfl gX7_areBoth_X7_isNode rfl rfl zdX7_isNode rfl (Nat.le_of_ble_eq_true rfl) rfl rfl rfl ⟨Nat.le_of_ble_eq_true rfl, Nat.le_of_ble_eq_true rfl⟩ (Nat.le_of_ble_eq_true rfl) dX7_areBoth_2 rfl ?_
  refine z_if_eq (tgt := 20) C dX7_areBoth_5 (by decide) (fun c6 => ?_) (fun c6 => ?_)
  · replace hf := if_t c6 hf
    refine z_iconst C (v := 0) dX7_areBoth_20 rfl ?_
    cases hf
    exact hret _ _ dX7_areBoth_21 (Or.inl rfl)
  · replace hf := if_f c6 hf
    refine z_aload_n C 0 dX7_areBoth_8 rfl rfl ?_
    refine z_iload_n C 2 dX7_areBoth_9 rfl rfl ?_
    obtain ⟨r4, hc3, hf⟩ := zb_el hf
    refine z_cVi C (c_X7_isShape _ _ hc3) rfl gX7_areBoth_X7_isShape rfl rfl zdX7_isShape rfl (Nat.le_of_ble_eq_true rfl) rfl rfl rfl ⟨Nat.le_of_ble_eq_true rfl, Nat.le_of_ble_eq_true rfl⟩ (Nat.le_of_ble_eq_true rfl) dX7_areBoth_10 rfl ?_
    refine z_if_eq (tgt := 20) C dX7_areBoth_13 (by decide) (fun c5 => ?_) (fun c5 => ?_)
    · replace hf := if_t c5 hf
      refine z_iconst C (v := 0) dX7_areBoth_20 rfl ?_
      cases hf
      exact hret _ _ dX7_areBoth_21 (Or.inl rfl)
    · replace hf := if_f c5 hf
      refine z_iconst C (v := 1) dX7_areBoth_16 rfl ?_
      refine z_goto (tgt := 21) C dX7_areBoth_17 (by decide) ?_
      cases hf
      exact hret _ _ dX7_areBoth_21 (Or.inr rfl)
def rmX7_bits : Room := { frames := 0, cells := 0, slots := 0, locals := 0 }
theorem zdX7_bits : yX7_bits.cls = RX7 ∧ yX7_bits.cls ≠ "java/lang/invoke/MethodHandle" ∧ yX7_bits.cls ≠ "java/lang/invoke/VarHandle" ∧ (parseMethodDescriptor yX7_bits.desc).map (fun d => d.parameters.length) = some 1 := by decide +kernel
def t_X7_bits_4 (a1 : Int32) (i1 : Int32) (i2 : Int32) : Option ((Int32 × Int32) ⊕ (Int32)) :=
  (if 5 ≤ i2 then (some (.inr i1)) else (bn (i1 + ((a1 >>> (i2 &&& 31)) &&& 1)) fun x3 => bn (i2 + 1) fun x4 => some (.inl (x3, x4))))
def l_X7_bits_4 (a1 : Int32) (n : Nat) (i1 : Int32) (i2 : Int32) : Option (Int32) := zlp n (fun a => t_X7_bits_4 a1 a.1 a.2) (i1, i2)
def s_X7_bits (a1 : Int32) : Option (Int32) :=
  ((l_X7_bits_4 a1 FU 0 0).bind fun y6 => some y6)
set_option maxRecDepth 100000 in
set_option maxHeartbeats 4000000 in
theorem w_X7_bits_4 {K : ZK} (C : zOK MM K cX7_bits 3 (some .int) RX7 wsX7_bits rmX7_bits) {m : Mem} {a1 : Int32}  {o0 : Int32} (hk : zGo MM K m [(1, .int o0)] 23 []) : ∀ (n : Nat) (i1 : Int32) (i2 : Int32), l_X7_bits_4 a1 n i1 i2 = some o0 → zGo MM K m [(0, .int a1), (1, .int i1), (2, .int i2)] 4 [] := by
  intro n
  induction n with
  | zero =>
    intro i1 i2 hf
    cases hf
  | succ n ih =>
    intro i1 i2 hf
    obtain ⟨z, hf, hz⟩ := zlp_el hf
    replace hf : t_X7_bits_4 a1 i1 i2 = some z := hf
    unfold t_X7_bits_4 at hf
    refine z_iload_n C 2 dX7_bits_4 rfl rfl ?_
    refine z_iconst C (v := 5) dX7_bits_5 rfl ?_
    refine z_icmp_ge (tgt := 23) C dX7_bits_6 (by decide) (fun c5 => ?_) (fun c5 => ?_)
    · replace hf := if_t c5 hf
      cases hf
      replace hz := zlz_r hz
      cases hz
      exact z_sub [1] rfl hk
    · replace hf := if_f c5 hf
      refine z_iload_n C 1 dX7_bits_9 rfl rfl ?_
      refine z_iload_n C 0 dX7_bits_10 rfl rfl ?_
      refine z_iload_n C 2 dX7_bits_11 rfl rfl ?_
      refine z_ishr C dX7_bits_12 ?_
      refine z_iconst C (v := 1) dX7_bits_13 rfl ?_
      refine z_iand C dX7_bits_14 ?_
      refine z_iadd C dX7_bits_15 ?_
      refine z_topi (fun x3 e_x3 => ?_)
      replace hf := bn_to e_x3 hf
      refine z_istore_n C (lv2 := [(0, .int a1), (1, .int x3), (2, .int i2)]) [1, 0, 2] dX7_bits_16 rfl (Nat.le_of_ble_eq_true rfl) rfl ?_
      obtain ⟨x4, e_x4⟩ : ∃ y : Int32, y = i2 + 1 := ⟨_, rfl⟩
      replace hf := bn_to e_x4 hf
      refine z_iinc C (lv2 := [(0, .int a1), (1, .int x3), (2, .int x4)]) 2 [1, 2, 0] dX7_bits_17 rfl rfl (Nat.le_of_ble_eq_true rfl) e_x4 rfl ?_
      refine z_goto (tgt := 4) C dX7_bits_20 (by decide) ?_
      cases hf
      exact z_sub [0, 1, 2] rfl (ih x3 x4 hz)
set_option maxRecDepth 100000 in
set_option maxHeartbeats 4000000 in
theorem c_X7_bits (l : Launch) (w : ZW) {m : Mem} {a1 : Int32} {r9 : Int32}  (hf : s_X7_bits a1 = some r9) : zCi MM l w yX7_bits wsX7_bits rmX7_bits [.int a1] m m r9 := by
  refine z_met_i MM_ok (own := RX7) (by decide +kernel) rfl rfl (Nat.le_of_ble_eq_true rfl) ?_
  intro K C hKw hKl hret
  subst hKw
  subst hKl
  unfold s_X7_bits at hf
  show zGo MM K m [(0, .int a1)] 0 []
  refine z_iconst C (v := 0) dX7_bits_0 rfl ?_
  refine z_istore_n C (lv2 := [(0, .int a1), (1, .int 0)]) [1, 0] dX7_bits_1 rfl (Nat.le_of_ble_eq_true rfl) rfl ?_
  refine z_iconst C (v := 0) dX7_bits_2 rfl ?_
  refine z_istore_n C (lv2 := [(0, .int a1), (1, .int 0), (2, .int 0)]) [1, 2, 0] dX7_bits_3 rfl (Nat.le_of_ble_eq_true rfl) rfl ?_
  obtain ⟨y6, hg, hf⟩ := zb_el hf
  refine z_sub [0, 1, 2] rfl (w_X7_bits_4 C  ?_ _ _ _ hg)
  clear hg
  refine z_iload_n C 0 dX7_bits_23 rfl rfl ?_
  cases hf
  exact hret _ _ dX7_bits_24
def rmX7_comes : Room := { frames := 0, cells := 0, slots := 0, locals := 0 }
theorem zdX7_comes : yX7_comes.cls = RX7 ∧ yX7_comes.cls ≠ "java/lang/invoke/MethodHandle" ∧ yX7_comes.cls ≠ "java/lang/invoke/VarHandle" ∧ (parseMethodDescriptor yX7_comes.desc).map (fun d => d.parameters.length) = some 2 := by decide +kernel
theorem kiX7_comes_X7 : ∀ w ∈ wsX70, w ∈ wsX7_comes := by decide +kernel
theorem kfX7_comes_234 : Cond.fieldLink RX7 234 "ShapeJudgeModel" "dShapes" "I" ∈ wsX7_comes := by decide +kernel
theorem kfX7_comes_89 : Cond.fieldLink RX7 89 "ShapeJudgeModel" "dSize" "[I" ∈ wsX7_comes := by decide +kernel
theorem kfX7_comes_92 : Cond.fieldLink RX7 92 "ShapeJudgeModel" "dKind" "[I" ∈ wsX7_comes := by decide +kernel
theorem kfX7_comes_95 : Cond.fieldLink RX7 95 "ShapeJudgeModel" "dAround" "[I" ∈ wsX7_comes := by decide +kernel
theorem kfX7_comes_98 : Cond.fieldLink RX7 98 "ShapeJudgeModel" "dLeast" "[I" ∈ wsX7_comes := by decide +kernel
theorem kfX7_comes_101 : Cond.fieldLink RX7 101 "ShapeJudgeModel" "dMost" "[I" ∈ wsX7_comes := by decide +kernel
theorem kfX7_comes_104 : Cond.fieldLink RX7 104 "ShapeJudgeModel" "dPartOf" "[I" ∈ wsX7_comes := by decide +kernel
def s_X7_comes (m : Mem) (a1 : Int32) (a2 : Int32) : Option (Int32 × Mem) :=
  ck (zin (m 0 21) 6 = true) (bn (((160 : Int32) * (m 0 21)) + (m 27 (Int32.toNatClampNeg (m 0 21)))) fun x2 => ck (zin x2 960 = true) (bn (sto m 28 (Int32.toNatClampNeg x2) a1) fun m4 => ck (zin x2 960 = true) (bn (sto m4 29 (Int32.toNatClampNeg x2) a2) fun m6 => ck (zin x2 960 = true) (bn (sto m6 30 (Int32.toNatClampNeg x2) 1) fun m8 => ck (zin x2 960 = true) (bn (sto m8 31 (Int32.toNatClampNeg x2) 1) fun m10 => ck (zin x2 960 = true) (bn (sto m10 32 (Int32.toNatClampNeg x2) (-4)) fun m12 => ck (zin (m12 0 21) 6 = true) (ck (zin (m12 0 21) 6 = true) (bn (sto m12 27 (Int32.toNatClampNeg (m12 0 21)) ((m12 27 (Int32.toNatClampNeg (m12 0 21))) + 1)) fun m15 => some (x2, m15)))))))))
set_option maxRecDepth 100000 in
set_option maxHeartbeats 4000000 in
theorem c_X7_comes (l : Launch) (w : ZW) {m : Mem} {a1 : Int32} {a2 : Int32} {r9 : Int32} {m9 : Mem}  (hf : s_X7_comes m a1 a2 = some (r9, m9)) : zCi MM l w yX7_comes wsX7_comes rmX7_comes [.ref (w.2.1 0), .int a1, .int a2] m m9 r9 := by
  refine z_met_i MM_ok (own := RX7) (by decide +kernel) rfl rfl (Nat.le_of_ble_eq_true rfl) ?_
  intro K C hKw hKl hret
  subst hKw
  subst hKl
  unfold s_X7_comes at hf
  show zGo MM K m [(0, .ref ((zw K).2.1 0)), (1, .int a1), (2, .int a2)] 0 []
  refine z_sipush C (v := 160) dX7_comes_0 rfl ?_
  refine z_aload_n C 0 dX7_comes_3 rfl rfl ?_
  refine z_geti C (Nat.le_of_ble_eq_true rfl) rfl rfl 21 (Nat.le_of_ble_eq_true rfl) rfl kiX7_comes_X7 kfX7_comes_234 dX7_comes_4 ?_
  refine z_imul C dX7_comes_7 ?_
  refine z_aload_n C 0 dX7_comes_8 rfl rfl ?_
  refine z_getr C (t := 27) (Nat.le_of_ble_eq_true rfl) rfl rfl 30 (Nat.le_of_ble_eq_true rfl) rfl kiX7_comes_X7 kfX7_comes_89 dX7_comes_9 ?_
  refine z_aload_n C 0 dX7_comes_12 rfl rfl ?_
  refine z_geti C (Nat.le_of_ble_eq_true rfl) rfl rfl 21 (Nat.le_of_ble_eq_true rfl) rfl kiX7_comes_X7 kfX7_comes_234 dX7_comes_13 ?_
  obtain ⟨hi1, hf⟩ := ck_el hf
  refine z_iald C (k := 27) (Nat.le_of_ble_eq_true rfl) rfl hi1 dX7_comes_16 ?_
  refine z_iadd C dX7_comes_17 ?_
  refine z_topi (fun x2 e_x2 => ?_)
  replace hf := bn_to e_x2 hf
  refine z_istore_n C (lv2 := [(0, .ref ((zw K).2.1 0)), (1, .int a1), (2, .int a2), (3, .int x2)]) [1, 2, 3, 0] dX7_comes_18 rfl (Nat.le_of_ble_eq_true rfl) rfl ?_
  refine z_aload_n C 0 dX7_comes_19 rfl rfl ?_
  refine z_getr C (t := 28) (Nat.le_of_ble_eq_true rfl) rfl rfl 31 (Nat.le_of_ble_eq_true rfl) rfl kiX7_comes_X7 kfX7_comes_92 dX7_comes_20 ?_
  refine z_iload_n C 3 dX7_comes_23 rfl rfl ?_
  refine z_iload_n C 1 dX7_comes_24 rfl rfl ?_
  obtain ⟨hi3, hf⟩ := ck_el hf
  refine z_iast C (k := 28) (Nat.le_of_ble_eq_true rfl) rfl hi3 dX7_comes_25 ?_
  refine z_nm (fun m4 e_m4 => ?_)
  replace hf := bn_to e_m4 hf
  refine z_aload_n C 0 dX7_comes_26 rfl rfl ?_
  refine z_getr C (t := 29) (Nat.le_of_ble_eq_true rfl) rfl rfl 32 (Nat.le_of_ble_eq_true rfl) rfl kiX7_comes_X7 kfX7_comes_95 dX7_comes_27 ?_
  refine z_iload_n C 3 dX7_comes_30 rfl rfl ?_
  refine z_iload_n C 2 dX7_comes_31 rfl rfl ?_
  obtain ⟨hi5, hf⟩ := ck_el hf
  refine z_iast C (k := 29) (Nat.le_of_ble_eq_true rfl) rfl hi5 dX7_comes_32 ?_
  refine z_nm (fun m6 e_m6 => ?_)
  replace hf := bn_to e_m6 hf
  refine z_aload_n C 0 dX7_comes_33 rfl rfl ?_
  refine z_getr C (t := 30) (Nat.le_of_ble_eq_true rfl) rfl rfl 33 (Nat.le_of_ble_eq_true rfl) rfl kiX7_comes_X7 kfX7_comes_98 dX7_comes_34 ?_
  refine z_iload_n C 3 dX7_comes_37 rfl rfl ?_
  refine z_iconst C (v := 1) dX7_comes_38 rfl ?_
  obtain ⟨hi7, hf⟩ := ck_el hf
  refine z_iast C (k := 30) (Nat.le_of_ble_eq_true rfl) rfl hi7 dX7_comes_39 ?_
  refine z_nm (fun m8 e_m8 => ?_)
  replace hf := bn_to e_m8 hf
  refine z_aload_n C 0 dX7_comes_40 rfl rfl ?_
  refine z_getr C (t := 31) (Nat.le_of_ble_eq_true rfl) rfl rfl 34 (Nat.le_of_ble_eq_true rfl) rfl kiX7_comes_X7 kfX7_comes_101 dX7_comes_41 ?_
  refine z_iload_n C 3 dX7_comes_44 rfl rfl ?_
  refine z_iconst C (v := 1) dX7_comes_45 rfl ?_
  obtain ⟨hi9, hf⟩ := ck_el hf
  refine z_iast C (k := 31) (Nat.le_of_ble_eq_true rfl) rfl hi9 dX7_comes_46 ?_
  refine z_nm (fun m10 e_m10 => ?_)
  replace hf := bn_to e_m10 hf
  refine z_aload_n C 0 dX7_comes_47 rfl rfl ?_
  refine z_getr C (t := 32) (Nat.le_of_ble_eq_true rfl) rfl rfl 35 (Nat.le_of_ble_eq_true rfl) rfl kiX7_comes_X7 kfX7_comes_104 dX7_comes_48 ?_
  refine z_iload_n C 3 dX7_comes_51 rfl rfl ?_
  refine z_bipush C (v := (-4)) dX7_comes_52 (by decide) ?_
  obtain ⟨hi11, hf⟩ := ck_el hf
  refine z_iast C (k := 32) (Nat.le_of_ble_eq_true rfl) rfl hi11 dX7_comes_54 ?_
  refine z_nm (fun m12 e_m12 => ?_)
  replace hf := bn_to e_m12 hf
  refine z_aload_n C 0 dX7_comes_55 rfl rfl ?_
  refine z_getr C (t := 27) (Nat.le_of_ble_eq_true rfl) rfl rfl 30 (Nat.le_of_ble_eq_true rfl) rfl kiX7_comes_X7 kfX7_comes_89 dX7_comes_56 ?_
  refine z_aload_n C 0 dX7_comes_59 rfl rfl ?_
  refine z_geti C (Nat.le_of_ble_eq_true rfl) rfl rfl 21 (Nat.le_of_ble_eq_true rfl) rfl kiX7_comes_X7 kfX7_comes_234 dX7_comes_60 ?_
  refine z_dup2 C dX7_comes_63 ?_
  obtain ⟨hi13, hf⟩ := ck_el hf
  refine z_iald C (k := 27) (Nat.le_of_ble_eq_true rfl) rfl hi13 dX7_comes_64 ?_
  refine z_iconst C (v := 1) dX7_comes_65 rfl ?_
  refine z_iadd C dX7_comes_66 ?_
  obtain ⟨hi14, hf⟩ := ck_el hf
  refine z_iast C (k := 27) (Nat.le_of_ble_eq_true rfl) rfl hi14 dX7_comes_67 ?_
  refine z_nm (fun m15 e_m15 => ?_)
  replace hf := bn_to e_m15 hf
  refine z_iload_n C 3 dX7_comes_68 rfl rfl ?_
  cases hf
  exact hret _ _ dX7_comes_69
