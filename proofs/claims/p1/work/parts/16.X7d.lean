def rmX7_readShape : Room := { frames := 7, cells := 0, slots := 0, locals := 152 }
theorem zdX7_readShape : yX7_readShape.cls = RX7 ∧ yX7_readShape.cls ≠ "java/lang/invoke/MethodHandle" ∧ yX7_readShape.cls ≠ "java/lang/invoke/VarHandle" ∧ (parseMethodDescriptor yX7_readShape.desc).map (fun d => d.parameters.length) = some 0 := by decide +kernel
theorem kiX7_readShape_X7 : ∀ w ∈ wsX70, w ∈ wsX7_readShape := by decide +kernel
theorem kfX7_readShape_177 : Cond.fieldLink RX7 177 "ShapeJudgeModel" "fault" "I" ∈ wsX7_readShape := by decide +kernel
theorem kfX7_readShape_234 : Cond.fieldLink RX7 234 "ShapeJudgeModel" "dShapes" "I" ∈ wsX7_readShape := by decide +kernel
theorem kfX7_readShape_65 : Cond.fieldLink RX7 65 "ShapeJudgeModel" "dWords" "[I" ∈ wsX7_readShape := by decide +kernel
theorem kfX7_readShape_200 : Cond.fieldLink RX7 200 "ShapeJudgeModel" "value" "I" ∈ wsX7_readShape := by decide +kernel
theorem kfX7_readShape_186 : Cond.fieldLink RX7 186 "ShapeJudgeModel" "from" "I" ∈ wsX7_readShape := by decide +kernel
theorem kfX7_readShape_89 : Cond.fieldLink RX7 89 "ShapeJudgeModel" "dSize" "[I" ∈ wsX7_readShape := by decide +kernel
theorem kfX7_readShape_71 : Cond.fieldLink RX7 71 "ShapeJudgeModel" "dParts" "[I" ∈ wsX7_readShape := by decide +kernel
theorem kfX7_readShape_68 : Cond.fieldLink RX7 68 "ShapeJudgeModel" "dClosed" "[Z" ∈ wsX7_readShape := by decide +kernel
theorem kfX7_readShape_193 : Cond.fieldLink RX7 193 "ShapeJudgeModel" "sort" "I" ∈ wsX7_readShape := by decide +kernel
def t_X7_readShape_51  (i3 : Int32) (m4 : Mem) : Option ((Int32 × Mem) ⊕ (Mem)) :=
  (if (m4 0 21) ≤ i3 then (some (.inr m4)) else ((if (m4 0 42) = 0 then (ck (zin i3 6 = true) ((if (m4 19 (Int32.toNatClampNeg i3)) = (m4 0 41) then ((s_X7_fails m4 5 (m4 0 39)).bind fun m8 => bn (i3 + 1) fun x9 => some (.inl (x9, m8))) else (bn (i3 + 1) fun x6 => some (.inl (x6, m4)))))) else (some (.inr m4)))))
def l_X7_readShape_51  (n : Nat) (i3 : Int32) (m4 : Mem) : Option (Mem) := zlp n (fun a => t_X7_readShape_51  a.1 a.2) (i3, m4)
def s_X7_readShape (m : Mem)  : Option (Mem) :=
  (((if (m 0 42) = 0 then ((if (m 0 40) = 1 then (some m) else ((s_X7_fails m 2 (m 0 39)).bind fun m58 => some m58))) else (some m)) : Option (Mem)).bind fun m1 => (((if (m1 0 42) = 0 then ((if (m1 0 21) = 6 then ((s_X7_fails m1 4 (m1 0 39)).bind fun m54 => some m54) else (some m1))) else (some m1)) : Option (Mem)).bind fun m2 => ((l_X7_readShape_51  FU 0 m2).bind fun m13 => (if (m13 0 42) ≤ 0 then (zb2 (s_X7_taken m13 1) fun r15 m16 => ck (zin (m13 0 21) 6 = true) (bn (sto m16 19 (Int32.toNatClampNeg (m13 0 21)) r15) fun m18 => ck (zin (m18 0 21) 6 = true) (bn (sto m18 27 (Int32.toNatClampNeg (m18 0 21)) 0) fun m20 => ck (zin (m20 0 21) 6 = true) (bn (sto m20 21 (Int32.toNatClampNeg (m20 0 21)) 0) fun m22 => ck (zin (m22 0 21) 6 = true) (bn (sto m22 20 (Int32.toNatClampNeg (m22 0 21)) (vp_nar .boolean 0)) fun m24 => (s_X7_taken2 m24 61).bind fun m26 => (((if (m26 0 42) = 0 then ((s_X7_is m26 40).bind fun r44 => (if r44 = 0 then ((if (m26 0 40) = 2 then ((s_X7_readAny m26).bind fun m48 => some m48) else (some m26))) else ((s_X7_readAny m26).bind fun m46 => some m46))) else (some m26)) : Option (Mem)).bind fun m27 => (if (m27 0 42) = 0 then ((if (m27 0 40) = 3 then (ck (zin (m27 0 21) 6 = true) (bn (sto m27 20 (Int32.toNatClampNeg (m27 0 21)) (vp_nar .boolean 1)) fun m35 => (s_X7_next m35).bind fun m37 => (s_X7_taken2 m37 59).bind fun m39 => bn (sto m39 0 21 ((m39 0 21) + 1)) fun m40 => some m40)) else ((s_X7_taken2 m27 59).bind fun m32 => bn (sto m32 0 21 ((m32 0 21) + 1)) fun m33 => some m33))) else ((s_X7_taken2 m27 59).bind fun m29 => bn (sto m29 0 21 ((m29 0 21) + 1)) fun m30 => some m30)))))))) else (some m13)))))
set_option maxRecDepth 100000 in
set_option maxHeartbeats 4000000 in
theorem w_X7_readShape_51 {K : ZK} (C : zOK MM K cX7_readShape 2 none RX7 wsX7_readShape rmX7_readShape)   {o0 : Mem} (hk : zGo MM K o0 [(0, .ref ((zw K).2.1 0))] 94 []) : ∀ (n : Nat) (i3 : Int32) (m4 : Mem), l_X7_readShape_51  n i3 m4 = some o0 → zGo MM K m4 [(0, .ref ((zw K).2.1 0)), (1, .int i3)] 51 [] := by
  intro n
  induction n with
  | zero =>
    intro i3 m4 hf
    cases hf
  | succ n ih =>
    intro i3 m4 hf
    obtain ⟨z, hf, hz⟩ := zlp_el hf
    replace hf : t_X7_readShape_51  i3 m4 = some z := hf
    unfold t_X7_readShape_51 at hf
    refine z_iload_n C 1 dX7_readShape_51 rfl rfl ?_
    refine z_aload_n C 0 dX7_readShape_52 rfl rfl ?_
    refine z_geti C (Nat.le_of_ble_eq_true rfl) rfl rfl 21 (Nat.le_of_ble_eq_true rfl) rfl kiX7_readShape_X7 kfX7_readShape_234 dX7_readShape_53 ?_
    refine z_icmp_ge (tgt := 94) C dX7_readShape_56 (by decide) (fun c12 => ?_) (fun c12 => ?_)
    · replace hf := if_t c12 hf
      cases hf
      replace hz := zlz_r hz
      cases hz
      exact z_sub [0] rfl hk
    · replace hf := if_f c12 hf
      refine z_aload_n C 0 dX7_readShape_59 rfl rfl ?_
      refine z_geti C (Nat.le_of_ble_eq_true rfl) rfl rfl 42 (Nat.le_of_ble_eq_true rfl) rfl kiX7_readShape_X7 kfX7_readShape_177 dX7_readShape_60 ?_
      refine z_if_ne (tgt := 94) C dX7_readShape_63 (by decide) (fun c11 => ?_) (fun c11 => ?_)
      · replace hf := if_f c11 hf
        cases hf
        replace hz := zlz_r hz
        cases hz
        exact z_sub [0] rfl hk
      · replace hf := if_t c11 hf
        refine z_aload_n C 0 dX7_readShape_66 rfl rfl ?_
        refine z_getr C (t := 19) (Nat.le_of_ble_eq_true rfl) rfl rfl 22 (Nat.le_of_ble_eq_true rfl) rfl kiX7_readShape_X7 kfX7_readShape_65 dX7_readShape_67 ?_
        refine z_iload_n C 1 dX7_readShape_70 rfl rfl ?_
        obtain ⟨hi5, hf⟩ := ck_el hf
        refine z_iald C (k := 19) (Nat.le_of_ble_eq_true rfl) rfl hi5 dX7_readShape_71 ?_
        refine z_aload_n C 0 dX7_readShape_72 rfl rfl ?_
        refine z_geti C (Nat.le_of_ble_eq_true rfl) rfl rfl 41 (Nat.le_of_ble_eq_true rfl) rfl kiX7_readShape_X7 kfX7_readShape_200 dX7_readShape_73 ?_
        refine z_icmp_ne (tgt := 88) C dX7_readShape_76 (by decide) (fun c10 => ?_) (fun c10 => ?_)
        · replace hf := if_f c10 hf
          obtain ⟨x6, e_x6⟩ : ∃ y : Int32, y = i3 + 1 := ⟨_, rfl⟩
          replace hf := bn_to e_x6 hf
          refine z_iinc C (lv2 := [(0, .ref ((zw K).2.1 0)), (1, .int x6)]) 1 [1, 0] dX7_readShape_88 rfl rfl (Nat.le_of_ble_eq_true rfl) e_x6 rfl ?_
          refine z_goto (tgt := 51) C dX7_readShape_91 (by decide) ?_
          cases hf
          exact z_sub [0, 1] rfl (ih x6 m4 hz)
        · replace hf := if_t c10 hf
          refine z_aload_n C 0 dX7_readShape_79 rfl rfl ?_
          refine z_iconst C (v := 5) dX7_readShape_80 rfl ?_
          refine z_aload_n C 0 dX7_readShape_81 rfl rfl ?_
          refine z_geti C (Nat.le_of_ble_eq_true rfl) rfl rfl 39 (Nat.le_of_ble_eq_true rfl) rfl kiX7_readShape_X7 kfX7_readShape_186 dX7_readShape_82 ?_
          obtain ⟨m8, hc7, hf⟩ := zb_el hf
          refine z_cVv C (c_X7_fails _ _ hc7) rfl gX7_readShape_X7_fails rfl rfl zdX7_fails rfl (Nat.le_of_ble_eq_true rfl) rfl rfl rfl ⟨Nat.le_of_ble_eq_true rfl, Nat.le_of_ble_eq_true rfl⟩ (Nat.le_of_ble_eq_true rfl) dX7_readShape_85 rfl ?_
          obtain ⟨x9, e_x9⟩ : ∃ y : Int32, y = i3 + 1 := ⟨_, rfl⟩
          replace hf := bn_to e_x9 hf
          refine z_iinc C (lv2 := [(0, .ref ((zw K).2.1 0)), (1, .int x9)]) 1 [1, 0] dX7_readShape_88 rfl rfl (Nat.le_of_ble_eq_true rfl) e_x9 rfl ?_
          refine z_goto (tgt := 51) C dX7_readShape_91 (by decide) ?_
          cases hf
          exact z_sub [0, 1] rfl (ih x9 m8 hz)
set_option maxRecDepth 100000 in
set_option maxHeartbeats 4000000 in
theorem c_X7_readShape (l : Launch) (w : ZW) {m : Mem}  {m9 : Mem}  (hf : s_X7_readShape m  = some m9) : zCv MM l w yX7_readShape wsX7_readShape rmX7_readShape [.ref (w.2.1 0)] m m9 := by
  refine z_met_v MM_ok (own := RX7) (by decide +kernel) rfl rfl (Nat.le_of_ble_eq_true rfl) ?_
  intro K C hKw hKl hret
  subst hKw
  subst hKl
  unfold s_X7_readShape at hf
  show zGo MM K m [(0, .ref ((zw K).2.1 0))] 0 []
  refine z_aload_n C 0 dX7_readShape_0 rfl rfl ?_
  refine z_geti C (Nat.le_of_ble_eq_true rfl) rfl rfl 42 (Nat.le_of_ble_eq_true rfl) rfl kiX7_readShape_X7 kfX7_readShape_177 dX7_readShape_1 ?_
  obtain ⟨m1, hg, hf⟩ := zb_el hf
  have hj : zGo MM K m1 [(0, .ref ((zw K).2.1 0))] 24 [] := by
    refine z_aload_n C 0 dX7_readShape_24 rfl rfl ?_
    refine z_geti C (Nat.le_of_ble_eq_true rfl) rfl rfl 42 (Nat.le_of_ble_eq_true rfl) rfl kiX7_readShape_X7 kfX7_readShape_177 dX7_readShape_25 ?_
    obtain ⟨m2, hg, hf⟩ := zb_el hf
    have hj : zGo MM K m2 [(0, .ref ((zw K).2.1 0))] 49 [] := by
      refine z_iconst C (v := 0) dX7_readShape_49 rfl ?_
      refine z_istore_n C (lv2 := [(0, .ref ((zw K).2.1 0)), (1, .int 0)]) [1, 0] dX7_readShape_50 rfl (Nat.le_of_ble_eq_true rfl) rfl ?_
      obtain ⟨m13, hg, hf⟩ := zb_el hf
      refine z_sub [0, 1] rfl (w_X7_readShape_51 C  ?_ _ _ _ hg)
      clear hg
      refine z_aload_n C 0 dX7_readShape_94 rfl rfl ?_
      refine z_geti C (Nat.le_of_ble_eq_true rfl) rfl rfl 42 (Nat.le_of_ble_eq_true rfl) rfl kiX7_readShape_X7 kfX7_readShape_177 dX7_readShape_95 ?_
      refine z_if_le (tgt := 102) C dX7_readShape_98 (by decide) (fun c52 => ?_) (fun c52 => ?_)
      · replace hf := if_t c52 hf
        refine z_aload_n C 0 dX7_readShape_102 rfl rfl ?_
        refine z_getr C (t := 19) (Nat.le_of_ble_eq_true rfl) rfl rfl 22 (Nat.le_of_ble_eq_true rfl) rfl kiX7_readShape_X7 kfX7_readShape_65 dX7_readShape_103 ?_
        refine z_aload_n C 0 dX7_readShape_106 rfl rfl ?_
        refine z_geti C (Nat.le_of_ble_eq_true rfl) rfl rfl 21 (Nat.le_of_ble_eq_true rfl) rfl kiX7_readShape_X7 kfX7_readShape_234 dX7_readShape_107 ?_
        refine z_aload_n C 0 dX7_readShape_110 rfl rfl ?_
        refine z_iconst C (v := 1) dX7_readShape_111 rfl ?_
        obtain ⟨r15, m16, hc14, hf⟩ := zb2_el hf
        refine z_cVi C (c_X7_taken _ _ hc14) rfl gX7_readShape_X7_taken rfl rfl zdX7_taken rfl (Nat.le_of_ble_eq_true rfl) rfl rfl rfl ⟨Nat.le_of_ble_eq_true rfl, Nat.le_of_ble_eq_true rfl⟩ (Nat.le_of_ble_eq_true rfl) dX7_readShape_112 rfl ?_
        obtain ⟨hi17, hf⟩ := ck_el hf
        refine z_iast C (k := 19) (Nat.le_of_ble_eq_true rfl) rfl hi17 dX7_readShape_115 ?_
        refine z_nm (fun m18 e_m18 => ?_)
        replace hf := bn_to e_m18 hf
        refine z_aload_n C 0 dX7_readShape_116 rfl rfl ?_
        refine z_getr C (t := 27) (Nat.le_of_ble_eq_true rfl) rfl rfl 30 (Nat.le_of_ble_eq_true rfl) rfl kiX7_readShape_X7 kfX7_readShape_89 dX7_readShape_117 ?_
        refine z_aload_n C 0 dX7_readShape_120 rfl rfl ?_
        refine z_geti C (Nat.le_of_ble_eq_true rfl) rfl rfl 21 (Nat.le_of_ble_eq_true rfl) rfl kiX7_readShape_X7 kfX7_readShape_234 dX7_readShape_121 ?_
        refine z_iconst C (v := 0) dX7_readShape_124 rfl ?_
        obtain ⟨hi19, hf⟩ := ck_el hf
        refine z_iast C (k := 27) (Nat.le_of_ble_eq_true rfl) rfl hi19 dX7_readShape_125 ?_
        refine z_nm (fun m20 e_m20 => ?_)
        replace hf := bn_to e_m20 hf
        refine z_aload_n C 0 dX7_readShape_126 rfl rfl ?_
        refine z_getr C (t := 21) (Nat.le_of_ble_eq_true rfl) rfl rfl 24 (Nat.le_of_ble_eq_true rfl) rfl kiX7_readShape_X7 kfX7_readShape_71 dX7_readShape_127 ?_
        refine z_aload_n C 0 dX7_readShape_130 rfl rfl ?_
        refine z_geti C (Nat.le_of_ble_eq_true rfl) rfl rfl 21 (Nat.le_of_ble_eq_true rfl) rfl kiX7_readShape_X7 kfX7_readShape_234 dX7_readShape_131 ?_
        refine z_iconst C (v := 0) dX7_readShape_134 rfl ?_
        obtain ⟨hi21, hf⟩ := ck_el hf
        refine z_iast C (k := 21) (Nat.le_of_ble_eq_true rfl) rfl hi21 dX7_readShape_135 ?_
        refine z_nm (fun m22 e_m22 => ?_)
        replace hf := bn_to e_m22 hf
        refine z_aload_n C 0 dX7_readShape_136 rfl rfl ?_
        refine z_getr C (t := 20) (Nat.le_of_ble_eq_true rfl) rfl rfl 23 (Nat.le_of_ble_eq_true rfl) rfl kiX7_readShape_X7 kfX7_readShape_68 dX7_readShape_137 ?_
        refine z_aload_n C 0 dX7_readShape_140 rfl rfl ?_
        refine z_geti C (Nat.le_of_ble_eq_true rfl) rfl rfl 21 (Nat.le_of_ble_eq_true rfl) rfl kiX7_readShape_X7 kfX7_readShape_234 dX7_readShape_141 ?_
        refine z_iconst C (v := 0) dX7_readShape_144 rfl ?_
        obtain ⟨hi23, hf⟩ := ck_el hf
        refine z_zast C (k := 20) (Nat.le_of_ble_eq_true rfl) rfl hi23 dX7_readShape_145 ?_
        refine z_nm (fun m24 e_m24 => ?_)
        replace hf := bn_to e_m24 hf
        refine z_aload_n C 0 dX7_readShape_146 rfl rfl ?_
        refine z_bipush C (v := 61) dX7_readShape_147 rfl ?_
        obtain ⟨m26, hc25, hf⟩ := zb_el hf
        refine z_cVv C (c_X7_taken2 _ _ hc25) rfl gX7_readShape_X7_taken2 rfl rfl zdX7_taken2 rfl (Nat.le_of_ble_eq_true rfl) rfl rfl rfl ⟨Nat.le_of_ble_eq_true rfl, Nat.le_of_ble_eq_true rfl⟩ (Nat.le_of_ble_eq_true rfl) dX7_readShape_149 rfl ?_
        refine z_aload_n C 0 dX7_readShape_152 rfl rfl ?_
        refine z_geti C (Nat.le_of_ble_eq_true rfl) rfl rfl 42 (Nat.le_of_ble_eq_true rfl) rfl kiX7_readShape_X7 kfX7_readShape_177 dX7_readShape_153 ?_
        obtain ⟨m27, hg, hf⟩ := zb_el hf
        have hj : zGo MM K m27 [(0, .ref ((zw K).2.1 0))] 180 [] := by
          refine z_aload_n C 0 dX7_readShape_180 rfl rfl ?_
          refine z_geti C (Nat.le_of_ble_eq_true rfl) rfl rfl 42 (Nat.le_of_ble_eq_true rfl) rfl kiX7_readShape_X7 kfX7_readShape_177 dX7_readShape_181 ?_
          refine z_if_ne (tgt := 209) C dX7_readShape_184 (by decide) (fun c42 => ?_) (fun c42 => ?_)
          · replace hf := if_f c42 hf
            refine z_aload_n C 0 dX7_readShape_209 rfl rfl ?_
            refine z_bipush C (v := 59) dX7_readShape_210 rfl ?_
            obtain ⟨m29, hc28, hf⟩ := zb_el hf
            refine z_cVv C (c_X7_taken2 _ _ hc28) rfl gX7_readShape_X7_taken2 rfl rfl zdX7_taken2 rfl (Nat.le_of_ble_eq_true rfl) rfl rfl rfl ⟨Nat.le_of_ble_eq_true rfl, Nat.le_of_ble_eq_true rfl⟩ (Nat.le_of_ble_eq_true rfl) dX7_readShape_212 rfl ?_
            refine z_aload_n C 0 dX7_readShape_215 rfl rfl ?_
            refine z_dup_a C dX7_readShape_216 ?_
            refine z_geti C (Nat.le_of_ble_eq_true rfl) rfl rfl 21 (Nat.le_of_ble_eq_true rfl) rfl kiX7_readShape_X7 kfX7_readShape_234 dX7_readShape_217 ?_
            refine z_iconst C (v := 1) dX7_readShape_220 rfl ?_
            refine z_iadd C dX7_readShape_221 ?_
            refine z_puti C (Nat.le_of_ble_eq_true rfl) rfl rfl 21 (Nat.le_of_ble_eq_true rfl) rfl kiX7_readShape_X7 kfX7_readShape_234 tyX7 tyX7_ok nmX7 rfl rfl dX7_readShape_222 ?_
            refine z_nm (fun m30 e_m30 => ?_)
            replace hf := bn_to e_m30 hf
            cases hf
            exact hret _ _ dX7_readShape_225
          · replace hf := if_t c42 hf
            refine z_aload_n C 0 dX7_readShape_187 rfl rfl ?_
            refine z_geti C (Nat.le_of_ble_eq_true rfl) rfl rfl 40 (Nat.le_of_ble_eq_true rfl) rfl kiX7_readShape_X7 kfX7_readShape_193 dX7_readShape_188 ?_
            refine z_iconst C (v := 3) dX7_readShape_191 rfl ?_
            refine z_icmp_ne (tgt := 209) C dX7_readShape_192 (by decide) (fun c41 => ?_) (fun c41 => ?_)
            · replace hf := if_f c41 hf
              refine z_aload_n C 0 dX7_readShape_209 rfl rfl ?_
              refine z_bipush C (v := 59) dX7_readShape_210 rfl ?_
              obtain ⟨m32, hc31, hf⟩ := zb_el hf
              refine z_cVv C (c_X7_taken2 _ _ hc31) rfl gX7_readShape_X7_taken2 rfl rfl zdX7_taken2 rfl (Nat.le_of_ble_eq_true rfl) rfl rfl rfl ⟨Nat.le_of_ble_eq_true rfl, Nat.le_of_ble_eq_true rfl⟩ (Nat.le_of_ble_eq_true rfl) dX7_readShape_212 rfl ?_
              refine z_aload_n C 0 dX7_readShape_215 rfl rfl ?_
              refine z_dup_a C dX7_readShape_216 ?_
              refine z_geti C (Nat.le_of_ble_eq_true rfl) rfl rfl 21 (Nat.le_of_ble_eq_true rfl) rfl kiX7_readShape_X7 kfX7_readShape_234 dX7_readShape_217 ?_
              refine z_iconst C (v := 1) dX7_readShape_220 rfl ?_
              refine z_iadd C dX7_readShape_221 ?_
              refine z_puti C (Nat.le_of_ble_eq_true rfl) rfl rfl 21 (Nat.le_of_ble_eq_true rfl) rfl kiX7_readShape_X7 kfX7_readShape_234 tyX7 tyX7_ok nmX7 rfl rfl dX7_readShape_222 ?_
              refine z_nm (fun m33 e_m33 => ?_)
              replace hf := bn_to e_m33 hf
              cases hf
              exact hret _ _ dX7_readShape_225
            · replace hf := if_t c41 hf
              refine z_aload_n C 0 dX7_readShape_195 rfl rfl ?_
              refine z_getr C (t := 20) (Nat.le_of_ble_eq_true rfl) rfl rfl 23 (Nat.le_of_ble_eq_true rfl) rfl kiX7_readShape_X7 kfX7_readShape_68 dX7_readShape_196 ?_
              refine z_aload_n C 0 dX7_readShape_199 rfl rfl ?_
              refine z_geti C (Nat.le_of_ble_eq_true rfl) rfl rfl 21 (Nat.le_of_ble_eq_true rfl) rfl kiX7_readShape_X7 kfX7_readShape_234 dX7_readShape_200 ?_
              refine z_iconst C (v := 1) dX7_readShape_203 rfl ?_
              obtain ⟨hi34, hf⟩ := ck_el hf
              refine z_zast C (k := 20) (Nat.le_of_ble_eq_true rfl) rfl hi34 dX7_readShape_204 ?_
              refine z_nm (fun m35 e_m35 => ?_)
              replace hf := bn_to e_m35 hf
              refine z_aload_n C 0 dX7_readShape_205 rfl rfl ?_
              obtain ⟨m37, hc36, hf⟩ := zb_el hf
              refine z_cVv C (c_X7_next _ _ hc36) rfl gX7_readShape_X7_next rfl rfl zdX7_next rfl (Nat.le_of_ble_eq_true rfl) rfl rfl rfl ⟨Nat.le_of_ble_eq_true rfl, Nat.le_of_ble_eq_true rfl⟩ (Nat.le_of_ble_eq_true rfl) dX7_readShape_206 rfl ?_
              refine z_aload_n C 0 dX7_readShape_209 rfl rfl ?_
              refine z_bipush C (v := 59) dX7_readShape_210 rfl ?_
              obtain ⟨m39, hc38, hf⟩ := zb_el hf
              refine z_cVv C (c_X7_taken2 _ _ hc38) rfl gX7_readShape_X7_taken2 rfl rfl zdX7_taken2 rfl (Nat.le_of_ble_eq_true rfl) rfl rfl rfl ⟨Nat.le_of_ble_eq_true rfl, Nat.le_of_ble_eq_true rfl⟩ (Nat.le_of_ble_eq_true rfl) dX7_readShape_212 rfl ?_
              refine z_aload_n C 0 dX7_readShape_215 rfl rfl ?_
              refine z_dup_a C dX7_readShape_216 ?_
              refine z_geti C (Nat.le_of_ble_eq_true rfl) rfl rfl 21 (Nat.le_of_ble_eq_true rfl) rfl kiX7_readShape_X7 kfX7_readShape_234 dX7_readShape_217 ?_
              refine z_iconst C (v := 1) dX7_readShape_220 rfl ?_
              refine z_iadd C dX7_readShape_221 ?_
              refine z_puti C (Nat.le_of_ble_eq_true rfl) rfl rfl 21 (Nat.le_of_ble_eq_true rfl) rfl kiX7_readShape_X7 kfX7_readShape_234 tyX7 tyX7_ok nmX7 rfl rfl dX7_readShape_222 ?_
              refine z_nm (fun m40 e_m40 => ?_)
              replace hf := bn_to e_m40 hf
              cases hf
              exact hret _ _ dX7_readShape_225
        replace hf := hg
        clear hg
        refine z_if_ne (tgt := 180) C dX7_readShape_156 (by decide) (fun c51 => ?_) (fun c51 => ?_)
        · replace hf := if_f c51 hf
          cases hf
          exact z_sub [0] rfl hj
        · replace hf := if_t c51 hf
          refine z_aload_n C 0 dX7_readShape_159 rfl rfl ?_
          refine z_bipush C (v := 40) dX7_readShape_160 rfl ?_
          obtain ⟨r44, hc43, hf⟩ := zb_el hf
          refine z_cVi C (c_X7_is _ _ hc43) rfl gX7_readShape_X7_is rfl rfl zdX7_is rfl (Nat.le_of_ble_eq_true rfl) rfl rfl rfl ⟨Nat.le_of_ble_eq_true rfl, Nat.le_of_ble_eq_true rfl⟩ (Nat.le_of_ble_eq_true rfl) dX7_readShape_162 rfl ?_
          refine z_if_ne (tgt := 176) C dX7_readShape_165 (by decide) (fun c50 => ?_) (fun c50 => ?_)
          · replace hf := if_f c50 hf
            refine z_aload_n C 0 dX7_readShape_176 rfl rfl ?_
            obtain ⟨m46, hc45, hf⟩ := zb_el hf
            refine z_cVv C (c_X7_readAny _ _ hc45) rfl gX7_readShape_X7_readAny rfl rfl zdX7_readAny rfl (Nat.le_of_ble_eq_true rfl) rfl rfl rfl ⟨Nat.le_of_ble_eq_true rfl, Nat.le_of_ble_eq_true rfl⟩ (Nat.le_of_ble_eq_true rfl) dX7_readShape_177 rfl ?_
            cases hf
            exact z_sub [0] rfl hj
          · replace hf := if_t c50 hf
            refine z_aload_n C 0 dX7_readShape_168 rfl rfl ?_
            refine z_geti C (Nat.le_of_ble_eq_true rfl) rfl rfl 40 (Nat.le_of_ble_eq_true rfl) rfl kiX7_readShape_X7 kfX7_readShape_193 dX7_readShape_169 ?_
            refine z_iconst C (v := 2) dX7_readShape_172 rfl ?_
            refine z_icmp_ne (tgt := 180) C dX7_readShape_173 (by decide) (fun c49 => ?_) (fun c49 => ?_)
            · replace hf := if_f c49 hf
              cases hf
              exact z_sub [0] rfl hj
            · replace hf := if_t c49 hf
              refine z_aload_n C 0 dX7_readShape_176 rfl rfl ?_
              obtain ⟨m48, hc47, hf⟩ := zb_el hf
              refine z_cVv C (c_X7_readAny _ _ hc47) rfl gX7_readShape_X7_readAny rfl rfl zdX7_readAny rfl (Nat.le_of_ble_eq_true rfl) rfl rfl rfl ⟨Nat.le_of_ble_eq_true rfl, Nat.le_of_ble_eq_true rfl⟩ (Nat.le_of_ble_eq_true rfl) dX7_readShape_177 rfl ?_
              cases hf
              exact z_sub [0] rfl hj
      · replace hf := if_f c52 hf
        cases hf
        exact hret _ _ dX7_readShape_101
    replace hf := hg
    clear hg
    refine z_if_ne (tgt := 49) C dX7_readShape_28 (by decide) (fun c56 => ?_) (fun c56 => ?_)
    · replace hf := if_f c56 hf
      cases hf
      exact z_sub [0] rfl hj
    · replace hf := if_t c56 hf
      refine z_aload_n C 0 dX7_readShape_31 rfl rfl ?_
      refine z_geti C (Nat.le_of_ble_eq_true rfl) rfl rfl 21 (Nat.le_of_ble_eq_true rfl) rfl kiX7_readShape_X7 kfX7_readShape_234 dX7_readShape_32 ?_
      refine z_bipush C (v := 6) dX7_readShape_35 rfl ?_
      refine z_icmp_ne (tgt := 49) C dX7_readShape_37 (by decide) (fun c55 => ?_) (fun c55 => ?_)
      · replace hf := if_f c55 hf
        cases hf
        exact z_sub [0] rfl hj
      · replace hf := if_t c55 hf
        refine z_aload_n C 0 dX7_readShape_40 rfl rfl ?_
        refine z_iconst C (v := 4) dX7_readShape_41 rfl ?_
        refine z_aload_n C 0 dX7_readShape_42 rfl rfl ?_
        refine z_geti C (Nat.le_of_ble_eq_true rfl) rfl rfl 39 (Nat.le_of_ble_eq_true rfl) rfl kiX7_readShape_X7 kfX7_readShape_186 dX7_readShape_43 ?_
        obtain ⟨m54, hc53, hf⟩ := zb_el hf
        refine z_cVv C (c_X7_fails _ _ hc53) rfl gX7_readShape_X7_fails rfl rfl zdX7_fails rfl (Nat.le_of_ble_eq_true rfl) rfl rfl rfl ⟨Nat.le_of_ble_eq_true rfl, Nat.le_of_ble_eq_true rfl⟩ (Nat.le_of_ble_eq_true rfl) dX7_readShape_46 rfl ?_
        cases hf
        exact z_sub [0] rfl hj
  replace hf := hg
  clear hg
  refine z_if_ne (tgt := 24) C dX7_readShape_4 (by decide) (fun c60 => ?_) (fun c60 => ?_)
  · replace hf := if_f c60 hf
    cases hf
    exact z_sub [0] rfl hj
  · replace hf := if_t c60 hf
    refine z_aload_n C 0 dX7_readShape_7 rfl rfl ?_
    refine z_geti C (Nat.le_of_ble_eq_true rfl) rfl rfl 40 (Nat.le_of_ble_eq_true rfl) rfl kiX7_readShape_X7 kfX7_readShape_193 dX7_readShape_8 ?_
    refine z_iconst C (v := 1) dX7_readShape_11 rfl ?_
    refine z_icmp_eq (tgt := 24) C dX7_readShape_12 (by decide) (fun c59 => ?_) (fun c59 => ?_)
    · replace hf := if_t c59 hf
      cases hf
      exact z_sub [0] rfl hj
    · replace hf := if_f c59 hf
      refine z_aload_n C 0 dX7_readShape_15 rfl rfl ?_
      refine z_iconst C (v := 2) dX7_readShape_16 rfl ?_
      refine z_aload_n C 0 dX7_readShape_17 rfl rfl ?_
      refine z_geti C (Nat.le_of_ble_eq_true rfl) rfl rfl 39 (Nat.le_of_ble_eq_true rfl) rfl kiX7_readShape_X7 kfX7_readShape_186 dX7_readShape_18 ?_
      obtain ⟨m58, hc57, hf⟩ := zb_el hf
      refine z_cVv C (c_X7_fails _ _ hc57) rfl gX7_readShape_X7_fails rfl rfl zdX7_fails rfl (Nat.le_of_ble_eq_true rfl) rfl rfl rfl ⟨Nat.le_of_ble_eq_true rfl, Nat.le_of_ble_eq_true rfl⟩ (Nat.le_of_ble_eq_true rfl) dX7_readShape_21 rfl ?_
      cases hf
      exact z_sub [0] rfl hj
def rmX7_reset : Room := { frames := 0, cells := 0, slots := 0, locals := 0 }
theorem zdX7_reset : yX7_reset.cls = RX7 ∧ yX7_reset.cls ≠ "java/lang/invoke/MethodHandle" ∧ yX7_reset.cls ≠ "java/lang/invoke/VarHandle" ∧ (parseMethodDescriptor yX7_reset.desc).map (fun d => d.parameters.length) = some 0 := by decide +kernel
theorem kiX7_reset_X7 : ∀ w ∈ wsX70, w ∈ wsX7_reset := by decide +kernel
theorem kfX7_reset_140 : Cond.fieldLink RX7 140 "ShapeJudgeModel" "nodes" "I" ∈ wsX7_reset := by decide +kernel
theorem kfX7_reset_148 : Cond.fieldLink RX7 148 "ShapeJudgeModel" "isRead" "Z" ∈ wsX7_reset := by decide +kernel
def s_X7_reset (m : Mem)  : Option (Int32 × Mem) :=
  bn (m 0 0) fun x1 => bn (sto m 0 0 0) fun m2 => bn (sto m2 0 6 0) fun m3 => some (x1, m3)
set_option maxRecDepth 100000 in
set_option maxHeartbeats 4000000 in
theorem c_X7_reset (l : Launch) (w : ZW) {m : Mem}  {r9 : Int32} {m9 : Mem}  (hf : s_X7_reset m  = some (r9, m9)) : zCi MM l w yX7_reset wsX7_reset rmX7_reset [.ref (w.2.1 0)] m m9 r9 := by
  refine z_met_i MM_ok (own := RX7) (by decide +kernel) rfl rfl (Nat.le_of_ble_eq_true rfl) ?_
  intro K C hKw hKl hret
  subst hKw
  subst hKl
  unfold s_X7_reset at hf
  show zGo MM K m [(0, .ref ((zw K).2.1 0))] 0 []
  refine z_aload_n C 0 dX7_reset_0 rfl rfl ?_
  refine z_geti C (Nat.le_of_ble_eq_true rfl) rfl rfl 0 (Nat.le_of_ble_eq_true rfl) rfl kiX7_reset_X7 kfX7_reset_140 dX7_reset_1 ?_
  refine z_topi (fun x1 e_x1 => ?_)
  replace hf := bn_to e_x1 hf
  refine z_istore_n C (lv2 := [(0, .ref ((zw K).2.1 0)), (1, .int x1)]) [1, 0] dX7_reset_4 rfl (Nat.le_of_ble_eq_true rfl) rfl ?_
  refine z_aload_n C 0 dX7_reset_5 rfl rfl ?_
  refine z_iconst C (v := 0) dX7_reset_6 rfl ?_
  refine z_puti C (Nat.le_of_ble_eq_true rfl) rfl rfl 0 (Nat.le_of_ble_eq_true rfl) rfl kiX7_reset_X7 kfX7_reset_140 tyX7 tyX7_ok nmX7 rfl rfl dX7_reset_7 ?_
  refine z_nm (fun m2 e_m2 => ?_)
  replace hf := bn_to e_m2 hf
  refine z_aload_n C 0 dX7_reset_10 rfl rfl ?_
  refine z_iconst C (v := 0) dX7_reset_11 rfl ?_
  refine z_putz C (Nat.le_of_ble_eq_true rfl) rfl rfl 6 (Nat.le_of_ble_eq_true rfl) rfl kiX7_reset_X7 kfX7_reset_148 tyX7 tyX7_ok nmX7 rfl rfl (Or.inl rfl) dX7_reset_12 ?_
  refine z_nm (fun m3 e_m3 => ?_)
  replace hf := bn_to e_m3 hf
  refine z_iload_n C 1 dX7_reset_15 rfl rfl ?_
  cases hf
  exact hret _ _ dX7_reset_16
def rmX7_wordAt : Room := { frames := 0, cells := 0, slots := 0, locals := 0 }
theorem zdX7_wordAt : yX7_wordAt.cls = RX7 ∧ yX7_wordAt.cls ≠ "java/lang/invoke/MethodHandle" ∧ yX7_wordAt.cls ≠ "java/lang/invoke/VarHandle" ∧ (parseMethodDescriptor yX7_wordAt.desc).map (fun d => d.parameters.length) = some 1 := by decide +kernel
theorem kiX7_wordAt_X7 : ∀ w ∈ wsX70, w ∈ wsX7_wordAt := by decide +kernel
theorem kfX7_wordAt_234 : Cond.fieldLink RX7 234 "ShapeJudgeModel" "dShapes" "I" ∈ wsX7_wordAt := by decide +kernel
theorem kfX7_wordAt_65 : Cond.fieldLink RX7 65 "ShapeJudgeModel" "dWords" "[I" ∈ wsX7_wordAt := by decide +kernel
def t_X7_wordAt_2 (m : Mem) (a1 : Int32) (i1 : Int32) : Option ((Int32) ⊕ (Int32)) :=
  (if (m 0 21) ≤ i1 then (some (.inr (-4))) else (ck (zin i1 6 = true) ((if (m 19 (Int32.toNatClampNeg i1)) = a1 then (some (.inr i1)) else (bn (i1 + 1) fun x3 => some (.inl x3))))))
def l_X7_wordAt_2 (m : Mem) (a1 : Int32) (n : Nat) (i1 : Int32) : Option (Int32) := zlp n (fun a => t_X7_wordAt_2 m a1 a) i1
def s_X7_wordAt (m : Mem) (a1 : Int32) : Option (Int32) :=
  l_X7_wordAt_2 m a1 FU 0
set_option maxRecDepth 100000 in
set_option maxHeartbeats 4000000 in
theorem w_X7_wordAt_2 {K : ZK} (C : zOK MM K cX7_wordAt 3 (some .int) RX7 wsX7_wordAt rmX7_wordAt) {m : Mem} {a1 : Int32}  {r9 : Int32} (hret : zRi MM K cX7_wordAt m r9) : ∀ (n : Nat) (i1 : Int32), l_X7_wordAt_2 m a1 n i1 = some r9 → zGo MM K m [(0, .ref ((zw K).2.1 0)), (1, .int a1), (2, .int i1)] 2 [] := by
  intro n
  induction n with
  | zero =>
    intro i1 hf
    cases hf
  | succ n ih =>
    intro i1 hf
    obtain ⟨z, hf, hz⟩ := zlp_el hf
    replace hf : t_X7_wordAt_2 m a1 i1 = some z := hf
    unfold t_X7_wordAt_2 at hf
    refine z_iload_n C 2 dX7_wordAt_2 rfl rfl ?_
    refine z_aload_n C 0 dX7_wordAt_3 rfl rfl ?_
    refine z_geti C (Nat.le_of_ble_eq_true rfl) rfl rfl 21 (Nat.le_of_ble_eq_true rfl) rfl kiX7_wordAt_X7 kfX7_wordAt_234 dX7_wordAt_4 ?_
    refine z_icmp_ge (tgt := 28) C dX7_wordAt_7 (by decide) (fun c5 => ?_) (fun c5 => ?_)
    · replace hf := if_t c5 hf
      refine z_bipush C (v := (-4)) dX7_wordAt_28 (by decide) ?_
      cases hf
      replace hz := zlz_r hz
      cases hz
      exact hret _ _ dX7_wordAt_30
    · replace hf := if_f c5 hf
      refine z_aload_n C 0 dX7_wordAt_10 rfl rfl ?_
      refine z_getr C (t := 19) (Nat.le_of_ble_eq_true rfl) rfl rfl 22 (Nat.le_of_ble_eq_true rfl) rfl kiX7_wordAt_X7 kfX7_wordAt_65 dX7_wordAt_11 ?_
      refine z_iload_n C 2 dX7_wordAt_14 rfl rfl ?_
      obtain ⟨hi2, hf⟩ := ck_el hf
      refine z_iald C (k := 19) (Nat.le_of_ble_eq_true rfl) rfl hi2 dX7_wordAt_15 ?_
      refine z_iload_n C 1 dX7_wordAt_16 rfl rfl ?_
      refine z_icmp_ne (tgt := 22) C dX7_wordAt_17 (by decide) (fun c4 => ?_) (fun c4 => ?_)
      · replace hf := if_f c4 hf
        obtain ⟨x3, e_x3⟩ : ∃ y : Int32, y = i1 + 1 := ⟨_, rfl⟩
        replace hf := bn_to e_x3 hf
        refine z_iinc C (lv2 := [(0, .ref ((zw K).2.1 0)), (1, .int a1), (2, .int x3)]) 2 [1, 2, 0] dX7_wordAt_22 rfl rfl (Nat.le_of_ble_eq_true rfl) e_x3 rfl ?_
        refine z_goto (tgt := 2) C dX7_wordAt_25 (by decide) ?_
        cases hf
        exact z_sub [0, 1, 2] rfl (ih x3 hz)
      · replace hf := if_t c4 hf
        refine z_iload_n C 2 dX7_wordAt_20 rfl rfl ?_
        cases hf
        replace hz := zlz_r hz
        cases hz
        exact hret _ _ dX7_wordAt_21
set_option maxRecDepth 100000 in
set_option maxHeartbeats 4000000 in
theorem c_X7_wordAt (l : Launch) (w : ZW) {m : Mem} {a1 : Int32} {r9 : Int32}  (hf : s_X7_wordAt m a1 = some r9) : zCi MM l w yX7_wordAt wsX7_wordAt rmX7_wordAt [.ref (w.2.1 0), .int a1] m m r9 := by
  refine z_met_i MM_ok (own := RX7) (by decide +kernel) rfl rfl (Nat.le_of_ble_eq_true rfl) ?_
  intro K C hKw hKl hret
  subst hKw
  subst hKl
  unfold s_X7_wordAt at hf
  show zGo MM K m [(0, .ref ((zw K).2.1 0)), (1, .int a1)] 0 []
  refine z_iconst C (v := 0) dX7_wordAt_0 rfl ?_
  refine z_istore_n C (lv2 := [(0, .ref ((zw K).2.1 0)), (1, .int a1), (2, .int 0)]) [1, 2, 0] dX7_wordAt_1 rfl (Nat.le_of_ble_eq_true rfl) rfl ?_
  exact z_sub [0, 1, 2] rfl (w_X7_wordAt_2 C  hret _ _ hf)
def rmX7_settleWords : Room := { frames := 1, cells := 0, slots := 0, locals := 26 }
theorem zdX7_settleWords : yX7_settleWords.cls = RX7 ∧ yX7_settleWords.cls ≠ "java/lang/invoke/MethodHandle" ∧ yX7_settleWords.cls ≠ "java/lang/invoke/VarHandle" ∧ (parseMethodDescriptor yX7_settleWords.desc).map (fun d => d.parameters.length) = some 0 := by decide +kernel
theorem kiX7_settleWords_X7 : ∀ w ∈ wsX70, w ∈ wsX7_settleWords := by decide +kernel
theorem kfX7_settleWords_234 : Cond.fieldLink RX7 234 "ShapeJudgeModel" "dShapes" "I" ∈ wsX7_settleWords := by decide +kernel
theorem kfX7_settleWords_177 : Cond.fieldLink RX7 177 "ShapeJudgeModel" "fault" "I" ∈ wsX7_settleWords := by decide +kernel
theorem kfX7_settleWords_71 : Cond.fieldLink RX7 71 "ShapeJudgeModel" "dParts" "[I" ∈ wsX7_settleWords := by decide +kernel
theorem kfX7_settleWords_77 : Cond.fieldLink RX7 77 "ShapeJudgeModel" "dTest" "[I" ∈ wsX7_settleWords := by decide +kernel
theorem kfX7_settleWords_80 : Cond.fieldLink RX7 80 "ShapeJudgeModel" "dFirst" "[I" ∈ wsX7_settleWords := by decide +kernel
theorem kfX7_settleWords_86 : Cond.fieldLink RX7 86 "ShapeJudgeModel" "dPlace" "[I" ∈ wsX7_settleWords := by decide +kernel
theorem kfX7_settleWords_116 : Cond.fieldLink RX7 116 "ShapeJudgeModel" "leads" "[Z" ∈ wsX7_settleWords := by decide +kernel
def t_X7_settleWords_19 (i1 : Int32) (i3 : Int32) (m4 : Mem) : Option ((Int32 × Mem) ⊕ (Mem)) :=
  ck (zin i1 6 = true) ((if (m4 21 (Int32.toNatClampNeg i1)) ≤ i3 then (some (.inr m4)) else ((if (m4 0 42) = 0 then (bn (((6 : Int32) * i1) + i3) fun x6 => ck (zin x6 36 = true) ((if (m4 23 (Int32.toNatClampNeg x6)) = 1 then (ck (zin x6 36 = true) ((s_X7_wordAt m4 (m4 24 (Int32.toNatClampNeg x6))).bind fun r10 => (if r10 = (-4) then (ck (zin x6 36 = true) ((s_X7_fails m4 6 (m4 26 (Int32.toNatClampNeg x6))).bind fun m16 => ck (zin x6 36 = true) (bn (sto m16 24 (Int32.toNatClampNeg x6) r10) fun m18 => bn (i3 + 1) fun x19 => some (.inl (x19, m18))))) else (ck (zin x6 36 = true) (bn (sto m4 24 (Int32.toNatClampNeg x6) r10) fun m12 => bn (i3 + 1) fun x13 => some (.inl (x13, m12))))))) else (ck (zin x6 36 = true) ((if (m4 23 (Int32.toNatClampNeg x6)) = 2 then (ck (zin x6 36 = true) ((s_X7_wordAt m4 (m4 24 (Int32.toNatClampNeg x6))).bind fun r25 => (if r25 = (-4) then (ck (zin x6 36 = true) ((s_X7_fails m4 6 (m4 26 (Int32.toNatClampNeg x6))).bind fun m31 => ck (zin x6 36 = true) (bn (sto m31 24 (Int32.toNatClampNeg x6) r25) fun m33 => bn (i3 + 1) fun x34 => some (.inl (x34, m33))))) else (ck (zin x6 36 = true) (bn (sto m4 24 (Int32.toNatClampNeg x6) r25) fun m27 => bn (i3 + 1) fun x28 => some (.inl (x28, m27))))))) else (bn (i3 + 1) fun x22 => some (.inl (x22, m4))))))))) else (some (.inr m4))))))
def l_X7_settleWords_19 (i1 : Int32) (n : Nat) (i3 : Int32) (m4 : Mem) : Option (Mem) := zlp n (fun a => t_X7_settleWords_19 i1 a.1 a.2) (i3, m4)
def t_X7_settleWords_2  (i1 : Int32) (m2 : Mem) : Option ((Int32 × Mem) ⊕ (Mem)) :=
  (if (m2 0 21) ≤ i1 then (some (.inr m2)) else ((if (m2 0 42) = 0 then (((l_X7_settleWords_19 i1 FU 0 m2).bind fun m40 => bn (i1 + 1) fun x41 => some (.inl (x41, m40)))) else (some (.inr m2)))))
def l_X7_settleWords_2  (n : Nat) (i1 : Int32) (m2 : Mem) : Option (Mem) := zlp n (fun a => t_X7_settleWords_2  a.1 a.2) (i1, m2)
def t_X7_settleWords_146 (i47 : Int32) (i49 : Int32) (m50 : Mem) : Option ((Int32 × Mem) ⊕ (Mem)) :=
  ck (zin i47 6 = true) ((if (m50 21 (Int32.toNatClampNeg i47)) ≤ i49 then (some (.inr m50)) else ((if (m50 0 42) = 0 then (bn (((6 : Int32) * i47) + i49) fun x52 => ck (zin x52 36 = true) ((if (m50 23 (Int32.toNatClampNeg x52)) = 2 then (ck (zin x52 36 = true) ((if (m50 24 (Int32.toNatClampNeg x52)) = i47 then (ck (zin x52 36 = true) ((s_X7_fails m50 7 (m50 26 (Int32.toNatClampNeg x52))).bind fun m58 => bn (i49 + 1) fun x59 => some (.inl (x59, m58)))) else (ck (zin x52 36 = true) (ck (zin (((6 : Int32) * (m50 24 (Int32.toNatClampNeg x52))) + i47) 36 = true) ((if (m50 36 (Int32.toNatClampNeg (((6 : Int32) * (m50 24 (Int32.toNatClampNeg x52))) + i47))) = 0 then (bn (i49 + 1) fun x62 => some (.inl (x62, m50))) else (ck (zin x52 36 = true) ((s_X7_fails m50 7 (m50 26 (Int32.toNatClampNeg x52))).bind fun m65 => bn (i49 + 1) fun x66 => some (.inl (x66, m65))))))))))) else (bn (i49 + 1) fun x54 => some (.inl (x54, m50)))))) else (some (.inr m50))))))
def l_X7_settleWords_146 (i47 : Int32) (n : Nat) (i49 : Int32) (m50 : Mem) : Option (Mem) := zlp n (fun a => t_X7_settleWords_146 i47 a.1 a.2) (i49, m50)
def t_X7_settleWords_129  (i47 : Int32) (m48 : Mem) : Option ((Int32 × Mem) ⊕ (Mem)) :=
  (if (m48 0 21) ≤ i47 then (some (.inr m48)) else ((if (m48 0 42) = 0 then (((l_X7_settleWords_146 i47 FU 0 m48).bind fun m72 => bn (i47 + 1) fun x73 => some (.inl (x73, m72)))) else (some (.inr m48)))))
def l_X7_settleWords_129  (n : Nat) (i47 : Int32) (m48 : Mem) : Option (Mem) := zlp n (fun a => t_X7_settleWords_129  a.1 a.2) (i47, m48)
def s_X7_settleWords (m : Mem)  : Option (Mem) :=
  ((l_X7_settleWords_2  FU 0 m).bind fun m44 => (if (m44 0 42) ≤ 0 then ((s_X7_findLeads m44 1).bind fun m46 => ((l_X7_settleWords_129  FU 0 m46).bind fun m76 => some m76)) else (some m44)))
set_option maxRecDepth 100000 in
set_option maxHeartbeats 4000000 in
theorem w_X7_settleWords_19 {K : ZK} (C : zOK MM K cX7_settleWords 5 none RX7 wsX7_settleWords rmX7_settleWords) {i1 : Int32}  {o0 : Mem} (hk : zGo MM K o0 [(0, .ref ((zw K).2.1 0)), (1, .int i1)] 108 []) : ∀ (n : Nat) (i3 : Int32) (m4 : Mem), l_X7_settleWords_19 i1 n i3 m4 = some o0 → zGo MM K m4 [(0, .ref ((zw K).2.1 0)), (1, .int i1), (2, .int i3)] 19 [] := by
  intro n
  induction n with
  | zero =>
    intro i3 m4 hf
    cases hf
  | succ n ih =>
    intro i3 m4 hf
    obtain ⟨z, hf, hz⟩ := zlp_el hf
    replace hf : t_X7_settleWords_19 i1 i3 m4 = some z := hf
    unfold t_X7_settleWords_19 at hf
    refine z_iload_n C 2 dX7_settleWords_19 rfl rfl ?_
    refine z_aload_n C 0 dX7_settleWords_20 rfl rfl ?_
    refine z_getr C (t := 21) (Nat.le_of_ble_eq_true rfl) rfl rfl 24 (Nat.le_of_ble_eq_true rfl) rfl kiX7_settleWords_X7 kfX7_settleWords_71 dX7_settleWords_21 ?_
    refine z_iload_n C 1 dX7_settleWords_24 rfl rfl ?_
    obtain ⟨hi5, hf⟩ := ck_el hf
    refine z_iald C (k := 21) (Nat.le_of_ble_eq_true rfl) rfl hi5 dX7_settleWords_25 ?_
    refine z_icmp_ge (tgt := 108) C dX7_settleWords_26 (by decide) (fun c39 => ?_) (fun c39 => ?_)
    · replace hf := if_t c39 hf
      cases hf
      replace hz := zlz_r hz
      cases hz
      exact z_sub [0, 1] rfl hk
    · replace hf := if_f c39 hf
      refine z_aload_n C 0 dX7_settleWords_29 rfl rfl ?_
      refine z_geti C (Nat.le_of_ble_eq_true rfl) rfl rfl 42 (Nat.le_of_ble_eq_true rfl) rfl kiX7_settleWords_X7 kfX7_settleWords_177 dX7_settleWords_30 ?_
      refine z_if_ne (tgt := 108) C dX7_settleWords_33 (by decide) (fun c38 => ?_) (fun c38 => ?_)
      · replace hf := if_f c38 hf
        cases hf
        replace hz := zlz_r hz
        cases hz
        exact z_sub [0, 1] rfl hk
      · replace hf := if_t c38 hf
        refine z_bipush C (v := 6) dX7_settleWords_36 rfl ?_
        refine z_iload_n C 1 dX7_settleWords_38 rfl rfl ?_
        refine z_imul C dX7_settleWords_39 ?_
        refine z_iload_n C 2 dX7_settleWords_40 rfl rfl ?_
        refine z_iadd C dX7_settleWords_41 ?_
        refine z_topi (fun x6 e_x6 => ?_)
        replace hf := bn_to e_x6 hf
        refine z_istore_n C (lv2 := [(0, .ref ((zw K).2.1 0)), (1, .int i1), (2, .int i3), (3, .int x6)]) [1, 2, 3, 0] dX7_settleWords_42 rfl (Nat.le_of_ble_eq_true rfl) rfl ?_
        refine z_aload_n C 0 dX7_settleWords_43 rfl rfl ?_
        refine z_getr C (t := 23) (Nat.le_of_ble_eq_true rfl) rfl rfl 26 (Nat.le_of_ble_eq_true rfl) rfl kiX7_settleWords_X7 kfX7_settleWords_77 dX7_settleWords_44 ?_
        refine z_iload_n C 3 dX7_settleWords_47 rfl rfl ?_
        obtain ⟨hi7, hf⟩ := ck_el hf
        refine z_iald C (k := 23) (Nat.le_of_ble_eq_true rfl) rfl hi7 dX7_settleWords_48 ?_
        refine z_iconst C (v := 1) dX7_settleWords_49 rfl ?_
        refine z_icmp_eq (tgt := 63) C dX7_settleWords_50 (by decide) (fun c37 => ?_) (fun c37 => ?_)
        · replace hf := if_t c37 hf
          refine z_aload_n C 0 dX7_settleWords_63 rfl rfl ?_
          refine z_aload_n C 0 dX7_settleWords_64 rfl rfl ?_
          refine z_getr C (t := 24) (Nat.le_of_ble_eq_true rfl) rfl rfl 27 (Nat.le_of_ble_eq_true rfl) rfl kiX7_settleWords_X7 kfX7_settleWords_80 dX7_settleWords_65 ?_
          refine z_iload_n C 3 dX7_settleWords_68 rfl rfl ?_
          obtain ⟨hi8, hf⟩ := ck_el hf
          refine z_iald C (k := 24) (Nat.le_of_ble_eq_true rfl) rfl hi8 dX7_settleWords_69 ?_
          obtain ⟨r10, hc9, hf⟩ := zb_el hf
          refine z_cVi C (c_X7_wordAt _ _ hc9) rfl gX7_settleWords_X7_wordAt rfl rfl zdX7_wordAt rfl (Nat.le_of_ble_eq_true rfl) rfl rfl rfl ⟨Nat.le_of_ble_eq_true rfl, Nat.le_of_ble_eq_true rfl⟩ (Nat.le_of_ble_eq_true rfl) dX7_settleWords_70 rfl ?_
          refine z_istore C (lv2 := [(0, .ref ((zw K).2.1 0)), (1, .int i1), (2, .int i3), (3, .int x6), (4, .int r10)]) [1, 2, 3, 4, 0] dX7_settleWords_73 (Nat.le_of_ble_eq_true rfl) rfl ?_
          refine z_iload C 4 dX7_settleWords_75 rfl ?_
          refine z_bipush C (v := (-4)) dX7_settleWords_77 (by decide) ?_
          refine z_icmp_ne (tgt := 94) C dX7_settleWords_79 (by decide) (fun c20 => ?_) (fun c20 => ?_)
          · replace hf := if_f c20 hf
            refine z_aload_n C 0 dX7_settleWords_94 rfl rfl ?_
            refine z_getr C (t := 24) (Nat.le_of_ble_eq_true rfl) rfl rfl 27 (Nat.le_of_ble_eq_true rfl) rfl kiX7_settleWords_X7 kfX7_settleWords_80 dX7_settleWords_95 ?_
            refine z_iload_n C 3 dX7_settleWords_98 rfl rfl ?_
            refine z_iload C 4 dX7_settleWords_99 rfl ?_
            obtain ⟨hi11, hf⟩ := ck_el hf
            refine z_iast C (k := 24) (Nat.le_of_ble_eq_true rfl) rfl hi11 dX7_settleWords_101 ?_
            refine z_nm (fun m12 e_m12 => ?_)
            replace hf := bn_to e_m12 hf
            obtain ⟨x13, e_x13⟩ : ∃ y : Int32, y = i3 + 1 := ⟨_, rfl⟩
            replace hf := bn_to e_x13 hf
            refine z_iinc C (lv2 := [(0, .ref ((zw K).2.1 0)), (1, .int i1), (2, .int x13), (3, .int x6), (4, .int r10)]) 2 [1, 2, 0, 3, 4] dX7_settleWords_102 rfl rfl (Nat.le_of_ble_eq_true rfl) e_x13 rfl ?_
            refine z_goto (tgt := 19) C dX7_settleWords_105 (by decide) ?_
            cases hf
            exact z_sub [0, 1, 2] rfl (ih x13 m12 hz)
          · replace hf := if_t c20 hf
            refine z_aload_n C 0 dX7_settleWords_82 rfl rfl ?_
            refine z_bipush C (v := 6) dX7_settleWords_83 rfl ?_
            refine z_aload_n C 0 dX7_settleWords_85 rfl rfl ?_
            refine z_getr C (t := 26) (Nat.le_of_ble_eq_true rfl) rfl rfl 29 (Nat.le_of_ble_eq_true rfl) rfl kiX7_settleWords_X7 kfX7_settleWords_86 dX7_settleWords_86 ?_
            refine z_iload_n C 3 dX7_settleWords_89 rfl rfl ?_
            obtain ⟨hi14, hf⟩ := ck_el hf
            refine z_iald C (k := 26) (Nat.le_of_ble_eq_true rfl) rfl hi14 dX7_settleWords_90 ?_
            obtain ⟨m16, hc15, hf⟩ := zb_el hf
            refine z_cVv C (c_X7_fails _ _ hc15) rfl gX7_settleWords_X7_fails rfl rfl zdX7_fails rfl (Nat.le_of_ble_eq_true rfl) rfl rfl rfl ⟨Nat.le_of_ble_eq_true rfl, Nat.le_of_ble_eq_true rfl⟩ (Nat.le_of_ble_eq_true rfl) dX7_settleWords_91 rfl ?_
            refine z_aload_n C 0 dX7_settleWords_94 rfl rfl ?_
            refine z_getr C (t := 24) (Nat.le_of_ble_eq_true rfl) rfl rfl 27 (Nat.le_of_ble_eq_true rfl) rfl kiX7_settleWords_X7 kfX7_settleWords_80 dX7_settleWords_95 ?_
            refine z_iload_n C 3 dX7_settleWords_98 rfl rfl ?_
            refine z_iload C 4 dX7_settleWords_99 rfl ?_
            obtain ⟨hi17, hf⟩ := ck_el hf
            refine z_iast C (k := 24) (Nat.le_of_ble_eq_true rfl) rfl hi17 dX7_settleWords_101 ?_
            refine z_nm (fun m18 e_m18 => ?_)
            replace hf := bn_to e_m18 hf
            obtain ⟨x19, e_x19⟩ : ∃ y : Int32, y = i3 + 1 := ⟨_, rfl⟩
            replace hf := bn_to e_x19 hf
            refine z_iinc C (lv2 := [(0, .ref ((zw K).2.1 0)), (1, .int i1), (2, .int x19), (3, .int x6), (4, .int r10)]) 2 [1, 2, 0, 3, 4] dX7_settleWords_102 rfl rfl (Nat.le_of_ble_eq_true rfl) e_x19 rfl ?_
            refine z_goto (tgt := 19) C dX7_settleWords_105 (by decide) ?_
            cases hf
            exact z_sub [0, 1, 2] rfl (ih x19 m18 hz)
        · replace hf := if_f c37 hf
          refine z_aload_n C 0 dX7_settleWords_53 rfl rfl ?_
          refine z_getr C (t := 23) (Nat.le_of_ble_eq_true rfl) rfl rfl 26 (Nat.le_of_ble_eq_true rfl) rfl kiX7_settleWords_X7 kfX7_settleWords_77 dX7_settleWords_54 ?_
          refine z_iload_n C 3 dX7_settleWords_57 rfl rfl ?_
          obtain ⟨hi21, hf⟩ := ck_el hf
          refine z_iald C (k := 23) (Nat.le_of_ble_eq_true rfl) rfl hi21 dX7_settleWords_58 ?_
          refine z_iconst C (v := 2) dX7_settleWords_59 rfl ?_
          refine z_icmp_ne (tgt := 102) C dX7_settleWords_60 (by decide) (fun c36 => ?_) (fun c36 => ?_)
          · replace hf := if_f c36 hf
            obtain ⟨x22, e_x22⟩ : ∃ y : Int32, y = i3 + 1 := ⟨_, rfl⟩
            replace hf := bn_to e_x22 hf
            refine z_iinc C (lv2 := [(0, .ref ((zw K).2.1 0)), (1, .int i1), (2, .int x22), (3, .int x6)]) 2 [1, 2, 0, 3] dX7_settleWords_102 rfl rfl (Nat.le_of_ble_eq_true rfl) e_x22 rfl ?_
            refine z_goto (tgt := 19) C dX7_settleWords_105 (by decide) ?_
            cases hf
            exact z_sub [0, 1, 2] rfl (ih x22 m4 hz)
          · replace hf := if_t c36 hf
            refine z_aload_n C 0 dX7_settleWords_63 rfl rfl ?_
            refine z_aload_n C 0 dX7_settleWords_64 rfl rfl ?_
            refine z_getr C (t := 24) (Nat.le_of_ble_eq_true rfl) rfl rfl 27 (Nat.le_of_ble_eq_true rfl) rfl kiX7_settleWords_X7 kfX7_settleWords_80 dX7_settleWords_65 ?_
            refine z_iload_n C 3 dX7_settleWords_68 rfl rfl ?_
            obtain ⟨hi23, hf⟩ := ck_el hf
            refine z_iald C (k := 24) (Nat.le_of_ble_eq_true rfl) rfl hi23 dX7_settleWords_69 ?_
            obtain ⟨r25, hc24, hf⟩ := zb_el hf
            refine z_cVi C (c_X7_wordAt _ _ hc24) rfl gX7_settleWords_X7_wordAt rfl rfl zdX7_wordAt rfl (Nat.le_of_ble_eq_true rfl) rfl rfl rfl ⟨Nat.le_of_ble_eq_true rfl, Nat.le_of_ble_eq_true rfl⟩ (Nat.le_of_ble_eq_true rfl) dX7_settleWords_70 rfl ?_
            refine z_istore C (lv2 := [(0, .ref ((zw K).2.1 0)), (1, .int i1), (2, .int i3), (3, .int x6), (4, .int r25)]) [1, 2, 3, 4, 0] dX7_settleWords_73 (Nat.le_of_ble_eq_true rfl) rfl ?_
            refine z_iload C 4 dX7_settleWords_75 rfl ?_
            refine z_bipush C (v := (-4)) dX7_settleWords_77 (by decide) ?_
            refine z_icmp_ne (tgt := 94) C dX7_settleWords_79 (by decide) (fun c35 => ?_) (fun c35 => ?_)
            · replace hf := if_f c35 hf
              refine z_aload_n C 0 dX7_settleWords_94 rfl rfl ?_
              refine z_getr C (t := 24) (Nat.le_of_ble_eq_true rfl) rfl rfl 27 (Nat.le_of_ble_eq_true rfl) rfl kiX7_settleWords_X7 kfX7_settleWords_80 dX7_settleWords_95 ?_
              refine z_iload_n C 3 dX7_settleWords_98 rfl rfl ?_
              refine z_iload C 4 dX7_settleWords_99 rfl ?_
              obtain ⟨hi26, hf⟩ := ck_el hf
              refine z_iast C (k := 24) (Nat.le_of_ble_eq_true rfl) rfl hi26 dX7_settleWords_101 ?_
              refine z_nm (fun m27 e_m27 => ?_)
              replace hf := bn_to e_m27 hf
              obtain ⟨x28, e_x28⟩ : ∃ y : Int32, y = i3 + 1 := ⟨_, rfl⟩
              replace hf := bn_to e_x28 hf
              refine z_iinc C (lv2 := [(0, .ref ((zw K).2.1 0)), (1, .int i1), (2, .int x28), (3, .int x6), (4, .int r25)]) 2 [1, 2, 0, 3, 4] dX7_settleWords_102 rfl rfl (Nat.le_of_ble_eq_true rfl) e_x28 rfl ?_
              refine z_goto (tgt := 19) C dX7_settleWords_105 (by decide) ?_
              cases hf
              exact z_sub [0, 1, 2] rfl (ih x28 m27 hz)
            · replace hf := if_t c35 hf
              refine z_aload_n C 0 dX7_settleWords_82 rfl rfl ?_
              refine z_bipush C (v := 6) dX7_settleWords_83 rfl ?_
              refine z_aload_n C 0 dX7_settleWords_85 rfl rfl ?_
              refine z_getr C (t := 26) (Nat.le_of_ble_eq_true rfl) rfl rfl 29 (Nat.le_of_ble_eq_true rfl) rfl kiX7_settleWords_X7 kfX7_settleWords_86 dX7_settleWords_86 ?_
              refine z_iload_n C 3 dX7_settleWords_89 rfl rfl ?_
              obtain ⟨hi29, hf⟩ := ck_el hf
              refine z_iald C (k := 26) (Nat.le_of_ble_eq_true rfl) rfl hi29 dX7_settleWords_90 ?_
              obtain ⟨m31, hc30, hf⟩ := zb_el hf
              refine z_cVv C (c_X7_fails _ _ hc30) rfl gX7_settleWords_X7_fails rfl rfl zdX7_fails rfl (Nat.le_of_ble_eq_true rfl) rfl rfl rfl ⟨Nat.le_of_ble_eq_true rfl, Nat.le_of_ble_eq_true rfl⟩ (Nat.le_of_ble_eq_true rfl) dX7_settleWords_91 rfl ?_
              refine z_aload_n C 0 dX7_settleWords_94 rfl rfl ?_
              refine z_getr C (t := 24) (Nat.le_of_ble_eq_true rfl) rfl rfl 27 (Nat.le_of_ble_eq_true rfl) rfl kiX7_settleWords_X7 kfX7_settleWords_80 dX7_settleWords_95 ?_
              refine z_iload_n C 3 dX7_settleWords_98 rfl rfl ?_
              refine z_iload C 4 dX7_settleWords_99 rfl ?_
              obtain ⟨hi32, hf⟩ := ck_el hf
              refine z_iast C (k := 24) (Nat.le_of_ble_eq_true rfl) rfl hi32 dX7_settleWords_101 ?_
              refine z_nm (fun m33 e_m33 => ?_)
              replace hf := bn_to e_m33 hf
              obtain ⟨x34, e_x34⟩ : ∃ y : Int32, y = i3 + 1 := ⟨_, rfl⟩
              replace hf := bn_to e_x34 hf
              refine z_iinc C (lv2 := [(0, .ref ((zw K).2.1 0)), (1, .int i1), (2, .int x34), (3, .int x6), (4, .int r25)]) 2 [1, 2, 0, 3, 4] dX7_settleWords_102 rfl rfl (Nat.le_of_ble_eq_true rfl) e_x34 rfl ?_
              refine z_goto (tgt := 19) C dX7_settleWords_105 (by decide) ?_
              cases hf
              exact z_sub [0, 1, 2] rfl (ih x34 m33 hz)
set_option maxRecDepth 100000 in
set_option maxHeartbeats 4000000 in
theorem w_X7_settleWords_2 {K : ZK} (C : zOK MM K cX7_settleWords 5 none RX7 wsX7_settleWords rmX7_settleWords)   {o0 : Mem} (hk : zGo MM K o0 [(0, .ref ((zw K).2.1 0))] 114 []) : ∀ (n : Nat) (i1 : Int32) (m2 : Mem), l_X7_settleWords_2  n i1 m2 = some o0 → zGo MM K m2 [(0, .ref ((zw K).2.1 0)), (1, .int i1)] 2 [] := by
  intro n
  induction n with
  | zero =>
    intro i1 m2 hf
    cases hf
  | succ n ih =>
    intro i1 m2 hf
    obtain ⟨z, hf, hz⟩ := zlp_el hf
    replace hf : t_X7_settleWords_2  i1 m2 = some z := hf
    unfold t_X7_settleWords_2 at hf
    refine z_iload_n C 1 dX7_settleWords_2 rfl rfl ?_
    refine z_aload_n C 0 dX7_settleWords_3 rfl rfl ?_
    refine z_geti C (Nat.le_of_ble_eq_true rfl) rfl rfl 21 (Nat.le_of_ble_eq_true rfl) rfl kiX7_settleWords_X7 kfX7_settleWords_234 dX7_settleWords_4 ?_
    refine z_icmp_ge (tgt := 114) C dX7_settleWords_7 (by decide) (fun c43 => ?_) (fun c43 => ?_)
    · replace hf := if_t c43 hf
      cases hf
      replace hz := zlz_r hz
      cases hz
      exact z_sub [0] rfl hk
    · replace hf := if_f c43 hf
      refine z_aload_n C 0 dX7_settleWords_10 rfl rfl ?_
      refine z_geti C (Nat.le_of_ble_eq_true rfl) rfl rfl 42 (Nat.le_of_ble_eq_true rfl) rfl kiX7_settleWords_X7 kfX7_settleWords_177 dX7_settleWords_11 ?_
      refine z_if_ne (tgt := 114) C dX7_settleWords_14 (by decide) (fun c42 => ?_) (fun c42 => ?_)
      · replace hf := if_f c42 hf
        cases hf
        replace hz := zlz_r hz
        cases hz
        exact z_sub [0] rfl hk
      · replace hf := if_t c42 hf
        refine z_iconst C (v := 0) dX7_settleWords_17 rfl ?_
        refine z_istore_n C (lv2 := [(0, .ref ((zw K).2.1 0)), (1, .int i1), (2, .int 0)]) [1, 2, 0] dX7_settleWords_18 rfl (Nat.le_of_ble_eq_true rfl) rfl ?_
        obtain ⟨m40, hg, hf⟩ := zb_el hf
        refine z_sub [0, 1, 2] rfl (w_X7_settleWords_19 C  ?_ _ _ _ hg)
        clear hg
        obtain ⟨x41, e_x41⟩ : ∃ y : Int32, y = i1 + 1 := ⟨_, rfl⟩
        replace hf := bn_to e_x41 hf
        refine z_iinc C (lv2 := [(0, .ref ((zw K).2.1 0)), (1, .int x41)]) 1 [1, 0] dX7_settleWords_108 rfl rfl (Nat.le_of_ble_eq_true rfl) e_x41 rfl ?_
        refine z_goto (tgt := 2) C dX7_settleWords_111 (by decide) ?_
        cases hf
        exact z_sub [0, 1] rfl (ih x41 m40 hz)
set_option maxRecDepth 100000 in
set_option maxHeartbeats 4000000 in
theorem w_X7_settleWords_146 {K : ZK} (C : zOK MM K cX7_settleWords 5 none RX7 wsX7_settleWords rmX7_settleWords) {i47 : Int32}  {o0 : Mem} (hk : zGo MM K o0 [(0, .ref ((zw K).2.1 0)), (1, .int i47)] 227 []) : ∀ (n : Nat) (i49 : Int32) (m50 : Mem), l_X7_settleWords_146 i47 n i49 m50 = some o0 → zGo MM K m50 [(0, .ref ((zw K).2.1 0)), (1, .int i47), (2, .int i49)] 146 [] := by
  intro n
  induction n with
  | zero =>
    intro i49 m50 hf
    cases hf
  | succ n ih =>
    intro i49 m50 hf
    obtain ⟨z, hf, hz⟩ := zlp_el hf
    replace hf : t_X7_settleWords_146 i47 i49 m50 = some z := hf
    unfold t_X7_settleWords_146 at hf
    refine z_iload_n C 2 dX7_settleWords_146 rfl rfl ?_
    refine z_aload_n C 0 dX7_settleWords_147 rfl rfl ?_
    refine z_getr C (t := 21) (Nat.le_of_ble_eq_true rfl) rfl rfl 24 (Nat.le_of_ble_eq_true rfl) rfl kiX7_settleWords_X7 kfX7_settleWords_71 dX7_settleWords_148 ?_
    refine z_iload_n C 1 dX7_settleWords_151 rfl rfl ?_
    obtain ⟨hi51, hf⟩ := ck_el hf
    refine z_iald C (k := 21) (Nat.le_of_ble_eq_true rfl) rfl hi51 dX7_settleWords_152 ?_
    refine z_icmp_ge (tgt := 227) C dX7_settleWords_153 (by decide) (fun c71 => ?_) (fun c71 => ?_)
    · replace hf := if_t c71 hf
      cases hf
      replace hz := zlz_r hz
      cases hz
      exact z_sub [0, 1] rfl hk
    · replace hf := if_f c71 hf
      refine z_aload_n C 0 dX7_settleWords_156 rfl rfl ?_
      refine z_geti C (Nat.le_of_ble_eq_true rfl) rfl rfl 42 (Nat.le_of_ble_eq_true rfl) rfl kiX7_settleWords_X7 kfX7_settleWords_177 dX7_settleWords_157 ?_
      refine z_if_ne (tgt := 227) C dX7_settleWords_160 (by decide) (fun c70 => ?_) (fun c70 => ?_)
      · replace hf := if_f c70 hf
        cases hf
        replace hz := zlz_r hz
        cases hz
        exact z_sub [0, 1] rfl hk
      · replace hf := if_t c70 hf
        refine z_bipush C (v := 6) dX7_settleWords_163 rfl ?_
        refine z_iload_n C 1 dX7_settleWords_165 rfl rfl ?_
        refine z_imul C dX7_settleWords_166 ?_
        refine z_iload_n C 2 dX7_settleWords_167 rfl rfl ?_
        refine z_iadd C dX7_settleWords_168 ?_
        refine z_topi (fun x52 e_x52 => ?_)
        replace hf := bn_to e_x52 hf
        refine z_istore_n C (lv2 := [(0, .ref ((zw K).2.1 0)), (1, .int i47), (2, .int i49), (3, .int x52)]) [1, 2, 3, 0] dX7_settleWords_169 rfl (Nat.le_of_ble_eq_true rfl) rfl ?_
        refine z_aload_n C 0 dX7_settleWords_170 rfl rfl ?_
        refine z_getr C (t := 23) (Nat.le_of_ble_eq_true rfl) rfl rfl 26 (Nat.le_of_ble_eq_true rfl) rfl kiX7_settleWords_X7 kfX7_settleWords_77 dX7_settleWords_171 ?_
        refine z_iload_n C 3 dX7_settleWords_174 rfl rfl ?_
        obtain ⟨hi53, hf⟩ := ck_el hf
        refine z_iald C (k := 23) (Nat.le_of_ble_eq_true rfl) rfl hi53 dX7_settleWords_175 ?_
        refine z_iconst C (v := 2) dX7_settleWords_176 rfl ?_
        refine z_icmp_ne (tgt := 221) C dX7_settleWords_177 (by decide) (fun c69 => ?_) (fun c69 => ?_)
        · replace hf := if_f c69 hf
          obtain ⟨x54, e_x54⟩ : ∃ y : Int32, y = i49 + 1 := ⟨_, rfl⟩
          replace hf := bn_to e_x54 hf
          refine z_iinc C (lv2 := [(0, .ref ((zw K).2.1 0)), (1, .int i47), (2, .int x54), (3, .int x52)]) 2 [1, 2, 0, 3] dX7_settleWords_221 rfl rfl (Nat.le_of_ble_eq_true rfl) e_x54 rfl ?_
          refine z_goto (tgt := 146) C dX7_settleWords_224 (by decide) ?_
          cases hf
          exact z_sub [0, 1, 2] rfl (ih x54 m50 hz)
        · replace hf := if_t c69 hf
          refine z_aload_n C 0 dX7_settleWords_180 rfl rfl ?_
          refine z_getr C (t := 24) (Nat.le_of_ble_eq_true rfl) rfl rfl 27 (Nat.le_of_ble_eq_true rfl) rfl kiX7_settleWords_X7 kfX7_settleWords_80 dX7_settleWords_181 ?_
          refine z_iload_n C 3 dX7_settleWords_184 rfl rfl ?_
          obtain ⟨hi55, hf⟩ := ck_el hf
          refine z_iald C (k := 24) (Nat.le_of_ble_eq_true rfl) rfl hi55 dX7_settleWords_185 ?_
          refine z_iload_n C 1 dX7_settleWords_186 rfl rfl ?_
          refine z_icmp_eq (tgt := 209) C dX7_settleWords_187 (by decide) (fun c68 => ?_) (fun c68 => ?_)
          · replace hf := if_t c68 hf
            refine z_aload_n C 0 dX7_settleWords_209 rfl rfl ?_
            refine z_bipush C (v := 7) dX7_settleWords_210 rfl ?_
            refine z_aload_n C 0 dX7_settleWords_212 rfl rfl ?_
            refine z_getr C (t := 26) (Nat.le_of_ble_eq_true rfl) rfl rfl 29 (Nat.le_of_ble_eq_true rfl) rfl kiX7_settleWords_X7 kfX7_settleWords_86 dX7_settleWords_213 ?_
            refine z_iload_n C 3 dX7_settleWords_216 rfl rfl ?_
            obtain ⟨hi56, hf⟩ := ck_el hf
            refine z_iald C (k := 26) (Nat.le_of_ble_eq_true rfl) rfl hi56 dX7_settleWords_217 ?_
            obtain ⟨m58, hc57, hf⟩ := zb_el hf
            refine z_cVv C (c_X7_fails _ _ hc57) rfl gX7_settleWords_X7_fails rfl rfl zdX7_fails rfl (Nat.le_of_ble_eq_true rfl) rfl rfl rfl ⟨Nat.le_of_ble_eq_true rfl, Nat.le_of_ble_eq_true rfl⟩ (Nat.le_of_ble_eq_true rfl) dX7_settleWords_218 rfl ?_
            obtain ⟨x59, e_x59⟩ : ∃ y : Int32, y = i49 + 1 := ⟨_, rfl⟩
            replace hf := bn_to e_x59 hf
            refine z_iinc C (lv2 := [(0, .ref ((zw K).2.1 0)), (1, .int i47), (2, .int x59), (3, .int x52)]) 2 [1, 2, 0, 3] dX7_settleWords_221 rfl rfl (Nat.le_of_ble_eq_true rfl) e_x59 rfl ?_
            refine z_goto (tgt := 146) C dX7_settleWords_224 (by decide) ?_
            cases hf
            exact z_sub [0, 1, 2] rfl (ih x59 m58 hz)
          · replace hf := if_f c68 hf
            refine z_aload_n C 0 dX7_settleWords_190 rfl rfl ?_
            refine z_getr C (t := 36) (Nat.le_of_ble_eq_true rfl) rfl rfl 47 (Nat.le_of_ble_eq_true rfl) rfl kiX7_settleWords_X7 kfX7_settleWords_116 dX7_settleWords_191 ?_
            refine z_bipush C (v := 6) dX7_settleWords_194 rfl ?_
            refine z_aload_n C 0 dX7_settleWords_196 rfl rfl ?_
            refine z_getr C (t := 24) (Nat.le_of_ble_eq_true rfl) rfl rfl 27 (Nat.le_of_ble_eq_true rfl) rfl kiX7_settleWords_X7 kfX7_settleWords_80 dX7_settleWords_197 ?_
            refine z_iload_n C 3 dX7_settleWords_200 rfl rfl ?_
            obtain ⟨hi60, hf⟩ := ck_el hf
            refine z_iald C (k := 24) (Nat.le_of_ble_eq_true rfl) rfl hi60 dX7_settleWords_201 ?_
            refine z_imul C dX7_settleWords_202 ?_
            refine z_iload_n C 1 dX7_settleWords_203 rfl rfl ?_
            refine z_iadd C dX7_settleWords_204 ?_
            obtain ⟨hi61, hf⟩ := ck_el hf
            refine z_zald C (k := 36) (Nat.le_of_ble_eq_true rfl) rfl hi61 dX7_settleWords_205 ?_
            refine z_if_eq (tgt := 221) C dX7_settleWords_206 (by decide) (fun c67 => ?_) (fun c67 => ?_)
            · replace hf := if_t c67 hf
              obtain ⟨x62, e_x62⟩ : ∃ y : Int32, y = i49 + 1 := ⟨_, rfl⟩
              replace hf := bn_to e_x62 hf
              refine z_iinc C (lv2 := [(0, .ref ((zw K).2.1 0)), (1, .int i47), (2, .int x62), (3, .int x52)]) 2 [1, 2, 0, 3] dX7_settleWords_221 rfl rfl (Nat.le_of_ble_eq_true rfl) e_x62 rfl ?_
              refine z_goto (tgt := 146) C dX7_settleWords_224 (by decide) ?_
              cases hf
              exact z_sub [0, 1, 2] rfl (ih x62 m50 hz)
            · replace hf := if_f c67 hf
              refine z_aload_n C 0 dX7_settleWords_209 rfl rfl ?_
              refine z_bipush C (v := 7) dX7_settleWords_210 rfl ?_
              refine z_aload_n C 0 dX7_settleWords_212 rfl rfl ?_
              refine z_getr C (t := 26) (Nat.le_of_ble_eq_true rfl) rfl rfl 29 (Nat.le_of_ble_eq_true rfl) rfl kiX7_settleWords_X7 kfX7_settleWords_86 dX7_settleWords_213 ?_
              refine z_iload_n C 3 dX7_settleWords_216 rfl rfl ?_
              obtain ⟨hi63, hf⟩ := ck_el hf
              refine z_iald C (k := 26) (Nat.le_of_ble_eq_true rfl) rfl hi63 dX7_settleWords_217 ?_
              obtain ⟨m65, hc64, hf⟩ := zb_el hf
              refine z_cVv C (c_X7_fails _ _ hc64) rfl gX7_settleWords_X7_fails rfl rfl zdX7_fails rfl (Nat.le_of_ble_eq_true rfl) rfl rfl rfl ⟨Nat.le_of_ble_eq_true rfl, Nat.le_of_ble_eq_true rfl⟩ (Nat.le_of_ble_eq_true rfl) dX7_settleWords_218 rfl ?_
              obtain ⟨x66, e_x66⟩ : ∃ y : Int32, y = i49 + 1 := ⟨_, rfl⟩
              replace hf := bn_to e_x66 hf
              refine z_iinc C (lv2 := [(0, .ref ((zw K).2.1 0)), (1, .int i47), (2, .int x66), (3, .int x52)]) 2 [1, 2, 0, 3] dX7_settleWords_221 rfl rfl (Nat.le_of_ble_eq_true rfl) e_x66 rfl ?_
              refine z_goto (tgt := 146) C dX7_settleWords_224 (by decide) ?_
              cases hf
              exact z_sub [0, 1, 2] rfl (ih x66 m65 hz)
set_option maxRecDepth 100000 in
set_option maxHeartbeats 4000000 in
theorem w_X7_settleWords_129 {K : ZK} (C : zOK MM K cX7_settleWords 5 none RX7 wsX7_settleWords rmX7_settleWords)   {o0 : Mem} (hk : zGo MM K o0 [] 233 []) : ∀ (n : Nat) (i47 : Int32) (m48 : Mem), l_X7_settleWords_129  n i47 m48 = some o0 → zGo MM K m48 [(0, .ref ((zw K).2.1 0)), (1, .int i47)] 129 [] := by
  intro n
  induction n with
  | zero =>
    intro i47 m48 hf
    cases hf
  | succ n ih =>
    intro i47 m48 hf
    obtain ⟨z, hf, hz⟩ := zlp_el hf
    replace hf : t_X7_settleWords_129  i47 m48 = some z := hf
    unfold t_X7_settleWords_129 at hf
    refine z_iload_n C 1 dX7_settleWords_129 rfl rfl ?_
    refine z_aload_n C 0 dX7_settleWords_130 rfl rfl ?_
    refine z_geti C (Nat.le_of_ble_eq_true rfl) rfl rfl 21 (Nat.le_of_ble_eq_true rfl) rfl kiX7_settleWords_X7 kfX7_settleWords_234 dX7_settleWords_131 ?_
    refine z_icmp_ge (tgt := 233) C dX7_settleWords_134 (by decide) (fun c75 => ?_) (fun c75 => ?_)
    · replace hf := if_t c75 hf
      cases hf
      replace hz := zlz_r hz
      cases hz
      exact z_sub [] rfl hk
    · replace hf := if_f c75 hf
      refine z_aload_n C 0 dX7_settleWords_137 rfl rfl ?_
      refine z_geti C (Nat.le_of_ble_eq_true rfl) rfl rfl 42 (Nat.le_of_ble_eq_true rfl) rfl kiX7_settleWords_X7 kfX7_settleWords_177 dX7_settleWords_138 ?_
      refine z_if_ne (tgt := 233) C dX7_settleWords_141 (by decide) (fun c74 => ?_) (fun c74 => ?_)
      · replace hf := if_f c74 hf
        cases hf
        replace hz := zlz_r hz
        cases hz
        exact z_sub [] rfl hk
      · replace hf := if_t c74 hf
        refine z_iconst C (v := 0) dX7_settleWords_144 rfl ?_
        refine z_istore_n C (lv2 := [(0, .ref ((zw K).2.1 0)), (1, .int i47), (2, .int 0)]) [1, 2, 0] dX7_settleWords_145 rfl (Nat.le_of_ble_eq_true rfl) rfl ?_
        obtain ⟨m72, hg, hf⟩ := zb_el hf
        refine z_sub [0, 1, 2] rfl (w_X7_settleWords_146 C  ?_ _ _ _ hg)
        clear hg
        obtain ⟨x73, e_x73⟩ : ∃ y : Int32, y = i47 + 1 := ⟨_, rfl⟩
        replace hf := bn_to e_x73 hf
        refine z_iinc C (lv2 := [(0, .ref ((zw K).2.1 0)), (1, .int x73)]) 1 [1, 0] dX7_settleWords_227 rfl rfl (Nat.le_of_ble_eq_true rfl) e_x73 rfl ?_
        refine z_goto (tgt := 129) C dX7_settleWords_230 (by decide) ?_
        cases hf
        exact z_sub [0, 1] rfl (ih x73 m72 hz)
set_option maxRecDepth 100000 in
set_option maxHeartbeats 4000000 in
theorem c_X7_settleWords (l : Launch) (w : ZW) {m : Mem}  {m9 : Mem}  (hf : s_X7_settleWords m  = some m9) : zCv MM l w yX7_settleWords wsX7_settleWords rmX7_settleWords [.ref (w.2.1 0)] m m9 := by
  refine z_met_v MM_ok (own := RX7) (by decide +kernel) rfl rfl (Nat.le_of_ble_eq_true rfl) ?_
  intro K C hKw hKl hret
  subst hKw
  subst hKl
  unfold s_X7_settleWords at hf
  show zGo MM K m [(0, .ref ((zw K).2.1 0))] 0 []
  refine z_iconst C (v := 0) dX7_settleWords_0 rfl ?_
  refine z_istore_n C (lv2 := [(0, .ref ((zw K).2.1 0)), (1, .int 0)]) [1, 0] dX7_settleWords_1 rfl (Nat.le_of_ble_eq_true rfl) rfl ?_
  obtain ⟨m44, hg, hf⟩ := zb_el hf
  refine z_sub [0, 1] rfl (w_X7_settleWords_2 C  ?_ _ _ _ hg)
  clear hg
  refine z_aload_n C 0 dX7_settleWords_114 rfl rfl ?_
  refine z_geti C (Nat.le_of_ble_eq_true rfl) rfl rfl 42 (Nat.le_of_ble_eq_true rfl) rfl kiX7_settleWords_X7 kfX7_settleWords_177 dX7_settleWords_115 ?_
  refine z_if_le (tgt := 122) C dX7_settleWords_118 (by decide) (fun c77 => ?_) (fun c77 => ?_)
  · replace hf := if_t c77 hf
    refine z_aload_n C 0 dX7_settleWords_122 rfl rfl ?_
    refine z_iconst C (v := 1) dX7_settleWords_123 rfl ?_
    obtain ⟨m46, hc45, hf⟩ := zb_el hf
    refine z_cVv C (c_X7_findLeads _ _ hc45) rfl gX7_settleWords_X7_findLeads rfl rfl zdX7_findLeads rfl (Nat.le_of_ble_eq_true rfl) rfl rfl rfl ⟨Nat.le_of_ble_eq_true rfl, Nat.le_of_ble_eq_true rfl⟩ (Nat.le_of_ble_eq_true rfl) dX7_settleWords_124 rfl ?_
    refine z_iconst C (v := 0) dX7_settleWords_127 rfl ?_
    refine z_istore_n C (lv2 := [(0, .ref ((zw K).2.1 0)), (1, .int 0)]) [1, 0] dX7_settleWords_128 rfl (Nat.le_of_ble_eq_true rfl) rfl ?_
    obtain ⟨m76, hg, hf⟩ := zb_el hf
    refine z_sub [0, 1] rfl (w_X7_settleWords_129 C  ?_ _ _ _ hg)
    clear hg
    cases hf
    exact hret _ _ dX7_settleWords_233
  · replace hf := if_f c77 hf
    cases hf
    exact hret _ _ dX7_settleWords_121
def rmX7_shapes : Room := { frames := 8, cells := 0, slots := 0, locals := 173 }
theorem zdX7_shapes : yX7_shapes.cls = RX7 ∧ yX7_shapes.cls ≠ "java/lang/invoke/MethodHandle" ∧ yX7_shapes.cls ≠ "java/lang/invoke/VarHandle" ∧ (parseMethodDescriptor yX7_shapes.desc).map (fun d => d.parameters.length) = some 0 := by decide +kernel
theorem kiX7_shapes_X7 : ∀ w ∈ wsX70, w ∈ wsX7_shapes := by decide +kernel
theorem kfX7_shapes_177 : Cond.fieldLink RX7 177 "ShapeJudgeModel" "fault" "I" ∈ wsX7_shapes := by decide +kernel
theorem kfX7_shapes_183 : Cond.fieldLink RX7 183 "ShapeJudgeModel" "at" "I" ∈ wsX7_shapes := by decide +kernel
theorem kfX7_shapes_234 : Cond.fieldLink RX7 234 "ShapeJudgeModel" "dShapes" "I" ∈ wsX7_shapes := by decide +kernel
theorem kfX7_shapes_193 : Cond.fieldLink RX7 193 "ShapeJudgeModel" "sort" "I" ∈ wsX7_shapes := by decide +kernel
theorem kfX7_shapes_170 : Cond.fieldLink RX7 170 "ShapeJudgeModel" "taped" "I" ∈ wsX7_shapes := by decide +kernel
theorem kfX7_shapes_258 : Cond.fieldLink RX7 258 "ShapeJudgeModel" "shapes" "I" ∈ wsX7_shapes := by decide +kernel
theorem kfX7_shapes_26 : Cond.fieldLink RX7 26 "ShapeJudgeModel" "words" "[I" ∈ wsX7_shapes := by decide +kernel
theorem kfX7_shapes_65 : Cond.fieldLink RX7 65 "ShapeJudgeModel" "dWords" "[I" ∈ wsX7_shapes := by decide +kernel
theorem kfX7_shapes_29 : Cond.fieldLink RX7 29 "ShapeJudgeModel" "closed" "[Z" ∈ wsX7_shapes := by decide +kernel
theorem kfX7_shapes_68 : Cond.fieldLink RX7 68 "ShapeJudgeModel" "dClosed" "[Z" ∈ wsX7_shapes := by decide +kernel
theorem kfX7_shapes_32 : Cond.fieldLink RX7 32 "ShapeJudgeModel" "parts" "[I" ∈ wsX7_shapes := by decide +kernel
theorem kfX7_shapes_71 : Cond.fieldLink RX7 71 "ShapeJudgeModel" "dParts" "[I" ∈ wsX7_shapes := by decide +kernel
theorem kfX7_shapes_47 : Cond.fieldLink RX7 47 "ShapeJudgeModel" "size" "[I" ∈ wsX7_shapes := by decide +kernel
theorem kfX7_shapes_89 : Cond.fieldLink RX7 89 "ShapeJudgeModel" "dSize" "[I" ∈ wsX7_shapes := by decide +kernel
theorem kfX7_shapes_35 : Cond.fieldLink RX7 35 "ShapeJudgeModel" "pName" "[I" ∈ wsX7_shapes := by decide +kernel
theorem kfX7_shapes_74 : Cond.fieldLink RX7 74 "ShapeJudgeModel" "dName" "[I" ∈ wsX7_shapes := by decide +kernel
theorem kfX7_shapes_38 : Cond.fieldLink RX7 38 "ShapeJudgeModel" "pTest" "[I" ∈ wsX7_shapes := by decide +kernel
theorem kfX7_shapes_77 : Cond.fieldLink RX7 77 "ShapeJudgeModel" "dTest" "[I" ∈ wsX7_shapes := by decide +kernel
theorem kfX7_shapes_41 : Cond.fieldLink RX7 41 "ShapeJudgeModel" "pFirst" "[I" ∈ wsX7_shapes := by decide +kernel
theorem kfX7_shapes_80 : Cond.fieldLink RX7 80 "ShapeJudgeModel" "dFirst" "[I" ∈ wsX7_shapes := by decide +kernel
theorem kfX7_shapes_44 : Cond.fieldLink RX7 44 "ShapeJudgeModel" "pSecond" "[I" ∈ wsX7_shapes := by decide +kernel
theorem kfX7_shapes_83 : Cond.fieldLink RX7 83 "ShapeJudgeModel" "dSecond" "[I" ∈ wsX7_shapes := by decide +kernel
theorem kfX7_shapes_50 : Cond.fieldLink RX7 50 "ShapeJudgeModel" "kind" "[I" ∈ wsX7_shapes := by decide +kernel
theorem kfX7_shapes_92 : Cond.fieldLink RX7 92 "ShapeJudgeModel" "dKind" "[I" ∈ wsX7_shapes := by decide +kernel
theorem kfX7_shapes_53 : Cond.fieldLink RX7 53 "ShapeJudgeModel" "around" "[I" ∈ wsX7_shapes := by decide +kernel
theorem kfX7_shapes_95 : Cond.fieldLink RX7 95 "ShapeJudgeModel" "dAround" "[I" ∈ wsX7_shapes := by decide +kernel
theorem kfX7_shapes_56 : Cond.fieldLink RX7 56 "ShapeJudgeModel" "least" "[I" ∈ wsX7_shapes := by decide +kernel
theorem kfX7_shapes_98 : Cond.fieldLink RX7 98 "ShapeJudgeModel" "dLeast" "[I" ∈ wsX7_shapes := by decide +kernel
theorem kfX7_shapes_59 : Cond.fieldLink RX7 59 "ShapeJudgeModel" "most" "[I" ∈ wsX7_shapes := by decide +kernel
theorem kfX7_shapes_101 : Cond.fieldLink RX7 101 "ShapeJudgeModel" "dMost" "[I" ∈ wsX7_shapes := by decide +kernel
theorem kfX7_shapes_62 : Cond.fieldLink RX7 62 "ShapeJudgeModel" "partOf" "[I" ∈ wsX7_shapes := by decide +kernel
theorem kfX7_shapes_104 : Cond.fieldLink RX7 104 "ShapeJudgeModel" "dPartOf" "[I" ∈ wsX7_shapes := by decide +kernel
theorem kfX7_shapes_148 : Cond.fieldLink RX7 148 "ShapeJudgeModel" "isRead" "Z" ∈ wsX7_shapes := by decide +kernel
theorem kfX7_shapes_180 : Cond.fieldLink RX7 180 "ShapeJudgeModel" "wrongAt" "I" ∈ wsX7_shapes := by decide +kernel
def t_X7_shapes_21  (i6 : Int32) (m7 : Mem) : Option ((Int32 × Mem) ⊕ (Mem)) :=
  (if i6 = 0 then (some (.inr m7)) else ((if (m7 0 42) = 0 then ((s_X7_readShape m7).bind fun m9 => (if (m9 0 40) = 0 then (some (.inl (0, m9))) else (some (.inl (1, m9))))) else (some (.inr m7)))))
def l_X7_shapes_21  (n : Nat) (i6 : Int32) (m7 : Mem) : Option (Mem) := zlp n (fun a => t_X7_shapes_21  a.1 a.2) (i6, m7)
def t_X7_shapes_93  (i17 : Int32) (m18 : Mem) : Option ((Int32 × Mem) ⊕ (Mem)) :=
  (if (m18 0 7) ≤ i17 then (some (.inr m18)) else (ck (zin i17 6 = true) (ck (zin i17 6 = true) (bn (sto m18 6 (Int32.toNatClampNeg i17) (m18 19 (Int32.toNatClampNeg i17))) fun m21 => ck (zin i17 6 = true) (ck (zin i17 6 = true) (bn (sto m21 7 (Int32.toNatClampNeg i17) (vp_nar .boolean (m21 20 (Int32.toNatClampNeg i17)))) fun m24 => ck (zin i17 6 = true) (ck (zin i17 6 = true) (bn (sto m24 8 (Int32.toNatClampNeg i17) (m24 21 (Int32.toNatClampNeg i17))) fun m27 => ck (zin i17 6 = true) (ck (zin i17 6 = true) (bn (sto m27 13 (Int32.toNatClampNeg i17) (m27 27 (Int32.toNatClampNeg i17))) fun m30 => bn (i17 + 1) fun x31 => some (.inl (x31, m30))))))))))))
def l_X7_shapes_93  (n : Nat) (i17 : Int32) (m18 : Mem) : Option (Mem) := zlp n (fun a => t_X7_shapes_93  a.1 a.2) (i17, m18)
def t_X7_shapes_157  (i34 : Int32) (m35 : Mem) : Option ((Int32 × Mem) ⊕ (Mem)) :=
  (if 36 ≤ i34 then (some (.inr m35)) else (ck (zin i34 36 = true) (ck (zin i34 36 = true) (bn (sto m35 9 (Int32.toNatClampNeg i34) (m35 22 (Int32.toNatClampNeg i34))) fun m38 => ck (zin i34 36 = true) (ck (zin i34 36 = true) (bn (sto m38 10 (Int32.toNatClampNeg i34) (m38 23 (Int32.toNatClampNeg i34))) fun m41 => ck (zin i34 36 = true) (ck (zin i34 36 = true) (bn (sto m41 11 (Int32.toNatClampNeg i34) (m41 24 (Int32.toNatClampNeg i34))) fun m44 => ck (zin i34 36 = true) (ck (zin i34 36 = true) (bn (sto m44 12 (Int32.toNatClampNeg i34) (m44 25 (Int32.toNatClampNeg i34))) fun m47 => bn (i34 + 1) fun x48 => some (.inl (x48, m47))))))))))))
def l_X7_shapes_157  (n : Nat) (i34 : Int32) (m35 : Mem) : Option (Mem) := zlp n (fun a => t_X7_shapes_157  a.1 a.2) (i34, m35)
def t_X7_shapes_219  (i51 : Int32) (m52 : Mem) : Option ((Int32 × Mem) ⊕ (Mem)) :=
  (if 960 ≤ i51 then (some (.inr m52)) else (ck (zin i51 960 = true) (ck (zin i51 960 = true) (bn (sto m52 14 (Int32.toNatClampNeg i51) (m52 28 (Int32.toNatClampNeg i51))) fun m55 => ck (zin i51 960 = true) (ck (zin i51 960 = true) (bn (sto m55 15 (Int32.toNatClampNeg i51) (m55 29 (Int32.toNatClampNeg i51))) fun m58 => ck (zin i51 960 = true) (ck (zin i51 960 = true) (bn (sto m58 16 (Int32.toNatClampNeg i51) (m58 30 (Int32.toNatClampNeg i51))) fun m61 => ck (zin i51 960 = true) (ck (zin i51 960 = true) (bn (sto m61 17 (Int32.toNatClampNeg i51) (m61 31 (Int32.toNatClampNeg i51))) fun m64 => ck (zin i51 960 = true) (ck (zin i51 960 = true) (bn (sto m64 18 (Int32.toNatClampNeg i51) (m64 32 (Int32.toNatClampNeg i51))) fun m67 => bn (i51 + 1) fun x68 => some (.inl (x68, m67))))))))))))))
def l_X7_shapes_219  (n : Nat) (i51 : Int32) (m52 : Mem) : Option (Mem) := zlp n (fun a => t_X7_shapes_219  a.1 a.2) (i51, m52)
def s_X7_shapes (m : Mem)  : Option (Int32 × Mem) :=
  bn (sto m 0 42 0) fun m1 => bn (sto m1 0 38 0) fun m2 => bn (sto m2 0 21 0) fun m3 => (s_X7_next m3).bind fun m5 => ((l_X7_shapes_21  FU 1 m5).bind fun m13 => (((if (m13 0 42) = 0 then ((s_X7_settleWords m13).bind fun m74 => some m74) else (some m13)) : Option (Mem)).bind fun m14 => bn (sto m14 0 37 0) fun m15 => (if (m15 0 42) ≤ 0 then (bn (sto m15 0 7 (m15 0 21)) fun m16 => ((l_X7_shapes_93  FU 0 m16).bind fun m33 => ((l_X7_shapes_157  FU 0 m33).bind fun m50 => ((l_X7_shapes_219  FU 0 m50).bind fun m70 => bn (sto m70 0 6 0) fun m71 => some ((m71 0 7), m71))))) else (some (((-10) - (m15 0 43)), m15)))))
set_option maxRecDepth 100000 in
set_option maxHeartbeats 4000000 in
theorem w_X7_shapes_21 {K : ZK} (C : zOK MM K cX7_shapes 3 (some .int) RX7 wsX7_shapes rmX7_shapes)   {o0 : Mem} (hk : zGo MM K o0 [(0, .ref ((zw K).2.1 0))] 52 []) : ∀ (n : Nat) (i6 : Int32) (m7 : Mem), l_X7_shapes_21  n i6 m7 = some o0 → zGo MM K m7 [(0, .ref ((zw K).2.1 0)), (1, .int i6)] 21 [] := by
  intro n
  induction n with
  | zero =>
    intro i6 m7 hf
    cases hf
  | succ n ih =>
    intro i6 m7 hf
    obtain ⟨z, hf, hz⟩ := zlp_el hf
    replace hf : t_X7_shapes_21  i6 m7 = some z := hf
    unfold t_X7_shapes_21 at hf
    refine z_iload_n C 1 dX7_shapes_21 rfl rfl ?_
    refine z_if_eq (tgt := 52) C dX7_shapes_22 (by decide) (fun c12 => ?_) (fun c12 => ?_)
    · replace hf := if_t c12 hf
      cases hf
      replace hz := zlz_r hz
      cases hz
      exact z_sub [0] rfl hk
    · replace hf := if_f c12 hf
      refine z_aload_n C 0 dX7_shapes_25 rfl rfl ?_
      refine z_geti C (Nat.le_of_ble_eq_true rfl) rfl rfl 42 (Nat.le_of_ble_eq_true rfl) rfl kiX7_shapes_X7 kfX7_shapes_177 dX7_shapes_26 ?_
      refine z_if_ne (tgt := 52) C dX7_shapes_29 (by decide) (fun c11 => ?_) (fun c11 => ?_)
      · replace hf := if_f c11 hf
        cases hf
        replace hz := zlz_r hz
        cases hz
        exact z_sub [0] rfl hk
      · replace hf := if_t c11 hf
        refine z_aload_n C 0 dX7_shapes_32 rfl rfl ?_
        obtain ⟨m9, hc8, hf⟩ := zb_el hf
        refine z_cVv C (c_X7_readShape _ _ hc8) rfl gX7_shapes_X7_readShape rfl rfl zdX7_readShape rfl (Nat.le_of_ble_eq_true rfl) rfl rfl rfl ⟨Nat.le_of_ble_eq_true rfl, Nat.le_of_ble_eq_true rfl⟩ (Nat.le_of_ble_eq_true rfl) dX7_shapes_33 rfl ?_
        refine z_aload_n C 0 dX7_shapes_36 rfl rfl ?_
        refine z_geti C (Nat.le_of_ble_eq_true rfl) rfl rfl 40 (Nat.le_of_ble_eq_true rfl) rfl kiX7_shapes_X7 kfX7_shapes_193 dX7_shapes_37 ?_
        refine z_if_eq (tgt := 47) C dX7_shapes_40 (by decide) (fun c10 => ?_) (fun c10 => ?_)
        · replace hf := if_t c10 hf
          refine z_iconst C (v := 0) dX7_shapes_47 rfl ?_
          refine z_istore_n C (lv2 := [(0, .ref ((zw K).2.1 0)), (1, .int 0)]) [1, 0] dX7_shapes_48 rfl (Nat.le_of_ble_eq_true rfl) rfl ?_
          refine z_goto (tgt := 21) C dX7_shapes_49 (by decide) ?_
          cases hf
          exact z_sub [0, 1] rfl (ih 0 m9 hz)
        · replace hf := if_f c10 hf
          refine z_iconst C (v := 1) dX7_shapes_43 rfl ?_
          refine z_goto (tgt := 48) C dX7_shapes_44 (by decide) ?_
          refine z_istore_n C (lv2 := [(0, .ref ((zw K).2.1 0)), (1, .int 1)]) [1, 0] dX7_shapes_48 rfl (Nat.le_of_ble_eq_true rfl) rfl ?_
          refine z_goto (tgt := 21) C dX7_shapes_49 (by decide) ?_
          cases hf
          exact z_sub [0, 1] rfl (ih 1 m9 hz)
set_option maxRecDepth 100000 in
set_option maxHeartbeats 4000000 in
theorem w_X7_shapes_93 {K : ZK} (C : zOK MM K cX7_shapes 3 (some .int) RX7 wsX7_shapes rmX7_shapes)   {o0 : Mem} (hk : zGo MM K o0 [(0, .ref ((zw K).2.1 0))] 155 []) : ∀ (n : Nat) (i17 : Int32) (m18 : Mem), l_X7_shapes_93  n i17 m18 = some o0 → zGo MM K m18 [(0, .ref ((zw K).2.1 0)), (2, .int i17)] 93 [] := by
  intro n
  induction n with
  | zero =>
    intro i17 m18 hf
    cases hf
  | succ n ih =>
    intro i17 m18 hf
    obtain ⟨z, hf, hz⟩ := zlp_el hf
    replace hf : t_X7_shapes_93  i17 m18 = some z := hf
    unfold t_X7_shapes_93 at hf
    refine z_iload_n C 1 dX7_shapes_93 rfl rfl ?_
    refine z_aload_n C 0 dX7_shapes_94 rfl rfl ?_
    refine z_geti C (Nat.le_of_ble_eq_true rfl) rfl rfl 7 (Nat.le_of_ble_eq_true rfl) rfl kiX7_shapes_X7 kfX7_shapes_258 dX7_shapes_95 ?_
    refine z_icmp_ge (tgt := 155) C dX7_shapes_98 (by decide) (fun c32 => ?_) (fun c32 => ?_)
    · replace hf := if_t c32 hf
      cases hf
      replace hz := zlz_r hz
      cases hz
      exact z_sub [0] rfl hk
    · replace hf := if_f c32 hf
      refine z_aload_n C 0 dX7_shapes_101 rfl rfl ?_
      refine z_getr C (t := 6) (Nat.le_of_ble_eq_true rfl) rfl rfl 8 (Nat.le_of_ble_eq_true rfl) rfl kiX7_shapes_X7 kfX7_shapes_26 dX7_shapes_102 ?_
      refine z_iload_n C 1 dX7_shapes_105 rfl rfl ?_
      refine z_aload_n C 0 dX7_shapes_106 rfl rfl ?_
      refine z_getr C (t := 19) (Nat.le_of_ble_eq_true rfl) rfl rfl 22 (Nat.le_of_ble_eq_true rfl) rfl kiX7_shapes_X7 kfX7_shapes_65 dX7_shapes_107 ?_
      refine z_iload_n C 1 dX7_shapes_110 rfl rfl ?_
      obtain ⟨hi19, hf⟩ := ck_el hf
      refine z_iald C (k := 19) (Nat.le_of_ble_eq_true rfl) rfl hi19 dX7_shapes_111 ?_
      obtain ⟨hi20, hf⟩ := ck_el hf
      refine z_iast C (k := 6) (Nat.le_of_ble_eq_true rfl) rfl hi20 dX7_shapes_112 ?_
      refine z_nm (fun m21 e_m21 => ?_)
      replace hf := bn_to e_m21 hf
      refine z_aload_n C 0 dX7_shapes_113 rfl rfl ?_
      refine z_getr C (t := 7) (Nat.le_of_ble_eq_true rfl) rfl rfl 9 (Nat.le_of_ble_eq_true rfl) rfl kiX7_shapes_X7 kfX7_shapes_29 dX7_shapes_114 ?_
      refine z_iload_n C 1 dX7_shapes_117 rfl rfl ?_
      refine z_aload_n C 0 dX7_shapes_118 rfl rfl ?_
      refine z_getr C (t := 20) (Nat.le_of_ble_eq_true rfl) rfl rfl 23 (Nat.le_of_ble_eq_true rfl) rfl kiX7_shapes_X7 kfX7_shapes_68 dX7_shapes_119 ?_
      refine z_iload_n C 1 dX7_shapes_122 rfl rfl ?_
      obtain ⟨hi22, hf⟩ := ck_el hf
      refine z_zald C (k := 20) (Nat.le_of_ble_eq_true rfl) rfl hi22 dX7_shapes_123 ?_
      obtain ⟨hi23, hf⟩ := ck_el hf
      refine z_zast C (k := 7) (Nat.le_of_ble_eq_true rfl) rfl hi23 dX7_shapes_124 ?_
      refine z_nm (fun m24 e_m24 => ?_)
      replace hf := bn_to e_m24 hf
      refine z_aload_n C 0 dX7_shapes_125 rfl rfl ?_
      refine z_getr C (t := 8) (Nat.le_of_ble_eq_true rfl) rfl rfl 10 (Nat.le_of_ble_eq_true rfl) rfl kiX7_shapes_X7 kfX7_shapes_32 dX7_shapes_126 ?_
      refine z_iload_n C 1 dX7_shapes_129 rfl rfl ?_
      refine z_aload_n C 0 dX7_shapes_130 rfl rfl ?_
      refine z_getr C (t := 21) (Nat.le_of_ble_eq_true rfl) rfl rfl 24 (Nat.le_of_ble_eq_true rfl) rfl kiX7_shapes_X7 kfX7_shapes_71 dX7_shapes_131 ?_
      refine z_iload_n C 1 dX7_shapes_134 rfl rfl ?_
      obtain ⟨hi25, hf⟩ := ck_el hf
      refine z_iald C (k := 21) (Nat.le_of_ble_eq_true rfl) rfl hi25 dX7_shapes_135 ?_
      obtain ⟨hi26, hf⟩ := ck_el hf
      refine z_iast C (k := 8) (Nat.le_of_ble_eq_true rfl) rfl hi26 dX7_shapes_136 ?_
      refine z_nm (fun m27 e_m27 => ?_)
      replace hf := bn_to e_m27 hf
      refine z_aload_n C 0 dX7_shapes_137 rfl rfl ?_
      refine z_getr C (t := 13) (Nat.le_of_ble_eq_true rfl) rfl rfl 15 (Nat.le_of_ble_eq_true rfl) rfl kiX7_shapes_X7 kfX7_shapes_47 dX7_shapes_138 ?_
      refine z_iload_n C 1 dX7_shapes_141 rfl rfl ?_
      refine z_aload_n C 0 dX7_shapes_142 rfl rfl ?_
      refine z_getr C (t := 27) (Nat.le_of_ble_eq_true rfl) rfl rfl 30 (Nat.le_of_ble_eq_true rfl) rfl kiX7_shapes_X7 kfX7_shapes_89 dX7_shapes_143 ?_
      refine z_iload_n C 1 dX7_shapes_146 rfl rfl ?_
      obtain ⟨hi28, hf⟩ := ck_el hf
      refine z_iald C (k := 27) (Nat.le_of_ble_eq_true rfl) rfl hi28 dX7_shapes_147 ?_
      obtain ⟨hi29, hf⟩ := ck_el hf
      refine z_iast C (k := 13) (Nat.le_of_ble_eq_true rfl) rfl hi29 dX7_shapes_148 ?_
      refine z_nm (fun m30 e_m30 => ?_)
      replace hf := bn_to e_m30 hf
      obtain ⟨x31, e_x31⟩ : ∃ y : Int32, y = i17 + 1 := ⟨_, rfl⟩
      replace hf := bn_to e_x31 hf
      refine z_iinc C (lv2 := [(0, .ref ((zw K).2.1 0)), (2, .int x31)]) 1 [1, 0] dX7_shapes_149 rfl rfl (Nat.le_of_ble_eq_true rfl) e_x31 rfl ?_
      refine z_goto (tgt := 93) C dX7_shapes_152 (by decide) ?_
      cases hf
      exact z_sub [0, 1] rfl (ih x31 m30 hz)
set_option maxRecDepth 100000 in
set_option maxHeartbeats 4000000 in
theorem w_X7_shapes_157 {K : ZK} (C : zOK MM K cX7_shapes 3 (some .int) RX7 wsX7_shapes rmX7_shapes)   {o0 : Mem} (hk : zGo MM K o0 [(0, .ref ((zw K).2.1 0))] 217 []) : ∀ (n : Nat) (i34 : Int32) (m35 : Mem), l_X7_shapes_157  n i34 m35 = some o0 → zGo MM K m35 [(0, .ref ((zw K).2.1 0)), (2, .int i34)] 157 [] := by
  intro n
  induction n with
  | zero =>
    intro i34 m35 hf
    cases hf
  | succ n ih =>
    intro i34 m35 hf
    obtain ⟨z, hf, hz⟩ := zlp_el hf
    replace hf : t_X7_shapes_157  i34 m35 = some z := hf
    unfold t_X7_shapes_157 at hf
    refine z_iload_n C 1 dX7_shapes_157 rfl rfl ?_
    refine z_bipush C (v := 36) dX7_shapes_158 rfl ?_
    refine z_icmp_ge (tgt := 217) C dX7_shapes_160 (by decide) (fun c49 => ?_) (fun c49 => ?_)
    · replace hf := if_t c49 hf
      cases hf
      replace hz := zlz_r hz
      cases hz
      exact z_sub [0] rfl hk
    · replace hf := if_f c49 hf
      refine z_aload_n C 0 dX7_shapes_163 rfl rfl ?_
      refine z_getr C (t := 9) (Nat.le_of_ble_eq_true rfl) rfl rfl 11 (Nat.le_of_ble_eq_true rfl) rfl kiX7_shapes_X7 kfX7_shapes_35 dX7_shapes_164 ?_
      refine z_iload_n C 1 dX7_shapes_167 rfl rfl ?_
      refine z_aload_n C 0 dX7_shapes_168 rfl rfl ?_
      refine z_getr C (t := 22) (Nat.le_of_ble_eq_true rfl) rfl rfl 25 (Nat.le_of_ble_eq_true rfl) rfl kiX7_shapes_X7 kfX7_shapes_74 dX7_shapes_169 ?_
      refine z_iload_n C 1 dX7_shapes_172 rfl rfl ?_
      obtain ⟨hi36, hf⟩ := ck_el hf
      refine z_iald C (k := 22) (Nat.le_of_ble_eq_true rfl) rfl hi36 dX7_shapes_173 ?_
      obtain ⟨hi37, hf⟩ := ck_el hf
      refine z_iast C (k := 9) (Nat.le_of_ble_eq_true rfl) rfl hi37 dX7_shapes_174 ?_
      refine z_nm (fun m38 e_m38 => ?_)
      replace hf := bn_to e_m38 hf
      refine z_aload_n C 0 dX7_shapes_175 rfl rfl ?_
      refine z_getr C (t := 10) (Nat.le_of_ble_eq_true rfl) rfl rfl 12 (Nat.le_of_ble_eq_true rfl) rfl kiX7_shapes_X7 kfX7_shapes_38 dX7_shapes_176 ?_
      refine z_iload_n C 1 dX7_shapes_179 rfl rfl ?_
      refine z_aload_n C 0 dX7_shapes_180 rfl rfl ?_
      refine z_getr C (t := 23) (Nat.le_of_ble_eq_true rfl) rfl rfl 26 (Nat.le_of_ble_eq_true rfl) rfl kiX7_shapes_X7 kfX7_shapes_77 dX7_shapes_181 ?_
      refine z_iload_n C 1 dX7_shapes_184 rfl rfl ?_
      obtain ⟨hi39, hf⟩ := ck_el hf
      refine z_iald C (k := 23) (Nat.le_of_ble_eq_true rfl) rfl hi39 dX7_shapes_185 ?_
      obtain ⟨hi40, hf⟩ := ck_el hf
      refine z_iast C (k := 10) (Nat.le_of_ble_eq_true rfl) rfl hi40 dX7_shapes_186 ?_
      refine z_nm (fun m41 e_m41 => ?_)
      replace hf := bn_to e_m41 hf
      refine z_aload_n C 0 dX7_shapes_187 rfl rfl ?_
      refine z_getr C (t := 11) (Nat.le_of_ble_eq_true rfl) rfl rfl 13 (Nat.le_of_ble_eq_true rfl) rfl kiX7_shapes_X7 kfX7_shapes_41 dX7_shapes_188 ?_
      refine z_iload_n C 1 dX7_shapes_191 rfl rfl ?_
      refine z_aload_n C 0 dX7_shapes_192 rfl rfl ?_
      refine z_getr C (t := 24) (Nat.le_of_ble_eq_true rfl) rfl rfl 27 (Nat.le_of_ble_eq_true rfl) rfl kiX7_shapes_X7 kfX7_shapes_80 dX7_shapes_193 ?_
      refine z_iload_n C 1 dX7_shapes_196 rfl rfl ?_
      obtain ⟨hi42, hf⟩ := ck_el hf
      refine z_iald C (k := 24) (Nat.le_of_ble_eq_true rfl) rfl hi42 dX7_shapes_197 ?_
      obtain ⟨hi43, hf⟩ := ck_el hf
      refine z_iast C (k := 11) (Nat.le_of_ble_eq_true rfl) rfl hi43 dX7_shapes_198 ?_
      refine z_nm (fun m44 e_m44 => ?_)
      replace hf := bn_to e_m44 hf
      refine z_aload_n C 0 dX7_shapes_199 rfl rfl ?_
      refine z_getr C (t := 12) (Nat.le_of_ble_eq_true rfl) rfl rfl 14 (Nat.le_of_ble_eq_true rfl) rfl kiX7_shapes_X7 kfX7_shapes_44 dX7_shapes_200 ?_
      refine z_iload_n C 1 dX7_shapes_203 rfl rfl ?_
      refine z_aload_n C 0 dX7_shapes_204 rfl rfl ?_
      refine z_getr C (t := 25) (Nat.le_of_ble_eq_true rfl) rfl rfl 28 (Nat.le_of_ble_eq_true rfl) rfl kiX7_shapes_X7 kfX7_shapes_83 dX7_shapes_205 ?_
      refine z_iload_n C 1 dX7_shapes_208 rfl rfl ?_
      obtain ⟨hi45, hf⟩ := ck_el hf
      refine z_iald C (k := 25) (Nat.le_of_ble_eq_true rfl) rfl hi45 dX7_shapes_209 ?_
      obtain ⟨hi46, hf⟩ := ck_el hf
      refine z_iast C (k := 12) (Nat.le_of_ble_eq_true rfl) rfl hi46 dX7_shapes_210 ?_
      refine z_nm (fun m47 e_m47 => ?_)
      replace hf := bn_to e_m47 hf
      obtain ⟨x48, e_x48⟩ : ∃ y : Int32, y = i34 + 1 := ⟨_, rfl⟩
      replace hf := bn_to e_x48 hf
      refine z_iinc C (lv2 := [(0, .ref ((zw K).2.1 0)), (2, .int x48)]) 1 [1, 0] dX7_shapes_211 rfl rfl (Nat.le_of_ble_eq_true rfl) e_x48 rfl ?_
      refine z_goto (tgt := 157) C dX7_shapes_214 (by decide) ?_
      cases hf
      exact z_sub [0, 1] rfl (ih x48 m47 hz)
set_option maxRecDepth 100000 in
set_option maxHeartbeats 4000000 in
theorem w_X7_shapes_219 {K : ZK} (C : zOK MM K cX7_shapes 3 (some .int) RX7 wsX7_shapes rmX7_shapes)   {o0 : Mem} (hk : zGo MM K o0 [(0, .ref ((zw K).2.1 0))] 292 []) : ∀ (n : Nat) (i51 : Int32) (m52 : Mem), l_X7_shapes_219  n i51 m52 = some o0 → zGo MM K m52 [(0, .ref ((zw K).2.1 0)), (2, .int i51)] 219 [] := by
  intro n
  induction n with
  | zero =>
    intro i51 m52 hf
    cases hf
  | succ n ih =>
    intro i51 m52 hf
    obtain ⟨z, hf, hz⟩ := zlp_el hf
    replace hf : t_X7_shapes_219  i51 m52 = some z := hf
    unfold t_X7_shapes_219 at hf
    refine z_iload_n C 1 dX7_shapes_219 rfl rfl ?_
    refine z_sipush C (v := 960) dX7_shapes_220 rfl ?_
    refine z_icmp_ge (tgt := 292) C dX7_shapes_223 (by decide) (fun c69 => ?_) (fun c69 => ?_)
    · replace hf := if_t c69 hf
      cases hf
      replace hz := zlz_r hz
      cases hz
      exact z_sub [0] rfl hk
    · replace hf := if_f c69 hf
      refine z_aload_n C 0 dX7_shapes_226 rfl rfl ?_
      refine z_getr C (t := 14) (Nat.le_of_ble_eq_true rfl) rfl rfl 16 (Nat.le_of_ble_eq_true rfl) rfl kiX7_shapes_X7 kfX7_shapes_50 dX7_shapes_227 ?_
      refine z_iload_n C 1 dX7_shapes_230 rfl rfl ?_
      refine z_aload_n C 0 dX7_shapes_231 rfl rfl ?_
      refine z_getr C (t := 28) (Nat.le_of_ble_eq_true rfl) rfl rfl 31 (Nat.le_of_ble_eq_true rfl) rfl kiX7_shapes_X7 kfX7_shapes_92 dX7_shapes_232 ?_
      refine z_iload_n C 1 dX7_shapes_235 rfl rfl ?_
      obtain ⟨hi53, hf⟩ := ck_el hf
      refine z_iald C (k := 28) (Nat.le_of_ble_eq_true rfl) rfl hi53 dX7_shapes_236 ?_
      obtain ⟨hi54, hf⟩ := ck_el hf
      refine z_iast C (k := 14) (Nat.le_of_ble_eq_true rfl) rfl hi54 dX7_shapes_237 ?_
      refine z_nm (fun m55 e_m55 => ?_)
      replace hf := bn_to e_m55 hf
      refine z_aload_n C 0 dX7_shapes_238 rfl rfl ?_
      refine z_getr C (t := 15) (Nat.le_of_ble_eq_true rfl) rfl rfl 17 (Nat.le_of_ble_eq_true rfl) rfl kiX7_shapes_X7 kfX7_shapes_53 dX7_shapes_239 ?_
      refine z_iload_n C 1 dX7_shapes_242 rfl rfl ?_
      refine z_aload_n C 0 dX7_shapes_243 rfl rfl ?_
      refine z_getr C (t := 29) (Nat.le_of_ble_eq_true rfl) rfl rfl 32 (Nat.le_of_ble_eq_true rfl) rfl kiX7_shapes_X7 kfX7_shapes_95 dX7_shapes_244 ?_
      refine z_iload_n C 1 dX7_shapes_247 rfl rfl ?_
      obtain ⟨hi56, hf⟩ := ck_el hf
      refine z_iald C (k := 29) (Nat.le_of_ble_eq_true rfl) rfl hi56 dX7_shapes_248 ?_
      obtain ⟨hi57, hf⟩ := ck_el hf
      refine z_iast C (k := 15) (Nat.le_of_ble_eq_true rfl) rfl hi57 dX7_shapes_249 ?_
      refine z_nm (fun m58 e_m58 => ?_)
      replace hf := bn_to e_m58 hf
      refine z_aload_n C 0 dX7_shapes_250 rfl rfl ?_
      refine z_getr C (t := 16) (Nat.le_of_ble_eq_true rfl) rfl rfl 18 (Nat.le_of_ble_eq_true rfl) rfl kiX7_shapes_X7 kfX7_shapes_56 dX7_shapes_251 ?_
      refine z_iload_n C 1 dX7_shapes_254 rfl rfl ?_
      refine z_aload_n C 0 dX7_shapes_255 rfl rfl ?_
      refine z_getr C (t := 30) (Nat.le_of_ble_eq_true rfl) rfl rfl 33 (Nat.le_of_ble_eq_true rfl) rfl kiX7_shapes_X7 kfX7_shapes_98 dX7_shapes_256 ?_
      refine z_iload_n C 1 dX7_shapes_259 rfl rfl ?_
      obtain ⟨hi59, hf⟩ := ck_el hf
      refine z_iald C (k := 30) (Nat.le_of_ble_eq_true rfl) rfl hi59 dX7_shapes_260 ?_
      obtain ⟨hi60, hf⟩ := ck_el hf
      refine z_iast C (k := 16) (Nat.le_of_ble_eq_true rfl) rfl hi60 dX7_shapes_261 ?_
      refine z_nm (fun m61 e_m61 => ?_)
      replace hf := bn_to e_m61 hf
      refine z_aload_n C 0 dX7_shapes_262 rfl rfl ?_
      refine z_getr C (t := 17) (Nat.le_of_ble_eq_true rfl) rfl rfl 19 (Nat.le_of_ble_eq_true rfl) rfl kiX7_shapes_X7 kfX7_shapes_59 dX7_shapes_263 ?_
      refine z_iload_n C 1 dX7_shapes_266 rfl rfl ?_
      refine z_aload_n C 0 dX7_shapes_267 rfl rfl ?_
      refine z_getr C (t := 31) (Nat.le_of_ble_eq_true rfl) rfl rfl 34 (Nat.le_of_ble_eq_true rfl) rfl kiX7_shapes_X7 kfX7_shapes_101 dX7_shapes_268 ?_
      refine z_iload_n C 1 dX7_shapes_271 rfl rfl ?_
      obtain ⟨hi62, hf⟩ := ck_el hf
      refine z_iald C (k := 31) (Nat.le_of_ble_eq_true rfl) rfl hi62 dX7_shapes_272 ?_
      obtain ⟨hi63, hf⟩ := ck_el hf
      refine z_iast C (k := 17) (Nat.le_of_ble_eq_true rfl) rfl hi63 dX7_shapes_273 ?_
      refine z_nm (fun m64 e_m64 => ?_)
      replace hf := bn_to e_m64 hf
      refine z_aload_n C 0 dX7_shapes_274 rfl rfl ?_
      refine z_getr C (t := 18) (Nat.le_of_ble_eq_true rfl) rfl rfl 20 (Nat.le_of_ble_eq_true rfl) rfl kiX7_shapes_X7 kfX7_shapes_62 dX7_shapes_275 ?_
      refine z_iload_n C 1 dX7_shapes_278 rfl rfl ?_
      refine z_aload_n C 0 dX7_shapes_279 rfl rfl ?_
      refine z_getr C (t := 32) (Nat.le_of_ble_eq_true rfl) rfl rfl 35 (Nat.le_of_ble_eq_true rfl) rfl kiX7_shapes_X7 kfX7_shapes_104 dX7_shapes_280 ?_
      refine z_iload_n C 1 dX7_shapes_283 rfl rfl ?_
      obtain ⟨hi65, hf⟩ := ck_el hf
      refine z_iald C (k := 32) (Nat.le_of_ble_eq_true rfl) rfl hi65 dX7_shapes_284 ?_
      obtain ⟨hi66, hf⟩ := ck_el hf
      refine z_iast C (k := 18) (Nat.le_of_ble_eq_true rfl) rfl hi66 dX7_shapes_285 ?_
      refine z_nm (fun m67 e_m67 => ?_)
      replace hf := bn_to e_m67 hf
      obtain ⟨x68, e_x68⟩ : ∃ y : Int32, y = i51 + 1 := ⟨_, rfl⟩
      replace hf := bn_to e_x68 hf
      refine z_iinc C (lv2 := [(0, .ref ((zw K).2.1 0)), (2, .int x68)]) 1 [1, 0] dX7_shapes_286 rfl rfl (Nat.le_of_ble_eq_true rfl) e_x68 rfl ?_
      refine z_goto (tgt := 219) C dX7_shapes_289 (by decide) ?_
      cases hf
      exact z_sub [0, 1] rfl (ih x68 m67 hz)
set_option maxRecDepth 100000 in
set_option maxHeartbeats 4000000 in
theorem c_X7_shapes (l : Launch) (w : ZW) {m : Mem}  {r9 : Int32} {m9 : Mem}  (hf : s_X7_shapes m  = some (r9, m9)) : zCi MM l w yX7_shapes wsX7_shapes rmX7_shapes [.ref (w.2.1 0)] m m9 r9 := by
  refine z_met_i MM_ok (own := RX7) (by decide +kernel) rfl rfl (Nat.le_of_ble_eq_true rfl) ?_
  intro K C hKw hKl hret
  subst hKw
  subst hKl
  unfold s_X7_shapes at hf
  show zGo MM K m [(0, .ref ((zw K).2.1 0))] 0 []
  refine z_aload_n C 0 dX7_shapes_0 rfl rfl ?_
  refine z_iconst C (v := 0) dX7_shapes_1 rfl ?_
  refine z_puti C (Nat.le_of_ble_eq_true rfl) rfl rfl 42 (Nat.le_of_ble_eq_true rfl) rfl kiX7_shapes_X7 kfX7_shapes_177 tyX7 tyX7_ok nmX7 rfl rfl dX7_shapes_2 ?_
  refine z_nm (fun m1 e_m1 => ?_)
  replace hf := bn_to e_m1 hf
  refine z_aload_n C 0 dX7_shapes_5 rfl rfl ?_
  refine z_iconst C (v := 0) dX7_shapes_6 rfl ?_
  refine z_puti C (Nat.le_of_ble_eq_true rfl) rfl rfl 38 (Nat.le_of_ble_eq_true rfl) rfl kiX7_shapes_X7 kfX7_shapes_183 tyX7 tyX7_ok nmX7 rfl rfl dX7_shapes_7 ?_
  refine z_nm (fun m2 e_m2 => ?_)
  replace hf := bn_to e_m2 hf
  refine z_aload_n C 0 dX7_shapes_10 rfl rfl ?_
  refine z_iconst C (v := 0) dX7_shapes_11 rfl ?_
  refine z_puti C (Nat.le_of_ble_eq_true rfl) rfl rfl 21 (Nat.le_of_ble_eq_true rfl) rfl kiX7_shapes_X7 kfX7_shapes_234 tyX7 tyX7_ok nmX7 rfl rfl dX7_shapes_12 ?_
  refine z_nm (fun m3 e_m3 => ?_)
  replace hf := bn_to e_m3 hf
  refine z_aload_n C 0 dX7_shapes_15 rfl rfl ?_
  obtain ⟨m5, hc4, hf⟩ := zb_el hf
  refine z_cVv C (c_X7_next _ _ hc4) rfl gX7_shapes_X7_next rfl rfl zdX7_next rfl (Nat.le_of_ble_eq_true rfl) rfl rfl rfl ⟨Nat.le_of_ble_eq_true rfl, Nat.le_of_ble_eq_true rfl⟩ (Nat.le_of_ble_eq_true rfl) dX7_shapes_16 rfl ?_
  refine z_iconst C (v := 1) dX7_shapes_19 rfl ?_
  refine z_istore_n C (lv2 := [(0, .ref ((zw K).2.1 0)), (1, .int 1)]) [1, 0] dX7_shapes_20 rfl (Nat.le_of_ble_eq_true rfl) rfl ?_
  obtain ⟨m13, hg, hf⟩ := zb_el hf
  refine z_sub [0, 1] rfl (w_X7_shapes_21 C  ?_ _ _ _ hg)
  clear hg
  refine z_aload_n C 0 dX7_shapes_52 rfl rfl ?_
  refine z_geti C (Nat.le_of_ble_eq_true rfl) rfl rfl 42 (Nat.le_of_ble_eq_true rfl) rfl kiX7_shapes_X7 kfX7_shapes_177 dX7_shapes_53 ?_
  obtain ⟨m14, hg, hf⟩ := zb_el hf
  have hj : zGo MM K m14 [(0, .ref ((zw K).2.1 0))] 63 [] := by
    refine z_aload_n C 0 dX7_shapes_63 rfl rfl ?_
    refine z_iconst C (v := 0) dX7_shapes_64 rfl ?_
    refine z_puti C (Nat.le_of_ble_eq_true rfl) rfl rfl 37 (Nat.le_of_ble_eq_true rfl) rfl kiX7_shapes_X7 kfX7_shapes_170 tyX7 tyX7_ok nmX7 rfl rfl dX7_shapes_65 ?_
    refine z_nm (fun m15 e_m15 => ?_)
    replace hf := bn_to e_m15 hf
    refine z_aload_n C 0 dX7_shapes_68 rfl rfl ?_
    refine z_geti C (Nat.le_of_ble_eq_true rfl) rfl rfl 42 (Nat.le_of_ble_eq_true rfl) rfl kiX7_shapes_X7 kfX7_shapes_177 dX7_shapes_69 ?_
    refine z_if_le (tgt := 83) C dX7_shapes_72 (by decide) (fun c72 => ?_) (fun c72 => ?_)
    · replace hf := if_t c72 hf
      refine z_aload_n C 0 dX7_shapes_83 rfl rfl ?_
      refine z_aload_n C 0 dX7_shapes_84 rfl rfl ?_
      refine z_geti C (Nat.le_of_ble_eq_true rfl) rfl rfl 21 (Nat.le_of_ble_eq_true rfl) rfl kiX7_shapes_X7 kfX7_shapes_234 dX7_shapes_85 ?_
      refine z_puti C (Nat.le_of_ble_eq_true rfl) rfl rfl 7 (Nat.le_of_ble_eq_true rfl) rfl kiX7_shapes_X7 kfX7_shapes_258 tyX7 tyX7_ok nmX7 rfl rfl dX7_shapes_88 ?_
      refine z_nm (fun m16 e_m16 => ?_)
      replace hf := bn_to e_m16 hf
      refine z_iconst C (v := 0) dX7_shapes_91 rfl ?_
      refine z_istore_n C (lv2 := [(0, .ref ((zw K).2.1 0)), (2, .int 0)]) [1, 0] dX7_shapes_92 rfl (Nat.le_of_ble_eq_true rfl) rfl ?_
      obtain ⟨m33, hg, hf⟩ := zb_el hf
      refine z_sub [0, 1] rfl (w_X7_shapes_93 C  ?_ _ _ _ hg)
      clear hg
      refine z_iconst C (v := 0) dX7_shapes_155 rfl ?_
      refine z_istore_n C (lv2 := [(0, .ref ((zw K).2.1 0)), (2, .int 0)]) [1, 0] dX7_shapes_156 rfl (Nat.le_of_ble_eq_true rfl) rfl ?_
      obtain ⟨m50, hg, hf⟩ := zb_el hf
      refine z_sub [0, 1] rfl (w_X7_shapes_157 C  ?_ _ _ _ hg)
      clear hg
      refine z_iconst C (v := 0) dX7_shapes_217 rfl ?_
      refine z_istore_n C (lv2 := [(0, .ref ((zw K).2.1 0)), (2, .int 0)]) [1, 0] dX7_shapes_218 rfl (Nat.le_of_ble_eq_true rfl) rfl ?_
      obtain ⟨m70, hg, hf⟩ := zb_el hf
      refine z_sub [0, 1] rfl (w_X7_shapes_219 C  ?_ _ _ _ hg)
      clear hg
      refine z_aload_n C 0 dX7_shapes_292 rfl rfl ?_
      refine z_iconst C (v := 0) dX7_shapes_293 rfl ?_
      refine z_putz C (Nat.le_of_ble_eq_true rfl) rfl rfl 6 (Nat.le_of_ble_eq_true rfl) rfl kiX7_shapes_X7 kfX7_shapes_148 tyX7 tyX7_ok nmX7 rfl rfl (Or.inl rfl) dX7_shapes_294 ?_
      refine z_nm (fun m71 e_m71 => ?_)
      replace hf := bn_to e_m71 hf
      refine z_aload_n C 0 dX7_shapes_297 rfl rfl ?_
      refine z_geti C (Nat.le_of_ble_eq_true rfl) rfl rfl 7 (Nat.le_of_ble_eq_true rfl) rfl kiX7_shapes_X7 kfX7_shapes_258 dX7_shapes_298 ?_
      cases hf
      exact hret _ _ dX7_shapes_301
    · replace hf := if_f c72 hf
      refine z_bipush C (v := (-10)) dX7_shapes_75 (by decide) ?_
      refine z_aload_n C 0 dX7_shapes_77 rfl rfl ?_
      refine z_geti C (Nat.le_of_ble_eq_true rfl) rfl rfl 43 (Nat.le_of_ble_eq_true rfl) rfl kiX7_shapes_X7 kfX7_shapes_180 dX7_shapes_78 ?_
      refine z_isub C dX7_shapes_81 ?_
      cases hf
      exact hret _ _ dX7_shapes_82
  replace hf := hg
  clear hg
  refine z_if_ne (tgt := 63) C dX7_shapes_56 (by decide) (fun c75 => ?_) (fun c75 => ?_)
  · replace hf := if_f c75 hf
    cases hf
    exact z_sub [0] rfl hj
  · replace hf := if_t c75 hf
    refine z_aload_n C 0 dX7_shapes_59 rfl rfl ?_
    obtain ⟨m74, hc73, hf⟩ := zb_el hf
    refine z_cVv C (c_X7_settleWords _ _ hc73) rfl gX7_shapes_X7_settleWords rfl rfl zdX7_settleWords rfl (Nat.le_of_ble_eq_true rfl) rfl rfl rfl ⟨Nat.le_of_ble_eq_true rfl, Nat.le_of_ble_eq_true rfl⟩ (Nat.le_of_ble_eq_true rfl) dX7_shapes_60 rfl ?_
    cases hf
    exact z_sub [0] rfl hj
def rmX7_surely : Room := { frames := 6, cells := 0, slots := 0, locals := 153 }
theorem zdX7_surely : yX7_surely.cls = RX7 ∧ yX7_surely.cls ≠ "java/lang/invoke/MethodHandle" ∧ yX7_surely.cls ≠ "java/lang/invoke/VarHandle" ∧ (parseMethodDescriptor yX7_surely.desc).map (fun d => d.parameters.length) = some 2 := by decide +kernel
theorem kiX7_surely_X7 : ∀ w ∈ wsX70, w ∈ wsX7_surely := by decide +kernel
theorem kfX7_surely_122 : Cond.fieldLink RX7 122 "ShapeJudgeModel" "sure" "[Z" ∈ wsX7_surely := by decide +kernel
def s_X7_surely (m : Mem) (a1 : Int32) (a2 : Int32) : Option (Int32 × Mem) :=
  (s_X7_areBoth m a1 a2).bind fun r2 => (if r2 = 0 then (some ((-1), m)) else ((s_X7_read m).bind fun m4 => ck (zin (((10 : Int32) * a2) + a1) 60 = true) ((if (m4 38 (Int32.toNatClampNeg (((10 : Int32) * a2) + a1))) = 0 then (some (0, m4)) else (some (1, m4))))))
set_option maxRecDepth 100000 in
set_option maxHeartbeats 4000000 in
theorem c_X7_surely (l : Launch) (w : ZW) {m : Mem} {a1 : Int32} {a2 : Int32} {r9 : Int32} {m9 : Mem}  (hf : s_X7_surely m a1 a2 = some (r9, m9)) : zCi MM l w yX7_surely wsX7_surely rmX7_surely [.ref (w.2.1 0), .int a1, .int a2] m m9 r9 := by
  refine z_met_i MM_ok (own := RX7) (by decide +kernel) rfl rfl (Nat.le_of_ble_eq_true rfl) ?_
  intro K C hKw hKl hret
  subst hKw
  subst hKl
  unfold s_X7_surely at hf
  show zGo MM K m [(0, .ref ((zw K).2.1 0)), (1, .int a1), (2, .int a2)] 0 []
  refine z_aload_n C 0 dX7_surely_0 rfl rfl ?_
  refine z_iload_n C 1 dX7_surely_1 rfl rfl ?_
  refine z_iload_n C 2 dX7_surely_2 rfl rfl ?_
  obtain ⟨r2, hc1, hf⟩ := zb_el hf
  refine z_cVi C (c_X7_areBoth _ _ hc1) rfl gX7_surely_X7_areBoth rfl rfl zdX7_areBoth rfl (Nat.le_of_ble_eq_true rfl) rfl rfl rfl ⟨Nat.le_of_ble_eq_true rfl, Nat.le_of_ble_eq_true rfl⟩ (Nat.le_of_ble_eq_true rfl) dX7_surely_3 rfl ?_
  refine z_if_ne (tgt := 11) C dX7_surely_6 (by decide) (fun c7 => ?_) (fun c7 => ?_)
  · replace hf := if_f c7 hf
    refine z_aload_n C 0 dX7_surely_11 rfl rfl ?_
    obtain ⟨m4, hc3, hf⟩ := zb_el hf
    refine z_cVv C (c_X7_read _ _ hc3) rfl gX7_surely_X7_read rfl rfl zdX7_read rfl (Nat.le_of_ble_eq_true rfl) rfl rfl rfl ⟨Nat.le_of_ble_eq_true rfl, Nat.le_of_ble_eq_true rfl⟩ (Nat.le_of_ble_eq_true rfl) dX7_surely_12 rfl ?_
    refine z_aload_n C 0 dX7_surely_15 rfl rfl ?_
    refine z_getr C (t := 38) (Nat.le_of_ble_eq_true rfl) rfl rfl 49 (Nat.le_of_ble_eq_true rfl) rfl kiX7_surely_X7 kfX7_surely_122 dX7_surely_16 ?_
    refine z_bipush C (v := 10) dX7_surely_19 rfl ?_
    refine z_iload_n C 2 dX7_surely_21 rfl rfl ?_
    refine z_imul C dX7_surely_22 ?_
    refine z_iload_n C 1 dX7_surely_23 rfl rfl ?_
    refine z_iadd C dX7_surely_24 ?_
    obtain ⟨hi5, hf⟩ := ck_el hf
    refine z_zald C (k := 38) (Nat.le_of_ble_eq_true rfl) rfl hi5 dX7_surely_25 ?_
    refine z_if_eq (tgt := 33) C dX7_surely_26 (by decide) (fun c6 => ?_) (fun c6 => ?_)
    · replace hf := if_t c6 hf
      refine z_iconst C (v := 0) dX7_surely_33 rfl ?_
      cases hf
      exact hret _ _ dX7_surely_34
    · replace hf := if_f c6 hf
      refine z_iconst C (v := 1) dX7_surely_29 rfl ?_
      refine z_goto (tgt := 34) C dX7_surely_30 (by decide) ?_
      cases hf
      exact hret _ _ dX7_surely_34
  · replace hf := if_t c7 hf
    refine z_iconst C (v := (-1)) dX7_surely_9 (by decide) ?_
    cases hf
    exact hret _ _ dX7_surely_10
def rmX7_told : Room := { frames := 2, cells := 0, slots := 0, locals := 46 }
theorem zdX7_told : yX7_told.cls = RX7 ∧ yX7_told.cls ≠ "java/lang/invoke/MethodHandle" ∧ yX7_told.cls ≠ "java/lang/invoke/VarHandle" ∧ (parseMethodDescriptor yX7_told.desc).map (fun d => d.parameters.length) = some 2 := by decide +kernel
theorem kcX7_told_332 : Cond.constantLong RX7 332 (2) ∈ wsX7_told := by decide +kernel
theorem kiX7_told_X7 : ∀ w ∈ wsX70, w ∈ wsX7_told := by decide +kernel
theorem kfX7_told_29 : Cond.fieldLink RX7 29 "ShapeJudgeModel" "closed" "[Z" ∈ wsX7_told := by decide +kernel
theorem kfX7_told_32 : Cond.fieldLink RX7 32 "ShapeJudgeModel" "parts" "[I" ∈ wsX7_told := by decide +kernel
theorem kfX7_told_26 : Cond.fieldLink RX7 26 "ShapeJudgeModel" "words" "[I" ∈ wsX7_told := by decide +kernel
def s_X7_told (m : Mem) (a1 : Int32) (a2 : Int32) : Option (Int32) :=
  (s_X7_isShape m a1).bind fun r2 => (if r2 = 0 then (some (-1)) else ((s_X7_in (a2.toInt64) 0 2).bind fun r4 => (if r4 = 0 then (some (-1)) else ((if a2 = 0 then (ck (zin a1 6 = true) (some (m 6 (Int32.toNatClampNeg a1)))) else ((if a2 = 1 then (ck (zin a1 6 = true) (some (m 8 (Int32.toNatClampNeg a1)))) else (ck (zin a1 6 = true) ((if (m 7 (Int32.toNatClampNeg a1)) = 0 then (some 0) else (some 1)))))))))))
set_option maxRecDepth 100000 in
set_option maxHeartbeats 4000000 in
theorem c_X7_told (l : Launch) (w : ZW) {m : Mem} {a1 : Int32} {a2 : Int32} {r9 : Int32}  (hf : s_X7_told m a1 a2 = some r9) : zCi MM l w yX7_told wsX7_told rmX7_told [.ref (w.2.1 0), .int a1, .int a2] m m r9 := by
  refine z_met_i MM_ok (own := RX7) (by decide +kernel) rfl rfl (Nat.le_of_ble_eq_true rfl) ?_
  intro K C hKw hKl hret
  subst hKw
  subst hKl
  unfold s_X7_told at hf
  show zGo MM K m [(0, .ref ((zw K).2.1 0)), (1, .int a1), (2, .int a2)] 0 []
  refine z_aload_n C 0 dX7_told_0 rfl rfl ?_
  refine z_iload_n C 1 dX7_told_1 rfl rfl ?_
  obtain ⟨r2, hc1, hf⟩ := zb_el hf
  refine z_cVi C (c_X7_isShape _ _ hc1) rfl gX7_told_X7_isShape rfl rfl zdX7_isShape rfl (Nat.le_of_ble_eq_true rfl) rfl rfl rfl ⟨Nat.le_of_ble_eq_true rfl, Nat.le_of_ble_eq_true rfl⟩ (Nat.le_of_ble_eq_true rfl) dX7_told_2 rfl ?_
  refine z_if_eq (tgt := 20) C dX7_told_5 (by decide) (fun c12 => ?_) (fun c12 => ?_)
  · replace hf := if_t c12 hf
    refine z_iconst C (v := (-1)) dX7_told_20 (by decide) ?_
    cases hf
    exact hret _ _ dX7_told_21
  · replace hf := if_f c12 hf
    refine z_iload_n C 2 dX7_told_8 rfl rfl ?_
    refine z_i2l C dX7_told_9 ?_
    refine z_lconst C (v := 0) dX7_told_10 rfl ?_
    refine z_ldc2 C (v := 2) dX7_told_11 kcX7_told_332 ?_
    obtain ⟨r4, hc3, hf⟩ := zb_el hf
    refine z_cSi C (c_X7_in _ _ hc3) rfl gX7_told_X7_in rfl rfl zdX7_in.2 rfl ⟨Nat.le_of_ble_eq_true rfl, Nat.le_of_ble_eq_true rfl⟩ (Nat.le_of_ble_eq_true rfl) dX7_told_14 rfl ?_
    refine z_if_ne (tgt := 22) C dX7_told_17 (by decide) (fun c11 => ?_) (fun c11 => ?_)
    · replace hf := if_f c11 hf
      refine z_iload_n C 2 dX7_told_22 rfl rfl ?_
      refine z_if_ne (tgt := 35) C dX7_told_23 (by decide) (fun c10 => ?_) (fun c10 => ?_)
      · replace hf := if_f c10 hf
        refine z_iload_n C 2 dX7_told_35 rfl rfl ?_
        refine z_iconst C (v := 1) dX7_told_36 rfl ?_
        refine z_icmp_ne (tgt := 49) C dX7_told_37 (by decide) (fun c8 => ?_) (fun c8 => ?_)
        · replace hf := if_f c8 hf
          refine z_aload_n C 0 dX7_told_49 rfl rfl ?_
          refine z_getr C (t := 7) (Nat.le_of_ble_eq_true rfl) rfl rfl 9 (Nat.le_of_ble_eq_true rfl) rfl kiX7_told_X7 kfX7_told_29 dX7_told_50 ?_
          refine z_iload_n C 1 dX7_told_53 rfl rfl ?_
          obtain ⟨hi5, hf⟩ := ck_el hf
          refine z_zald C (k := 7) (Nat.le_of_ble_eq_true rfl) rfl hi5 dX7_told_54 ?_
          refine z_if_eq (tgt := 62) C dX7_told_55 (by decide) (fun c6 => ?_) (fun c6 => ?_)
          · replace hf := if_t c6 hf
            refine z_iconst C (v := 0) dX7_told_62 rfl ?_
            cases hf
            exact hret _ _ dX7_told_63
          · replace hf := if_f c6 hf
            refine z_iconst C (v := 1) dX7_told_58 rfl ?_
            refine z_goto (tgt := 63) C dX7_told_59 (by decide) ?_
            cases hf
            exact hret _ _ dX7_told_63
        · replace hf := if_t c8 hf
          refine z_aload_n C 0 dX7_told_40 rfl rfl ?_
          refine z_getr C (t := 8) (Nat.le_of_ble_eq_true rfl) rfl rfl 10 (Nat.le_of_ble_eq_true rfl) rfl kiX7_told_X7 kfX7_told_32 dX7_told_41 ?_
          refine z_iload_n C 1 dX7_told_44 rfl rfl ?_
          obtain ⟨hi7, hf⟩ := ck_el hf
          refine z_iald C (k := 8) (Nat.le_of_ble_eq_true rfl) rfl hi7 dX7_told_45 ?_
          refine z_goto (tgt := 63) C dX7_told_46 (by decide) ?_
          cases hf
          exact hret _ _ dX7_told_63
      · replace hf := if_t c10 hf
        refine z_aload_n C 0 dX7_told_26 rfl rfl ?_
        refine z_getr C (t := 6) (Nat.le_of_ble_eq_true rfl) rfl rfl 8 (Nat.le_of_ble_eq_true rfl) rfl kiX7_told_X7 kfX7_told_26 dX7_told_27 ?_
        refine z_iload_n C 1 dX7_told_30 rfl rfl ?_
        obtain ⟨hi9, hf⟩ := ck_el hf
        refine z_iald C (k := 6) (Nat.le_of_ble_eq_true rfl) rfl hi9 dX7_told_31 ?_
        refine z_goto (tgt := 63) C dX7_told_32 (by decide) ?_
        cases hf
        exact hret _ _ dX7_told_63
    · replace hf := if_t c11 hf
      refine z_iconst C (v := (-1)) dX7_told_20 (by decide) ?_
      cases hf
      exact hret _ _ dX7_told_21
def rmX7_without : Room := { frames := 6, cells := 0, slots := 0, locals := 153 }
theorem zdX7_without : yX7_without.cls = RX7 ∧ yX7_without.cls ≠ "java/lang/invoke/MethodHandle" ∧ yX7_without.cls ≠ "java/lang/invoke/VarHandle" ∧ (parseMethodDescriptor yX7_without.desc).map (fun d => d.parameters.length) = some 2 := by decide +kernel
theorem kiX7_without_X7 : ∀ w ∈ wsX70, w ∈ wsX7_without := by decide +kernel
theorem kfX7_without_17 : Cond.fieldLink RX7 17 "ShapeJudgeModel" "many" "[I" ∈ wsX7_without := by decide +kernel
theorem kfX7_without_134 : Cond.fieldLink RX7 134 "ShapeJudgeModel" "keptNames" "[I" ∈ wsX7_without := by decide +kernel
theorem kfX7_without_20 : Cond.fieldLink RX7 20 "ShapeJudgeModel" "names" "[I" ∈ wsX7_without := by decide +kernel
theorem kfX7_without_137 : Cond.fieldLink RX7 137 "ShapeJudgeModel" "keptTos" "[I" ∈ wsX7_without := by decide +kernel
theorem kfX7_without_23 : Cond.fieldLink RX7 23 "ShapeJudgeModel" "tos" "[I" ∈ wsX7_without := by decide +kernel
theorem kfX7_without_318 : Cond.fieldLink RX7 318 "ShapeJudgeModel" "withoutMany" "I" ∈ wsX7_without := by decide +kernel
theorem kfX7_without_321 : Cond.fieldLink RX7 321 "ShapeJudgeModel" "withoutSet" "I" ∈ wsX7_without := by decide +kernel
theorem kfX7_without_148 : Cond.fieldLink RX7 148 "ShapeJudgeModel" "isRead" "Z" ∈ wsX7_without := by decide +kernel
theorem kfX7_without_119 : Cond.fieldLink RX7 119 "ShapeJudgeModel" "fitting" "[Z" ∈ wsX7_without := by decide +kernel
def t_X7_without_10 (a1 : Int32) (x2 : Int32) (i3 : Int32) (m4 : Mem) : Option ((Int32 × Mem) ⊕ (Mem)) :=
  (if x2 ≤ i3 then (some (.inr m4)) else (ck (zin (((5 : Int32) * a1) + i3) 50 = true) (ck (zin i3 5 = true) (bn (sto m4 42 (Int32.toNatClampNeg i3) (m4 4 (Int32.toNatClampNeg (((5 : Int32) * a1) + i3)))) fun m7 => ck (zin (((5 : Int32) * a1) + i3) 50 = true) (ck (zin i3 5 = true) (bn (sto m7 43 (Int32.toNatClampNeg i3) (m7 5 (Int32.toNatClampNeg (((5 : Int32) * a1) + i3)))) fun m10 => bn (i3 + 1) fun x11 => some (.inl (x11, m10))))))))
def l_X7_without_10 (a1 : Int32) (x2 : Int32) (n : Nat) (i3 : Int32) (m4 : Mem) : Option (Mem) := zlp n (fun a => t_X7_without_10 a1 x2 a.1 a.2) (i3, m4)
def t_X7_without_128 (a1 : Int32) (x2 : Int32) (i18 : Int32) (i25 : Int32) (m26 : Mem) : Option ((Int32 × Mem) ⊕ (Mem)) :=
  (if x2 ≤ i25 then (some (.inr m26)) else ((if ((i18 >>> (i25 &&& 31)) &&& 1) = 0 then (ck (zin a1 10 = true) (ck (zin i25 5 = true) (ck (zin (((5 : Int32) * a1) + (m26 3 (Int32.toNatClampNeg a1))) 50 = true) (bn (sto m26 4 (Int32.toNatClampNeg (((5 : Int32) * a1) + (m26 3 (Int32.toNatClampNeg a1)))) (m26 42 (Int32.toNatClampNeg i25))) fun m31 => ck (zin a1 10 = true) (ck (zin i25 5 = true) (ck (zin (((5 : Int32) * a1) + (m31 3 (Int32.toNatClampNeg a1))) 50 = true) (bn (sto m31 5 (Int32.toNatClampNeg (((5 : Int32) * a1) + (m31 3 (Int32.toNatClampNeg a1)))) (m31 43 (Int32.toNatClampNeg i25))) fun m35 => ck (zin a1 10 = true) (ck (zin a1 10 = true) (bn (sto m35 3 (Int32.toNatClampNeg a1) ((m35 3 (Int32.toNatClampNeg a1)) + 1)) fun m38 => bn (i25 + 1) fun x39 => some (.inl (x39, m38))))))))))) else (bn (i25 + 1) fun x27 => some (.inl (x27, m26))))))
def l_X7_without_128 (a1 : Int32) (x2 : Int32) (i18 : Int32) (n : Nat) (i25 : Int32) (m26 : Mem) : Option (Mem) := zlp n (fun a => t_X7_without_128 a1 x2 i18 a.1 a.2) (i25, m26)
def t_X7_without_91 (a1 : Int32) (a2 : Int32) (x2 : Int32) (i16 : Int32) (i18 : Int32) (m19 : Mem) : Option ((Int32 × Mem) ⊕ (Mem)) :=
  (if ((1 : Int32) <<< (x2 &&& 31)) ≤ i18 then (some (.inr m19)) else ((if (m19 0 53) = (-4) then ((s_X7_bits i18).bind fun r21 => (if r21 = i16 then (ck (zin a1 10 = true) (bn (sto m19 3 (Int32.toNatClampNeg a1) 0) fun m24 => ((l_X7_without_128 a1 x2 i18 FU 0 m24).bind fun m42 => bn (sto m42 0 6 0) fun m43 => (s_X7_read m43).bind fun m45 => ck (zin (((10 : Int32) * a2) + a1) 60 = true) ((if (m45 37 (Int32.toNatClampNeg (((10 : Int32) * a2) + a1))) = 0 then (bn (i18 + 1) fun x47 => some (.inl (x47, m45))) else (bn (sto m45 0 53 i16) fun m48 => bn (sto m48 0 54 i18) fun m49 => bn (i18 + 1) fun x50 => some (.inl (x50, m49)))))))) else (bn (i18 + 1) fun x22 => some (.inl (x22, m19))))) else (some (.inr m19)))))
def l_X7_without_91 (a1 : Int32) (a2 : Int32) (x2 : Int32) (i16 : Int32) (n : Nat) (i18 : Int32) (m19 : Mem) : Option (Mem) := zlp n (fun a => t_X7_without_91 a1 a2 x2 i16 a.1 a.2) (i18, m19)
def t_X7_without_73 (a1 : Int32) (a2 : Int32) (x2 : Int32) (i16 : Int32) (m17 : Mem) : Option ((Int32 × Mem) ⊕ (Mem)) :=
  (if 3 ≤ i16 then (some (.inr m17)) else ((if (m17 0 53) = (-4) then (((l_X7_without_91 a1 a2 x2 i16 FU 0 m17).bind fun m55 => bn (i16 + 1) fun x56 => some (.inl (x56, m55)))) else (some (.inr m17)))))
def l_X7_without_73 (a1 : Int32) (a2 : Int32) (x2 : Int32) (n : Nat) (i16 : Int32) (m17 : Mem) : Option (Mem) := zlp n (fun a => t_X7_without_73 a1 a2 x2 a.1 a.2) (i16, m17)
def t_X7_without_261 (a1 : Int32) (x2 : Int32) (i62 : Int32) (m63 : Mem) : Option ((Int32 × Mem) ⊕ (Mem)) :=
  (if x2 ≤ i62 then (some (.inr m63)) else (ck (zin i62 5 = true) (ck (zin (((5 : Int32) * a1) + i62) 50 = true) (bn (sto m63 4 (Int32.toNatClampNeg (((5 : Int32) * a1) + i62)) (m63 42 (Int32.toNatClampNeg i62))) fun m66 => ck (zin i62 5 = true) (ck (zin (((5 : Int32) * a1) + i62) 50 = true) (bn (sto m66 5 (Int32.toNatClampNeg (((5 : Int32) * a1) + i62)) (m66 43 (Int32.toNatClampNeg i62))) fun m69 => bn (i62 + 1) fun x70 => some (.inl (x70, m69))))))))
def l_X7_without_261 (a1 : Int32) (x2 : Int32) (n : Nat) (i62 : Int32) (m63 : Mem) : Option (Mem) := zlp n (fun a => t_X7_without_261 a1 x2 a.1 a.2) (i62, m63)
def s_X7_without (m : Mem) (a1 : Int32) (a2 : Int32) : Option (Mem) :=
  ck (zin a1 10 = true) (bn (m 3 (Int32.toNatClampNeg a1)) fun x2 => ((l_X7_without_10 a1 x2 FU 0 m).bind fun m13 => bn (sto m13 0 53 (-4)) fun m14 => bn (sto m14 0 54 (-4)) fun m15 => ((l_X7_without_73 a1 a2 x2 FU 0 m15).bind fun m59 => ck (zin a1 10 = true) (bn (sto m59 3 (Int32.toNatClampNeg a1) x2) fun m61 => ((l_X7_without_261 a1 x2 FU 0 m61).bind fun m72 => bn (sto m72 0 6 0) fun m73 => some m73)))))
set_option maxRecDepth 100000 in
set_option maxHeartbeats 4000000 in
theorem w_X7_without_10 {K : ZK} (C : zOK MM K cX7_without 7 none RX7 wsX7_without rmX7_without) {a1 : Int32} {a2 : Int32} {x2 : Int32}  {o0 : Mem} (hk : zGo MM K o0 [(0, .ref ((zw K).2.1 0)), (1, .int a1), (2, .int a2), (3, .int x2)] 58 []) : ∀ (n : Nat) (i3 : Int32) (m4 : Mem), l_X7_without_10 a1 x2 n i3 m4 = some o0 → zGo MM K m4 [(0, .ref ((zw K).2.1 0)), (1, .int a1), (2, .int a2), (3, .int x2), (4, .int i3)] 10 [] := by
  intro n
  induction n with
  | zero =>
    intro i3 m4 hf
    cases hf
  | succ n ih =>
    intro i3 m4 hf
    obtain ⟨z, hf, hz⟩ := zlp_el hf
    replace hf : t_X7_without_10 a1 x2 i3 m4 = some z := hf
    unfold t_X7_without_10 at hf
    refine z_iload C 4 dX7_without_10 rfl ?_
    refine z_iload_n C 3 dX7_without_12 rfl rfl ?_
    refine z_icmp_ge (tgt := 58) C dX7_without_13 (by decide) (fun c12 => ?_) (fun c12 => ?_)
    · replace hf := if_t c12 hf
      cases hf
      replace hz := zlz_r hz
      cases hz
      exact z_sub [0, 1, 2, 3] rfl hk
    · replace hf := if_f c12 hf
      refine z_aload_n C 0 dX7_without_16 rfl rfl ?_
      refine z_getr C (t := 42) (Nat.le_of_ble_eq_true rfl) rfl rfl 55 (Nat.le_of_ble_eq_true rfl) rfl kiX7_without_X7 kfX7_without_134 dX7_without_17 ?_
      refine z_iload C 4 dX7_without_20 rfl ?_
      refine z_aload_n C 0 dX7_without_22 rfl rfl ?_
      refine z_getr C (t := 4) (Nat.le_of_ble_eq_true rfl) rfl rfl 4 (Nat.le_of_ble_eq_true rfl) rfl kiX7_without_X7 kfX7_without_20 dX7_without_23 ?_
      refine z_iconst C (v := 5) dX7_without_26 rfl ?_
      refine z_iload_n C 1 dX7_without_27 rfl rfl ?_
      refine z_imul C dX7_without_28 ?_
      refine z_iload C 4 dX7_without_29 rfl ?_
      refine z_iadd C dX7_without_31 ?_
      obtain ⟨hi5, hf⟩ := ck_el hf
      refine z_iald C (k := 4) (Nat.le_of_ble_eq_true rfl) rfl hi5 dX7_without_32 ?_
      obtain ⟨hi6, hf⟩ := ck_el hf
      refine z_iast C (k := 42) (Nat.le_of_ble_eq_true rfl) rfl hi6 dX7_without_33 ?_
      refine z_nm (fun m7 e_m7 => ?_)
      replace hf := bn_to e_m7 hf
      refine z_aload_n C 0 dX7_without_34 rfl rfl ?_
      refine z_getr C (t := 43) (Nat.le_of_ble_eq_true rfl) rfl rfl 56 (Nat.le_of_ble_eq_true rfl) rfl kiX7_without_X7 kfX7_without_137 dX7_without_35 ?_
      refine z_iload C 4 dX7_without_38 rfl ?_
      refine z_aload_n C 0 dX7_without_40 rfl rfl ?_
      refine z_getr C (t := 5) (Nat.le_of_ble_eq_true rfl) rfl rfl 5 (Nat.le_of_ble_eq_true rfl) rfl kiX7_without_X7 kfX7_without_23 dX7_without_41 ?_
      refine z_iconst C (v := 5) dX7_without_44 rfl ?_
      refine z_iload_n C 1 dX7_without_45 rfl rfl ?_
      refine z_imul C dX7_without_46 ?_
      refine z_iload C 4 dX7_without_47 rfl ?_
      refine z_iadd C dX7_without_49 ?_
      obtain ⟨hi8, hf⟩ := ck_el hf
      refine z_iald C (k := 5) (Nat.le_of_ble_eq_true rfl) rfl hi8 dX7_without_50 ?_
      obtain ⟨hi9, hf⟩ := ck_el hf
      refine z_iast C (k := 43) (Nat.le_of_ble_eq_true rfl) rfl hi9 dX7_without_51 ?_
      refine z_nm (fun m10 e_m10 => ?_)
      replace hf := bn_to e_m10 hf
      obtain ⟨x11, e_x11⟩ : ∃ y : Int32, y = i3 + 1 := ⟨_, rfl⟩
      replace hf := bn_to e_x11 hf
      refine z_iinc C (lv2 := [(0, .ref ((zw K).2.1 0)), (1, .int a1), (2, .int a2), (3, .int x2), (4, .int x11)]) 4 [1, 2, 3, 4, 0] dX7_without_52 rfl rfl (Nat.le_of_ble_eq_true rfl) e_x11 rfl ?_
      refine z_goto (tgt := 10) C dX7_without_55 (by decide) ?_
      cases hf
      exact z_sub [0, 1, 2, 3, 4] rfl (ih x11 m10 hz)
set_option maxRecDepth 100000 in
set_option maxHeartbeats 4000000 in
theorem w_X7_without_128 {K : ZK} (C : zOK MM K cX7_without 7 none RX7 wsX7_without rmX7_without) {a1 : Int32} {a2 : Int32} {x2 : Int32} {i16 : Int32} {i18 : Int32}  {o0 : Mem} (hk : zGo MM K o0 [(0, .ref ((zw K).2.1 0)), (1, .int a1), (2, .int a2), (3, .int x2), (4, .int i16), (5, .int i18)] 204 []) : ∀ (n : Nat) (i25 : Int32) (m26 : Mem), l_X7_without_128 a1 x2 i18 n i25 m26 = some o0 → zGo MM K m26 [(0, .ref ((zw K).2.1 0)), (1, .int a1), (2, .int a2), (3, .int x2), (4, .int i16), (5, .int i18), (6, .int i25)] 128 [] := by
  intro n
  induction n with
  | zero =>
    intro i25 m26 hf
    cases hf
  | succ n ih =>
    intro i25 m26 hf
    obtain ⟨z, hf, hz⟩ := zlp_el hf
    replace hf : t_X7_without_128 a1 x2 i18 i25 m26 = some z := hf
    unfold t_X7_without_128 at hf
    refine z_iload C 6 dX7_without_128 rfl ?_
    refine z_iload_n C 3 dX7_without_130 rfl rfl ?_
    refine z_icmp_ge (tgt := 204) C dX7_without_131 (by decide) (fun c41 => ?_) (fun c41 => ?_)
    · replace hf := if_t c41 hf
      cases hf
      replace hz := zlz_r hz
      cases hz
      exact z_sub [0, 1, 2, 3, 4, 5] rfl hk
    · replace hf := if_f c41 hf
      refine z_iload C 5 dX7_without_134 rfl ?_
      refine z_iload C 6 dX7_without_136 rfl ?_
      refine z_ishr C dX7_without_138 ?_
      refine z_iconst C (v := 1) dX7_without_139 rfl ?_
      refine z_iand C dX7_without_140 ?_
      refine z_if_ne (tgt := 198) C dX7_without_141 (by decide) (fun c40 => ?_) (fun c40 => ?_)
      · replace hf := if_f c40 hf
        obtain ⟨x27, e_x27⟩ : ∃ y : Int32, y = i25 + 1 := ⟨_, rfl⟩
        replace hf := bn_to e_x27 hf
        refine z_iinc C (lv2 := [(0, .ref ((zw K).2.1 0)), (1, .int a1), (2, .int a2), (3, .int x2), (4, .int i16), (5, .int i18), (6, .int x27)]) 6 [1, 2, 3, 4, 5, 6, 0] dX7_without_198 rfl rfl (Nat.le_of_ble_eq_true rfl) e_x27 rfl ?_
        refine z_goto (tgt := 128) C dX7_without_201 (by decide) ?_
        cases hf
        exact z_sub [0, 1, 2, 3, 4, 5, 6] rfl (ih x27 m26 hz)
      · replace hf := if_t c40 hf
        refine z_aload_n C 0 dX7_without_144 rfl rfl ?_
        refine z_getr C (t := 4) (Nat.le_of_ble_eq_true rfl) rfl rfl 4 (Nat.le_of_ble_eq_true rfl) rfl kiX7_without_X7 kfX7_without_20 dX7_without_145 ?_
        refine z_iconst C (v := 5) dX7_without_148 rfl ?_
        refine z_iload_n C 1 dX7_without_149 rfl rfl ?_
        refine z_imul C dX7_without_150 ?_
        refine z_aload_n C 0 dX7_without_151 rfl rfl ?_
        refine z_getr C (t := 3) (Nat.le_of_ble_eq_true rfl) rfl rfl 3 (Nat.le_of_ble_eq_true rfl) rfl kiX7_without_X7 kfX7_without_17 dX7_without_152 ?_
        refine z_iload_n C 1 dX7_without_155 rfl rfl ?_
        obtain ⟨hi28, hf⟩ := ck_el hf
        refine z_iald C (k := 3) (Nat.le_of_ble_eq_true rfl) rfl hi28 dX7_without_156 ?_
        refine z_iadd C dX7_without_157 ?_
        refine z_aload_n C 0 dX7_without_158 rfl rfl ?_
        refine z_getr C (t := 42) (Nat.le_of_ble_eq_true rfl) rfl rfl 55 (Nat.le_of_ble_eq_true rfl) rfl kiX7_without_X7 kfX7_without_134 dX7_without_159 ?_
        refine z_iload C 6 dX7_without_162 rfl ?_
        obtain ⟨hi29, hf⟩ := ck_el hf
        refine z_iald C (k := 42) (Nat.le_of_ble_eq_true rfl) rfl hi29 dX7_without_164 ?_
        obtain ⟨hi30, hf⟩ := ck_el hf
        refine z_iast C (k := 4) (Nat.le_of_ble_eq_true rfl) rfl hi30 dX7_without_165 ?_
        refine z_nm (fun m31 e_m31 => ?_)
        replace hf := bn_to e_m31 hf
        refine z_aload_n C 0 dX7_without_166 rfl rfl ?_
        refine z_getr C (t := 5) (Nat.le_of_ble_eq_true rfl) rfl rfl 5 (Nat.le_of_ble_eq_true rfl) rfl kiX7_without_X7 kfX7_without_23 dX7_without_167 ?_
        refine z_iconst C (v := 5) dX7_without_170 rfl ?_
        refine z_iload_n C 1 dX7_without_171 rfl rfl ?_
        refine z_imul C dX7_without_172 ?_
        refine z_aload_n C 0 dX7_without_173 rfl rfl ?_
        refine z_getr C (t := 3) (Nat.le_of_ble_eq_true rfl) rfl rfl 3 (Nat.le_of_ble_eq_true rfl) rfl kiX7_without_X7 kfX7_without_17 dX7_without_174 ?_
        refine z_iload_n C 1 dX7_without_177 rfl rfl ?_
        obtain ⟨hi32, hf⟩ := ck_el hf
        refine z_iald C (k := 3) (Nat.le_of_ble_eq_true rfl) rfl hi32 dX7_without_178 ?_
        refine z_iadd C dX7_without_179 ?_
        refine z_aload_n C 0 dX7_without_180 rfl rfl ?_
        refine z_getr C (t := 43) (Nat.le_of_ble_eq_true rfl) rfl rfl 56 (Nat.le_of_ble_eq_true rfl) rfl kiX7_without_X7 kfX7_without_137 dX7_without_181 ?_
        refine z_iload C 6 dX7_without_184 rfl ?_
        obtain ⟨hi33, hf⟩ := ck_el hf
        refine z_iald C (k := 43) (Nat.le_of_ble_eq_true rfl) rfl hi33 dX7_without_186 ?_
        obtain ⟨hi34, hf⟩ := ck_el hf
        refine z_iast C (k := 5) (Nat.le_of_ble_eq_true rfl) rfl hi34 dX7_without_187 ?_
        refine z_nm (fun m35 e_m35 => ?_)
        replace hf := bn_to e_m35 hf
        refine z_aload_n C 0 dX7_without_188 rfl rfl ?_
        refine z_getr C (t := 3) (Nat.le_of_ble_eq_true rfl) rfl rfl 3 (Nat.le_of_ble_eq_true rfl) rfl kiX7_without_X7 kfX7_without_17 dX7_without_189 ?_
        refine z_iload_n C 1 dX7_without_192 rfl rfl ?_
        refine z_dup2 C dX7_without_193 ?_
        obtain ⟨hi36, hf⟩ := ck_el hf
        refine z_iald C (k := 3) (Nat.le_of_ble_eq_true rfl) rfl hi36 dX7_without_194 ?_
        refine z_iconst C (v := 1) dX7_without_195 rfl ?_
        refine z_iadd C dX7_without_196 ?_
        obtain ⟨hi37, hf⟩ := ck_el hf
        refine z_iast C (k := 3) (Nat.le_of_ble_eq_true rfl) rfl hi37 dX7_without_197 ?_
        refine z_nm (fun m38 e_m38 => ?_)
        replace hf := bn_to e_m38 hf
        obtain ⟨x39, e_x39⟩ : ∃ y : Int32, y = i25 + 1 := ⟨_, rfl⟩
        replace hf := bn_to e_x39 hf
        refine z_iinc C (lv2 := [(0, .ref ((zw K).2.1 0)), (1, .int a1), (2, .int a2), (3, .int x2), (4, .int i16), (5, .int i18), (6, .int x39)]) 6 [1, 2, 3, 4, 5, 6, 0] dX7_without_198 rfl rfl (Nat.le_of_ble_eq_true rfl) e_x39 rfl ?_
        refine z_goto (tgt := 128) C dX7_without_201 (by decide) ?_
        cases hf
        exact z_sub [0, 1, 2, 3, 4, 5, 6] rfl (ih x39 m38 hz)
set_option maxRecDepth 100000 in
set_option maxHeartbeats 4000000 in
theorem w_X7_without_91 {K : ZK} (C : zOK MM K cX7_without 7 none RX7 wsX7_without rmX7_without) {a1 : Int32} {a2 : Int32} {x2 : Int32} {i16 : Int32}  {o0 : Mem} (hk : zGo MM K o0 [(0, .ref ((zw K).2.1 0)), (1, .int a1), (2, .int a2), (3, .int x2), (4, .int i16)] 245 []) : ∀ (n : Nat) (i18 : Int32) (m19 : Mem), l_X7_without_91 a1 a2 x2 i16 n i18 m19 = some o0 → zGo MM K m19 [(0, .ref ((zw K).2.1 0)), (1, .int a1), (2, .int a2), (3, .int x2), (4, .int i16), (5, .int i18)] 91 [] := by
  intro n
  induction n with
  | zero =>
    intro i18 m19 hf
    cases hf
  | succ n ih =>
    intro i18 m19 hf
    obtain ⟨z, hf, hz⟩ := zlp_el hf
    replace hf : t_X7_without_91 a1 a2 x2 i16 i18 m19 = some z := hf
    unfold t_X7_without_91 at hf
    refine z_iload C 5 dX7_without_91 rfl ?_
    refine z_iconst C (v := 1) dX7_without_93 rfl ?_
    refine z_iload_n C 3 dX7_without_94 rfl rfl ?_
    refine z_ishl C dX7_without_95 ?_
    refine z_icmp_ge (tgt := 245) C dX7_without_96 (by decide) (fun c54 => ?_) (fun c54 => ?_)
    · replace hf := if_t c54 hf
      cases hf
      replace hz := zlz_r hz
      cases hz
      exact z_sub [0, 1, 2, 3, 4] rfl hk
    · replace hf := if_f c54 hf
      refine z_aload_n C 0 dX7_without_99 rfl rfl ?_
      refine z_geti C (Nat.le_of_ble_eq_true rfl) rfl rfl 53 (Nat.le_of_ble_eq_true rfl) rfl kiX7_without_X7 kfX7_without_318 dX7_without_100 ?_
      refine z_bipush C (v := (-4)) dX7_without_103 (by decide) ?_
      refine z_icmp_ne (tgt := 245) C dX7_without_105 (by decide) (fun c53 => ?_) (fun c53 => ?_)
      · replace hf := if_f c53 hf
        cases hf
        replace hz := zlz_r hz
        cases hz
        exact z_sub [0, 1, 2, 3, 4] rfl hk
      · replace hf := if_t c53 hf
        refine z_iload C 5 dX7_without_108 rfl ?_
        obtain ⟨r21, hc20, hf⟩ := zb_el hf
        refine z_cSi C (c_X7_bits _ _ hc20) rfl gX7_without_X7_bits rfl rfl zdX7_bits.2 rfl ⟨Nat.le_of_ble_eq_true rfl, Nat.le_of_ble_eq_true rfl⟩ (Nat.le_of_ble_eq_true rfl) dX7_without_110 rfl ?_
        refine z_iload C 4 dX7_without_113 rfl ?_
        refine z_icmp_ne (tgt := 239) C dX7_without_115 (by decide) (fun c52 => ?_) (fun c52 => ?_)
        · replace hf := if_f c52 hf
          obtain ⟨x22, e_x22⟩ : ∃ y : Int32, y = i18 + 1 := ⟨_, rfl⟩
          replace hf := bn_to e_x22 hf
          refine z_iinc C (lv2 := [(0, .ref ((zw K).2.1 0)), (1, .int a1), (2, .int a2), (3, .int x2), (4, .int i16), (5, .int x22)]) 5 [1, 2, 3, 4, 5, 0] dX7_without_239 rfl rfl (Nat.le_of_ble_eq_true rfl) e_x22 rfl ?_
          refine z_goto (tgt := 91) C dX7_without_242 (by decide) ?_
          cases hf
          exact z_sub [0, 1, 2, 3, 4, 5] rfl (ih x22 m19 hz)
        · replace hf := if_t c52 hf
          refine z_aload_n C 0 dX7_without_118 rfl rfl ?_
          refine z_getr C (t := 3) (Nat.le_of_ble_eq_true rfl) rfl rfl 3 (Nat.le_of_ble_eq_true rfl) rfl kiX7_without_X7 kfX7_without_17 dX7_without_119 ?_
          refine z_iload_n C 1 dX7_without_122 rfl rfl ?_
          refine z_iconst C (v := 0) dX7_without_123 rfl ?_
          obtain ⟨hi23, hf⟩ := ck_el hf
          refine z_iast C (k := 3) (Nat.le_of_ble_eq_true rfl) rfl hi23 dX7_without_124 ?_
          refine z_nm (fun m24 e_m24 => ?_)
          replace hf := bn_to e_m24 hf
          refine z_iconst C (v := 0) dX7_without_125 rfl ?_
          refine z_istore C (lv2 := [(0, .ref ((zw K).2.1 0)), (1, .int a1), (2, .int a2), (3, .int x2), (4, .int i16), (5, .int i18), (6, .int 0)]) [1, 2, 3, 4, 5, 6, 0] dX7_without_126 (Nat.le_of_ble_eq_true rfl) rfl ?_
          obtain ⟨m42, hg, hf⟩ := zb_el hf
          refine z_sub [0, 1, 2, 3, 4, 5, 6] rfl (w_X7_without_128 C  ?_ _ _ _ hg)
          clear hg
          refine z_aload_n C 0 dX7_without_204 rfl rfl ?_
          refine z_iconst C (v := 0) dX7_without_205 rfl ?_
          refine z_putz C (Nat.le_of_ble_eq_true rfl) rfl rfl 6 (Nat.le_of_ble_eq_true rfl) rfl kiX7_without_X7 kfX7_without_148 tyX7 tyX7_ok nmX7 rfl rfl (Or.inl rfl) dX7_without_206 ?_
          refine z_nm (fun m43 e_m43 => ?_)
          replace hf := bn_to e_m43 hf
          refine z_aload_n C 0 dX7_without_209 rfl rfl ?_
          obtain ⟨m45, hc44, hf⟩ := zb_el hf
          refine z_cVv C (c_X7_read _ _ hc44) rfl gX7_without_X7_read rfl rfl zdX7_read rfl (Nat.le_of_ble_eq_true rfl) rfl rfl rfl ⟨Nat.le_of_ble_eq_true rfl, Nat.le_of_ble_eq_true rfl⟩ (Nat.le_of_ble_eq_true rfl) dX7_without_210 rfl ?_
          refine z_aload_n C 0 dX7_without_213 rfl rfl ?_
          refine z_getr C (t := 37) (Nat.le_of_ble_eq_true rfl) rfl rfl 48 (Nat.le_of_ble_eq_true rfl) rfl kiX7_without_X7 kfX7_without_119 dX7_without_214 ?_
          refine z_bipush C (v := 10) dX7_without_217 rfl ?_
          refine z_iload_n C 2 dX7_without_219 rfl rfl ?_
          refine z_imul C dX7_without_220 ?_
          refine z_iload_n C 1 dX7_without_221 rfl rfl ?_
          refine z_iadd C dX7_without_222 ?_
          obtain ⟨hi46, hf⟩ := ck_el hf
          refine z_zald C (k := 37) (Nat.le_of_ble_eq_true rfl) rfl hi46 dX7_without_223 ?_
          refine z_if_eq (tgt := 239) C dX7_without_224 (by decide) (fun c51 => ?_) (fun c51 => ?_)
          · replace hf := if_t c51 hf
            obtain ⟨x47, e_x47⟩ : ∃ y : Int32, y = i18 + 1 := ⟨_, rfl⟩
            replace hf := bn_to e_x47 hf
            refine z_iinc C (lv2 := [(0, .ref ((zw K).2.1 0)), (1, .int a1), (2, .int a2), (3, .int x2), (4, .int i16), (5, .int x47)]) 5 [1, 2, 3, 4, 5, 0] dX7_without_239 rfl rfl (Nat.le_of_ble_eq_true rfl) e_x47 rfl ?_
            refine z_goto (tgt := 91) C dX7_without_242 (by decide) ?_
            cases hf
            exact z_sub [0, 1, 2, 3, 4, 5] rfl (ih x47 m45 hz)
          · replace hf := if_f c51 hf
            refine z_aload_n C 0 dX7_without_227 rfl rfl ?_
            refine z_iload C 4 dX7_without_228 rfl ?_
            refine z_puti C (Nat.le_of_ble_eq_true rfl) rfl rfl 53 (Nat.le_of_ble_eq_true rfl) rfl kiX7_without_X7 kfX7_without_318 tyX7 tyX7_ok nmX7 rfl rfl dX7_without_230 ?_
            refine z_nm (fun m48 e_m48 => ?_)
            replace hf := bn_to e_m48 hf
            refine z_aload_n C 0 dX7_without_233 rfl rfl ?_
            refine z_iload C 5 dX7_without_234 rfl ?_
            refine z_puti C (Nat.le_of_ble_eq_true rfl) rfl rfl 54 (Nat.le_of_ble_eq_true rfl) rfl kiX7_without_X7 kfX7_without_321 tyX7 tyX7_ok nmX7 rfl rfl dX7_without_236 ?_
            refine z_nm (fun m49 e_m49 => ?_)
            replace hf := bn_to e_m49 hf
            obtain ⟨x50, e_x50⟩ : ∃ y : Int32, y = i18 + 1 := ⟨_, rfl⟩
            replace hf := bn_to e_x50 hf
            refine z_iinc C (lv2 := [(0, .ref ((zw K).2.1 0)), (1, .int a1), (2, .int a2), (3, .int x2), (4, .int i16), (5, .int x50)]) 5 [1, 2, 3, 4, 5, 0] dX7_without_239 rfl rfl (Nat.le_of_ble_eq_true rfl) e_x50 rfl ?_
            refine z_goto (tgt := 91) C dX7_without_242 (by decide) ?_
            cases hf
            exact z_sub [0, 1, 2, 3, 4, 5] rfl (ih x50 m49 hz)
set_option maxRecDepth 100000 in
set_option maxHeartbeats 4000000 in
theorem w_X7_without_73 {K : ZK} (C : zOK MM K cX7_without 7 none RX7 wsX7_without rmX7_without) {a1 : Int32} {a2 : Int32} {x2 : Int32}  {o0 : Mem} (hk : zGo MM K o0 [(0, .ref ((zw K).2.1 0)), (1, .int a1), (3, .int x2)] 251 []) : ∀ (n : Nat) (i16 : Int32) (m17 : Mem), l_X7_without_73 a1 a2 x2 n i16 m17 = some o0 → zGo MM K m17 [(0, .ref ((zw K).2.1 0)), (1, .int a1), (2, .int a2), (3, .int x2), (4, .int i16)] 73 [] := by
  intro n
  induction n with
  | zero =>
    intro i16 m17 hf
    cases hf
  | succ n ih =>
    intro i16 m17 hf
    obtain ⟨z, hf, hz⟩ := zlp_el hf
    replace hf : t_X7_without_73 a1 a2 x2 i16 m17 = some z := hf
    unfold t_X7_without_73 at hf
    refine z_iload C 4 dX7_without_73 rfl ?_
    refine z_iconst C (v := 3) dX7_without_75 rfl ?_
    refine z_icmp_ge (tgt := 251) C dX7_without_76 (by decide) (fun c58 => ?_) (fun c58 => ?_)
    · replace hf := if_t c58 hf
      cases hf
      replace hz := zlz_r hz
      cases hz
      exact z_sub [0, 1, 3] rfl hk
    · replace hf := if_f c58 hf
      refine z_aload_n C 0 dX7_without_79 rfl rfl ?_
      refine z_geti C (Nat.le_of_ble_eq_true rfl) rfl rfl 53 (Nat.le_of_ble_eq_true rfl) rfl kiX7_without_X7 kfX7_without_318 dX7_without_80 ?_
      refine z_bipush C (v := (-4)) dX7_without_83 (by decide) ?_
      refine z_icmp_ne (tgt := 251) C dX7_without_85 (by decide) (fun c57 => ?_) (fun c57 => ?_)
      · replace hf := if_f c57 hf
        cases hf
        replace hz := zlz_r hz
        cases hz
        exact z_sub [0, 1, 3] rfl hk
      · replace hf := if_t c57 hf
        refine z_iconst C (v := 0) dX7_without_88 rfl ?_
        refine z_istore C (lv2 := [(0, .ref ((zw K).2.1 0)), (1, .int a1), (2, .int a2), (3, .int x2), (4, .int i16), (5, .int 0)]) [1, 2, 3, 4, 5, 0] dX7_without_89 (Nat.le_of_ble_eq_true rfl) rfl ?_
        obtain ⟨m55, hg, hf⟩ := zb_el hf
        refine z_sub [0, 1, 2, 3, 4, 5] rfl (w_X7_without_91 C  ?_ _ _ _ hg)
        clear hg
        obtain ⟨x56, e_x56⟩ : ∃ y : Int32, y = i16 + 1 := ⟨_, rfl⟩
        replace hf := bn_to e_x56 hf
        refine z_iinc C (lv2 := [(0, .ref ((zw K).2.1 0)), (1, .int a1), (2, .int a2), (3, .int x2), (4, .int x56)]) 4 [1, 2, 3, 4, 0] dX7_without_245 rfl rfl (Nat.le_of_ble_eq_true rfl) e_x56 rfl ?_
        refine z_goto (tgt := 73) C dX7_without_248 (by decide) ?_
        cases hf
        exact z_sub [0, 1, 2, 3, 4] rfl (ih x56 m55 hz)
set_option maxRecDepth 100000 in
set_option maxHeartbeats 4000000 in
theorem w_X7_without_261 {K : ZK} (C : zOK MM K cX7_without 7 none RX7 wsX7_without rmX7_without) {a1 : Int32} {x2 : Int32}  {o0 : Mem} (hk : zGo MM K o0 [(0, .ref ((zw K).2.1 0))] 309 []) : ∀ (n : Nat) (i62 : Int32) (m63 : Mem), l_X7_without_261 a1 x2 n i62 m63 = some o0 → zGo MM K m63 [(0, .ref ((zw K).2.1 0)), (1, .int a1), (3, .int x2), (4, .int i62)] 261 [] := by
  intro n
  induction n with
  | zero =>
    intro i62 m63 hf
    cases hf
  | succ n ih =>
    intro i62 m63 hf
    obtain ⟨z, hf, hz⟩ := zlp_el hf
    replace hf : t_X7_without_261 a1 x2 i62 m63 = some z := hf
    unfold t_X7_without_261 at hf
    refine z_iload C 3 dX7_without_261 rfl ?_
    refine z_iload_n C 2 dX7_without_263 rfl rfl ?_
    refine z_icmp_ge (tgt := 309) C dX7_without_264 (by decide) (fun c71 => ?_) (fun c71 => ?_)
    · replace hf := if_t c71 hf
      cases hf
      replace hz := zlz_r hz
      cases hz
      exact z_sub [0] rfl hk
    · replace hf := if_f c71 hf
      refine z_aload_n C 0 dX7_without_267 rfl rfl ?_
      refine z_getr C (t := 4) (Nat.le_of_ble_eq_true rfl) rfl rfl 4 (Nat.le_of_ble_eq_true rfl) rfl kiX7_without_X7 kfX7_without_20 dX7_without_268 ?_
      refine z_iconst C (v := 5) dX7_without_271 rfl ?_
      refine z_iload_n C 1 dX7_without_272 rfl rfl ?_
      refine z_imul C dX7_without_273 ?_
      refine z_iload C 3 dX7_without_274 rfl ?_
      refine z_iadd C dX7_without_276 ?_
      refine z_aload_n C 0 dX7_without_277 rfl rfl ?_
      refine z_getr C (t := 42) (Nat.le_of_ble_eq_true rfl) rfl rfl 55 (Nat.le_of_ble_eq_true rfl) rfl kiX7_without_X7 kfX7_without_134 dX7_without_278 ?_
      refine z_iload C 3 dX7_without_281 rfl ?_
      obtain ⟨hi64, hf⟩ := ck_el hf
      refine z_iald C (k := 42) (Nat.le_of_ble_eq_true rfl) rfl hi64 dX7_without_283 ?_
      obtain ⟨hi65, hf⟩ := ck_el hf
      refine z_iast C (k := 4) (Nat.le_of_ble_eq_true rfl) rfl hi65 dX7_without_284 ?_
      refine z_nm (fun m66 e_m66 => ?_)
      replace hf := bn_to e_m66 hf
      refine z_aload_n C 0 dX7_without_285 rfl rfl ?_
      refine z_getr C (t := 5) (Nat.le_of_ble_eq_true rfl) rfl rfl 5 (Nat.le_of_ble_eq_true rfl) rfl kiX7_without_X7 kfX7_without_23 dX7_without_286 ?_
      refine z_iconst C (v := 5) dX7_without_289 rfl ?_
      refine z_iload_n C 1 dX7_without_290 rfl rfl ?_
      refine z_imul C dX7_without_291 ?_
      refine z_iload C 3 dX7_without_292 rfl ?_
      refine z_iadd C dX7_without_294 ?_
      refine z_aload_n C 0 dX7_without_295 rfl rfl ?_
      refine z_getr C (t := 43) (Nat.le_of_ble_eq_true rfl) rfl rfl 56 (Nat.le_of_ble_eq_true rfl) rfl kiX7_without_X7 kfX7_without_137 dX7_without_296 ?_
      refine z_iload C 3 dX7_without_299 rfl ?_
      obtain ⟨hi67, hf⟩ := ck_el hf
      refine z_iald C (k := 43) (Nat.le_of_ble_eq_true rfl) rfl hi67 dX7_without_301 ?_
      obtain ⟨hi68, hf⟩ := ck_el hf
      refine z_iast C (k := 5) (Nat.le_of_ble_eq_true rfl) rfl hi68 dX7_without_302 ?_
      refine z_nm (fun m69 e_m69 => ?_)
      replace hf := bn_to e_m69 hf
      obtain ⟨x70, e_x70⟩ : ∃ y : Int32, y = i62 + 1 := ⟨_, rfl⟩
      replace hf := bn_to e_x70 hf
      refine z_iinc C (lv2 := [(0, .ref ((zw K).2.1 0)), (1, .int a1), (3, .int x2), (4, .int x70)]) 3 [1, 2, 3, 0] dX7_without_303 rfl rfl (Nat.le_of_ble_eq_true rfl) e_x70 rfl ?_
      refine z_goto (tgt := 261) C dX7_without_306 (by decide) ?_
      cases hf
      exact z_sub [0, 1, 2, 3] rfl (ih x70 m69 hz)
set_option maxRecDepth 100000 in
set_option maxHeartbeats 4000000 in
theorem c_X7_without (l : Launch) (w : ZW) {m : Mem} {a1 : Int32} {a2 : Int32} {m9 : Mem}  (hf : s_X7_without m a1 a2 = some m9) : zCv MM l w yX7_without wsX7_without rmX7_without [.ref (w.2.1 0), .int a1, .int a2] m m9 := by
  refine z_met_v MM_ok (own := RX7) (by decide +kernel) rfl rfl (Nat.le_of_ble_eq_true rfl) ?_
  intro K C hKw hKl hret
  subst hKw
  subst hKl
  unfold s_X7_without at hf
  show zGo MM K m [(0, .ref ((zw K).2.1 0)), (1, .int a1), (2, .int a2)] 0 []
  refine z_aload_n C 0 dX7_without_0 rfl rfl ?_
  refine z_getr C (t := 3) (Nat.le_of_ble_eq_true rfl) rfl rfl 3 (Nat.le_of_ble_eq_true rfl) rfl kiX7_without_X7 kfX7_without_17 dX7_without_1 ?_
  refine z_iload_n C 1 dX7_without_4 rfl rfl ?_
  obtain ⟨hi1, hf⟩ := ck_el hf
  refine z_iald C (k := 3) (Nat.le_of_ble_eq_true rfl) rfl hi1 dX7_without_5 ?_
  refine z_topi (fun x2 e_x2 => ?_)
  replace hf := bn_to e_x2 hf
  refine z_istore_n C (lv2 := [(0, .ref ((zw K).2.1 0)), (1, .int a1), (2, .int a2), (3, .int x2)]) [1, 2, 3, 0] dX7_without_6 rfl (Nat.le_of_ble_eq_true rfl) rfl ?_
  refine z_iconst C (v := 0) dX7_without_7 rfl ?_
  refine z_istore C (lv2 := [(0, .ref ((zw K).2.1 0)), (1, .int a1), (2, .int a2), (3, .int x2), (4, .int 0)]) [1, 2, 3, 4, 0] dX7_without_8 (Nat.le_of_ble_eq_true rfl) rfl ?_
  obtain ⟨m13, hg, hf⟩ := zb_el hf
  refine z_sub [0, 1, 2, 3, 4] rfl (w_X7_without_10 C  ?_ _ _ _ hg)
  clear hg
  refine z_aload_n C 0 dX7_without_58 rfl rfl ?_
  refine z_bipush C (v := (-4)) dX7_without_59 (by decide) ?_
  refine z_puti C (Nat.le_of_ble_eq_true rfl) rfl rfl 53 (Nat.le_of_ble_eq_true rfl) rfl kiX7_without_X7 kfX7_without_318 tyX7 tyX7_ok nmX7 rfl rfl dX7_without_61 ?_
  refine z_nm (fun m14 e_m14 => ?_)
  replace hf := bn_to e_m14 hf
  refine z_aload_n C 0 dX7_without_64 rfl rfl ?_
  refine z_bipush C (v := (-4)) dX7_without_65 (by decide) ?_
  refine z_puti C (Nat.le_of_ble_eq_true rfl) rfl rfl 54 (Nat.le_of_ble_eq_true rfl) rfl kiX7_without_X7 kfX7_without_321 tyX7 tyX7_ok nmX7 rfl rfl dX7_without_67 ?_
  refine z_nm (fun m15 e_m15 => ?_)
  replace hf := bn_to e_m15 hf
  refine z_iconst C (v := 0) dX7_without_70 rfl ?_
  refine z_istore C (lv2 := [(0, .ref ((zw K).2.1 0)), (1, .int a1), (2, .int a2), (3, .int x2), (4, .int 0)]) [1, 2, 3, 4, 0] dX7_without_71 (Nat.le_of_ble_eq_true rfl) rfl ?_
  obtain ⟨m59, hg, hf⟩ := zb_el hf
  refine z_sub [0, 1, 2, 3, 4] rfl (w_X7_without_73 C  ?_ _ _ _ hg)
  clear hg
  refine z_aload_n C 0 dX7_without_251 rfl rfl ?_
  refine z_getr C (t := 3) (Nat.le_of_ble_eq_true rfl) rfl rfl 3 (Nat.le_of_ble_eq_true rfl) rfl kiX7_without_X7 kfX7_without_17 dX7_without_252 ?_
  refine z_iload_n C 1 dX7_without_255 rfl rfl ?_
  refine z_iload_n C 2 dX7_without_256 rfl rfl ?_
  obtain ⟨hi60, hf⟩ := ck_el hf
  refine z_iast C (k := 3) (Nat.le_of_ble_eq_true rfl) rfl hi60 dX7_without_257 ?_
  refine z_nm (fun m61 e_m61 => ?_)
  replace hf := bn_to e_m61 hf
  refine z_iconst C (v := 0) dX7_without_258 rfl ?_
  refine z_istore C (lv2 := [(0, .ref ((zw K).2.1 0)), (1, .int a1), (3, .int x2), (4, .int 0)]) [1, 2, 3, 0] dX7_without_259 (Nat.le_of_ble_eq_true rfl) rfl ?_
  obtain ⟨m72, hg, hf⟩ := zb_el hf
  refine z_sub [0, 1, 2, 3] rfl (w_X7_without_261 C  ?_ _ _ _ hg)
  clear hg
  refine z_aload_n C 0 dX7_without_309 rfl rfl ?_
  refine z_iconst C (v := 0) dX7_without_310 rfl ?_
  refine z_putz C (Nat.le_of_ble_eq_true rfl) rfl rfl 6 (Nat.le_of_ble_eq_true rfl) rfl kiX7_without_X7 kfX7_without_148 tyX7 tyX7_ok nmX7 rfl rfl (Or.inl rfl) dX7_without_311 ?_
  refine z_nm (fun m73 e_m73 => ?_)
  replace hf := bn_to e_m73 hf
  cases hf
  exact hret _ _ dX7_without_314
def rmX7_tooMany : Room := { frames := 7, cells := 0, slots := 0, locals := 179 }
theorem zdX7_tooMany : yX7_tooMany.cls = RX7 ∧ yX7_tooMany.cls ≠ "java/lang/invoke/MethodHandle" ∧ yX7_tooMany.cls ≠ "java/lang/invoke/VarHandle" ∧ (parseMethodDescriptor yX7_tooMany.desc).map (fun d => d.parameters.length) = some 2 := by decide +kernel
theorem kiX7_tooMany_X7 : ∀ w ∈ wsX70, w ∈ wsX7_tooMany := by decide +kernel
theorem kfX7_tooMany_318 : Cond.fieldLink RX7 318 "ShapeJudgeModel" "withoutMany" "I" ∈ wsX7_tooMany := by decide +kernel
def s_X7_tooMany (m : Mem) (a1 : Int32) (a2 : Int32) : Option (Int32 × Mem) :=
  (s_X7_areBoth m a1 a2).bind fun r2 => (if r2 = 0 then (some ((-1), m)) else ((s_X7_without m a1 a2).bind fun m4 => some ((m4 0 53), m4)))
set_option maxRecDepth 100000 in
set_option maxHeartbeats 4000000 in
theorem c_X7_tooMany (l : Launch) (w : ZW) {m : Mem} {a1 : Int32} {a2 : Int32} {r9 : Int32} {m9 : Mem}  (hf : s_X7_tooMany m a1 a2 = some (r9, m9)) : zCi MM l w yX7_tooMany wsX7_tooMany rmX7_tooMany [.ref (w.2.1 0), .int a1, .int a2] m m9 r9 := by
  refine z_met_i MM_ok (own := RX7) (by decide +kernel) rfl rfl (Nat.le_of_ble_eq_true rfl) ?_
  intro K C hKw hKl hret
  subst hKw
  subst hKl
  unfold s_X7_tooMany at hf
  show zGo MM K m [(0, .ref ((zw K).2.1 0)), (1, .int a1), (2, .int a2)] 0 []
  refine z_aload_n C 0 dX7_tooMany_0 rfl rfl ?_
  refine z_iload_n C 1 dX7_tooMany_1 rfl rfl ?_
  refine z_iload_n C 2 dX7_tooMany_2 rfl rfl ?_
  obtain ⟨r2, hc1, hf⟩ := zb_el hf
  refine z_cVi C (c_X7_areBoth _ _ hc1) rfl gX7_tooMany_X7_areBoth rfl rfl zdX7_areBoth rfl (Nat.le_of_ble_eq_true rfl) rfl rfl rfl ⟨Nat.le_of_ble_eq_true rfl, Nat.le_of_ble_eq_true rfl⟩ (Nat.le_of_ble_eq_true rfl) dX7_tooMany_3 rfl ?_
  refine z_if_ne (tgt := 11) C dX7_tooMany_6 (by decide) (fun c5 => ?_) (fun c5 => ?_)
  · replace hf := if_f c5 hf
    refine z_aload_n C 0 dX7_tooMany_11 rfl rfl ?_
    refine z_iload_n C 1 dX7_tooMany_12 rfl rfl ?_
    refine z_iload_n C 2 dX7_tooMany_13 rfl rfl ?_
    obtain ⟨m4, hc3, hf⟩ := zb_el hf
    refine z_cVv C (c_X7_without _ _ hc3) rfl gX7_tooMany_X7_without rfl rfl zdX7_without rfl (Nat.le_of_ble_eq_true rfl) rfl rfl rfl ⟨Nat.le_of_ble_eq_true rfl, Nat.le_of_ble_eq_true rfl⟩ (Nat.le_of_ble_eq_true rfl) dX7_tooMany_14 rfl ?_
    refine z_aload_n C 0 dX7_tooMany_17 rfl rfl ?_
    refine z_geti C (Nat.le_of_ble_eq_true rfl) rfl rfl 53 (Nat.le_of_ble_eq_true rfl) rfl kiX7_tooMany_X7 kfX7_tooMany_318 dX7_tooMany_18 ?_
    cases hf
    exact hret _ _ dX7_tooMany_21
  · replace hf := if_t c5 hf
    refine z_iconst C (v := (-1)) dX7_tooMany_9 (by decide) ?_
    cases hf
    exact hret _ _ dX7_tooMany_10
def rmX7_value : Room := { frames := 2, cells := 0, slots := 0, locals := 46 }
theorem zdX7_value : yX7_value.cls = RX7 ∧ yX7_value.cls ≠ "java/lang/invoke/MethodHandle" ∧ yX7_value.cls ≠ "java/lang/invoke/VarHandle" ∧ (parseMethodDescriptor yX7_value.desc).map (fun d => d.parameters.length) = some 3 := by decide +kernel
theorem kiX7_value_X7 : ∀ w ∈ wsX70, w ∈ wsX7_value := by decide +kernel
theorem kfX7_value_7 : Cond.fieldLink RX7 7 "ShapeJudgeModel" "hasValue" "[Z" ∈ wsX7_value := by decide +kernel
theorem kfX7_value_13 : Cond.fieldLink RX7 13 "ShapeJudgeModel" "values" "[I" ∈ wsX7_value := by decide +kernel
theorem kfX7_value_148 : Cond.fieldLink RX7 148 "ShapeJudgeModel" "isRead" "Z" ∈ wsX7_value := by decide +kernel
def s_X7_value (m : Mem) (a1 : Int32) (a2 : Int32) (a3 : Int32) : Option (Int32 × Mem) :=
  (s_X7_isNode m a1).bind fun r2 => (if r2 = 0 then (some ((-1), m)) else (ck (zin a1 10 = true) (bn (sto m 1 (Int32.toNatClampNeg a1) (vp_nar .boolean a2)) fun m4 => ck (zin a1 10 = true) (bn (sto m4 2 (Int32.toNatClampNeg a1) a3) fun m6 => bn (sto m6 0 6 0) fun m7 => some (1, m7)))))
set_option maxRecDepth 100000 in
set_option maxHeartbeats 4000000 in
theorem c_X7_value (l : Launch) (w : ZW) {m : Mem} {a1 : Int32} {a2 : Int32} {a3 : Int32} {r9 : Int32} {m9 : Mem}  (hf : s_X7_value m a1 a2 a3 = some (r9, m9)) : zCi MM l w yX7_value wsX7_value rmX7_value [.ref (w.2.1 0), .int a1, .int a2, .int a3] m m9 r9 := by
  refine z_met_i MM_ok (own := RX7) (by decide +kernel) rfl rfl (Nat.le_of_ble_eq_true rfl) ?_
  intro K C hKw hKl hret
  subst hKw
  subst hKl
  unfold s_X7_value at hf
  show zGo MM K m [(0, .ref ((zw K).2.1 0)), (1, .int a1), (2, .int a2), (3, .int a3)] 0 []
  refine z_aload_n C 0 dX7_value_0 rfl rfl ?_
  refine z_iload_n C 1 dX7_value_1 rfl rfl ?_
  obtain ⟨r2, hc1, hf⟩ := zb_el hf
  refine z_cVi C (c_X7_isNode _ _ hc1) rfl gX7_value_X7_isNode rfl rfl zdX7_isNode rfl (Nat.le_of_ble_eq_true rfl) rfl rfl rfl ⟨Nat.le_of_ble_eq_true rfl, Nat.le_of_ble_eq_true rfl⟩ (Nat.le_of_ble_eq_true rfl) dX7_value_2 rfl ?_
  refine z_if_ne (tgt := 10) C dX7_value_5 (by decide) (fun c8 => ?_) (fun c8 => ?_)
  · replace hf := if_f c8 hf
    refine z_aload_n C 0 dX7_value_10 rfl rfl ?_
    refine z_getr C (t := 1) (Nat.le_of_ble_eq_true rfl) rfl rfl 1 (Nat.le_of_ble_eq_true rfl) rfl kiX7_value_X7 kfX7_value_7 dX7_value_11 ?_
    refine z_iload_n C 1 dX7_value_14 rfl rfl ?_
    refine z_iload_n C 2 dX7_value_15 rfl rfl ?_
    obtain ⟨hi3, hf⟩ := ck_el hf
    refine z_zast C (k := 1) (Nat.le_of_ble_eq_true rfl) rfl hi3 dX7_value_16 ?_
    refine z_nm (fun m4 e_m4 => ?_)
    replace hf := bn_to e_m4 hf
    refine z_aload_n C 0 dX7_value_17 rfl rfl ?_
    refine z_getr C (t := 2) (Nat.le_of_ble_eq_true rfl) rfl rfl 2 (Nat.le_of_ble_eq_true rfl) rfl kiX7_value_X7 kfX7_value_13 dX7_value_18 ?_
    refine z_iload_n C 1 dX7_value_21 rfl rfl ?_
    refine z_iload_n C 3 dX7_value_22 rfl rfl ?_
    obtain ⟨hi5, hf⟩ := ck_el hf
    refine z_iast C (k := 2) (Nat.le_of_ble_eq_true rfl) rfl hi5 dX7_value_23 ?_
    refine z_nm (fun m6 e_m6 => ?_)
    replace hf := bn_to e_m6 hf
    refine z_aload_n C 0 dX7_value_24 rfl rfl ?_
    refine z_iconst C (v := 0) dX7_value_25 rfl ?_
    refine z_putz C (Nat.le_of_ble_eq_true rfl) rfl rfl 6 (Nat.le_of_ble_eq_true rfl) rfl kiX7_value_X7 kfX7_value_148 tyX7 tyX7_ok nmX7 rfl rfl (Or.inl rfl) dX7_value_26 ?_
    refine z_nm (fun m7 e_m7 => ?_)
    replace hf := bn_to e_m7 hf
    refine z_iconst C (v := 1) dX7_value_29 rfl ?_
    cases hf
    exact hret _ _ dX7_value_30
  · replace hf := if_t c8 hf
    refine z_iconst C (v := (-1)) dX7_value_8 (by decide) ?_
    cases hf
    exact hret _ _ dX7_value_9
def rmX7_wanted : Room := { frames := 3, cells := 0, slots := 0, locals := 68 }
theorem zdX7_wanted : yX7_wanted.cls = RX7 ∧ yX7_wanted.cls ≠ "java/lang/invoke/MethodHandle" ∧ yX7_wanted.cls ≠ "java/lang/invoke/VarHandle" ∧ (parseMethodDescriptor yX7_wanted.desc).map (fun d => d.parameters.length) = some 2 := by decide +kernel
theorem kiX7_wanted_X7 : ∀ w ∈ wsX70, w ∈ wsX7_wanted := by decide +kernel
theorem kfX7_wanted_17 : Cond.fieldLink RX7 17 "ShapeJudgeModel" "many" "[I" ∈ wsX7_wanted := by decide +kernel
theorem kfX7_wanted_20 : Cond.fieldLink RX7 20 "ShapeJudgeModel" "names" "[I" ∈ wsX7_wanted := by decide +kernel
def t_X7_wanted_16 (m : Mem) (a1 : Int32) (a2 : Int32) (i3 : Int32) (i4 : Int32) : Option ((Int32 × Int32) ⊕ (Int32)) :=
  ck (zin a1 10 = true) ((if (m 3 (Int32.toNatClampNeg a1)) ≤ i4 then (some (.inr i3)) else (ck (zin (((5 : Int32) * a1) + i4) 50 = true) ((s_X7_isWanted m a2 (m 4 (Int32.toNatClampNeg (((5 : Int32) * a1) + i4)))).bind fun r8 => (if r8 = 0 then (bn (i3 + 0) fun x9 => bn (i4 + 1) fun x10 => some (.inl (x9, x10))) else (bn (i3 + 1) fun x11 => bn (i4 + 1) fun x12 => some (.inl (x11, x12))))))))
def l_X7_wanted_16 (m : Mem) (a1 : Int32) (a2 : Int32) (n : Nat) (i3 : Int32) (i4 : Int32) : Option (Int32) := zlp n (fun a => t_X7_wanted_16 m a1 a2 a.1 a.2) (i3, i4)
def s_X7_wanted (m : Mem) (a1 : Int32) (a2 : Int32) : Option (Int32) :=
  (s_X7_areBoth m a1 a2).bind fun r2 => (if r2 = 0 then (some (-1)) else (((l_X7_wanted_16 m a1 a2 FU 0 0).bind fun y15 => some y15)))
set_option maxRecDepth 100000 in
set_option maxHeartbeats 4000000 in
theorem w_X7_wanted_16 {K : ZK} (C : zOK MM K cX7_wanted 5 (some .int) RX7 wsX7_wanted rmX7_wanted) {m : Mem} {a1 : Int32} {a2 : Int32}  {o0 : Int32} (hk : zGo MM K m [(3, .int o0)] 60 []) : ∀ (n : Nat) (i3 : Int32) (i4 : Int32), l_X7_wanted_16 m a1 a2 n i3 i4 = some o0 → zGo MM K m [(0, .ref ((zw K).2.1 0)), (1, .int a1), (2, .int a2), (3, .int i3), (4, .int i4)] 16 [] := by
  intro n
  induction n with
  | zero =>
    intro i3 i4 hf
    cases hf
  | succ n ih =>
    intro i3 i4 hf
    obtain ⟨z, hf, hz⟩ := zlp_el hf
    replace hf : t_X7_wanted_16 m a1 a2 i3 i4 = some z := hf
    unfold t_X7_wanted_16 at hf
    refine z_iload C 4 dX7_wanted_16 rfl ?_
    refine z_aload_n C 0 dX7_wanted_18 rfl rfl ?_
    refine z_getr C (t := 3) (Nat.le_of_ble_eq_true rfl) rfl rfl 3 (Nat.le_of_ble_eq_true rfl) rfl kiX7_wanted_X7 kfX7_wanted_17 dX7_wanted_19 ?_
    refine z_iload_n C 1 dX7_wanted_22 rfl rfl ?_
    obtain ⟨hi5, hf⟩ := ck_el hf
    refine z_iald C (k := 3) (Nat.le_of_ble_eq_true rfl) rfl hi5 dX7_wanted_23 ?_
    refine z_icmp_ge (tgt := 60) C dX7_wanted_24 (by decide) (fun c14 => ?_) (fun c14 => ?_)
    · replace hf := if_t c14 hf
      cases hf
      replace hz := zlz_r hz
      cases hz
      exact z_sub [3] rfl hk
    · replace hf := if_f c14 hf
      refine z_iload_n C 3 dX7_wanted_27 rfl rfl ?_
      refine z_aload_n C 0 dX7_wanted_28 rfl rfl ?_
      refine z_iload_n C 2 dX7_wanted_29 rfl rfl ?_
      refine z_aload_n C 0 dX7_wanted_30 rfl rfl ?_
      refine z_getr C (t := 4) (Nat.le_of_ble_eq_true rfl) rfl rfl 4 (Nat.le_of_ble_eq_true rfl) rfl kiX7_wanted_X7 kfX7_wanted_20 dX7_wanted_31 ?_
      refine z_iconst C (v := 5) dX7_wanted_34 rfl ?_
      refine z_iload_n C 1 dX7_wanted_35 rfl rfl ?_
      refine z_imul C dX7_wanted_36 ?_
      refine z_iload C 4 dX7_wanted_37 rfl ?_
      refine z_iadd C dX7_wanted_39 ?_
      obtain ⟨hi6, hf⟩ := ck_el hf
      refine z_iald C (k := 4) (Nat.le_of_ble_eq_true rfl) rfl hi6 dX7_wanted_40 ?_
      obtain ⟨r8, hc7, hf⟩ := zb_el hf
      refine z_cVi C (c_X7_isWanted _ _ hc7) rfl gX7_wanted_X7_isWanted rfl rfl zdX7_isWanted rfl (Nat.le_of_ble_eq_true rfl) rfl rfl rfl ⟨Nat.le_of_ble_eq_true rfl, Nat.le_of_ble_eq_true rfl⟩ (Nat.le_of_ble_eq_true rfl) dX7_wanted_41 rfl ?_
      refine z_if_eq (tgt := 51) C dX7_wanted_44 (by decide) (fun c13 => ?_) (fun c13 => ?_)
      · replace hf := if_t c13 hf
        refine z_iconst C (v := 0) dX7_wanted_51 rfl ?_
        refine z_iadd C dX7_wanted_52 ?_
        refine z_topi (fun x9 e_x9 => ?_)
        replace hf := bn_to e_x9 hf
        refine z_istore_n C (lv2 := [(0, .ref ((zw K).2.1 0)), (1, .int a1), (2, .int a2), (3, .int x9), (4, .int i4)]) [1, 2, 3, 0, 4] dX7_wanted_53 rfl (Nat.le_of_ble_eq_true rfl) rfl ?_
        obtain ⟨x10, e_x10⟩ : ∃ y : Int32, y = i4 + 1 := ⟨_, rfl⟩
        replace hf := bn_to e_x10 hf
        refine z_iinc C (lv2 := [(0, .ref ((zw K).2.1 0)), (1, .int a1), (2, .int a2), (3, .int x9), (4, .int x10)]) 4 [1, 2, 3, 4, 0] dX7_wanted_54 rfl rfl (Nat.le_of_ble_eq_true rfl) e_x10 rfl ?_
        refine z_goto (tgt := 16) C dX7_wanted_57 (by decide) ?_
        cases hf
        exact z_sub [0, 1, 2, 3, 4] rfl (ih x9 x10 hz)
      · replace hf := if_f c13 hf
        refine z_iconst C (v := 1) dX7_wanted_47 rfl ?_
        refine z_goto (tgt := 52) C dX7_wanted_48 (by decide) ?_
        refine z_iadd C dX7_wanted_52 ?_
        refine z_topi (fun x11 e_x11 => ?_)
        replace hf := bn_to e_x11 hf
        refine z_istore_n C (lv2 := [(0, .ref ((zw K).2.1 0)), (1, .int a1), (2, .int a2), (3, .int x11), (4, .int i4)]) [1, 2, 3, 0, 4] dX7_wanted_53 rfl (Nat.le_of_ble_eq_true rfl) rfl ?_
        obtain ⟨x12, e_x12⟩ : ∃ y : Int32, y = i4 + 1 := ⟨_, rfl⟩
        replace hf := bn_to e_x12 hf
        refine z_iinc C (lv2 := [(0, .ref ((zw K).2.1 0)), (1, .int a1), (2, .int a2), (3, .int x11), (4, .int x12)]) 4 [1, 2, 3, 4, 0] dX7_wanted_54 rfl rfl (Nat.le_of_ble_eq_true rfl) e_x12 rfl ?_
        refine z_goto (tgt := 16) C dX7_wanted_57 (by decide) ?_
        cases hf
        exact z_sub [0, 1, 2, 3, 4] rfl (ih x11 x12 hz)
set_option maxRecDepth 100000 in
set_option maxHeartbeats 4000000 in
theorem c_X7_wanted (l : Launch) (w : ZW) {m : Mem} {a1 : Int32} {a2 : Int32} {r9 : Int32}  (hf : s_X7_wanted m a1 a2 = some r9) : zCi MM l w yX7_wanted wsX7_wanted rmX7_wanted [.ref (w.2.1 0), .int a1, .int a2] m m r9 := by
  refine z_met_i MM_ok (own := RX7) (by decide +kernel) rfl rfl (Nat.le_of_ble_eq_true rfl) ?_
  intro K C hKw hKl hret
  subst hKw
  subst hKl
  unfold s_X7_wanted at hf
  show zGo MM K m [(0, .ref ((zw K).2.1 0)), (1, .int a1), (2, .int a2)] 0 []
  refine z_aload_n C 0 dX7_wanted_0 rfl rfl ?_
  refine z_iload_n C 1 dX7_wanted_1 rfl rfl ?_
  refine z_iload_n C 2 dX7_wanted_2 rfl rfl ?_
  obtain ⟨r2, hc1, hf⟩ := zb_el hf
  refine z_cVi C (c_X7_areBoth _ _ hc1) rfl gX7_wanted_X7_areBoth rfl rfl zdX7_areBoth rfl (Nat.le_of_ble_eq_true rfl) rfl rfl rfl ⟨Nat.le_of_ble_eq_true rfl, Nat.le_of_ble_eq_true rfl⟩ (Nat.le_of_ble_eq_true rfl) dX7_wanted_3 rfl ?_
  refine z_if_ne (tgt := 11) C dX7_wanted_6 (by decide) (fun c16 => ?_) (fun c16 => ?_)
  · replace hf := if_f c16 hf
    refine z_iconst C (v := 0) dX7_wanted_11 rfl ?_
    refine z_istore_n C (lv2 := [(0, .ref ((zw K).2.1 0)), (1, .int a1), (2, .int a2), (3, .int 0)]) [1, 2, 3, 0] dX7_wanted_12 rfl (Nat.le_of_ble_eq_true rfl) rfl ?_
    refine z_iconst C (v := 0) dX7_wanted_13 rfl ?_
    refine z_istore C (lv2 := [(0, .ref ((zw K).2.1 0)), (1, .int a1), (2, .int a2), (3, .int 0), (4, .int 0)]) [1, 2, 3, 4, 0] dX7_wanted_14 (Nat.le_of_ble_eq_true rfl) rfl ?_
    obtain ⟨y15, hg, hf⟩ := zb_el hf
    refine z_sub [0, 1, 2, 3, 4] rfl (w_X7_wanted_16 C  ?_ _ _ _ hg)
    clear hg
    refine z_iload_n C 0 dX7_wanted_60 rfl rfl ?_
    cases hf
    exact hret _ _ dX7_wanted_61
  · replace hf := if_t c16 hf
    refine z_iconst C (v := (-1)) dX7_wanted_9 (by decide) ?_
    cases hf
    exact hret _ _ dX7_wanted_10
def rmX7_which : Room := { frames := 7, cells := 0, slots := 0, locals := 179 }
theorem zdX7_which : yX7_which.cls = RX7 ∧ yX7_which.cls ≠ "java/lang/invoke/MethodHandle" ∧ yX7_which.cls ≠ "java/lang/invoke/VarHandle" ∧ (parseMethodDescriptor yX7_which.desc).map (fun d => d.parameters.length) = some 2 := by decide +kernel
theorem kiX7_which_X7 : ∀ w ∈ wsX70, w ∈ wsX7_which := by decide +kernel
theorem kfX7_which_321 : Cond.fieldLink RX7 321 "ShapeJudgeModel" "withoutSet" "I" ∈ wsX7_which := by decide +kernel
def s_X7_which (m : Mem) (a1 : Int32) (a2 : Int32) : Option (Int32 × Mem) :=
  (s_X7_areBoth m a1 a2).bind fun r2 => (if r2 = 0 then (some ((-1), m)) else ((s_X7_without m a1 a2).bind fun m4 => some ((m4 0 54), m4)))
set_option maxRecDepth 100000 in
set_option maxHeartbeats 4000000 in
theorem c_X7_which (l : Launch) (w : ZW) {m : Mem} {a1 : Int32} {a2 : Int32} {r9 : Int32} {m9 : Mem}  (hf : s_X7_which m a1 a2 = some (r9, m9)) : zCi MM l w yX7_which wsX7_which rmX7_which [.ref (w.2.1 0), .int a1, .int a2] m m9 r9 := by
  refine z_met_i MM_ok (own := RX7) (by decide +kernel) rfl rfl (Nat.le_of_ble_eq_true rfl) ?_
  intro K C hKw hKl hret
  subst hKw
  subst hKl
  unfold s_X7_which at hf
  show zGo MM K m [(0, .ref ((zw K).2.1 0)), (1, .int a1), (2, .int a2)] 0 []
  refine z_aload_n C 0 dX7_which_0 rfl rfl ?_
  refine z_iload_n C 1 dX7_which_1 rfl rfl ?_
  refine z_iload_n C 2 dX7_which_2 rfl rfl ?_
  obtain ⟨r2, hc1, hf⟩ := zb_el hf
  refine z_cVi C (c_X7_areBoth _ _ hc1) rfl gX7_which_X7_areBoth rfl rfl zdX7_areBoth rfl (Nat.le_of_ble_eq_true rfl) rfl rfl rfl ⟨Nat.le_of_ble_eq_true rfl, Nat.le_of_ble_eq_true rfl⟩ (Nat.le_of_ble_eq_true rfl) dX7_which_3 rfl ?_
  refine z_if_ne (tgt := 11) C dX7_which_6 (by decide) (fun c5 => ?_) (fun c5 => ?_)
  · replace hf := if_f c5 hf
    refine z_aload_n C 0 dX7_which_11 rfl rfl ?_
    refine z_iload_n C 1 dX7_which_12 rfl rfl ?_
    refine z_iload_n C 2 dX7_which_13 rfl rfl ?_
    obtain ⟨m4, hc3, hf⟩ := zb_el hf
    refine z_cVv C (c_X7_without _ _ hc3) rfl gX7_which_X7_without rfl rfl zdX7_without rfl (Nat.le_of_ble_eq_true rfl) rfl rfl rfl ⟨Nat.le_of_ble_eq_true rfl, Nat.le_of_ble_eq_true rfl⟩ (Nat.le_of_ble_eq_true rfl) dX7_which_14 rfl ?_
    refine z_aload_n C 0 dX7_which_17 rfl rfl ?_
    refine z_geti C (Nat.le_of_ble_eq_true rfl) rfl rfl 54 (Nat.le_of_ble_eq_true rfl) rfl kiX7_which_X7 kfX7_which_321 dX7_which_18 ?_
    cases hf
    exact hret _ _ dX7_which_21
  · replace hf := if_t c5 hf
    refine z_iconst C (v := (-1)) dX7_which_9 (by decide) ?_
    cases hf
    exact hret _ _ dX7_which_10
