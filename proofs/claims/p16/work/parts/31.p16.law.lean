def t_law (xs : Nat → Int32) (L : Nat) (i : Int32) (mx mm : Mem) : Option ((Int32 × Mem × Mem) ⊕ Int32) :=
  (if ((nI L) - 6) < i then (some (.inr 1)) else (ck (zin i L = true) ((if ((xs (Int32.toNatClampNeg i)) &&& 31) = 0 then (ck (zin (i + 1) L = true) ((((if (xs (Int32.toNatClampNeg (i + 1))) = 0 then (some 0) else (some 1)) : Option (Int32)).bind fun y4 => ck (zin (i + 2) L = true) (zb2 (s_X6_node mx y4 (xs (Int32.toNatClampNeg (i + 2)))) fun r7 m8 => ck (zin (i + 1) L = true) ((if (xs (Int32.toNatClampNeg (i + 1))) = 0 then (ck (zin (i + 2) L = true) (zb2 (s_X7_node mm 0 (xs (Int32.toNatClampNeg (i + 2)))) fun r12 m13 => bn (i + 6) fun x14 => some (.inl (x14, m8, m13)))) else (ck (zin (i + 2) L = true) (zb2 (s_X7_node mm 1 (xs (Int32.toNatClampNeg (i + 2)))) fun r17 m18 => bn (i + 6) fun x19 => some (.inl (x19, m8, m18)))))))))) else ((if ((xs (Int32.toNatClampNeg i)) &&& 31) = 1 then (ck (zin (i + 1) L = true) (ck (zin (i + 2) L = true) ((((if (xs (Int32.toNatClampNeg (i + 2))) = 0 then (some 0) else (some 1)) : Option (Int32)).bind fun y25 => ck (zin (i + 3) L = true) (zb2 (s_X6_value mx (xs (Int32.toNatClampNeg (i + 1))) y25 (xs (Int32.toNatClampNeg (i + 3)))) fun r28 m29 => ck (zin (i + 1) L = true) (ck (zin (i + 2) L = true) ((if (xs (Int32.toNatClampNeg (i + 2))) = 0 then (ck (zin (i + 3) L = true) (zb2 (s_X7_value mm (xs (Int32.toNatClampNeg (i + 1))) 0 (xs (Int32.toNatClampNeg (i + 3)))) fun r34 m35 => bn (i + 6) fun x36 => some (.inl (x36, m29, m35)))) else (ck (zin (i + 3) L = true) (zb2 (s_X7_value mm (xs (Int32.toNatClampNeg (i + 1))) 1 (xs (Int32.toNatClampNeg (i + 3)))) fun r39 m40 => bn (i + 6) fun x41 => some (.inl (x41, m29, m40)))))))))))) else ((if ((xs (Int32.toNatClampNeg i)) &&& 31) = 2 then (ck (zin (i + 1) L = true) (ck (zin (i + 2) L = true) (ck (zin (i + 3) L = true) (zb2 (s_X6_edge mx (xs (Int32.toNatClampNeg (i + 1))) (xs (Int32.toNatClampNeg (i + 2))) (xs (Int32.toNatClampNeg (i + 3)))) fun r49 m50 => ck (zin (i + 1) L = true) (ck (zin (i + 2) L = true) (ck (zin (i + 3) L = true) (zb2 (s_X7_edge mm (xs (Int32.toNatClampNeg (i + 1))) (xs (Int32.toNatClampNeg (i + 2))) (xs (Int32.toNatClampNeg (i + 3)))) fun r55 m56 => bn (i + 6) fun x57 => some (.inl (x57, m50, m56))))))))) else ((if ((xs (Int32.toNatClampNeg i)) &&& 31) = 3 then (ck (zin (i + 1) L = true) (ck (zin (i + 2) L = true) (ck (zin (i + 3) L = true) (zb2 (s_X6_cut mx (xs (Int32.toNatClampNeg (i + 1))) (xs (Int32.toNatClampNeg (i + 2))) (xs (Int32.toNatClampNeg (i + 3)))) fun r63 m64 => ck (zin (i + 1) L = true) (ck (zin (i + 2) L = true) (ck (zin (i + 3) L = true) (zb2 (s_X7_cut mm (xs (Int32.toNatClampNeg (i + 1))) (xs (Int32.toNatClampNeg (i + 2))) (xs (Int32.toNatClampNeg (i + 3)))) fun r69 m70 => bn (i + 6) fun x71 => some (.inl (x71, m64, m70))))))))) else ((if ((xs (Int32.toNatClampNeg i)) &&& 31) = 4 then (ck (zin (i + 1) L = true) (ck (zin (i + 2) L = true) (ck (zin (i + 3) L = true) (ck (zin (i + 4) L = true) (ck (zin (i + 5) L = true) (zb2 (s_X6_feed mx (xs (Int32.toNatClampNeg (i + 1))) (xs (Int32.toNatClampNeg (i + 2))) (xs (Int32.toNatClampNeg (i + 3))) (xs (Int32.toNatClampNeg (i + 4))) (xs (Int32.toNatClampNeg (i + 5)))) fun r79 m80 => ck (zin (i + 1) L = true) (ck (zin (i + 2) L = true) (ck (zin (i + 3) L = true) (ck (zin (i + 4) L = true) (ck (zin (i + 5) L = true) (zb2 (s_X7_feed mm (xs (Int32.toNatClampNeg (i + 1))) (xs (Int32.toNatClampNeg (i + 2))) (xs (Int32.toNatClampNeg (i + 3))) (xs (Int32.toNatClampNeg (i + 4))) (xs (Int32.toNatClampNeg (i + 5)))) fun r87 m88 => bn (i + 6) fun x89 => some (.inl (x89, m80, m88))))))))))))) else ((if ((xs (Int32.toNatClampNeg i)) &&& 31) = 5 then (ck (zin (i + 1) L = true) (zb2 (s_X6_end mx (xs (Int32.toNatClampNeg (i + 1)))) fun r93 m94 => ck (zin (i + 1) L = true) (zb2 (s_X7_end mm (xs (Int32.toNatClampNeg (i + 1)))) fun r97 m98 => bn (i + 6) fun x99 => some (.inl (x99, m94, m98))))) else ((if ((xs (Int32.toNatClampNeg i)) &&& 31) = 6 then (zb2 (s_X6_shapes mx) fun r102 m103 => zb2 (s_X7_shapes mm) fun r105 m106 => bn (i + 6) fun x107 => some (.inl (x107, m103, m106))) else ((if ((xs (Int32.toNatClampNeg i)) &&& 31) = 7 then ((s_X6_fault mx).bind fun r110 => (s_X7_fault mm).bind fun r112 => bn (i + 6) fun x113 => some (.inl (x113, mx, mm))) else ((if ((xs (Int32.toNatClampNeg i)) &&& 31) = 8 then (ck (zin (i + 1) L = true) (ck (zin (i + 2) L = true) (zb2 (s_X6_fits mx (xs (Int32.toNatClampNeg (i + 1))) (xs (Int32.toNatClampNeg (i + 2)))) fun r118 m119 => ck (zin (i + 1) L = true) (ck (zin (i + 2) L = true) (zb2 (s_X7_fits mm (xs (Int32.toNatClampNeg (i + 1))) (xs (Int32.toNatClampNeg (i + 2)))) fun r123 m124 => bn (i + 6) fun x125 => some (.inl (x125, m119, m124))))))) else ((if ((xs (Int32.toNatClampNeg i)) &&& 31) = 9 then (ck (zin (i + 1) L = true) (ck (zin (i + 2) L = true) (zb2 (s_X6_surely mx (xs (Int32.toNatClampNeg (i + 1))) (xs (Int32.toNatClampNeg (i + 2)))) fun r130 m131 => ck (zin (i + 1) L = true) (ck (zin (i + 2) L = true) (zb2 (s_X7_surely mm (xs (Int32.toNatClampNeg (i + 1))) (xs (Int32.toNatClampNeg (i + 2)))) fun r135 m136 => bn (i + 6) fun x137 => some (.inl (x137, m131, m136))))))) else ((if ((xs (Int32.toNatClampNeg i)) &&& 31) = 10 then (ck (zin (i + 1) L = true) (zb2 (s_X6_all mx (xs (Int32.toNatClampNeg (i + 1)))) fun r141 m142 => ck (zin (i + 1) L = true) (zb2 (s_X7_all mm (xs (Int32.toNatClampNeg (i + 1)))) fun r145 m146 => bn (i + 6) fun x147 => some (.inl (x147, m142, m146))))) else ((if ((xs (Int32.toNatClampNeg i)) &&& 31) = 11 then (ck (zin (i + 1) L = true) (ck (zin (i + 2) L = true) ((s_X6_wanted mx (xs (Int32.toNatClampNeg (i + 1))) (xs (Int32.toNatClampNeg (i + 2)))).bind fun r152 => ck (zin (i + 1) L = true) (ck (zin (i + 2) L = true) ((s_X7_wanted mm (xs (Int32.toNatClampNeg (i + 1))) (xs (Int32.toNatClampNeg (i + 2)))).bind fun r156 => bn (i + 6) fun x157 => some (.inl (x157, mx, mm))))))) else ((if ((xs (Int32.toNatClampNeg i)) &&& 31) = 12 then (ck (zin (i + 1) L = true) (ck (zin (i + 2) L = true) (ck (zin (i + 3) L = true) (zb2 (s_X6_dealt mx (xs (Int32.toNatClampNeg (i + 1))) (xs (Int32.toNatClampNeg (i + 2))) (xs (Int32.toNatClampNeg (i + 3)))) fun r163 m164 => ck (zin (i + 1) L = true) (ck (zin (i + 2) L = true) (ck (zin (i + 3) L = true) (zb2 (s_X7_dealt mm (xs (Int32.toNatClampNeg (i + 1))) (xs (Int32.toNatClampNeg (i + 2))) (xs (Int32.toNatClampNeg (i + 3)))) fun r169 m170 => bn (i + 6) fun x171 => some (.inl (x171, m164, m170))))))))) else ((if ((xs (Int32.toNatClampNeg i)) &&& 31) = 13 then (ck (zin (i + 1) L = true) (ck (zin (i + 2) L = true) (zb2 (s_X6_tooMany mx (xs (Int32.toNatClampNeg (i + 1))) (xs (Int32.toNatClampNeg (i + 2)))) fun r176 m177 => ck (zin (i + 1) L = true) (ck (zin (i + 2) L = true) (zb2 (s_X7_tooMany mm (xs (Int32.toNatClampNeg (i + 1))) (xs (Int32.toNatClampNeg (i + 2)))) fun r181 m182 => bn (i + 6) fun x183 => some (.inl (x183, m177, m182))))))) else ((if ((xs (Int32.toNatClampNeg i)) &&& 31) = 14 then (ck (zin (i + 1) L = true) (ck (zin (i + 2) L = true) (zb2 (s_X6_which mx (xs (Int32.toNatClampNeg (i + 1))) (xs (Int32.toNatClampNeg (i + 2)))) fun r188 m189 => ck (zin (i + 1) L = true) (ck (zin (i + 2) L = true) (zb2 (s_X7_which mm (xs (Int32.toNatClampNeg (i + 1))) (xs (Int32.toNatClampNeg (i + 2)))) fun r193 m194 => (if r188 = r193 then (bn (i + 6) fun x195 => some (.inl (x195, m189, m194))) else (some (.inr 0)))))))) else ((if ((xs (Int32.toNatClampNeg i)) &&& 31) = 15 then (ck (zin (i + 1) L = true) (ck (zin (i + 2) L = true) ((s_X6_depends mx (xs (Int32.toNatClampNeg (i + 1))) (xs (Int32.toNatClampNeg (i + 2)))).bind fun r201 => ck (zin (i + 1) L = true) (ck (zin (i + 2) L = true) (zb2 (s_X7_depends mm (xs (Int32.toNatClampNeg (i + 1))) (xs (Int32.toNatClampNeg (i + 2)))) fun r205 m206 => bn (i + 6) fun x207 => some (.inl (x207, mx, m206))))))) else ((if ((xs (Int32.toNatClampNeg i)) &&& 31) = 16 then (ck (zin (i + 1) L = true) (ck (zin (i + 2) L = true) (ck (zin (i + 3) L = true) ((s_X6_part mx (xs (Int32.toNatClampNeg (i + 1))) (xs (Int32.toNatClampNeg (i + 2))) (xs (Int32.toNatClampNeg (i + 3)))).bind fun r213 => ck (zin (i + 1) L = true) (ck (zin (i + 2) L = true) (ck (zin (i + 3) L = true) ((s_X7_part mm (xs (Int32.toNatClampNeg (i + 1))) (xs (Int32.toNatClampNeg (i + 2))) (xs (Int32.toNatClampNeg (i + 3)))).bind fun r218 => bn (i + 6) fun x219 => some (.inl (x219, mx, mm))))))))) else ((if ((xs (Int32.toNatClampNeg i)) &&& 31) = 17 then (ck (zin (i + 1) L = true) (ck (zin (i + 2) L = true) ((s_X6_told mx (xs (Int32.toNatClampNeg (i + 1))) (xs (Int32.toNatClampNeg (i + 2)))).bind fun r224 => ck (zin (i + 1) L = true) (ck (zin (i + 2) L = true) ((s_X7_told mm (xs (Int32.toNatClampNeg (i + 1))) (xs (Int32.toNatClampNeg (i + 2)))).bind fun r228 => bn (i + 6) fun x229 => some (.inl (x229, mx, mm))))))) else ((if ((xs (Int32.toNatClampNeg i)) &&& 31) = 18 then (ck (zin (i + 1) L = true) (ck (zin (i + 2) L = true) (ck (zin (i + 3) L = true) ((s_X6_from mx (xs (Int32.toNatClampNeg (i + 1))) (xs (Int32.toNatClampNeg (i + 2))) (xs (Int32.toNatClampNeg (i + 3)))).bind fun r235 => ck (zin (i + 1) L = true) (ck (zin (i + 2) L = true) (ck (zin (i + 3) L = true) ((s_X7_from mm (xs (Int32.toNatClampNeg (i + 1))) (xs (Int32.toNatClampNeg (i + 2))) (xs (Int32.toNatClampNeg (i + 3)))).bind fun r240 => bn (i + 6) fun x241 => some (.inl (x241, mx, mm))))))))) else ((if ((xs (Int32.toNatClampNeg i)) &&& 31) = 19 then (zb2 (s_X6_reset mx) fun r244 m245 => zb2 (s_X7_reset mm) fun r247 m248 => bn (i + 6) fun x249 => some (.inl (x249, m245, m248))) else ((if ((xs (Int32.toNatClampNeg i)) &&& 31) = 20 then (ck (zin (i + 1) L = true) (zb2 (s_X6_count mx (xs (Int32.toNatClampNeg (i + 1)))) fun r253 m254 => ck (zin (i + 1) L = true) (zb2 (s_X7_count mm (xs (Int32.toNatClampNeg (i + 1)))) fun r257 m258 => bn (i + 6) fun x259 => some (.inl (x259, m254, m258))))) else (bn (i + 6) fun x260 => some (.inl (x260, mx, mm)))))))))))))))))))))))))))))))))))))))))))))))
def l_law (xs : Nat → Int32) (L n : Nat) (i : Int32) (mx mm : Mem) : Option Int32 := zlp n (fun a => t_law xs L a.1 a.2.1 a.2.2) (i, mx, mm)
set_option maxRecDepth 100000 in
set_option maxHeartbeats 8000000 in
theorem w_law {K : ZK} (C : zOK ML K cL_law 4 ret RL lw_tbl room_1) {b L : Nat} {xs : Nat → Int32} (hX : va_X b L xs K.1.2.2.2.2 K.1.2.2.2.2.heap) (hbl : b < K.1.2.2.2.2.heap.size) (hbA : ¬ (zw K).2.2.2 b) (hS0 : ∀ q, (zw K).2.2.2 q → K.1.2.2.2.2.heap.size ≤ q) (hret : ∀ (σ : Mem) (lv : List (Nat × Value)) (pc : Nat), decode cL_law pc = .ok (.ireturn, 1) → zGo ML K σ lv pc [.int 1]) : ∀ (n : Nat) (i : Int32) (mx mm : Mem), l_law xs L n i mx mm = some 1 → zGo ML K (jn mx mm) [(0, .ref b), (1, .ref ((zw K).2.1 0)), (2, .ref ((zw K).2.1 44)), (3, .int i)] 18 [] := by
  intro n
  induction n with
  | zero =>
    intro i mx mm hf
    cases hf
  | succ n ih =>
    intro i mx mm hf
    obtain ⟨z, hf, hz⟩ := zlp_el hf
    replace hf : t_law xs L i mx mm = some z := hf
    unfold t_law at hf
    refine z_iload_n C 3 dL_law_18 rfl rfl ?_
    refine z_aload_n C 0 dL_law_19 rfl rfl ?_
    refine z_slen C hX hbl hbA dL_law_20 ?_
    refine z_bipush C (v := 6) dL_law_21 rfl ?_
    refine z_isub C dL_law_23 ?_
    refine z_icmp_gt (tgt := 863) C dL_law_24 (by decide) (fun c261 => ?_) (fun c261 => ?_)
    · replace hf := if_t c261 hf
      refine z_iconst C (v := 1) dL_law_863 rfl ?_
      exact hret _ _ _ dL_law_864
    · replace hf := if_f c261 hf
      refine z_aload_n C 0 dL_law_27 rfl rfl ?_
      refine z_iload_n C 3 dL_law_28 rfl rfl ?_
      obtain ⟨hi1, hf⟩ := ck_el hf
      refine z_sld C hX hbl hbA hi1 dL_law_29 ?_
      refine z_bipush C (v := 31) dL_law_30 rfl ?_
      refine z_iand C dL_law_32 ?_
      refine zby (c := ((xs (Int32.toNatClampNeg i)) &&& 31) = 0) (fun c2 => ?_) (fun c2 => ?_)
      · replace hf := if_t c2 hf
        refine z_tab (v := 0) (tgt := 132) (off := 99) C c2 dL_law_33 (by decide) (by decide) rfl (by decide) ?_
        refine z_aload_n C 1 dL_law_132 rfl rfl ?_
        refine z_aload_n C 0 dL_law_133 rfl rfl ?_
        refine z_iload_n C 3 dL_law_134 rfl rfl ?_
        refine z_iconst C (v := 1) dL_law_135 rfl ?_
        refine z_iadd C dL_law_136 ?_
        obtain ⟨hi3, hf⟩ := ck_el hf
        refine z_sld C hX hbl hbA hi3 dL_law_137 ?_
        obtain ⟨y4, hg, hf⟩ := zb_el hf
        have hj : zGo ML K (jn mx mm) [(0, .ref b), (1, .ref ((zw K).2.1 0)), (2, .ref ((zw K).2.1 44)), (3, .int i)] 146 [.int y4, .ref ((zw K).2.1 0)] := by
          refine z_aload_n C 0 dL_law_146 rfl rfl ?_
          refine z_iload_n C 3 dL_law_147 rfl rfl ?_
          refine z_iconst C (v := 2) dL_law_148 rfl ?_
          refine z_iadd C dL_law_149 ?_
          obtain ⟨hi5, hf⟩ := ck_el hf
          refine z_sld C hX hbl hbA hi5 dL_law_150 ?_
          obtain ⟨r7, m8, hc6, hf⟩ := zb2_el hf
          refine z_lXi C (c_X6_node _ _ hc6) rfl gLw_X6_node rfl rfl zdX6_node rfl rfl ⟨Nat.le_of_ble_eq_true rfl, Nat.le_of_ble_eq_true rfl⟩ hS0 (Nat.le_of_ble_eq_true rfl) dL_law_151 rfl ?_
          refine z_pop C dL_law_154 ?_
          refine z_aload_n C 2 dL_law_155 rfl rfl ?_
          refine z_aload_n C 0 dL_law_156 rfl rfl ?_
          refine z_iload_n C 3 dL_law_157 rfl rfl ?_
          refine z_iconst C (v := 1) dL_law_158 rfl ?_
          refine z_iadd C dL_law_159 ?_
          obtain ⟨hi9, hf⟩ := ck_el hf
          refine z_sld C hX hbl hbA hi9 dL_law_160 ?_
          refine z_if_eq (tgt := 168) C dL_law_161 (by decide) (fun c20 => ?_) (fun c20 => ?_)
          · replace hf := if_t c20 hf
            refine z_iconst C (v := 0) dL_law_168 rfl ?_
            refine z_aload_n C 0 dL_law_169 rfl rfl ?_
            refine z_iload_n C 3 dL_law_170 rfl rfl ?_
            refine z_iconst C (v := 2) dL_law_171 rfl ?_
            refine z_iadd C dL_law_172 ?_
            obtain ⟨hi10, hf⟩ := ck_el hf
            refine z_sld C hX hbl hbA hi10 dL_law_173 ?_
            obtain ⟨r12, m13, hc11, hf⟩ := zb2_el hf
            refine z_lMi C (c_X7_node _ _ hc11) rfl gLw_X7_node rfl rfl zdX7_node rfl rfl ⟨Nat.le_of_ble_eq_true rfl, Nat.le_of_ble_eq_true rfl⟩ hS0 (Nat.le_of_ble_eq_true rfl) dL_law_174 rfl ?_
            refine z_pop C dL_law_177 ?_
            refine z_goto (tgt := 857) C dL_law_178 (by decide) ?_
            obtain ⟨x14, e_x14⟩ : ∃ y : Int32, y = i + 6 := ⟨_, rfl⟩
            replace hf := bn_to e_x14 hf
            refine z_iinc C (lv2 := [(0, .ref b), (1, .ref ((zw K).2.1 0)), (2, .ref ((zw K).2.1 44)), (3, .int x14)]) 3 [1, 2, 3, 0] dL_law_857 rfl rfl (Nat.le_of_ble_eq_true rfl) e_x14 rfl ?_
            refine z_goto (tgt := 18) C dL_law_860 (by decide) ?_
            cases hf
            exact z_sub [0, 1, 2, 3] rfl (ih _ _ _ hz)
          · replace hf := if_f c20 hf
            refine z_iconst C (v := 1) dL_law_164 rfl ?_
            refine z_goto (tgt := 169) C dL_law_165 (by decide) ?_
            refine z_aload_n C 0 dL_law_169 rfl rfl ?_
            refine z_iload_n C 3 dL_law_170 rfl rfl ?_
            refine z_iconst C (v := 2) dL_law_171 rfl ?_
            refine z_iadd C dL_law_172 ?_
            obtain ⟨hi15, hf⟩ := ck_el hf
            refine z_sld C hX hbl hbA hi15 dL_law_173 ?_
            obtain ⟨r17, m18, hc16, hf⟩ := zb2_el hf
            refine z_lMi C (c_X7_node _ _ hc16) rfl gLw_X7_node rfl rfl zdX7_node rfl rfl ⟨Nat.le_of_ble_eq_true rfl, Nat.le_of_ble_eq_true rfl⟩ hS0 (Nat.le_of_ble_eq_true rfl) dL_law_174 rfl ?_
            refine z_pop C dL_law_177 ?_
            refine z_goto (tgt := 857) C dL_law_178 (by decide) ?_
            obtain ⟨x19, e_x19⟩ : ∃ y : Int32, y = i + 6 := ⟨_, rfl⟩
            replace hf := bn_to e_x19 hf
            refine z_iinc C (lv2 := [(0, .ref b), (1, .ref ((zw K).2.1 0)), (2, .ref ((zw K).2.1 44)), (3, .int x19)]) 3 [1, 2, 3, 0] dL_law_857 rfl rfl (Nat.le_of_ble_eq_true rfl) e_x19 rfl ?_
            refine z_goto (tgt := 18) C dL_law_860 (by decide) ?_
            cases hf
            exact z_sub [0, 1, 2, 3] rfl (ih _ _ _ hz)
        replace hf := hg
        clear hg
        refine z_if_eq (tgt := 145) C dL_law_138 (by decide) (fun c21 => ?_) (fun c21 => ?_)
        · replace hf := if_t c21 hf
          refine z_iconst C (v := 0) dL_law_145 rfl ?_
          cases hf
          exact z_sub [0, 1, 2, 3] rfl hj
        · replace hf := if_f c21 hf
          refine z_iconst C (v := 1) dL_law_141 rfl ?_
          refine z_goto (tgt := 146) C dL_law_142 (by decide) ?_
          cases hf
          exact z_sub [0, 1, 2, 3] rfl hj
      · replace hf := if_f c2 hf
        refine zby (c := ((xs (Int32.toNatClampNeg i)) &&& 31) = 1) (fun c22 => ?_) (fun c22 => ?_)
        · replace hf := if_t c22 hf
          refine z_tab (v := 1) (tgt := 181) (off := 148) C c22 dL_law_33 (by decide) (by decide) rfl (by decide) ?_
          refine z_aload_n C 1 dL_law_181 rfl rfl ?_
          refine z_aload_n C 0 dL_law_182 rfl rfl ?_
          refine z_iload_n C 3 dL_law_183 rfl rfl ?_
          refine z_iconst C (v := 1) dL_law_184 rfl ?_
          refine z_iadd C dL_law_185 ?_
          obtain ⟨hi23, hf⟩ := ck_el hf
          refine z_sld C hX hbl hbA hi23 dL_law_186 ?_
          refine z_aload_n C 0 dL_law_187 rfl rfl ?_
          refine z_iload_n C 3 dL_law_188 rfl rfl ?_
          refine z_iconst C (v := 2) dL_law_189 rfl ?_
          refine z_iadd C dL_law_190 ?_
          obtain ⟨hi24, hf⟩ := ck_el hf
          refine z_sld C hX hbl hbA hi24 dL_law_191 ?_
          obtain ⟨y25, hg, hf⟩ := zb_el hf
          have hj : zGo ML K (jn mx mm) [(0, .ref b), (1, .ref ((zw K).2.1 0)), (2, .ref ((zw K).2.1 44)), (3, .int i)] 200 [.int y25, .int (xs (Int32.toNatClampNeg (i + 1))), .ref ((zw K).2.1 0)] := by
            refine z_aload_n C 0 dL_law_200 rfl rfl ?_
            refine z_iload_n C 3 dL_law_201 rfl rfl ?_
            refine z_iconst C (v := 3) dL_law_202 rfl ?_
            refine z_iadd C dL_law_203 ?_
            obtain ⟨hi26, hf⟩ := ck_el hf
            refine z_sld C hX hbl hbA hi26 dL_law_204 ?_
            obtain ⟨r28, m29, hc27, hf⟩ := zb2_el hf
            refine z_lXi C (c_X6_value _ _ hc27) rfl gLw_X6_value rfl rfl zdX6_value rfl rfl ⟨Nat.le_of_ble_eq_true rfl, Nat.le_of_ble_eq_true rfl⟩ hS0 (Nat.le_of_ble_eq_true rfl) dL_law_205 rfl ?_
            refine z_pop C dL_law_208 ?_
            refine z_aload_n C 2 dL_law_209 rfl rfl ?_
            refine z_aload_n C 0 dL_law_210 rfl rfl ?_
            refine z_iload_n C 3 dL_law_211 rfl rfl ?_
            refine z_iconst C (v := 1) dL_law_212 rfl ?_
            refine z_iadd C dL_law_213 ?_
            obtain ⟨hi30, hf⟩ := ck_el hf
            refine z_sld C hX hbl hbA hi30 dL_law_214 ?_
            refine z_aload_n C 0 dL_law_215 rfl rfl ?_
            refine z_iload_n C 3 dL_law_216 rfl rfl ?_
            refine z_iconst C (v := 2) dL_law_217 rfl ?_
            refine z_iadd C dL_law_218 ?_
            obtain ⟨hi31, hf⟩ := ck_el hf
            refine z_sld C hX hbl hbA hi31 dL_law_219 ?_
            refine z_if_eq (tgt := 227) C dL_law_220 (by decide) (fun c42 => ?_) (fun c42 => ?_)
            · replace hf := if_t c42 hf
              refine z_iconst C (v := 0) dL_law_227 rfl ?_
              refine z_aload_n C 0 dL_law_228 rfl rfl ?_
              refine z_iload_n C 3 dL_law_229 rfl rfl ?_
              refine z_iconst C (v := 3) dL_law_230 rfl ?_
              refine z_iadd C dL_law_231 ?_
              obtain ⟨hi32, hf⟩ := ck_el hf
              refine z_sld C hX hbl hbA hi32 dL_law_232 ?_
              obtain ⟨r34, m35, hc33, hf⟩ := zb2_el hf
              refine z_lMi C (c_X7_value _ _ hc33) rfl gLw_X7_value rfl rfl zdX7_value rfl rfl ⟨Nat.le_of_ble_eq_true rfl, Nat.le_of_ble_eq_true rfl⟩ hS0 (Nat.le_of_ble_eq_true rfl) dL_law_233 rfl ?_
              refine z_pop C dL_law_236 ?_
              refine z_goto (tgt := 857) C dL_law_237 (by decide) ?_
              obtain ⟨x36, e_x36⟩ : ∃ y : Int32, y = i + 6 := ⟨_, rfl⟩
              replace hf := bn_to e_x36 hf
              refine z_iinc C (lv2 := [(0, .ref b), (1, .ref ((zw K).2.1 0)), (2, .ref ((zw K).2.1 44)), (3, .int x36)]) 3 [1, 2, 3, 0] dL_law_857 rfl rfl (Nat.le_of_ble_eq_true rfl) e_x36 rfl ?_
              refine z_goto (tgt := 18) C dL_law_860 (by decide) ?_
              cases hf
              exact z_sub [0, 1, 2, 3] rfl (ih _ _ _ hz)
            · replace hf := if_f c42 hf
              refine z_iconst C (v := 1) dL_law_223 rfl ?_
              refine z_goto (tgt := 228) C dL_law_224 (by decide) ?_
              refine z_aload_n C 0 dL_law_228 rfl rfl ?_
              refine z_iload_n C 3 dL_law_229 rfl rfl ?_
              refine z_iconst C (v := 3) dL_law_230 rfl ?_
              refine z_iadd C dL_law_231 ?_
              obtain ⟨hi37, hf⟩ := ck_el hf
              refine z_sld C hX hbl hbA hi37 dL_law_232 ?_
              obtain ⟨r39, m40, hc38, hf⟩ := zb2_el hf
              refine z_lMi C (c_X7_value _ _ hc38) rfl gLw_X7_value rfl rfl zdX7_value rfl rfl ⟨Nat.le_of_ble_eq_true rfl, Nat.le_of_ble_eq_true rfl⟩ hS0 (Nat.le_of_ble_eq_true rfl) dL_law_233 rfl ?_
              refine z_pop C dL_law_236 ?_
              refine z_goto (tgt := 857) C dL_law_237 (by decide) ?_
              obtain ⟨x41, e_x41⟩ : ∃ y : Int32, y = i + 6 := ⟨_, rfl⟩
              replace hf := bn_to e_x41 hf
              refine z_iinc C (lv2 := [(0, .ref b), (1, .ref ((zw K).2.1 0)), (2, .ref ((zw K).2.1 44)), (3, .int x41)]) 3 [1, 2, 3, 0] dL_law_857 rfl rfl (Nat.le_of_ble_eq_true rfl) e_x41 rfl ?_
              refine z_goto (tgt := 18) C dL_law_860 (by decide) ?_
              cases hf
              exact z_sub [0, 1, 2, 3] rfl (ih _ _ _ hz)
          replace hf := hg
          clear hg
          refine z_if_eq (tgt := 199) C dL_law_192 (by decide) (fun c43 => ?_) (fun c43 => ?_)
          · replace hf := if_t c43 hf
            refine z_iconst C (v := 0) dL_law_199 rfl ?_
            cases hf
            exact z_sub [0, 1, 2, 3] rfl hj
          · replace hf := if_f c43 hf
            refine z_iconst C (v := 1) dL_law_195 rfl ?_
            refine z_goto (tgt := 200) C dL_law_196 (by decide) ?_
            cases hf
            exact z_sub [0, 1, 2, 3] rfl hj
        · replace hf := if_f c22 hf
          refine zby (c := ((xs (Int32.toNatClampNeg i)) &&& 31) = 2) (fun c44 => ?_) (fun c44 => ?_)
          · replace hf := if_t c44 hf
            refine z_tab (v := 2) (tgt := 240) (off := 207) C c44 dL_law_33 (by decide) (by decide) rfl (by decide) ?_
            refine z_aload_n C 1 dL_law_240 rfl rfl ?_
            refine z_aload_n C 0 dL_law_241 rfl rfl ?_
            refine z_iload_n C 3 dL_law_242 rfl rfl ?_
            refine z_iconst C (v := 1) dL_law_243 rfl ?_
            refine z_iadd C dL_law_244 ?_
            obtain ⟨hi45, hf⟩ := ck_el hf
            refine z_sld C hX hbl hbA hi45 dL_law_245 ?_
            refine z_aload_n C 0 dL_law_246 rfl rfl ?_
            refine z_iload_n C 3 dL_law_247 rfl rfl ?_
            refine z_iconst C (v := 2) dL_law_248 rfl ?_
            refine z_iadd C dL_law_249 ?_
            obtain ⟨hi46, hf⟩ := ck_el hf
            refine z_sld C hX hbl hbA hi46 dL_law_250 ?_
            refine z_aload_n C 0 dL_law_251 rfl rfl ?_
            refine z_iload_n C 3 dL_law_252 rfl rfl ?_
            refine z_iconst C (v := 3) dL_law_253 rfl ?_
            refine z_iadd C dL_law_254 ?_
            obtain ⟨hi47, hf⟩ := ck_el hf
            refine z_sld C hX hbl hbA hi47 dL_law_255 ?_
            obtain ⟨r49, m50, hc48, hf⟩ := zb2_el hf
            refine z_lXi C (c_X6_edge _ _ hc48) rfl gLw_X6_edge rfl rfl zdX6_edge rfl rfl ⟨Nat.le_of_ble_eq_true rfl, Nat.le_of_ble_eq_true rfl⟩ hS0 (Nat.le_of_ble_eq_true rfl) dL_law_256 rfl ?_
            refine z_pop C dL_law_259 ?_
            refine z_aload_n C 2 dL_law_260 rfl rfl ?_
            refine z_aload_n C 0 dL_law_261 rfl rfl ?_
            refine z_iload_n C 3 dL_law_262 rfl rfl ?_
            refine z_iconst C (v := 1) dL_law_263 rfl ?_
            refine z_iadd C dL_law_264 ?_
            obtain ⟨hi51, hf⟩ := ck_el hf
            refine z_sld C hX hbl hbA hi51 dL_law_265 ?_
            refine z_aload_n C 0 dL_law_266 rfl rfl ?_
            refine z_iload_n C 3 dL_law_267 rfl rfl ?_
            refine z_iconst C (v := 2) dL_law_268 rfl ?_
            refine z_iadd C dL_law_269 ?_
            obtain ⟨hi52, hf⟩ := ck_el hf
            refine z_sld C hX hbl hbA hi52 dL_law_270 ?_
            refine z_aload_n C 0 dL_law_271 rfl rfl ?_
            refine z_iload_n C 3 dL_law_272 rfl rfl ?_
            refine z_iconst C (v := 3) dL_law_273 rfl ?_
            refine z_iadd C dL_law_274 ?_
            obtain ⟨hi53, hf⟩ := ck_el hf
            refine z_sld C hX hbl hbA hi53 dL_law_275 ?_
            obtain ⟨r55, m56, hc54, hf⟩ := zb2_el hf
            refine z_lMi C (c_X7_edge _ _ hc54) rfl gLw_X7_edge rfl rfl zdX7_edge rfl rfl ⟨Nat.le_of_ble_eq_true rfl, Nat.le_of_ble_eq_true rfl⟩ hS0 (Nat.le_of_ble_eq_true rfl) dL_law_276 rfl ?_
            refine z_pop C dL_law_279 ?_
            refine z_goto (tgt := 857) C dL_law_280 (by decide) ?_
            obtain ⟨x57, e_x57⟩ : ∃ y : Int32, y = i + 6 := ⟨_, rfl⟩
            replace hf := bn_to e_x57 hf
            refine z_iinc C (lv2 := [(0, .ref b), (1, .ref ((zw K).2.1 0)), (2, .ref ((zw K).2.1 44)), (3, .int x57)]) 3 [1, 2, 3, 0] dL_law_857 rfl rfl (Nat.le_of_ble_eq_true rfl) e_x57 rfl ?_
            refine z_goto (tgt := 18) C dL_law_860 (by decide) ?_
            cases hf
            exact z_sub [0, 1, 2, 3] rfl (ih _ _ _ hz)
          · replace hf := if_f c44 hf
            refine zby (c := ((xs (Int32.toNatClampNeg i)) &&& 31) = 3) (fun c58 => ?_) (fun c58 => ?_)
            · replace hf := if_t c58 hf
              refine z_tab (v := 3) (tgt := 283) (off := 250) C c58 dL_law_33 (by decide) (by decide) rfl (by decide) ?_
              refine z_aload_n C 1 dL_law_283 rfl rfl ?_
              refine z_aload_n C 0 dL_law_284 rfl rfl ?_
              refine z_iload_n C 3 dL_law_285 rfl rfl ?_
              refine z_iconst C (v := 1) dL_law_286 rfl ?_
              refine z_iadd C dL_law_287 ?_
              obtain ⟨hi59, hf⟩ := ck_el hf
              refine z_sld C hX hbl hbA hi59 dL_law_288 ?_
              refine z_aload_n C 0 dL_law_289 rfl rfl ?_
              refine z_iload_n C 3 dL_law_290 rfl rfl ?_
              refine z_iconst C (v := 2) dL_law_291 rfl ?_
              refine z_iadd C dL_law_292 ?_
              obtain ⟨hi60, hf⟩ := ck_el hf
              refine z_sld C hX hbl hbA hi60 dL_law_293 ?_
              refine z_aload_n C 0 dL_law_294 rfl rfl ?_
              refine z_iload_n C 3 dL_law_295 rfl rfl ?_
              refine z_iconst C (v := 3) dL_law_296 rfl ?_
              refine z_iadd C dL_law_297 ?_
              obtain ⟨hi61, hf⟩ := ck_el hf
              refine z_sld C hX hbl hbA hi61 dL_law_298 ?_
              obtain ⟨r63, m64, hc62, hf⟩ := zb2_el hf
              refine z_lXi C (c_X6_cut _ _ hc62) rfl gLw_X6_cut rfl rfl zdX6_cut rfl rfl ⟨Nat.le_of_ble_eq_true rfl, Nat.le_of_ble_eq_true rfl⟩ hS0 (Nat.le_of_ble_eq_true rfl) dL_law_299 rfl ?_
              refine z_pop C dL_law_302 ?_
              refine z_aload_n C 2 dL_law_303 rfl rfl ?_
              refine z_aload_n C 0 dL_law_304 rfl rfl ?_
              refine z_iload_n C 3 dL_law_305 rfl rfl ?_
              refine z_iconst C (v := 1) dL_law_306 rfl ?_
              refine z_iadd C dL_law_307 ?_
              obtain ⟨hi65, hf⟩ := ck_el hf
              refine z_sld C hX hbl hbA hi65 dL_law_308 ?_
              refine z_aload_n C 0 dL_law_309 rfl rfl ?_
              refine z_iload_n C 3 dL_law_310 rfl rfl ?_
              refine z_iconst C (v := 2) dL_law_311 rfl ?_
              refine z_iadd C dL_law_312 ?_
              obtain ⟨hi66, hf⟩ := ck_el hf
              refine z_sld C hX hbl hbA hi66 dL_law_313 ?_
              refine z_aload_n C 0 dL_law_314 rfl rfl ?_
              refine z_iload_n C 3 dL_law_315 rfl rfl ?_
              refine z_iconst C (v := 3) dL_law_316 rfl ?_
              refine z_iadd C dL_law_317 ?_
              obtain ⟨hi67, hf⟩ := ck_el hf
              refine z_sld C hX hbl hbA hi67 dL_law_318 ?_
              obtain ⟨r69, m70, hc68, hf⟩ := zb2_el hf
              refine z_lMi C (c_X7_cut _ _ hc68) rfl gLw_X7_cut rfl rfl zdX7_cut rfl rfl ⟨Nat.le_of_ble_eq_true rfl, Nat.le_of_ble_eq_true rfl⟩ hS0 (Nat.le_of_ble_eq_true rfl) dL_law_319 rfl ?_
              refine z_pop C dL_law_322 ?_
              refine z_goto (tgt := 857) C dL_law_323 (by decide) ?_
              obtain ⟨x71, e_x71⟩ : ∃ y : Int32, y = i + 6 := ⟨_, rfl⟩
              replace hf := bn_to e_x71 hf
              refine z_iinc C (lv2 := [(0, .ref b), (1, .ref ((zw K).2.1 0)), (2, .ref ((zw K).2.1 44)), (3, .int x71)]) 3 [1, 2, 3, 0] dL_law_857 rfl rfl (Nat.le_of_ble_eq_true rfl) e_x71 rfl ?_
              refine z_goto (tgt := 18) C dL_law_860 (by decide) ?_
              cases hf
              exact z_sub [0, 1, 2, 3] rfl (ih _ _ _ hz)
            · replace hf := if_f c58 hf
              refine zby (c := ((xs (Int32.toNatClampNeg i)) &&& 31) = 4) (fun c72 => ?_) (fun c72 => ?_)
              · replace hf := if_t c72 hf
                refine z_tab (v := 4) (tgt := 326) (off := 293) C c72 dL_law_33 (by decide) (by decide) rfl (by decide) ?_
                refine z_aload_n C 1 dL_law_326 rfl rfl ?_
                refine z_aload_n C 0 dL_law_327 rfl rfl ?_
                refine z_iload_n C 3 dL_law_328 rfl rfl ?_
                refine z_iconst C (v := 1) dL_law_329 rfl ?_
                refine z_iadd C dL_law_330 ?_
                obtain ⟨hi73, hf⟩ := ck_el hf
                refine z_sld C hX hbl hbA hi73 dL_law_331 ?_
                refine z_aload_n C 0 dL_law_332 rfl rfl ?_
                refine z_iload_n C 3 dL_law_333 rfl rfl ?_
                refine z_iconst C (v := 2) dL_law_334 rfl ?_
                refine z_iadd C dL_law_335 ?_
                obtain ⟨hi74, hf⟩ := ck_el hf
                refine z_sld C hX hbl hbA hi74 dL_law_336 ?_
                refine z_aload_n C 0 dL_law_337 rfl rfl ?_
                refine z_iload_n C 3 dL_law_338 rfl rfl ?_
                refine z_iconst C (v := 3) dL_law_339 rfl ?_
                refine z_iadd C dL_law_340 ?_
                obtain ⟨hi75, hf⟩ := ck_el hf
                refine z_sld C hX hbl hbA hi75 dL_law_341 ?_
                refine z_aload_n C 0 dL_law_342 rfl rfl ?_
                refine z_iload_n C 3 dL_law_343 rfl rfl ?_
                refine z_iconst C (v := 4) dL_law_344 rfl ?_
                refine z_iadd C dL_law_345 ?_
                obtain ⟨hi76, hf⟩ := ck_el hf
                refine z_sld C hX hbl hbA hi76 dL_law_346 ?_
                refine z_aload_n C 0 dL_law_347 rfl rfl ?_
                refine z_iload_n C 3 dL_law_348 rfl rfl ?_
                refine z_iconst C (v := 5) dL_law_349 rfl ?_
                refine z_iadd C dL_law_350 ?_
                obtain ⟨hi77, hf⟩ := ck_el hf
                refine z_sld C hX hbl hbA hi77 dL_law_351 ?_
                obtain ⟨r79, m80, hc78, hf⟩ := zb2_el hf
                refine z_lXi C (c_X6_feed _ _ hc78) rfl gLw_X6_feed rfl rfl zdX6_feed rfl rfl ⟨Nat.le_of_ble_eq_true rfl, Nat.le_of_ble_eq_true rfl⟩ hS0 (Nat.le_of_ble_eq_true rfl) dL_law_352 rfl ?_
                refine z_pop C dL_law_355 ?_
                refine z_aload_n C 2 dL_law_356 rfl rfl ?_
                refine z_aload_n C 0 dL_law_357 rfl rfl ?_
                refine z_iload_n C 3 dL_law_358 rfl rfl ?_
                refine z_iconst C (v := 1) dL_law_359 rfl ?_
                refine z_iadd C dL_law_360 ?_
                obtain ⟨hi81, hf⟩ := ck_el hf
                refine z_sld C hX hbl hbA hi81 dL_law_361 ?_
                refine z_aload_n C 0 dL_law_362 rfl rfl ?_
                refine z_iload_n C 3 dL_law_363 rfl rfl ?_
                refine z_iconst C (v := 2) dL_law_364 rfl ?_
                refine z_iadd C dL_law_365 ?_
                obtain ⟨hi82, hf⟩ := ck_el hf
                refine z_sld C hX hbl hbA hi82 dL_law_366 ?_
                refine z_aload_n C 0 dL_law_367 rfl rfl ?_
                refine z_iload_n C 3 dL_law_368 rfl rfl ?_
                refine z_iconst C (v := 3) dL_law_369 rfl ?_
                refine z_iadd C dL_law_370 ?_
                obtain ⟨hi83, hf⟩ := ck_el hf
                refine z_sld C hX hbl hbA hi83 dL_law_371 ?_
                refine z_aload_n C 0 dL_law_372 rfl rfl ?_
                refine z_iload_n C 3 dL_law_373 rfl rfl ?_
                refine z_iconst C (v := 4) dL_law_374 rfl ?_
                refine z_iadd C dL_law_375 ?_
                obtain ⟨hi84, hf⟩ := ck_el hf
                refine z_sld C hX hbl hbA hi84 dL_law_376 ?_
                refine z_aload_n C 0 dL_law_377 rfl rfl ?_
                refine z_iload_n C 3 dL_law_378 rfl rfl ?_
                refine z_iconst C (v := 5) dL_law_379 rfl ?_
                refine z_iadd C dL_law_380 ?_
                obtain ⟨hi85, hf⟩ := ck_el hf
                refine z_sld C hX hbl hbA hi85 dL_law_381 ?_
                obtain ⟨r87, m88, hc86, hf⟩ := zb2_el hf
                refine z_lMi C (c_X7_feed _ _ hc86) rfl gLw_X7_feed rfl rfl zdX7_feed rfl rfl ⟨Nat.le_of_ble_eq_true rfl, Nat.le_of_ble_eq_true rfl⟩ hS0 (Nat.le_of_ble_eq_true rfl) dL_law_382 rfl ?_
                refine z_pop C dL_law_385 ?_
                refine z_goto (tgt := 857) C dL_law_386 (by decide) ?_
                obtain ⟨x89, e_x89⟩ : ∃ y : Int32, y = i + 6 := ⟨_, rfl⟩
                replace hf := bn_to e_x89 hf
                refine z_iinc C (lv2 := [(0, .ref b), (1, .ref ((zw K).2.1 0)), (2, .ref ((zw K).2.1 44)), (3, .int x89)]) 3 [1, 2, 3, 0] dL_law_857 rfl rfl (Nat.le_of_ble_eq_true rfl) e_x89 rfl ?_
                refine z_goto (tgt := 18) C dL_law_860 (by decide) ?_
                cases hf
                exact z_sub [0, 1, 2, 3] rfl (ih _ _ _ hz)
              · replace hf := if_f c72 hf
                refine zby (c := ((xs (Int32.toNatClampNeg i)) &&& 31) = 5) (fun c90 => ?_) (fun c90 => ?_)
                · replace hf := if_t c90 hf
                  refine z_tab (v := 5) (tgt := 389) (off := 356) C c90 dL_law_33 (by decide) (by decide) rfl (by decide) ?_
                  refine z_aload_n C 1 dL_law_389 rfl rfl ?_
                  refine z_aload_n C 0 dL_law_390 rfl rfl ?_
                  refine z_iload_n C 3 dL_law_391 rfl rfl ?_
                  refine z_iconst C (v := 1) dL_law_392 rfl ?_
                  refine z_iadd C dL_law_393 ?_
                  obtain ⟨hi91, hf⟩ := ck_el hf
                  refine z_sld C hX hbl hbA hi91 dL_law_394 ?_
                  obtain ⟨r93, m94, hc92, hf⟩ := zb2_el hf
                  refine z_lXi C (c_X6_end _ _ hc92) rfl gLw_X6_end rfl rfl zdX6_end rfl rfl ⟨Nat.le_of_ble_eq_true rfl, Nat.le_of_ble_eq_true rfl⟩ hS0 (Nat.le_of_ble_eq_true rfl) dL_law_395 rfl ?_
                  refine z_pop C dL_law_398 ?_
                  refine z_aload_n C 2 dL_law_399 rfl rfl ?_
                  refine z_aload_n C 0 dL_law_400 rfl rfl ?_
                  refine z_iload_n C 3 dL_law_401 rfl rfl ?_
                  refine z_iconst C (v := 1) dL_law_402 rfl ?_
                  refine z_iadd C dL_law_403 ?_
                  obtain ⟨hi95, hf⟩ := ck_el hf
                  refine z_sld C hX hbl hbA hi95 dL_law_404 ?_
                  obtain ⟨r97, m98, hc96, hf⟩ := zb2_el hf
                  refine z_lMi C (c_X7_end _ _ hc96) rfl gLw_X7_end rfl rfl zdX7_end rfl rfl ⟨Nat.le_of_ble_eq_true rfl, Nat.le_of_ble_eq_true rfl⟩ hS0 (Nat.le_of_ble_eq_true rfl) dL_law_405 rfl ?_
                  refine z_pop C dL_law_408 ?_
                  refine z_goto (tgt := 857) C dL_law_409 (by decide) ?_
                  obtain ⟨x99, e_x99⟩ : ∃ y : Int32, y = i + 6 := ⟨_, rfl⟩
                  replace hf := bn_to e_x99 hf
                  refine z_iinc C (lv2 := [(0, .ref b), (1, .ref ((zw K).2.1 0)), (2, .ref ((zw K).2.1 44)), (3, .int x99)]) 3 [1, 2, 3, 0] dL_law_857 rfl rfl (Nat.le_of_ble_eq_true rfl) e_x99 rfl ?_
                  refine z_goto (tgt := 18) C dL_law_860 (by decide) ?_
                  cases hf
                  exact z_sub [0, 1, 2, 3] rfl (ih _ _ _ hz)
                · replace hf := if_f c90 hf
                  refine zby (c := ((xs (Int32.toNatClampNeg i)) &&& 31) = 6) (fun c100 => ?_) (fun c100 => ?_)
                  · replace hf := if_t c100 hf
                    refine z_tab (v := 6) (tgt := 412) (off := 379) C c100 dL_law_33 (by decide) (by decide) rfl (by decide) ?_
                    refine z_aload_n C 1 dL_law_412 rfl rfl ?_
                    obtain ⟨r102, m103, hc101, hf⟩ := zb2_el hf
                    refine z_lXi C (c_X6_shapes _ _ hc101) rfl gLw_X6_shapes rfl rfl zdX6_shapes rfl rfl ⟨Nat.le_of_ble_eq_true rfl, Nat.le_of_ble_eq_true rfl⟩ hS0 (Nat.le_of_ble_eq_true rfl) dL_law_413 rfl ?_
                    refine z_pop C dL_law_416 ?_
                    refine z_aload_n C 2 dL_law_417 rfl rfl ?_
                    obtain ⟨r105, m106, hc104, hf⟩ := zb2_el hf
                    refine z_lMi C (c_X7_shapes _ _ hc104) rfl gLw_X7_shapes rfl rfl zdX7_shapes rfl rfl ⟨Nat.le_of_ble_eq_true rfl, Nat.le_of_ble_eq_true rfl⟩ hS0 (Nat.le_of_ble_eq_true rfl) dL_law_418 rfl ?_
                    refine z_pop C dL_law_421 ?_
                    refine z_goto (tgt := 857) C dL_law_422 (by decide) ?_
                    obtain ⟨x107, e_x107⟩ : ∃ y : Int32, y = i + 6 := ⟨_, rfl⟩
                    replace hf := bn_to e_x107 hf
                    refine z_iinc C (lv2 := [(0, .ref b), (1, .ref ((zw K).2.1 0)), (2, .ref ((zw K).2.1 44)), (3, .int x107)]) 3 [1, 2, 3, 0] dL_law_857 rfl rfl (Nat.le_of_ble_eq_true rfl) e_x107 rfl ?_
                    refine z_goto (tgt := 18) C dL_law_860 (by decide) ?_
                    cases hf
                    exact z_sub [0, 1, 2, 3] rfl (ih _ _ _ hz)
                  · replace hf := if_f c100 hf
                    refine zby (c := ((xs (Int32.toNatClampNeg i)) &&& 31) = 7) (fun c108 => ?_) (fun c108 => ?_)
                    · replace hf := if_t c108 hf
                      refine z_tab (v := 7) (tgt := 425) (off := 392) C c108 dL_law_33 (by decide) (by decide) rfl (by decide) ?_
                      refine z_aload_n C 1 dL_law_425 rfl rfl ?_
                      obtain ⟨r110, hc109, hf⟩ := zb_el hf
                      refine z_lXi C (c_X6_fault _ _ hc109) rfl gLw_X6_fault rfl rfl zdX6_fault rfl rfl ⟨Nat.le_of_ble_eq_true rfl, Nat.le_of_ble_eq_true rfl⟩ hS0 (Nat.le_of_ble_eq_true rfl) dL_law_426 rfl ?_
                      refine z_pop C dL_law_429 ?_
                      refine z_aload_n C 2 dL_law_430 rfl rfl ?_
                      obtain ⟨r112, hc111, hf⟩ := zb_el hf
                      refine z_lMi C (c_X7_fault _ _ hc111) rfl gLw_X7_fault rfl rfl zdX7_fault rfl rfl ⟨Nat.le_of_ble_eq_true rfl, Nat.le_of_ble_eq_true rfl⟩ hS0 (Nat.le_of_ble_eq_true rfl) dL_law_431 rfl ?_
                      refine z_pop C dL_law_434 ?_
                      refine z_goto (tgt := 857) C dL_law_435 (by decide) ?_
                      obtain ⟨x113, e_x113⟩ : ∃ y : Int32, y = i + 6 := ⟨_, rfl⟩
                      replace hf := bn_to e_x113 hf
                      refine z_iinc C (lv2 := [(0, .ref b), (1, .ref ((zw K).2.1 0)), (2, .ref ((zw K).2.1 44)), (3, .int x113)]) 3 [1, 2, 3, 0] dL_law_857 rfl rfl (Nat.le_of_ble_eq_true rfl) e_x113 rfl ?_
                      refine z_goto (tgt := 18) C dL_law_860 (by decide) ?_
                      cases hf
                      exact z_sub [0, 1, 2, 3] rfl (ih _ _ _ hz)
                    · replace hf := if_f c108 hf
                      refine zby (c := ((xs (Int32.toNatClampNeg i)) &&& 31) = 8) (fun c114 => ?_) (fun c114 => ?_)
                      · replace hf := if_t c114 hf
                        refine z_tab (v := 8) (tgt := 438) (off := 405) C c114 dL_law_33 (by decide) (by decide) rfl (by decide) ?_
                        refine z_aload_n C 1 dL_law_438 rfl rfl ?_
                        refine z_aload_n C 0 dL_law_439 rfl rfl ?_
                        refine z_iload_n C 3 dL_law_440 rfl rfl ?_
                        refine z_iconst C (v := 1) dL_law_441 rfl ?_
                        refine z_iadd C dL_law_442 ?_
                        obtain ⟨hi115, hf⟩ := ck_el hf
                        refine z_sld C hX hbl hbA hi115 dL_law_443 ?_
                        refine z_aload_n C 0 dL_law_444 rfl rfl ?_
                        refine z_iload_n C 3 dL_law_445 rfl rfl ?_
                        refine z_iconst C (v := 2) dL_law_446 rfl ?_
                        refine z_iadd C dL_law_447 ?_
                        obtain ⟨hi116, hf⟩ := ck_el hf
                        refine z_sld C hX hbl hbA hi116 dL_law_448 ?_
                        obtain ⟨r118, m119, hc117, hf⟩ := zb2_el hf
                        refine z_lXi C (c_X6_fits _ _ hc117) rfl gLw_X6_fits rfl rfl zdX6_fits rfl rfl ⟨Nat.le_of_ble_eq_true rfl, Nat.le_of_ble_eq_true rfl⟩ hS0 (Nat.le_of_ble_eq_true rfl) dL_law_449 rfl ?_
                        refine z_pop C dL_law_452 ?_
                        refine z_aload_n C 2 dL_law_453 rfl rfl ?_
                        refine z_aload_n C 0 dL_law_454 rfl rfl ?_
                        refine z_iload_n C 3 dL_law_455 rfl rfl ?_
                        refine z_iconst C (v := 1) dL_law_456 rfl ?_
                        refine z_iadd C dL_law_457 ?_
                        obtain ⟨hi120, hf⟩ := ck_el hf
                        refine z_sld C hX hbl hbA hi120 dL_law_458 ?_
                        refine z_aload_n C 0 dL_law_459 rfl rfl ?_
                        refine z_iload_n C 3 dL_law_460 rfl rfl ?_
                        refine z_iconst C (v := 2) dL_law_461 rfl ?_
                        refine z_iadd C dL_law_462 ?_
                        obtain ⟨hi121, hf⟩ := ck_el hf
                        refine z_sld C hX hbl hbA hi121 dL_law_463 ?_
                        obtain ⟨r123, m124, hc122, hf⟩ := zb2_el hf
                        refine z_lMi C (c_X7_fits _ _ hc122) rfl gLw_X7_fits rfl rfl zdX7_fits rfl rfl ⟨Nat.le_of_ble_eq_true rfl, Nat.le_of_ble_eq_true rfl⟩ hS0 (Nat.le_of_ble_eq_true rfl) dL_law_464 rfl ?_
                        refine z_pop C dL_law_467 ?_
                        refine z_goto (tgt := 857) C dL_law_468 (by decide) ?_
                        obtain ⟨x125, e_x125⟩ : ∃ y : Int32, y = i + 6 := ⟨_, rfl⟩
                        replace hf := bn_to e_x125 hf
                        refine z_iinc C (lv2 := [(0, .ref b), (1, .ref ((zw K).2.1 0)), (2, .ref ((zw K).2.1 44)), (3, .int x125)]) 3 [1, 2, 3, 0] dL_law_857 rfl rfl (Nat.le_of_ble_eq_true rfl) e_x125 rfl ?_
                        refine z_goto (tgt := 18) C dL_law_860 (by decide) ?_
                        cases hf
                        exact z_sub [0, 1, 2, 3] rfl (ih _ _ _ hz)
                      · replace hf := if_f c114 hf
                        refine zby (c := ((xs (Int32.toNatClampNeg i)) &&& 31) = 9) (fun c126 => ?_) (fun c126 => ?_)
                        · replace hf := if_t c126 hf
                          refine z_tab (v := 9) (tgt := 471) (off := 438) C c126 dL_law_33 (by decide) (by decide) rfl (by decide) ?_
                          refine z_aload_n C 1 dL_law_471 rfl rfl ?_
                          refine z_aload_n C 0 dL_law_472 rfl rfl ?_
                          refine z_iload_n C 3 dL_law_473 rfl rfl ?_
                          refine z_iconst C (v := 1) dL_law_474 rfl ?_
                          refine z_iadd C dL_law_475 ?_
                          obtain ⟨hi127, hf⟩ := ck_el hf
                          refine z_sld C hX hbl hbA hi127 dL_law_476 ?_
                          refine z_aload_n C 0 dL_law_477 rfl rfl ?_
                          refine z_iload_n C 3 dL_law_478 rfl rfl ?_
                          refine z_iconst C (v := 2) dL_law_479 rfl ?_
                          refine z_iadd C dL_law_480 ?_
                          obtain ⟨hi128, hf⟩ := ck_el hf
                          refine z_sld C hX hbl hbA hi128 dL_law_481 ?_
                          obtain ⟨r130, m131, hc129, hf⟩ := zb2_el hf
                          refine z_lXi C (c_X6_surely _ _ hc129) rfl gLw_X6_surely rfl rfl zdX6_surely rfl rfl ⟨Nat.le_of_ble_eq_true rfl, Nat.le_of_ble_eq_true rfl⟩ hS0 (Nat.le_of_ble_eq_true rfl) dL_law_482 rfl ?_
                          refine z_pop C dL_law_485 ?_
                          refine z_aload_n C 2 dL_law_486 rfl rfl ?_
                          refine z_aload_n C 0 dL_law_487 rfl rfl ?_
                          refine z_iload_n C 3 dL_law_488 rfl rfl ?_
                          refine z_iconst C (v := 1) dL_law_489 rfl ?_
                          refine z_iadd C dL_law_490 ?_
                          obtain ⟨hi132, hf⟩ := ck_el hf
                          refine z_sld C hX hbl hbA hi132 dL_law_491 ?_
                          refine z_aload_n C 0 dL_law_492 rfl rfl ?_
                          refine z_iload_n C 3 dL_law_493 rfl rfl ?_
                          refine z_iconst C (v := 2) dL_law_494 rfl ?_
                          refine z_iadd C dL_law_495 ?_
                          obtain ⟨hi133, hf⟩ := ck_el hf
                          refine z_sld C hX hbl hbA hi133 dL_law_496 ?_
                          obtain ⟨r135, m136, hc134, hf⟩ := zb2_el hf
                          refine z_lMi C (c_X7_surely _ _ hc134) rfl gLw_X7_surely rfl rfl zdX7_surely rfl rfl ⟨Nat.le_of_ble_eq_true rfl, Nat.le_of_ble_eq_true rfl⟩ hS0 (Nat.le_of_ble_eq_true rfl) dL_law_497 rfl ?_
                          refine z_pop C dL_law_500 ?_
                          refine z_goto (tgt := 857) C dL_law_501 (by decide) ?_
                          obtain ⟨x137, e_x137⟩ : ∃ y : Int32, y = i + 6 := ⟨_, rfl⟩
                          replace hf := bn_to e_x137 hf
                          refine z_iinc C (lv2 := [(0, .ref b), (1, .ref ((zw K).2.1 0)), (2, .ref ((zw K).2.1 44)), (3, .int x137)]) 3 [1, 2, 3, 0] dL_law_857 rfl rfl (Nat.le_of_ble_eq_true rfl) e_x137 rfl ?_
                          refine z_goto (tgt := 18) C dL_law_860 (by decide) ?_
                          cases hf
                          exact z_sub [0, 1, 2, 3] rfl (ih _ _ _ hz)
                        · replace hf := if_f c126 hf
                          refine zby (c := ((xs (Int32.toNatClampNeg i)) &&& 31) = 10) (fun c138 => ?_) (fun c138 => ?_)
                          · replace hf := if_t c138 hf
                            refine z_tab (v := 10) (tgt := 504) (off := 471) C c138 dL_law_33 (by decide) (by decide) rfl (by decide) ?_
                            refine z_aload_n C 1 dL_law_504 rfl rfl ?_
                            refine z_aload_n C 0 dL_law_505 rfl rfl ?_
                            refine z_iload_n C 3 dL_law_506 rfl rfl ?_
                            refine z_iconst C (v := 1) dL_law_507 rfl ?_
                            refine z_iadd C dL_law_508 ?_
                            obtain ⟨hi139, hf⟩ := ck_el hf
                            refine z_sld C hX hbl hbA hi139 dL_law_509 ?_
                            obtain ⟨r141, m142, hc140, hf⟩ := zb2_el hf
                            refine z_lXi C (c_X6_all _ _ hc140) rfl gLw_X6_all rfl rfl zdX6_all rfl rfl ⟨Nat.le_of_ble_eq_true rfl, Nat.le_of_ble_eq_true rfl⟩ hS0 (Nat.le_of_ble_eq_true rfl) dL_law_510 rfl ?_
                            refine z_pop C dL_law_513 ?_
                            refine z_aload_n C 2 dL_law_514 rfl rfl ?_
                            refine z_aload_n C 0 dL_law_515 rfl rfl ?_
                            refine z_iload_n C 3 dL_law_516 rfl rfl ?_
                            refine z_iconst C (v := 1) dL_law_517 rfl ?_
                            refine z_iadd C dL_law_518 ?_
                            obtain ⟨hi143, hf⟩ := ck_el hf
                            refine z_sld C hX hbl hbA hi143 dL_law_519 ?_
                            obtain ⟨r145, m146, hc144, hf⟩ := zb2_el hf
                            refine z_lMi C (c_X7_all _ _ hc144) rfl gLw_X7_all rfl rfl zdX7_all rfl rfl ⟨Nat.le_of_ble_eq_true rfl, Nat.le_of_ble_eq_true rfl⟩ hS0 (Nat.le_of_ble_eq_true rfl) dL_law_520 rfl ?_
                            refine z_pop C dL_law_523 ?_
                            refine z_goto (tgt := 857) C dL_law_524 (by decide) ?_
                            obtain ⟨x147, e_x147⟩ : ∃ y : Int32, y = i + 6 := ⟨_, rfl⟩
                            replace hf := bn_to e_x147 hf
                            refine z_iinc C (lv2 := [(0, .ref b), (1, .ref ((zw K).2.1 0)), (2, .ref ((zw K).2.1 44)), (3, .int x147)]) 3 [1, 2, 3, 0] dL_law_857 rfl rfl (Nat.le_of_ble_eq_true rfl) e_x147 rfl ?_
                            refine z_goto (tgt := 18) C dL_law_860 (by decide) ?_
                            cases hf
                            exact z_sub [0, 1, 2, 3] rfl (ih _ _ _ hz)
                          · replace hf := if_f c138 hf
                            refine zby (c := ((xs (Int32.toNatClampNeg i)) &&& 31) = 11) (fun c148 => ?_) (fun c148 => ?_)
                            · replace hf := if_t c148 hf
                              refine z_tab (v := 11) (tgt := 527) (off := 494) C c148 dL_law_33 (by decide) (by decide) rfl (by decide) ?_
                              refine z_aload_n C 1 dL_law_527 rfl rfl ?_
                              refine z_aload_n C 0 dL_law_528 rfl rfl ?_
                              refine z_iload_n C 3 dL_law_529 rfl rfl ?_
                              refine z_iconst C (v := 1) dL_law_530 rfl ?_
                              refine z_iadd C dL_law_531 ?_
                              obtain ⟨hi149, hf⟩ := ck_el hf
                              refine z_sld C hX hbl hbA hi149 dL_law_532 ?_
                              refine z_aload_n C 0 dL_law_533 rfl rfl ?_
                              refine z_iload_n C 3 dL_law_534 rfl rfl ?_
                              refine z_iconst C (v := 2) dL_law_535 rfl ?_
                              refine z_iadd C dL_law_536 ?_
                              obtain ⟨hi150, hf⟩ := ck_el hf
                              refine z_sld C hX hbl hbA hi150 dL_law_537 ?_
                              obtain ⟨r152, hc151, hf⟩ := zb_el hf
                              refine z_lXi C (c_X6_wanted _ _ hc151) rfl gLw_X6_wanted rfl rfl zdX6_wanted rfl rfl ⟨Nat.le_of_ble_eq_true rfl, Nat.le_of_ble_eq_true rfl⟩ hS0 (Nat.le_of_ble_eq_true rfl) dL_law_538 rfl ?_
                              refine z_pop C dL_law_541 ?_
                              refine z_aload_n C 2 dL_law_542 rfl rfl ?_
                              refine z_aload_n C 0 dL_law_543 rfl rfl ?_
                              refine z_iload_n C 3 dL_law_544 rfl rfl ?_
                              refine z_iconst C (v := 1) dL_law_545 rfl ?_
                              refine z_iadd C dL_law_546 ?_
                              obtain ⟨hi153, hf⟩ := ck_el hf
                              refine z_sld C hX hbl hbA hi153 dL_law_547 ?_
                              refine z_aload_n C 0 dL_law_548 rfl rfl ?_
                              refine z_iload_n C 3 dL_law_549 rfl rfl ?_
                              refine z_iconst C (v := 2) dL_law_550 rfl ?_
                              refine z_iadd C dL_law_551 ?_
                              obtain ⟨hi154, hf⟩ := ck_el hf
                              refine z_sld C hX hbl hbA hi154 dL_law_552 ?_
                              obtain ⟨r156, hc155, hf⟩ := zb_el hf
                              refine z_lMi C (c_X7_wanted _ _ hc155) rfl gLw_X7_wanted rfl rfl zdX7_wanted rfl rfl ⟨Nat.le_of_ble_eq_true rfl, Nat.le_of_ble_eq_true rfl⟩ hS0 (Nat.le_of_ble_eq_true rfl) dL_law_553 rfl ?_
                              refine z_pop C dL_law_556 ?_
                              refine z_goto (tgt := 857) C dL_law_557 (by decide) ?_
                              obtain ⟨x157, e_x157⟩ : ∃ y : Int32, y = i + 6 := ⟨_, rfl⟩
                              replace hf := bn_to e_x157 hf
                              refine z_iinc C (lv2 := [(0, .ref b), (1, .ref ((zw K).2.1 0)), (2, .ref ((zw K).2.1 44)), (3, .int x157)]) 3 [1, 2, 3, 0] dL_law_857 rfl rfl (Nat.le_of_ble_eq_true rfl) e_x157 rfl ?_
                              refine z_goto (tgt := 18) C dL_law_860 (by decide) ?_
                              cases hf
                              exact z_sub [0, 1, 2, 3] rfl (ih _ _ _ hz)
                            · replace hf := if_f c148 hf
                              refine zby (c := ((xs (Int32.toNatClampNeg i)) &&& 31) = 12) (fun c158 => ?_) (fun c158 => ?_)
                              · replace hf := if_t c158 hf
                                refine z_tab (v := 12) (tgt := 560) (off := 527) C c158 dL_law_33 (by decide) (by decide) rfl (by decide) ?_
                                refine z_aload_n C 1 dL_law_560 rfl rfl ?_
                                refine z_aload_n C 0 dL_law_561 rfl rfl ?_
                                refine z_iload_n C 3 dL_law_562 rfl rfl ?_
                                refine z_iconst C (v := 1) dL_law_563 rfl ?_
                                refine z_iadd C dL_law_564 ?_
                                obtain ⟨hi159, hf⟩ := ck_el hf
                                refine z_sld C hX hbl hbA hi159 dL_law_565 ?_
                                refine z_aload_n C 0 dL_law_566 rfl rfl ?_
                                refine z_iload_n C 3 dL_law_567 rfl rfl ?_
                                refine z_iconst C (v := 2) dL_law_568 rfl ?_
                                refine z_iadd C dL_law_569 ?_
                                obtain ⟨hi160, hf⟩ := ck_el hf
                                refine z_sld C hX hbl hbA hi160 dL_law_570 ?_
                                refine z_aload_n C 0 dL_law_571 rfl rfl ?_
                                refine z_iload_n C 3 dL_law_572 rfl rfl ?_
                                refine z_iconst C (v := 3) dL_law_573 rfl ?_
                                refine z_iadd C dL_law_574 ?_
                                obtain ⟨hi161, hf⟩ := ck_el hf
                                refine z_sld C hX hbl hbA hi161 dL_law_575 ?_
                                obtain ⟨r163, m164, hc162, hf⟩ := zb2_el hf
                                refine z_lXi C (c_X6_dealt _ _ hc162) rfl gLw_X6_dealt rfl rfl zdX6_dealt rfl rfl ⟨Nat.le_of_ble_eq_true rfl, Nat.le_of_ble_eq_true rfl⟩ hS0 (Nat.le_of_ble_eq_true rfl) dL_law_576 rfl ?_
                                refine z_pop C dL_law_579 ?_
                                refine z_aload_n C 2 dL_law_580 rfl rfl ?_
                                refine z_aload_n C 0 dL_law_581 rfl rfl ?_
                                refine z_iload_n C 3 dL_law_582 rfl rfl ?_
                                refine z_iconst C (v := 1) dL_law_583 rfl ?_
                                refine z_iadd C dL_law_584 ?_
                                obtain ⟨hi165, hf⟩ := ck_el hf
                                refine z_sld C hX hbl hbA hi165 dL_law_585 ?_
                                refine z_aload_n C 0 dL_law_586 rfl rfl ?_
                                refine z_iload_n C 3 dL_law_587 rfl rfl ?_
                                refine z_iconst C (v := 2) dL_law_588 rfl ?_
                                refine z_iadd C dL_law_589 ?_
                                obtain ⟨hi166, hf⟩ := ck_el hf
                                refine z_sld C hX hbl hbA hi166 dL_law_590 ?_
                                refine z_aload_n C 0 dL_law_591 rfl rfl ?_
                                refine z_iload_n C 3 dL_law_592 rfl rfl ?_
                                refine z_iconst C (v := 3) dL_law_593 rfl ?_
                                refine z_iadd C dL_law_594 ?_
                                obtain ⟨hi167, hf⟩ := ck_el hf
                                refine z_sld C hX hbl hbA hi167 dL_law_595 ?_
                                obtain ⟨r169, m170, hc168, hf⟩ := zb2_el hf
                                refine z_lMi C (c_X7_dealt _ _ hc168) rfl gLw_X7_dealt rfl rfl zdX7_dealt rfl rfl ⟨Nat.le_of_ble_eq_true rfl, Nat.le_of_ble_eq_true rfl⟩ hS0 (Nat.le_of_ble_eq_true rfl) dL_law_596 rfl ?_
                                refine z_pop C dL_law_599 ?_
                                refine z_goto (tgt := 857) C dL_law_600 (by decide) ?_
                                obtain ⟨x171, e_x171⟩ : ∃ y : Int32, y = i + 6 := ⟨_, rfl⟩
                                replace hf := bn_to e_x171 hf
                                refine z_iinc C (lv2 := [(0, .ref b), (1, .ref ((zw K).2.1 0)), (2, .ref ((zw K).2.1 44)), (3, .int x171)]) 3 [1, 2, 3, 0] dL_law_857 rfl rfl (Nat.le_of_ble_eq_true rfl) e_x171 rfl ?_
                                refine z_goto (tgt := 18) C dL_law_860 (by decide) ?_
                                cases hf
                                exact z_sub [0, 1, 2, 3] rfl (ih _ _ _ hz)
                              · replace hf := if_f c158 hf
                                refine zby (c := ((xs (Int32.toNatClampNeg i)) &&& 31) = 13) (fun c172 => ?_) (fun c172 => ?_)
                                · replace hf := if_t c172 hf
                                  refine z_tab (v := 13) (tgt := 603) (off := 570) C c172 dL_law_33 (by decide) (by decide) rfl (by decide) ?_
                                  refine z_aload_n C 1 dL_law_603 rfl rfl ?_
                                  refine z_aload_n C 0 dL_law_604 rfl rfl ?_
                                  refine z_iload_n C 3 dL_law_605 rfl rfl ?_
                                  refine z_iconst C (v := 1) dL_law_606 rfl ?_
                                  refine z_iadd C dL_law_607 ?_
                                  obtain ⟨hi173, hf⟩ := ck_el hf
                                  refine z_sld C hX hbl hbA hi173 dL_law_608 ?_
                                  refine z_aload_n C 0 dL_law_609 rfl rfl ?_
                                  refine z_iload_n C 3 dL_law_610 rfl rfl ?_
                                  refine z_iconst C (v := 2) dL_law_611 rfl ?_
                                  refine z_iadd C dL_law_612 ?_
                                  obtain ⟨hi174, hf⟩ := ck_el hf
                                  refine z_sld C hX hbl hbA hi174 dL_law_613 ?_
                                  obtain ⟨r176, m177, hc175, hf⟩ := zb2_el hf
                                  refine z_lXi C (c_X6_tooMany _ _ hc175) rfl gLw_X6_tooMany rfl rfl zdX6_tooMany rfl rfl ⟨Nat.le_of_ble_eq_true rfl, Nat.le_of_ble_eq_true rfl⟩ hS0 (Nat.le_of_ble_eq_true rfl) dL_law_614 rfl ?_
                                  refine z_pop C dL_law_617 ?_
                                  refine z_aload_n C 2 dL_law_618 rfl rfl ?_
                                  refine z_aload_n C 0 dL_law_619 rfl rfl ?_
                                  refine z_iload_n C 3 dL_law_620 rfl rfl ?_
                                  refine z_iconst C (v := 1) dL_law_621 rfl ?_
                                  refine z_iadd C dL_law_622 ?_
                                  obtain ⟨hi178, hf⟩ := ck_el hf
                                  refine z_sld C hX hbl hbA hi178 dL_law_623 ?_
                                  refine z_aload_n C 0 dL_law_624 rfl rfl ?_
                                  refine z_iload_n C 3 dL_law_625 rfl rfl ?_
                                  refine z_iconst C (v := 2) dL_law_626 rfl ?_
                                  refine z_iadd C dL_law_627 ?_
                                  obtain ⟨hi179, hf⟩ := ck_el hf
                                  refine z_sld C hX hbl hbA hi179 dL_law_628 ?_
                                  obtain ⟨r181, m182, hc180, hf⟩ := zb2_el hf
                                  refine z_lMi C (c_X7_tooMany _ _ hc180) rfl gLw_X7_tooMany rfl rfl zdX7_tooMany rfl rfl ⟨Nat.le_of_ble_eq_true rfl, Nat.le_of_ble_eq_true rfl⟩ hS0 (Nat.le_of_ble_eq_true rfl) dL_law_629 rfl ?_
                                  refine z_pop C dL_law_632 ?_
                                  refine z_goto (tgt := 857) C dL_law_633 (by decide) ?_
                                  obtain ⟨x183, e_x183⟩ : ∃ y : Int32, y = i + 6 := ⟨_, rfl⟩
                                  replace hf := bn_to e_x183 hf
                                  refine z_iinc C (lv2 := [(0, .ref b), (1, .ref ((zw K).2.1 0)), (2, .ref ((zw K).2.1 44)), (3, .int x183)]) 3 [1, 2, 3, 0] dL_law_857 rfl rfl (Nat.le_of_ble_eq_true rfl) e_x183 rfl ?_
                                  refine z_goto (tgt := 18) C dL_law_860 (by decide) ?_
                                  cases hf
                                  exact z_sub [0, 1, 2, 3] rfl (ih _ _ _ hz)
                                · replace hf := if_f c172 hf
                                  refine zby (c := ((xs (Int32.toNatClampNeg i)) &&& 31) = 14) (fun c184 => ?_) (fun c184 => ?_)
                                  · replace hf := if_t c184 hf
                                    refine z_tab (v := 14) (tgt := 636) (off := 603) C c184 dL_law_33 (by decide) (by decide) rfl (by decide) ?_
                                    refine z_aload_n C 1 dL_law_636 rfl rfl ?_
                                    refine z_aload_n C 0 dL_law_637 rfl rfl ?_
                                    refine z_iload_n C 3 dL_law_638 rfl rfl ?_
                                    refine z_iconst C (v := 1) dL_law_639 rfl ?_
                                    refine z_iadd C dL_law_640 ?_
                                    obtain ⟨hi185, hf⟩ := ck_el hf
                                    refine z_sld C hX hbl hbA hi185 dL_law_641 ?_
                                    refine z_aload_n C 0 dL_law_642 rfl rfl ?_
                                    refine z_iload_n C 3 dL_law_643 rfl rfl ?_
                                    refine z_iconst C (v := 2) dL_law_644 rfl ?_
                                    refine z_iadd C dL_law_645 ?_
                                    obtain ⟨hi186, hf⟩ := ck_el hf
                                    refine z_sld C hX hbl hbA hi186 dL_law_646 ?_
                                    obtain ⟨r188, m189, hc187, hf⟩ := zb2_el hf
                                    refine z_lXi C (c_X6_which _ _ hc187) rfl gLw_X6_which rfl rfl zdX6_which rfl rfl ⟨Nat.le_of_ble_eq_true rfl, Nat.le_of_ble_eq_true rfl⟩ hS0 (Nat.le_of_ble_eq_true rfl) dL_law_647 rfl ?_
                                    refine z_aload_n C 2 dL_law_650 rfl rfl ?_
                                    refine z_aload_n C 0 dL_law_651 rfl rfl ?_
                                    refine z_iload_n C 3 dL_law_652 rfl rfl ?_
                                    refine z_iconst C (v := 1) dL_law_653 rfl ?_
                                    refine z_iadd C dL_law_654 ?_
                                    obtain ⟨hi190, hf⟩ := ck_el hf
                                    refine z_sld C hX hbl hbA hi190 dL_law_655 ?_
                                    refine z_aload_n C 0 dL_law_656 rfl rfl ?_
                                    refine z_iload_n C 3 dL_law_657 rfl rfl ?_
                                    refine z_iconst C (v := 2) dL_law_658 rfl ?_
                                    refine z_iadd C dL_law_659 ?_
                                    obtain ⟨hi191, hf⟩ := ck_el hf
                                    refine z_sld C hX hbl hbA hi191 dL_law_660 ?_
                                    obtain ⟨r193, m194, hc192, hf⟩ := zb2_el hf
                                    refine z_lMi C (c_X7_which _ _ hc192) rfl gLw_X7_which rfl rfl zdX7_which rfl rfl ⟨Nat.le_of_ble_eq_true rfl, Nat.le_of_ble_eq_true rfl⟩ hS0 (Nat.le_of_ble_eq_true rfl) dL_law_661 rfl ?_
                                    refine z_icmp_eq (tgt := 857) C dL_law_664 (by decide) (fun c196 => ?_) (fun c196 => ?_)
                                    · replace hf := if_t c196 hf
                                      obtain ⟨x195, e_x195⟩ : ∃ y : Int32, y = i + 6 := ⟨_, rfl⟩
                                      replace hf := bn_to e_x195 hf
                                      refine z_iinc C (lv2 := [(0, .ref b), (1, .ref ((zw K).2.1 0)), (2, .ref ((zw K).2.1 44)), (3, .int x195)]) 3 [1, 2, 3, 0] dL_law_857 rfl rfl (Nat.le_of_ble_eq_true rfl) e_x195 rfl ?_
                                      refine z_goto (tgt := 18) C dL_law_860 (by decide) ?_
                                      cases hf
                                      exact z_sub [0, 1, 2, 3] rfl (ih _ _ _ hz)
                                    · replace hf := if_f c196 hf
                                      refine z_iconst C (v := 0) dL_law_667 rfl ?_
                                      cases hf
                                      exact absurd (zlz_r hz) (by decide)
                                  · replace hf := if_f c184 hf
                                    refine zby (c := ((xs (Int32.toNatClampNeg i)) &&& 31) = 15) (fun c197 => ?_) (fun c197 => ?_)
                                    · replace hf := if_t c197 hf
                                      refine z_tab (v := 15) (tgt := 669) (off := 636) C c197 dL_law_33 (by decide) (by decide) rfl (by decide) ?_
                                      refine z_aload_n C 1 dL_law_669 rfl rfl ?_
                                      refine z_aload_n C 0 dL_law_670 rfl rfl ?_
                                      refine z_iload_n C 3 dL_law_671 rfl rfl ?_
                                      refine z_iconst C (v := 1) dL_law_672 rfl ?_
                                      refine z_iadd C dL_law_673 ?_
                                      obtain ⟨hi198, hf⟩ := ck_el hf
                                      refine z_sld C hX hbl hbA hi198 dL_law_674 ?_
                                      refine z_aload_n C 0 dL_law_675 rfl rfl ?_
                                      refine z_iload_n C 3 dL_law_676 rfl rfl ?_
                                      refine z_iconst C (v := 2) dL_law_677 rfl ?_
                                      refine z_iadd C dL_law_678 ?_
                                      obtain ⟨hi199, hf⟩ := ck_el hf
                                      refine z_sld C hX hbl hbA hi199 dL_law_679 ?_
                                      obtain ⟨r201, hc200, hf⟩ := zb_el hf
                                      refine z_lXi C (c_X6_depends _ _ hc200) rfl gLw_X6_depends rfl rfl zdX6_depends rfl rfl ⟨Nat.le_of_ble_eq_true rfl, Nat.le_of_ble_eq_true rfl⟩ hS0 (Nat.le_of_ble_eq_true rfl) dL_law_680 rfl ?_
                                      refine z_pop C dL_law_683 ?_
                                      refine z_aload_n C 2 dL_law_684 rfl rfl ?_
                                      refine z_aload_n C 0 dL_law_685 rfl rfl ?_
                                      refine z_iload_n C 3 dL_law_686 rfl rfl ?_
                                      refine z_iconst C (v := 1) dL_law_687 rfl ?_
                                      refine z_iadd C dL_law_688 ?_
                                      obtain ⟨hi202, hf⟩ := ck_el hf
                                      refine z_sld C hX hbl hbA hi202 dL_law_689 ?_
                                      refine z_aload_n C 0 dL_law_690 rfl rfl ?_
                                      refine z_iload_n C 3 dL_law_691 rfl rfl ?_
                                      refine z_iconst C (v := 2) dL_law_692 rfl ?_
                                      refine z_iadd C dL_law_693 ?_
                                      obtain ⟨hi203, hf⟩ := ck_el hf
                                      refine z_sld C hX hbl hbA hi203 dL_law_694 ?_
                                      obtain ⟨r205, m206, hc204, hf⟩ := zb2_el hf
                                      refine z_lMi C (c_X7_depends _ _ hc204) rfl gLw_X7_depends rfl rfl zdX7_depends rfl rfl ⟨Nat.le_of_ble_eq_true rfl, Nat.le_of_ble_eq_true rfl⟩ hS0 (Nat.le_of_ble_eq_true rfl) dL_law_695 rfl ?_
                                      refine z_pop C dL_law_698 ?_
                                      refine z_goto (tgt := 857) C dL_law_699 (by decide) ?_
                                      obtain ⟨x207, e_x207⟩ : ∃ y : Int32, y = i + 6 := ⟨_, rfl⟩
                                      replace hf := bn_to e_x207 hf
                                      refine z_iinc C (lv2 := [(0, .ref b), (1, .ref ((zw K).2.1 0)), (2, .ref ((zw K).2.1 44)), (3, .int x207)]) 3 [1, 2, 3, 0] dL_law_857 rfl rfl (Nat.le_of_ble_eq_true rfl) e_x207 rfl ?_
                                      refine z_goto (tgt := 18) C dL_law_860 (by decide) ?_
                                      cases hf
                                      exact z_sub [0, 1, 2, 3] rfl (ih _ _ _ hz)
                                    · replace hf := if_f c197 hf
                                      refine zby (c := ((xs (Int32.toNatClampNeg i)) &&& 31) = 16) (fun c208 => ?_) (fun c208 => ?_)
                                      · replace hf := if_t c208 hf
                                        refine z_tab (v := 16) (tgt := 702) (off := 669) C c208 dL_law_33 (by decide) (by decide) rfl (by decide) ?_
                                        refine z_aload_n C 1 dL_law_702 rfl rfl ?_
                                        refine z_aload_n C 0 dL_law_703 rfl rfl ?_
                                        refine z_iload_n C 3 dL_law_704 rfl rfl ?_
                                        refine z_iconst C (v := 1) dL_law_705 rfl ?_
                                        refine z_iadd C dL_law_706 ?_
                                        obtain ⟨hi209, hf⟩ := ck_el hf
                                        refine z_sld C hX hbl hbA hi209 dL_law_707 ?_
                                        refine z_aload_n C 0 dL_law_708 rfl rfl ?_
                                        refine z_iload_n C 3 dL_law_709 rfl rfl ?_
                                        refine z_iconst C (v := 2) dL_law_710 rfl ?_
                                        refine z_iadd C dL_law_711 ?_
                                        obtain ⟨hi210, hf⟩ := ck_el hf
                                        refine z_sld C hX hbl hbA hi210 dL_law_712 ?_
                                        refine z_aload_n C 0 dL_law_713 rfl rfl ?_
                                        refine z_iload_n C 3 dL_law_714 rfl rfl ?_
                                        refine z_iconst C (v := 3) dL_law_715 rfl ?_
                                        refine z_iadd C dL_law_716 ?_
                                        obtain ⟨hi211, hf⟩ := ck_el hf
                                        refine z_sld C hX hbl hbA hi211 dL_law_717 ?_
                                        obtain ⟨r213, hc212, hf⟩ := zb_el hf
                                        refine z_lXi C (c_X6_part _ _ hc212) rfl gLw_X6_part rfl rfl zdX6_part rfl rfl ⟨Nat.le_of_ble_eq_true rfl, Nat.le_of_ble_eq_true rfl⟩ hS0 (Nat.le_of_ble_eq_true rfl) dL_law_718 rfl ?_
                                        refine z_pop C dL_law_721 ?_
                                        refine z_aload_n C 2 dL_law_722 rfl rfl ?_
                                        refine z_aload_n C 0 dL_law_723 rfl rfl ?_
                                        refine z_iload_n C 3 dL_law_724 rfl rfl ?_
                                        refine z_iconst C (v := 1) dL_law_725 rfl ?_
                                        refine z_iadd C dL_law_726 ?_
                                        obtain ⟨hi214, hf⟩ := ck_el hf
                                        refine z_sld C hX hbl hbA hi214 dL_law_727 ?_
                                        refine z_aload_n C 0 dL_law_728 rfl rfl ?_
                                        refine z_iload_n C 3 dL_law_729 rfl rfl ?_
                                        refine z_iconst C (v := 2) dL_law_730 rfl ?_
                                        refine z_iadd C dL_law_731 ?_
                                        obtain ⟨hi215, hf⟩ := ck_el hf
                                        refine z_sld C hX hbl hbA hi215 dL_law_732 ?_
                                        refine z_aload_n C 0 dL_law_733 rfl rfl ?_
                                        refine z_iload_n C 3 dL_law_734 rfl rfl ?_
                                        refine z_iconst C (v := 3) dL_law_735 rfl ?_
                                        refine z_iadd C dL_law_736 ?_
                                        obtain ⟨hi216, hf⟩ := ck_el hf
                                        refine z_sld C hX hbl hbA hi216 dL_law_737 ?_
                                        obtain ⟨r218, hc217, hf⟩ := zb_el hf
                                        refine z_lMi C (c_X7_part _ _ hc217) rfl gLw_X7_part rfl rfl zdX7_part rfl rfl ⟨Nat.le_of_ble_eq_true rfl, Nat.le_of_ble_eq_true rfl⟩ hS0 (Nat.le_of_ble_eq_true rfl) dL_law_738 rfl ?_
                                        refine z_pop C dL_law_741 ?_
                                        refine z_goto (tgt := 857) C dL_law_742 (by decide) ?_
                                        obtain ⟨x219, e_x219⟩ : ∃ y : Int32, y = i + 6 := ⟨_, rfl⟩
                                        replace hf := bn_to e_x219 hf
                                        refine z_iinc C (lv2 := [(0, .ref b), (1, .ref ((zw K).2.1 0)), (2, .ref ((zw K).2.1 44)), (3, .int x219)]) 3 [1, 2, 3, 0] dL_law_857 rfl rfl (Nat.le_of_ble_eq_true rfl) e_x219 rfl ?_
                                        refine z_goto (tgt := 18) C dL_law_860 (by decide) ?_
                                        cases hf
                                        exact z_sub [0, 1, 2, 3] rfl (ih _ _ _ hz)
                                      · replace hf := if_f c208 hf
                                        refine zby (c := ((xs (Int32.toNatClampNeg i)) &&& 31) = 17) (fun c220 => ?_) (fun c220 => ?_)
                                        · replace hf := if_t c220 hf
                                          refine z_tab (v := 17) (tgt := 745) (off := 712) C c220 dL_law_33 (by decide) (by decide) rfl (by decide) ?_
                                          refine z_aload_n C 1 dL_law_745 rfl rfl ?_
                                          refine z_aload_n C 0 dL_law_746 rfl rfl ?_
                                          refine z_iload_n C 3 dL_law_747 rfl rfl ?_
                                          refine z_iconst C (v := 1) dL_law_748 rfl ?_
                                          refine z_iadd C dL_law_749 ?_
                                          obtain ⟨hi221, hf⟩ := ck_el hf
                                          refine z_sld C hX hbl hbA hi221 dL_law_750 ?_
                                          refine z_aload_n C 0 dL_law_751 rfl rfl ?_
                                          refine z_iload_n C 3 dL_law_752 rfl rfl ?_
                                          refine z_iconst C (v := 2) dL_law_753 rfl ?_
                                          refine z_iadd C dL_law_754 ?_
                                          obtain ⟨hi222, hf⟩ := ck_el hf
                                          refine z_sld C hX hbl hbA hi222 dL_law_755 ?_
                                          obtain ⟨r224, hc223, hf⟩ := zb_el hf
                                          refine z_lXi C (c_X6_told _ _ hc223) rfl gLw_X6_told rfl rfl zdX6_told rfl rfl ⟨Nat.le_of_ble_eq_true rfl, Nat.le_of_ble_eq_true rfl⟩ hS0 (Nat.le_of_ble_eq_true rfl) dL_law_756 rfl ?_
                                          refine z_pop C dL_law_759 ?_
                                          refine z_aload_n C 2 dL_law_760 rfl rfl ?_
                                          refine z_aload_n C 0 dL_law_761 rfl rfl ?_
                                          refine z_iload_n C 3 dL_law_762 rfl rfl ?_
                                          refine z_iconst C (v := 1) dL_law_763 rfl ?_
                                          refine z_iadd C dL_law_764 ?_
                                          obtain ⟨hi225, hf⟩ := ck_el hf
                                          refine z_sld C hX hbl hbA hi225 dL_law_765 ?_
                                          refine z_aload_n C 0 dL_law_766 rfl rfl ?_
                                          refine z_iload_n C 3 dL_law_767 rfl rfl ?_
                                          refine z_iconst C (v := 2) dL_law_768 rfl ?_
                                          refine z_iadd C dL_law_769 ?_
                                          obtain ⟨hi226, hf⟩ := ck_el hf
                                          refine z_sld C hX hbl hbA hi226 dL_law_770 ?_
                                          obtain ⟨r228, hc227, hf⟩ := zb_el hf
                                          refine z_lMi C (c_X7_told _ _ hc227) rfl gLw_X7_told rfl rfl zdX7_told rfl rfl ⟨Nat.le_of_ble_eq_true rfl, Nat.le_of_ble_eq_true rfl⟩ hS0 (Nat.le_of_ble_eq_true rfl) dL_law_771 rfl ?_
                                          refine z_pop C dL_law_774 ?_
                                          refine z_goto (tgt := 857) C dL_law_775 (by decide) ?_
                                          obtain ⟨x229, e_x229⟩ : ∃ y : Int32, y = i + 6 := ⟨_, rfl⟩
                                          replace hf := bn_to e_x229 hf
                                          refine z_iinc C (lv2 := [(0, .ref b), (1, .ref ((zw K).2.1 0)), (2, .ref ((zw K).2.1 44)), (3, .int x229)]) 3 [1, 2, 3, 0] dL_law_857 rfl rfl (Nat.le_of_ble_eq_true rfl) e_x229 rfl ?_
                                          refine z_goto (tgt := 18) C dL_law_860 (by decide) ?_
                                          cases hf
                                          exact z_sub [0, 1, 2, 3] rfl (ih _ _ _ hz)
                                        · replace hf := if_f c220 hf
                                          refine zby (c := ((xs (Int32.toNatClampNeg i)) &&& 31) = 18) (fun c230 => ?_) (fun c230 => ?_)
                                          · replace hf := if_t c230 hf
                                            refine z_tab (v := 18) (tgt := 778) (off := 745) C c230 dL_law_33 (by decide) (by decide) rfl (by decide) ?_
                                            refine z_aload_n C 1 dL_law_778 rfl rfl ?_
                                            refine z_aload_n C 0 dL_law_779 rfl rfl ?_
                                            refine z_iload_n C 3 dL_law_780 rfl rfl ?_
                                            refine z_iconst C (v := 1) dL_law_781 rfl ?_
                                            refine z_iadd C dL_law_782 ?_
                                            obtain ⟨hi231, hf⟩ := ck_el hf
                                            refine z_sld C hX hbl hbA hi231 dL_law_783 ?_
                                            refine z_aload_n C 0 dL_law_784 rfl rfl ?_
                                            refine z_iload_n C 3 dL_law_785 rfl rfl ?_
                                            refine z_iconst C (v := 2) dL_law_786 rfl ?_
                                            refine z_iadd C dL_law_787 ?_
                                            obtain ⟨hi232, hf⟩ := ck_el hf
                                            refine z_sld C hX hbl hbA hi232 dL_law_788 ?_
                                            refine z_aload_n C 0 dL_law_789 rfl rfl ?_
                                            refine z_iload_n C 3 dL_law_790 rfl rfl ?_
                                            refine z_iconst C (v := 3) dL_law_791 rfl ?_
                                            refine z_iadd C dL_law_792 ?_
                                            obtain ⟨hi233, hf⟩ := ck_el hf
                                            refine z_sld C hX hbl hbA hi233 dL_law_793 ?_
                                            obtain ⟨r235, hc234, hf⟩ := zb_el hf
                                            refine z_lXi C (c_X6_from _ _ hc234) rfl gLw_X6_from rfl rfl zdX6_from rfl rfl ⟨Nat.le_of_ble_eq_true rfl, Nat.le_of_ble_eq_true rfl⟩ hS0 (Nat.le_of_ble_eq_true rfl) dL_law_794 rfl ?_
                                            refine z_pop C dL_law_797 ?_
                                            refine z_aload_n C 2 dL_law_798 rfl rfl ?_
                                            refine z_aload_n C 0 dL_law_799 rfl rfl ?_
                                            refine z_iload_n C 3 dL_law_800 rfl rfl ?_
                                            refine z_iconst C (v := 1) dL_law_801 rfl ?_
                                            refine z_iadd C dL_law_802 ?_
                                            obtain ⟨hi236, hf⟩ := ck_el hf
                                            refine z_sld C hX hbl hbA hi236 dL_law_803 ?_
                                            refine z_aload_n C 0 dL_law_804 rfl rfl ?_
                                            refine z_iload_n C 3 dL_law_805 rfl rfl ?_
                                            refine z_iconst C (v := 2) dL_law_806 rfl ?_
                                            refine z_iadd C dL_law_807 ?_
                                            obtain ⟨hi237, hf⟩ := ck_el hf
                                            refine z_sld C hX hbl hbA hi237 dL_law_808 ?_
                                            refine z_aload_n C 0 dL_law_809 rfl rfl ?_
                                            refine z_iload_n C 3 dL_law_810 rfl rfl ?_
                                            refine z_iconst C (v := 3) dL_law_811 rfl ?_
                                            refine z_iadd C dL_law_812 ?_
                                            obtain ⟨hi238, hf⟩ := ck_el hf
                                            refine z_sld C hX hbl hbA hi238 dL_law_813 ?_
                                            obtain ⟨r240, hc239, hf⟩ := zb_el hf
                                            refine z_lMi C (c_X7_from _ _ hc239) rfl gLw_X7_from rfl rfl zdX7_from rfl rfl ⟨Nat.le_of_ble_eq_true rfl, Nat.le_of_ble_eq_true rfl⟩ hS0 (Nat.le_of_ble_eq_true rfl) dL_law_814 rfl ?_
                                            refine z_pop C dL_law_817 ?_
                                            refine z_goto (tgt := 857) C dL_law_818 (by decide) ?_
                                            obtain ⟨x241, e_x241⟩ : ∃ y : Int32, y = i + 6 := ⟨_, rfl⟩
                                            replace hf := bn_to e_x241 hf
                                            refine z_iinc C (lv2 := [(0, .ref b), (1, .ref ((zw K).2.1 0)), (2, .ref ((zw K).2.1 44)), (3, .int x241)]) 3 [1, 2, 3, 0] dL_law_857 rfl rfl (Nat.le_of_ble_eq_true rfl) e_x241 rfl ?_
                                            refine z_goto (tgt := 18) C dL_law_860 (by decide) ?_
                                            cases hf
                                            exact z_sub [0, 1, 2, 3] rfl (ih _ _ _ hz)
                                          · replace hf := if_f c230 hf
                                            refine zby (c := ((xs (Int32.toNatClampNeg i)) &&& 31) = 19) (fun c242 => ?_) (fun c242 => ?_)
                                            · replace hf := if_t c242 hf
                                              refine z_tab (v := 19) (tgt := 821) (off := 788) C c242 dL_law_33 (by decide) (by decide) rfl (by decide) ?_
                                              refine z_aload_n C 1 dL_law_821 rfl rfl ?_
                                              obtain ⟨r244, m245, hc243, hf⟩ := zb2_el hf
                                              refine z_lXi C (c_X6_reset _ _ hc243) rfl gLw_X6_reset rfl rfl zdX6_reset rfl rfl ⟨Nat.le_of_ble_eq_true rfl, Nat.le_of_ble_eq_true rfl⟩ hS0 (Nat.le_of_ble_eq_true rfl) dL_law_822 rfl ?_
                                              refine z_pop C dL_law_825 ?_
                                              refine z_aload_n C 2 dL_law_826 rfl rfl ?_
                                              obtain ⟨r247, m248, hc246, hf⟩ := zb2_el hf
                                              refine z_lMi C (c_X7_reset _ _ hc246) rfl gLw_X7_reset rfl rfl zdX7_reset rfl rfl ⟨Nat.le_of_ble_eq_true rfl, Nat.le_of_ble_eq_true rfl⟩ hS0 (Nat.le_of_ble_eq_true rfl) dL_law_827 rfl ?_
                                              refine z_pop C dL_law_830 ?_
                                              refine z_goto (tgt := 857) C dL_law_831 (by decide) ?_
                                              obtain ⟨x249, e_x249⟩ : ∃ y : Int32, y = i + 6 := ⟨_, rfl⟩
                                              replace hf := bn_to e_x249 hf
                                              refine z_iinc C (lv2 := [(0, .ref b), (1, .ref ((zw K).2.1 0)), (2, .ref ((zw K).2.1 44)), (3, .int x249)]) 3 [1, 2, 3, 0] dL_law_857 rfl rfl (Nat.le_of_ble_eq_true rfl) e_x249 rfl ?_
                                              refine z_goto (tgt := 18) C dL_law_860 (by decide) ?_
                                              cases hf
                                              exact z_sub [0, 1, 2, 3] rfl (ih _ _ _ hz)
                                            · replace hf := if_f c242 hf
                                              refine zby (c := ((xs (Int32.toNatClampNeg i)) &&& 31) = 20) (fun c250 => ?_) (fun c250 => ?_)
                                              · replace hf := if_t c250 hf
                                                refine z_tab (v := 20) (tgt := 834) (off := 801) C c250 dL_law_33 (by decide) (by decide) rfl (by decide) ?_
                                                refine z_aload_n C 1 dL_law_834 rfl rfl ?_
                                                refine z_aload_n C 0 dL_law_835 rfl rfl ?_
                                                refine z_iload_n C 3 dL_law_836 rfl rfl ?_
                                                refine z_iconst C (v := 1) dL_law_837 rfl ?_
                                                refine z_iadd C dL_law_838 ?_
                                                obtain ⟨hi251, hf⟩ := ck_el hf
                                                refine z_sld C hX hbl hbA hi251 dL_law_839 ?_
                                                obtain ⟨r253, m254, hc252, hf⟩ := zb2_el hf
                                                refine z_lXi C (c_X6_count _ _ hc252) rfl gLw_X6_count rfl rfl zdX6_count rfl rfl ⟨Nat.le_of_ble_eq_true rfl, Nat.le_of_ble_eq_true rfl⟩ hS0 (Nat.le_of_ble_eq_true rfl) dL_law_840 rfl ?_
                                                refine z_pop C dL_law_843 ?_
                                                refine z_aload_n C 2 dL_law_844 rfl rfl ?_
                                                refine z_aload_n C 0 dL_law_845 rfl rfl ?_
                                                refine z_iload_n C 3 dL_law_846 rfl rfl ?_
                                                refine z_iconst C (v := 1) dL_law_847 rfl ?_
                                                refine z_iadd C dL_law_848 ?_
                                                obtain ⟨hi255, hf⟩ := ck_el hf
                                                refine z_sld C hX hbl hbA hi255 dL_law_849 ?_
                                                obtain ⟨r257, m258, hc256, hf⟩ := zb2_el hf
                                                refine z_lMi C (c_X7_count _ _ hc256) rfl gLw_X7_count rfl rfl zdX7_count rfl rfl ⟨Nat.le_of_ble_eq_true rfl, Nat.le_of_ble_eq_true rfl⟩ hS0 (Nat.le_of_ble_eq_true rfl) dL_law_850 rfl ?_
                                                refine z_pop C dL_law_853 ?_
                                                refine z_goto (tgt := 857) C dL_law_854 (by decide) ?_
                                                obtain ⟨x259, e_x259⟩ : ∃ y : Int32, y = i + 6 := ⟨_, rfl⟩
                                                replace hf := bn_to e_x259 hf
                                                refine z_iinc C (lv2 := [(0, .ref b), (1, .ref ((zw K).2.1 0)), (2, .ref ((zw K).2.1 44)), (3, .int x259)]) 3 [1, 2, 3, 0] dL_law_857 rfl rfl (Nat.le_of_ble_eq_true rfl) e_x259 rfl ?_
                                                refine z_goto (tgt := 18) C dL_law_860 (by decide) ?_
                                                cases hf
                                                exact z_sub [0, 1, 2, 3] rfl (ih _ _ _ hz)
                                              · replace hf := if_f c250 hf
                                                refine z_tabd (tgt := 857) C dL_law_33 (ztab_out (n := 21) (Nat.le_of_ble_eq_true rfl) (lt_s (lt_s (lt_s (lt_s (lt_s (lt_s (lt_s (lt_s (lt_s (lt_s (lt_s (lt_s (lt_s (lt_s (lt_s (lt_s (lt_s (lt_s (lt_s (lt_s (lt_s lt_0 c2) c22) c44) c58) c72) c90) c100) c108) c114) c126) c138) c148) c158) c172) c184) c197) c208) c220) c230) c242) c250)) (by decide) ?_
                                                obtain ⟨x260, e_x260⟩ : ∃ y : Int32, y = i + 6 := ⟨_, rfl⟩
                                                replace hf := bn_to e_x260 hf
                                                refine z_iinc C (lv2 := [(0, .ref b), (1, .ref ((zw K).2.1 0)), (2, .ref ((zw K).2.1 44)), (3, .int x260)]) 3 [1, 2, 3, 0] dL_law_857 rfl rfl (Nat.le_of_ble_eq_true rfl) e_x260 rfl ?_
                                                refine z_goto (tgt := 18) C dL_law_860 (by decide) ?_
                                                cases hf
                                                exact z_sub [0, 1, 2, 3] rfl (ih _ _ _ hz)
