def t_law (xs : Nat → Int32) (L : Nat) (i : Int32) (mx mm : Mem) : Option ((Int32 × Mem × Mem) ⊕ Int32) :=
  (if ((nI L) - 6) < i then (some (.inr 1)) else (ck (zin i L = true) ((if ((xs (Int32.toNatClampNeg i)) &&& 31) = 0 then (ck (zin (i + 1) L = true) ((((if (xs (Int32.toNatClampNeg (i + 1))) = 0 then (some 0) else (some 1)) : Option (Int32)).bind fun y4 => ck (zin (i + 2) L = true) (zb2 (s_X6_node mx y4 (xs (Int32.toNatClampNeg (i + 2)))) fun r7 m8 => ck (zin (i + 1) L = true) ((if (xs (Int32.toNatClampNeg (i + 1))) = 0 then (ck (zin (i + 2) L = true) (zb2 (s_X7_node mm 0 (xs (Int32.toNatClampNeg (i + 2)))) fun r12 m13 => bn (i + 6) fun x14 => some (.inl (x14, m8, m13)))) else (ck (zin (i + 2) L = true) (zb2 (s_X7_node mm 1 (xs (Int32.toNatClampNeg (i + 2)))) fun r17 m18 => bn (i + 6) fun x19 => some (.inl (x19, m8, m18)))))))))) else ((if ((xs (Int32.toNatClampNeg i)) &&& 31) = 1 then (ck (zin (i + 1) L = true) (ck (zin (i + 2) L = true) ((((if (xs (Int32.toNatClampNeg (i + 2))) = 0 then (some 0) else (some 1)) : Option (Int32)).bind fun y25 => ck (zin (i + 3) L = true) (zb2 (s_X6_value mx (xs (Int32.toNatClampNeg (i + 1))) y25 (xs (Int32.toNatClampNeg (i + 3)))) fun r28 m29 => ck (zin (i + 1) L = true) (ck (zin (i + 2) L = true) ((((if (xs (Int32.toNatClampNeg (i + 2))) = 0 then (some 0) else (some 1)) : Option (Int32)).bind fun y32 => ck (zin (i + 3) L = true) (zb2 (s_X7_value mm (xs (Int32.toNatClampNeg (i + 1))) y32 (xs (Int32.toNatClampNeg (i + 3)))) fun r35 m36 => (if r28 = r35 then (bn (i + 6) fun x37 => some (.inl (x37, m29, m36))) else (some (.inr 0)))))))))))) else ((if ((xs (Int32.toNatClampNeg i)) &&& 31) = 2 then (ck (zin (i + 1) L = true) (ck (zin (i + 2) L = true) (ck (zin (i + 3) L = true) (zb2 (s_X6_edge mx (xs (Int32.toNatClampNeg (i + 1))) (xs (Int32.toNatClampNeg (i + 2))) (xs (Int32.toNatClampNeg (i + 3)))) fun r46 m47 => ck (zin (i + 1) L = true) (ck (zin (i + 2) L = true) (ck (zin (i + 3) L = true) (zb2 (s_X7_edge mm (xs (Int32.toNatClampNeg (i + 1))) (xs (Int32.toNatClampNeg (i + 2))) (xs (Int32.toNatClampNeg (i + 3)))) fun r52 m53 => bn (i + 6) fun x54 => some (.inl (x54, m47, m53))))))))) else ((if ((xs (Int32.toNatClampNeg i)) &&& 31) = 3 then (ck (zin (i + 1) L = true) (ck (zin (i + 2) L = true) (ck (zin (i + 3) L = true) (zb2 (s_X6_cut mx (xs (Int32.toNatClampNeg (i + 1))) (xs (Int32.toNatClampNeg (i + 2))) (xs (Int32.toNatClampNeg (i + 3)))) fun r60 m61 => ck (zin (i + 1) L = true) (ck (zin (i + 2) L = true) (ck (zin (i + 3) L = true) (zb2 (s_X7_cut mm (xs (Int32.toNatClampNeg (i + 1))) (xs (Int32.toNatClampNeg (i + 2))) (xs (Int32.toNatClampNeg (i + 3)))) fun r66 m67 => bn (i + 6) fun x68 => some (.inl (x68, m61, m67))))))))) else ((if ((xs (Int32.toNatClampNeg i)) &&& 31) = 4 then (ck (zin (i + 1) L = true) (ck (zin (i + 2) L = true) (ck (zin (i + 3) L = true) (ck (zin (i + 4) L = true) (ck (zin (i + 5) L = true) (zb2 (s_X6_feed mx (xs (Int32.toNatClampNeg (i + 1))) (xs (Int32.toNatClampNeg (i + 2))) (xs (Int32.toNatClampNeg (i + 3))) (xs (Int32.toNatClampNeg (i + 4))) (xs (Int32.toNatClampNeg (i + 5)))) fun r76 m77 => ck (zin (i + 1) L = true) (ck (zin (i + 2) L = true) (ck (zin (i + 3) L = true) (ck (zin (i + 4) L = true) (ck (zin (i + 5) L = true) (zb2 (s_X7_feed mm (xs (Int32.toNatClampNeg (i + 1))) (xs (Int32.toNatClampNeg (i + 2))) (xs (Int32.toNatClampNeg (i + 3))) (xs (Int32.toNatClampNeg (i + 4))) (xs (Int32.toNatClampNeg (i + 5)))) fun r84 m85 => bn (i + 6) fun x86 => some (.inl (x86, m77, m85))))))))))))) else ((if ((xs (Int32.toNatClampNeg i)) &&& 31) = 5 then (ck (zin (i + 1) L = true) (zb2 (s_X6_end mx (xs (Int32.toNatClampNeg (i + 1)))) fun r90 m91 => ck (zin (i + 1) L = true) (zb2 (s_X7_end mm (xs (Int32.toNatClampNeg (i + 1)))) fun r94 m95 => bn (i + 6) fun x96 => some (.inl (x96, m91, m95))))) else ((if ((xs (Int32.toNatClampNeg i)) &&& 31) = 6 then (zb2 (s_X6_shapes mx) fun r99 m100 => zb2 (s_X7_shapes mm) fun r102 m103 => bn (i + 6) fun x104 => some (.inl (x104, m100, m103))) else ((if ((xs (Int32.toNatClampNeg i)) &&& 31) = 7 then ((s_X6_fault mx).bind fun r107 => (s_X7_fault mm).bind fun r109 => bn (i + 6) fun x110 => some (.inl (x110, mx, mm))) else ((if ((xs (Int32.toNatClampNeg i)) &&& 31) = 8 then (ck (zin (i + 1) L = true) (ck (zin (i + 2) L = true) (zb2 (s_X6_fits mx (xs (Int32.toNatClampNeg (i + 1))) (xs (Int32.toNatClampNeg (i + 2)))) fun r115 m116 => ck (zin (i + 1) L = true) (ck (zin (i + 2) L = true) (zb2 (s_X7_fits mm (xs (Int32.toNatClampNeg (i + 1))) (xs (Int32.toNatClampNeg (i + 2)))) fun r120 m121 => bn (i + 6) fun x122 => some (.inl (x122, m116, m121))))))) else ((if ((xs (Int32.toNatClampNeg i)) &&& 31) = 9 then (ck (zin (i + 1) L = true) (ck (zin (i + 2) L = true) (zb2 (s_X6_surely mx (xs (Int32.toNatClampNeg (i + 1))) (xs (Int32.toNatClampNeg (i + 2)))) fun r127 m128 => ck (zin (i + 1) L = true) (ck (zin (i + 2) L = true) (zb2 (s_X7_surely mm (xs (Int32.toNatClampNeg (i + 1))) (xs (Int32.toNatClampNeg (i + 2)))) fun r132 m133 => bn (i + 6) fun x134 => some (.inl (x134, m128, m133))))))) else ((if ((xs (Int32.toNatClampNeg i)) &&& 31) = 10 then (ck (zin (i + 1) L = true) (zb2 (s_X6_all mx (xs (Int32.toNatClampNeg (i + 1)))) fun r138 m139 => ck (zin (i + 1) L = true) (zb2 (s_X7_all mm (xs (Int32.toNatClampNeg (i + 1)))) fun r142 m143 => bn (i + 6) fun x144 => some (.inl (x144, m139, m143))))) else ((if ((xs (Int32.toNatClampNeg i)) &&& 31) = 11 then (ck (zin (i + 1) L = true) (ck (zin (i + 2) L = true) ((s_X6_wanted mx (xs (Int32.toNatClampNeg (i + 1))) (xs (Int32.toNatClampNeg (i + 2)))).bind fun r149 => ck (zin (i + 1) L = true) (ck (zin (i + 2) L = true) ((s_X7_wanted mm (xs (Int32.toNatClampNeg (i + 1))) (xs (Int32.toNatClampNeg (i + 2)))).bind fun r153 => bn (i + 6) fun x154 => some (.inl (x154, mx, mm))))))) else ((if ((xs (Int32.toNatClampNeg i)) &&& 31) = 12 then (ck (zin (i + 1) L = true) (ck (zin (i + 2) L = true) (ck (zin (i + 3) L = true) (zb2 (s_X6_dealt mx (xs (Int32.toNatClampNeg (i + 1))) (xs (Int32.toNatClampNeg (i + 2))) (xs (Int32.toNatClampNeg (i + 3)))) fun r160 m161 => ck (zin (i + 1) L = true) (ck (zin (i + 2) L = true) (ck (zin (i + 3) L = true) (zb2 (s_X7_dealt mm (xs (Int32.toNatClampNeg (i + 1))) (xs (Int32.toNatClampNeg (i + 2))) (xs (Int32.toNatClampNeg (i + 3)))) fun r166 m167 => bn (i + 6) fun x168 => some (.inl (x168, m161, m167))))))))) else ((if ((xs (Int32.toNatClampNeg i)) &&& 31) = 13 then (ck (zin (i + 1) L = true) (ck (zin (i + 2) L = true) (zb2 (s_X6_tooMany mx (xs (Int32.toNatClampNeg (i + 1))) (xs (Int32.toNatClampNeg (i + 2)))) fun r173 m174 => ck (zin (i + 1) L = true) (ck (zin (i + 2) L = true) (zb2 (s_X7_tooMany mm (xs (Int32.toNatClampNeg (i + 1))) (xs (Int32.toNatClampNeg (i + 2)))) fun r178 m179 => bn (i + 6) fun x180 => some (.inl (x180, m174, m179))))))) else ((if ((xs (Int32.toNatClampNeg i)) &&& 31) = 14 then (ck (zin (i + 1) L = true) (ck (zin (i + 2) L = true) (zb2 (s_X6_which mx (xs (Int32.toNatClampNeg (i + 1))) (xs (Int32.toNatClampNeg (i + 2)))) fun r185 m186 => ck (zin (i + 1) L = true) (ck (zin (i + 2) L = true) (zb2 (s_X7_which mm (xs (Int32.toNatClampNeg (i + 1))) (xs (Int32.toNatClampNeg (i + 2)))) fun r190 m191 => bn (i + 6) fun x192 => some (.inl (x192, m186, m191))))))) else ((if ((xs (Int32.toNatClampNeg i)) &&& 31) = 15 then (ck (zin (i + 1) L = true) (ck (zin (i + 2) L = true) ((s_X6_depends mx (xs (Int32.toNatClampNeg (i + 1))) (xs (Int32.toNatClampNeg (i + 2)))).bind fun r197 => ck (zin (i + 1) L = true) (ck (zin (i + 2) L = true) (zb2 (s_X7_depends mm (xs (Int32.toNatClampNeg (i + 1))) (xs (Int32.toNatClampNeg (i + 2)))) fun r201 m202 => bn (i + 6) fun x203 => some (.inl (x203, mx, m202))))))) else ((if ((xs (Int32.toNatClampNeg i)) &&& 31) = 16 then (ck (zin (i + 1) L = true) (ck (zin (i + 2) L = true) (ck (zin (i + 3) L = true) ((s_X6_part mx (xs (Int32.toNatClampNeg (i + 1))) (xs (Int32.toNatClampNeg (i + 2))) (xs (Int32.toNatClampNeg (i + 3)))).bind fun r209 => ck (zin (i + 1) L = true) (ck (zin (i + 2) L = true) (ck (zin (i + 3) L = true) ((s_X7_part mm (xs (Int32.toNatClampNeg (i + 1))) (xs (Int32.toNatClampNeg (i + 2))) (xs (Int32.toNatClampNeg (i + 3)))).bind fun r214 => bn (i + 6) fun x215 => some (.inl (x215, mx, mm))))))))) else ((if ((xs (Int32.toNatClampNeg i)) &&& 31) = 17 then (ck (zin (i + 1) L = true) (ck (zin (i + 2) L = true) ((s_X6_told mx (xs (Int32.toNatClampNeg (i + 1))) (xs (Int32.toNatClampNeg (i + 2)))).bind fun r220 => ck (zin (i + 1) L = true) (ck (zin (i + 2) L = true) ((s_X7_told mm (xs (Int32.toNatClampNeg (i + 1))) (xs (Int32.toNatClampNeg (i + 2)))).bind fun r224 => bn (i + 6) fun x225 => some (.inl (x225, mx, mm))))))) else ((if ((xs (Int32.toNatClampNeg i)) &&& 31) = 18 then (ck (zin (i + 1) L = true) (ck (zin (i + 2) L = true) (ck (zin (i + 3) L = true) ((s_X6_from mx (xs (Int32.toNatClampNeg (i + 1))) (xs (Int32.toNatClampNeg (i + 2))) (xs (Int32.toNatClampNeg (i + 3)))).bind fun r231 => ck (zin (i + 1) L = true) (ck (zin (i + 2) L = true) (ck (zin (i + 3) L = true) ((s_X7_from mm (xs (Int32.toNatClampNeg (i + 1))) (xs (Int32.toNatClampNeg (i + 2))) (xs (Int32.toNatClampNeg (i + 3)))).bind fun r236 => bn (i + 6) fun x237 => some (.inl (x237, mx, mm))))))))) else ((if ((xs (Int32.toNatClampNeg i)) &&& 31) = 19 then (zb2 (s_X6_reset mx) fun r240 m241 => zb2 (s_X7_reset mm) fun r243 m244 => bn (i + 6) fun x245 => some (.inl (x245, m241, m244))) else ((if ((xs (Int32.toNatClampNeg i)) &&& 31) = 20 then (ck (zin (i + 1) L = true) (zb2 (s_X6_count mx (xs (Int32.toNatClampNeg (i + 1)))) fun r249 m250 => ck (zin (i + 1) L = true) (zb2 (s_X7_count mm (xs (Int32.toNatClampNeg (i + 1)))) fun r253 m254 => bn (i + 6) fun x255 => some (.inl (x255, m250, m254))))) else (bn (i + 6) fun x256 => some (.inl (x256, mx, mm)))))))))))))))))))))))))))))))))))))))))))))))
def l_law (xs : Nat → Int32) (L n : Nat) (i : Int32) (mx mm : Mem) : Option Int32 := zlp n (fun a => t_law xs L a.1 a.2.1 a.2.2) (i, mx, mm)
set_option maxRecDepth 100000 in
set_option maxHeartbeats 8000000 in
theorem w_law {K : ZK} (C : zOK ML K cL_law 4 ret RL lw_tbl room_1) {b L : Nat} {xs : Nat → Int32} (hX : va_X b L xs K.1.2.2.2.2 K.1.2.2.2.2.heap) (hbl : b < K.1.2.2.2.2.heap.size) (hbA : ¬ (zw K).2.2.2 b) (hS0 : ∀ q, (zw K).2.2.2 q → K.1.2.2.2.2.heap.size ≤ q) (hret : ∀ (σ : Mem) (lv : List (Nat × Value)) (pc : Nat), decode cL_law pc = .ok (.ireturn, 1) → zGo ML K σ lv pc [.int 1]) : ∀ (n : Nat) (i : Int32) (mx mm : Mem), l_law xs L n i mx mm = some 1 → zGo ML K (jn mx mm) [(0, .ref b), (1, .ref ((zw K).2.1 0)), (2, .ref ((zw K).2.1 44)), (3, .int i)] 18 [] := by
  intro n
  induction n with
  | zero =>
    intro i mx mm hf
    cases hf
  | succ n ih =>
    intro i mx mm hf
    obtain ⟨z, hf, hz⟩ := zlp_el hf
    replace hf : t_law xs L i mx mm = some z := hf
    unfold t_law at hf
    refine z_iload_n C 3 dL_law_18 rfl rfl ?_
    refine z_aload_n C 0 dL_law_19 rfl rfl ?_
    refine z_slen C hX hbl hbA dL_law_20 ?_
    refine z_bipush C (v := 6) dL_law_21 rfl ?_
    refine z_isub C dL_law_23 ?_
    refine z_icmp_gt (tgt := 863) C dL_law_24 (by decide) (fun c257 => ?_) (fun c257 => ?_)
    · replace hf := if_t c257 hf
      refine z_iconst C (v := 1) dL_law_863 rfl ?_
      exact hret _ _ _ dL_law_864
    · replace hf := if_f c257 hf
      refine z_aload_n C 0 dL_law_27 rfl rfl ?_
      refine z_iload_n C 3 dL_law_28 rfl rfl ?_
      obtain ⟨hi1, hf⟩ := ck_el hf
      refine z_sld C hX hbl hbA hi1 dL_law_29 ?_
      refine z_bipush C (v := 31) dL_law_30 rfl ?_
      refine z_iand C dL_law_32 ?_
      refine zby (c := ((xs (Int32.toNatClampNeg i)) &&& 31) = 0) (fun c2 => ?_) (fun c2 => ?_)
      · replace hf := if_t c2 hf
        refine z_tab (v := 0) (tgt := 132) (off := 99) C c2 dL_law_33 (by decide) (by decide) rfl (by decide) ?_
        refine z_aload_n C 1 dL_law_132 rfl rfl ?_
        refine z_aload_n C 0 dL_law_133 rfl rfl ?_
        refine z_iload_n C 3 dL_law_134 rfl rfl ?_
        refine z_iconst C (v := 1) dL_law_135 rfl ?_
        refine z_iadd C dL_law_136 ?_
        obtain ⟨hi3, hf⟩ := ck_el hf
        refine z_sld C hX hbl hbA hi3 dL_law_137 ?_
        obtain ⟨y4, hg, hf⟩ := zb_el hf
        have hj : zGo ML K (jn mx mm) [(0, .ref b), (1, .ref ((zw K).2.1 0)), (2, .ref ((zw K).2.1 44)), (3, .int i)] 146 [.int y4, .ref ((zw K).2.1 0)] := by
          refine z_aload_n C 0 dL_law_146 rfl rfl ?_
          refine z_iload_n C 3 dL_law_147 rfl rfl ?_
          refine z_iconst C (v := 2) dL_law_148 rfl ?_
          refine z_iadd C dL_law_149 ?_
          obtain ⟨hi5, hf⟩ := ck_el hf
          refine z_sld C hX hbl hbA hi5 dL_law_150 ?_
          obtain ⟨r7, m8, hc6, hf⟩ := zb2_el hf
          refine z_lXi C (c_X6_node _ _ hc6) rfl gLw_X6_node rfl rfl zdX6_node rfl rfl ⟨Nat.le_of_ble_eq_true rfl, Nat.le_of_ble_eq_true rfl⟩ hS0 (Nat.le_of_ble_eq_true rfl) dL_law_151 rfl ?_
          refine z_pop C dL_law_154 ?_
          refine z_aload_n C 2 dL_law_155 rfl rfl ?_
          refine z_aload_n C 0 dL_law_156 rfl rfl ?_
          refine z_iload_n C 3 dL_law_157 rfl rfl ?_
          refine z_iconst C (v := 1) dL_law_158 rfl ?_
          refine z_iadd C dL_law_159 ?_
          obtain ⟨hi9, hf⟩ := ck_el hf
          refine z_sld C hX hbl hbA hi9 dL_law_160 ?_
          refine z_if_eq (tgt := 168) C dL_law_161 (by decide) (fun c20 => ?_) (fun c20 => ?_)
          · replace hf := if_t c20 hf
            refine z_iconst C (v := 0) dL_law_168 rfl ?_
            refine z_aload_n C 0 dL_law_169 rfl rfl ?_
            refine z_iload_n C 3 dL_law_170 rfl rfl ?_
            refine z_iconst C (v := 2) dL_law_171 rfl ?_
            refine z_iadd C dL_law_172 ?_
            obtain ⟨hi10, hf⟩ := ck_el hf
            refine z_sld C hX hbl hbA hi10 dL_law_173 ?_
            obtain ⟨r12, m13, hc11, hf⟩ := zb2_el hf
            refine z_lMi C (c_X7_node _ _ hc11) rfl gLw_X7_node rfl rfl zdX7_node rfl rfl ⟨Nat.le_of_ble_eq_true rfl, Nat.le_of_ble_eq_true rfl⟩ hS0 (Nat.le_of_ble_eq_true rfl) dL_law_174 rfl ?_
            refine z_pop C dL_law_177 ?_
            refine z_goto (tgt := 857) C dL_law_178 (by decide) ?_
            obtain ⟨x14, e_x14⟩ : ∃ y : Int32, y = i + 6 := ⟨_, rfl⟩
            replace hf := bn_to e_x14 hf
            refine z_iinc C (lv2 := [(0, .ref b), (1, .ref ((zw K).2.1 0)), (2, .ref ((zw K).2.1 44)), (3, .int x14)]) 3 [1, 2, 3, 0] dL_law_857 rfl rfl (Nat.le_of_ble_eq_true rfl) e_x14 rfl ?_
            refine z_goto (tgt := 18) C dL_law_860 (by decide) ?_
            cases hf
            exact z_sub [0, 1, 2, 3] rfl (ih _ _ _ hz)
          · replace hf := if_f c20 hf
            refine z_iconst C (v := 1) dL_law_164 rfl ?_
            refine z_goto (tgt := 169) C dL_law_165 (by decide) ?_
            refine z_aload_n C 0 dL_law_169 rfl rfl ?_
            refine z_iload_n C 3 dL_law_170 rfl rfl ?_
            refine z_iconst C (v := 2) dL_law_171 rfl ?_
            refine z_iadd C dL_law_172 ?_
            obtain ⟨hi15, hf⟩ := ck_el hf
            refine z_sld C hX hbl hbA hi15 dL_law_173 ?_
            obtain ⟨r17, m18, hc16, hf⟩ := zb2_el hf
            refine z_lMi C (c_X7_node _ _ hc16) rfl gLw_X7_node rfl rfl zdX7_node rfl rfl ⟨Nat.le_of_ble_eq_true rfl, Nat.le_of_ble_eq_true rfl⟩ hS0 (Nat.le_of_ble_eq_true rfl) dL_law_174 rfl ?_
            refine z_pop C dL_law_177 ?_
            refine z_goto (tgt := 857) C dL_law_178 (by decide) ?_
            obtain ⟨x19, e_x19⟩ : ∃ y : Int32, y = i + 6 := ⟨_, rfl⟩
            replace hf := bn_to e_x19 hf
            refine z_iinc C (lv2 := [(0, .ref b), (1, .ref ((zw K).2.1 0)), (2, .ref ((zw K).2.1 44)), (3, .int x19)]) 3 [1, 2, 3, 0] dL_law_857 rfl rfl (Nat.le_of_ble_eq_true rfl) e_x19 rfl ?_
            refine z_goto (tgt := 18) C dL_law_860 (by decide) ?_
            cases hf
            exact z_sub [0, 1, 2, 3] rfl (ih _ _ _ hz)
        replace hf := hg
        clear hg
        refine z_if_eq (tgt := 145) C dL_law_138 (by decide) (fun c21 => ?_) (fun c21 => ?_)
        · replace hf := if_t c21 hf
          refine z_iconst C (v := 0) dL_law_145 rfl ?_
          cases hf
          exact z_sub [0, 1, 2, 3] rfl hj
        · replace hf := if_f c21 hf
          refine z_iconst C (v := 1) dL_law_141 rfl ?_
          refine z_goto (tgt := 146) C dL_law_142 (by decide) ?_
          cases hf
          exact z_sub [0, 1, 2, 3] rfl hj
      · replace hf := if_f c2 hf
        refine zby (c := ((xs (Int32.toNatClampNeg i)) &&& 31) = 1) (fun c22 => ?_) (fun c22 => ?_)
        · replace hf := if_t c22 hf
          refine z_tab (v := 1) (tgt := 181) (off := 148) C c22 dL_law_33 (by decide) (by decide) rfl (by decide) ?_
          refine z_aload_n C 1 dL_law_181 rfl rfl ?_
          refine z_aload_n C 0 dL_law_182 rfl rfl ?_
          refine z_iload_n C 3 dL_law_183 rfl rfl ?_
          refine z_iconst C (v := 1) dL_law_184 rfl ?_
          refine z_iadd C dL_law_185 ?_
          obtain ⟨hi23, hf⟩ := ck_el hf
          refine z_sld C hX hbl hbA hi23 dL_law_186 ?_
          refine z_aload_n C 0 dL_law_187 rfl rfl ?_
          refine z_iload_n C 3 dL_law_188 rfl rfl ?_
          refine z_iconst C (v := 2) dL_law_189 rfl ?_
          refine z_iadd C dL_law_190 ?_
          obtain ⟨hi24, hf⟩ := ck_el hf
          refine z_sld C hX hbl hbA hi24 dL_law_191 ?_
          obtain ⟨y25, hg, hf⟩ := zb_el hf
          have hj : zGo ML K (jn mx mm) [(0, .ref b), (1, .ref ((zw K).2.1 0)), (2, .ref ((zw K).2.1 44)), (3, .int i)] 200 [.int y25, .int (xs (Int32.toNatClampNeg (i + 1))), .ref ((zw K).2.1 0)] := by
            refine z_aload_n C 0 dL_law_200 rfl rfl ?_
            refine z_iload_n C 3 dL_law_201 rfl rfl ?_
            refine z_iconst C (v := 3) dL_law_202 rfl ?_
            refine z_iadd C dL_law_203 ?_
            obtain ⟨hi26, hf⟩ := ck_el hf
            refine z_sld C hX hbl hbA hi26 dL_law_204 ?_
            obtain ⟨r28, m29, hc27, hf⟩ := zb2_el hf
            refine z_lXi C (c_X6_value _ _ hc27) rfl gLw_X6_value rfl rfl zdX6_value rfl rfl ⟨Nat.le_of_ble_eq_true rfl, Nat.le_of_ble_eq_true rfl⟩ hS0 (Nat.le_of_ble_eq_true rfl) dL_law_205 rfl ?_
            refine z_aload_n C 2 dL_law_208 rfl rfl ?_
            refine z_aload_n C 0 dL_law_209 rfl rfl ?_
            refine z_iload_n C 3 dL_law_210 rfl rfl ?_
            refine z_iconst C (v := 1) dL_law_211 rfl ?_
            refine z_iadd C dL_law_212 ?_
            obtain ⟨hi30, hf⟩ := ck_el hf
            refine z_sld C hX hbl hbA hi30 dL_law_213 ?_
            refine z_aload_n C 0 dL_law_214 rfl rfl ?_
            refine z_iload_n C 3 dL_law_215 rfl rfl ?_
            refine z_iconst C (v := 2) dL_law_216 rfl ?_
            refine z_iadd C dL_law_217 ?_
            obtain ⟨hi31, hf⟩ := ck_el hf
            refine z_sld C hX hbl hbA hi31 dL_law_218 ?_
            obtain ⟨y32, hg, hf⟩ := zb_el hf
            have hj : zGo ML K (jn m29 mm) [(0, .ref b), (1, .ref ((zw K).2.1 0)), (2, .ref ((zw K).2.1 44)), (3, .int i)] 227 [.int y32, .int (xs (Int32.toNatClampNeg (i + 1))), .ref ((zw K).2.1 44), .int r28] := by
              refine z_aload_n C 0 dL_law_227 rfl rfl ?_
              refine z_iload_n C 3 dL_law_228 rfl rfl ?_
              refine z_iconst C (v := 3) dL_law_229 rfl ?_
              refine z_iadd C dL_law_230 ?_
              obtain ⟨hi33, hf⟩ := ck_el hf
              refine z_sld C hX hbl hbA hi33 dL_law_231 ?_
              obtain ⟨r35, m36, hc34, hf⟩ := zb2_el hf
              refine z_lMi C (c_X7_value _ _ hc34) rfl gLw_X7_value rfl rfl zdX7_value rfl rfl ⟨Nat.le_of_ble_eq_true rfl, Nat.le_of_ble_eq_true rfl⟩ hS0 (Nat.le_of_ble_eq_true rfl) dL_law_232 rfl ?_
              refine z_icmp_eq (tgt := 857) C dL_law_235 (by decide) (fun c38 => ?_) (fun c38 => ?_)
              · replace hf := if_t c38 hf
                obtain ⟨x37, e_x37⟩ : ∃ y : Int32, y = i + 6 := ⟨_, rfl⟩
                replace hf := bn_to e_x37 hf
                refine z_iinc C (lv2 := [(0, .ref b), (1, .ref ((zw K).2.1 0)), (2, .ref ((zw K).2.1 44)), (3, .int x37)]) 3 [1, 2, 3, 0] dL_law_857 rfl rfl (Nat.le_of_ble_eq_true rfl) e_x37 rfl ?_
                refine z_goto (tgt := 18) C dL_law_860 (by decide) ?_
                cases hf
                exact z_sub [0, 1, 2, 3] rfl (ih _ _ _ hz)
              · replace hf := if_f c38 hf
                refine z_iconst C (v := 0) dL_law_238 rfl ?_
                cases hf
                exact absurd (zlz_r hz) (by decide)
            replace hf := hg
            clear hg
            refine z_if_eq (tgt := 226) C dL_law_219 (by decide) (fun c39 => ?_) (fun c39 => ?_)
            · replace hf := if_t c39 hf
              refine z_iconst C (v := 0) dL_law_226 rfl ?_
              cases hf
              exact z_sub [0, 1, 2, 3] rfl hj
            · replace hf := if_f c39 hf
              refine z_iconst C (v := 1) dL_law_222 rfl ?_
              refine z_goto (tgt := 227) C dL_law_223 (by decide) ?_
              cases hf
              exact z_sub [0, 1, 2, 3] rfl hj
          replace hf := hg
          clear hg
          refine z_if_eq (tgt := 199) C dL_law_192 (by decide) (fun c40 => ?_) (fun c40 => ?_)
          · replace hf := if_t c40 hf
            refine z_iconst C (v := 0) dL_law_199 rfl ?_
            cases hf
            exact z_sub [0, 1, 2, 3] rfl hj
          · replace hf := if_f c40 hf
            refine z_iconst C (v := 1) dL_law_195 rfl ?_
            refine z_goto (tgt := 200) C dL_law_196 (by decide) ?_
            cases hf
            exact z_sub [0, 1, 2, 3] rfl hj
        · replace hf := if_f c22 hf
          refine zby (c := ((xs (Int32.toNatClampNeg i)) &&& 31) = 2) (fun c41 => ?_) (fun c41 => ?_)
          · replace hf := if_t c41 hf
            refine z_tab (v := 2) (tgt := 240) (off := 207) C c41 dL_law_33 (by decide) (by decide) rfl (by decide) ?_
            refine z_aload_n C 1 dL_law_240 rfl rfl ?_
            refine z_aload_n C 0 dL_law_241 rfl rfl ?_
            refine z_iload_n C 3 dL_law_242 rfl rfl ?_
            refine z_iconst C (v := 1) dL_law_243 rfl ?_
            refine z_iadd C dL_law_244 ?_
            obtain ⟨hi42, hf⟩ := ck_el hf
            refine z_sld C hX hbl hbA hi42 dL_law_245 ?_
            refine z_aload_n C 0 dL_law_246 rfl rfl ?_
            refine z_iload_n C 3 dL_law_247 rfl rfl ?_
            refine z_iconst C (v := 2) dL_law_248 rfl ?_
            refine z_iadd C dL_law_249 ?_
            obtain ⟨hi43, hf⟩ := ck_el hf
            refine z_sld C hX hbl hbA hi43 dL_law_250 ?_
            refine z_aload_n C 0 dL_law_251 rfl rfl ?_
            refine z_iload_n C 3 dL_law_252 rfl rfl ?_
            refine z_iconst C (v := 3) dL_law_253 rfl ?_
            refine z_iadd C dL_law_254 ?_
            obtain ⟨hi44, hf⟩ := ck_el hf
            refine z_sld C hX hbl hbA hi44 dL_law_255 ?_
            obtain ⟨r46, m47, hc45, hf⟩ := zb2_el hf
            refine z_lXi C (c_X6_edge _ _ hc45) rfl gLw_X6_edge rfl rfl zdX6_edge rfl rfl ⟨Nat.le_of_ble_eq_true rfl, Nat.le_of_ble_eq_true rfl⟩ hS0 (Nat.le_of_ble_eq_true rfl) dL_law_256 rfl ?_
            refine z_pop C dL_law_259 ?_
            refine z_aload_n C 2 dL_law_260 rfl rfl ?_
            refine z_aload_n C 0 dL_law_261 rfl rfl ?_
            refine z_iload_n C 3 dL_law_262 rfl rfl ?_
            refine z_iconst C (v := 1) dL_law_263 rfl ?_
            refine z_iadd C dL_law_264 ?_
            obtain ⟨hi48, hf⟩ := ck_el hf
            refine z_sld C hX hbl hbA hi48 dL_law_265 ?_
            refine z_aload_n C 0 dL_law_266 rfl rfl ?_
            refine z_iload_n C 3 dL_law_267 rfl rfl ?_
            refine z_iconst C (v := 2) dL_law_268 rfl ?_
            refine z_iadd C dL_law_269 ?_
            obtain ⟨hi49, hf⟩ := ck_el hf
            refine z_sld C hX hbl hbA hi49 dL_law_270 ?_
            refine z_aload_n C 0 dL_law_271 rfl rfl ?_
            refine z_iload_n C 3 dL_law_272 rfl rfl ?_
            refine z_iconst C (v := 3) dL_law_273 rfl ?_
            refine z_iadd C dL_law_274 ?_
            obtain ⟨hi50, hf⟩ := ck_el hf
            refine z_sld C hX hbl hbA hi50 dL_law_275 ?_
            obtain ⟨r52, m53, hc51, hf⟩ := zb2_el hf
            refine z_lMi C (c_X7_edge _ _ hc51) rfl gLw_X7_edge rfl rfl zdX7_edge rfl rfl ⟨Nat.le_of_ble_eq_true rfl, Nat.le_of_ble_eq_true rfl⟩ hS0 (Nat.le_of_ble_eq_true rfl) dL_law_276 rfl ?_
            refine z_pop C dL_law_279 ?_
            refine z_goto (tgt := 857) C dL_law_280 (by decide) ?_
            obtain ⟨x54, e_x54⟩ : ∃ y : Int32, y = i + 6 := ⟨_, rfl⟩
            replace hf := bn_to e_x54 hf
            refine z_iinc C (lv2 := [(0, .ref b), (1, .ref ((zw K).2.1 0)), (2, .ref ((zw K).2.1 44)), (3, .int x54)]) 3 [1, 2, 3, 0] dL_law_857 rfl rfl (Nat.le_of_ble_eq_true rfl) e_x54 rfl ?_
            refine z_goto (tgt := 18) C dL_law_860 (by decide) ?_
            cases hf
            exact z_sub [0, 1, 2, 3] rfl (ih _ _ _ hz)
          · replace hf := if_f c41 hf
            refine zby (c := ((xs (Int32.toNatClampNeg i)) &&& 31) = 3) (fun c55 => ?_) (fun c55 => ?_)
            · replace hf := if_t c55 hf
              refine z_tab (v := 3) (tgt := 283) (off := 250) C c55 dL_law_33 (by decide) (by decide) rfl (by decide) ?_
              refine z_aload_n C 1 dL_law_283 rfl rfl ?_
              refine z_aload_n C 0 dL_law_284 rfl rfl ?_
              refine z_iload_n C 3 dL_law_285 rfl rfl ?_
              refine z_iconst C (v := 1) dL_law_286 rfl ?_
              refine z_iadd C dL_law_287 ?_
              obtain ⟨hi56, hf⟩ := ck_el hf
              refine z_sld C hX hbl hbA hi56 dL_law_288 ?_
              refine z_aload_n C 0 dL_law_289 rfl rfl ?_
              refine z_iload_n C 3 dL_law_290 rfl rfl ?_
              refine z_iconst C (v := 2) dL_law_291 rfl ?_
              refine z_iadd C dL_law_292 ?_
              obtain ⟨hi57, hf⟩ := ck_el hf
              refine z_sld C hX hbl hbA hi57 dL_law_293 ?_
              refine z_aload_n C 0 dL_law_294 rfl rfl ?_
              refine z_iload_n C 3 dL_law_295 rfl rfl ?_
              refine z_iconst C (v := 3) dL_law_296 rfl ?_
              refine z_iadd C dL_law_297 ?_
              obtain ⟨hi58, hf⟩ := ck_el hf
              refine z_sld C hX hbl hbA hi58 dL_law_298 ?_
              obtain ⟨r60, m61, hc59, hf⟩ := zb2_el hf
              refine z_lXi C (c_X6_cut _ _ hc59) rfl gLw_X6_cut rfl rfl zdX6_cut rfl rfl ⟨Nat.le_of_ble_eq_true rfl, Nat.le_of_ble_eq_true rfl⟩ hS0 (Nat.le_of_ble_eq_true rfl) dL_law_299 rfl ?_
              refine z_pop C dL_law_302 ?_
              refine z_aload_n C 2 dL_law_303 rfl rfl ?_
              refine z_aload_n C 0 dL_law_304 rfl rfl ?_
              refine z_iload_n C 3 dL_law_305 rfl rfl ?_
              refine z_iconst C (v := 1) dL_law_306 rfl ?_
              refine z_iadd C dL_law_307 ?_
              obtain ⟨hi62, hf⟩ := ck_el hf
              refine z_sld C hX hbl hbA hi62 dL_law_308 ?_
              refine z_aload_n C 0 dL_law_309 rfl rfl ?_
              refine z_iload_n C 3 dL_law_310 rfl rfl ?_
              refine z_iconst C (v := 2) dL_law_311 rfl ?_
              refine z_iadd C dL_law_312 ?_
              obtain ⟨hi63, hf⟩ := ck_el hf
              refine z_sld C hX hbl hbA hi63 dL_law_313 ?_
              refine z_aload_n C 0 dL_law_314 rfl rfl ?_
              refine z_iload_n C 3 dL_law_315 rfl rfl ?_
              refine z_iconst C (v := 3) dL_law_316 rfl ?_
              refine z_iadd C dL_law_317 ?_
              obtain ⟨hi64, hf⟩ := ck_el hf
              refine z_sld C hX hbl hbA hi64 dL_law_318 ?_
              obtain ⟨r66, m67, hc65, hf⟩ := zb2_el hf
              refine z_lMi C (c_X7_cut _ _ hc65) rfl gLw_X7_cut rfl rfl zdX7_cut rfl rfl ⟨Nat.le_of_ble_eq_true rfl, Nat.le_of_ble_eq_true rfl⟩ hS0 (Nat.le_of_ble_eq_true rfl) dL_law_319 rfl ?_
              refine z_pop C dL_law_322 ?_
              refine z_goto (tgt := 857) C dL_law_323 (by decide) ?_
              obtain ⟨x68, e_x68⟩ : ∃ y : Int32, y = i + 6 := ⟨_, rfl⟩
              replace hf := bn_to e_x68 hf
              refine z_iinc C (lv2 := [(0, .ref b), (1, .ref ((zw K).2.1 0)), (2, .ref ((zw K).2.1 44)), (3, .int x68)]) 3 [1, 2, 3, 0] dL_law_857 rfl rfl (Nat.le_of_ble_eq_true rfl) e_x68 rfl ?_
              refine z_goto (tgt := 18) C dL_law_860 (by decide) ?_
              cases hf
              exact z_sub [0, 1, 2, 3] rfl (ih _ _ _ hz)
            · replace hf := if_f c55 hf
              refine zby (c := ((xs (Int32.toNatClampNeg i)) &&& 31) = 4) (fun c69 => ?_) (fun c69 => ?_)
              · replace hf := if_t c69 hf
                refine z_tab (v := 4) (tgt := 326) (off := 293) C c69 dL_law_33 (by decide) (by decide) rfl (by decide) ?_
                refine z_aload_n C 1 dL_law_326 rfl rfl ?_
                refine z_aload_n C 0 dL_law_327 rfl rfl ?_
                refine z_iload_n C 3 dL_law_328 rfl rfl ?_
                refine z_iconst C (v := 1) dL_law_329 rfl ?_
                refine z_iadd C dL_law_330 ?_
                obtain ⟨hi70, hf⟩ := ck_el hf
                refine z_sld C hX hbl hbA hi70 dL_law_331 ?_
                refine z_aload_n C 0 dL_law_332 rfl rfl ?_
                refine z_iload_n C 3 dL_law_333 rfl rfl ?_
                refine z_iconst C (v := 2) dL_law_334 rfl ?_
                refine z_iadd C dL_law_335 ?_
                obtain ⟨hi71, hf⟩ := ck_el hf
                refine z_sld C hX hbl hbA hi71 dL_law_336 ?_
                refine z_aload_n C 0 dL_law_337 rfl rfl ?_
                refine z_iload_n C 3 dL_law_338 rfl rfl ?_
                refine z_iconst C (v := 3) dL_law_339 rfl ?_
                refine z_iadd C dL_law_340 ?_
                obtain ⟨hi72, hf⟩ := ck_el hf
                refine z_sld C hX hbl hbA hi72 dL_law_341 ?_
                refine z_aload_n C 0 dL_law_342 rfl rfl ?_
                refine z_iload_n C 3 dL_law_343 rfl rfl ?_
                refine z_iconst C (v := 4) dL_law_344 rfl ?_
                refine z_iadd C dL_law_345 ?_
                obtain ⟨hi73, hf⟩ := ck_el hf
                refine z_sld C hX hbl hbA hi73 dL_law_346 ?_
                refine z_aload_n C 0 dL_law_347 rfl rfl ?_
                refine z_iload_n C 3 dL_law_348 rfl rfl ?_
                refine z_iconst C (v := 5) dL_law_349 rfl ?_
                refine z_iadd C dL_law_350 ?_
                obtain ⟨hi74, hf⟩ := ck_el hf
                refine z_sld C hX hbl hbA hi74 dL_law_351 ?_
                obtain ⟨r76, m77, hc75, hf⟩ := zb2_el hf
                refine z_lXi C (c_X6_feed _ _ hc75) rfl gLw_X6_feed rfl rfl zdX6_feed rfl rfl ⟨Nat.le_of_ble_eq_true rfl, Nat.le_of_ble_eq_true rfl⟩ hS0 (Nat.le_of_ble_eq_true rfl) dL_law_352 rfl ?_
                refine z_pop C dL_law_355 ?_
                refine z_aload_n C 2 dL_law_356 rfl rfl ?_
                refine z_aload_n C 0 dL_law_357 rfl rfl ?_
                refine z_iload_n C 3 dL_law_358 rfl rfl ?_
                refine z_iconst C (v := 1) dL_law_359 rfl ?_
                refine z_iadd C dL_law_360 ?_
                obtain ⟨hi78, hf⟩ := ck_el hf
                refine z_sld C hX hbl hbA hi78 dL_law_361 ?_
                refine z_aload_n C 0 dL_law_362 rfl rfl ?_
                refine z_iload_n C 3 dL_law_363 rfl rfl ?_
                refine z_iconst C (v := 2) dL_law_364 rfl ?_
                refine z_iadd C dL_law_365 ?_
                obtain ⟨hi79, hf⟩ := ck_el hf
                refine z_sld C hX hbl hbA hi79 dL_law_366 ?_
                refine z_aload_n C 0 dL_law_367 rfl rfl ?_
                refine z_iload_n C 3 dL_law_368 rfl rfl ?_
                refine z_iconst C (v := 3) dL_law_369 rfl ?_
                refine z_iadd C dL_law_370 ?_
                obtain ⟨hi80, hf⟩ := ck_el hf
                refine z_sld C hX hbl hbA hi80 dL_law_371 ?_
                refine z_aload_n C 0 dL_law_372 rfl rfl ?_
                refine z_iload_n C 3 dL_law_373 rfl rfl ?_
                refine z_iconst C (v := 4) dL_law_374 rfl ?_
                refine z_iadd C dL_law_375 ?_
                obtain ⟨hi81, hf⟩ := ck_el hf
                refine z_sld C hX hbl hbA hi81 dL_law_376 ?_
                refine z_aload_n C 0 dL_law_377 rfl rfl ?_
                refine z_iload_n C 3 dL_law_378 rfl rfl ?_
                refine z_iconst C (v := 5) dL_law_379 rfl ?_
                refine z_iadd C dL_law_380 ?_
                obtain ⟨hi82, hf⟩ := ck_el hf
                refine z_sld C hX hbl hbA hi82 dL_law_381 ?_
                obtain ⟨r84, m85, hc83, hf⟩ := zb2_el hf
                refine z_lMi C (c_X7_feed _ _ hc83) rfl gLw_X7_feed rfl rfl zdX7_feed rfl rfl ⟨Nat.le_of_ble_eq_true rfl, Nat.le_of_ble_eq_true rfl⟩ hS0 (Nat.le_of_ble_eq_true rfl) dL_law_382 rfl ?_
                refine z_pop C dL_law_385 ?_
                refine z_goto (tgt := 857) C dL_law_386 (by decide) ?_
                obtain ⟨x86, e_x86⟩ : ∃ y : Int32, y = i + 6 := ⟨_, rfl⟩
                replace hf := bn_to e_x86 hf
                refine z_iinc C (lv2 := [(0, .ref b), (1, .ref ((zw K).2.1 0)), (2, .ref ((zw K).2.1 44)), (3, .int x86)]) 3 [1, 2, 3, 0] dL_law_857 rfl rfl (Nat.le_of_ble_eq_true rfl) e_x86 rfl ?_
                refine z_goto (tgt := 18) C dL_law_860 (by decide) ?_
                cases hf
                exact z_sub [0, 1, 2, 3] rfl (ih _ _ _ hz)
              · replace hf := if_f c69 hf
                refine zby (c := ((xs (Int32.toNatClampNeg i)) &&& 31) = 5) (fun c87 => ?_) (fun c87 => ?_)
                · replace hf := if_t c87 hf
                  refine z_tab (v := 5) (tgt := 389) (off := 356) C c87 dL_law_33 (by decide) (by decide) rfl (by decide) ?_
                  refine z_aload_n C 1 dL_law_389 rfl rfl ?_
                  refine z_aload_n C 0 dL_law_390 rfl rfl ?_
                  refine z_iload_n C 3 dL_law_391 rfl rfl ?_
                  refine z_iconst C (v := 1) dL_law_392 rfl ?_
                  refine z_iadd C dL_law_393 ?_
                  obtain ⟨hi88, hf⟩ := ck_el hf
                  refine z_sld C hX hbl hbA hi88 dL_law_394 ?_
                  obtain ⟨r90, m91, hc89, hf⟩ := zb2_el hf
                  refine z_lXi C (c_X6_end _ _ hc89) rfl gLw_X6_end rfl rfl zdX6_end rfl rfl ⟨Nat.le_of_ble_eq_true rfl, Nat.le_of_ble_eq_true rfl⟩ hS0 (Nat.le_of_ble_eq_true rfl) dL_law_395 rfl ?_
                  refine z_pop C dL_law_398 ?_
                  refine z_aload_n C 2 dL_law_399 rfl rfl ?_
                  refine z_aload_n C 0 dL_law_400 rfl rfl ?_
                  refine z_iload_n C 3 dL_law_401 rfl rfl ?_
                  refine z_iconst C (v := 1) dL_law_402 rfl ?_
                  refine z_iadd C dL_law_403 ?_
                  obtain ⟨hi92, hf⟩ := ck_el hf
                  refine z_sld C hX hbl hbA hi92 dL_law_404 ?_
                  obtain ⟨r94, m95, hc93, hf⟩ := zb2_el hf
                  refine z_lMi C (c_X7_end _ _ hc93) rfl gLw_X7_end rfl rfl zdX7_end rfl rfl ⟨Nat.le_of_ble_eq_true rfl, Nat.le_of_ble_eq_true rfl⟩ hS0 (Nat.le_of_ble_eq_true rfl) dL_law_405 rfl ?_
                  refine z_pop C dL_law_408 ?_
                  refine z_goto (tgt := 857) C dL_law_409 (by decide) ?_
                  obtain ⟨x96, e_x96⟩ : ∃ y : Int32, y = i + 6 := ⟨_, rfl⟩
                  replace hf := bn_to e_x96 hf
                  refine z_iinc C (lv2 := [(0, .ref b), (1, .ref ((zw K).2.1 0)), (2, .ref ((zw K).2.1 44)), (3, .int x96)]) 3 [1, 2, 3, 0] dL_law_857 rfl rfl (Nat.le_of_ble_eq_true rfl) e_x96 rfl ?_
                  refine z_goto (tgt := 18) C dL_law_860 (by decide) ?_
                  cases hf
                  exact z_sub [0, 1, 2, 3] rfl (ih _ _ _ hz)
                · replace hf := if_f c87 hf
                  refine zby (c := ((xs (Int32.toNatClampNeg i)) &&& 31) = 6) (fun c97 => ?_) (fun c97 => ?_)
                  · replace hf := if_t c97 hf
                    refine z_tab (v := 6) (tgt := 412) (off := 379) C c97 dL_law_33 (by decide) (by decide) rfl (by decide) ?_
                    refine z_aload_n C 1 dL_law_412 rfl rfl ?_
                    obtain ⟨r99, m100, hc98, hf⟩ := zb2_el hf
                    refine z_lXi C (c_X6_shapes _ _ hc98) rfl gLw_X6_shapes rfl rfl zdX6_shapes rfl rfl ⟨Nat.le_of_ble_eq_true rfl, Nat.le_of_ble_eq_true rfl⟩ hS0 (Nat.le_of_ble_eq_true rfl) dL_law_413 rfl ?_
                    refine z_pop C dL_law_416 ?_
                    refine z_aload_n C 2 dL_law_417 rfl rfl ?_
                    obtain ⟨r102, m103, hc101, hf⟩ := zb2_el hf
                    refine z_lMi C (c_X7_shapes _ _ hc101) rfl gLw_X7_shapes rfl rfl zdX7_shapes rfl rfl ⟨Nat.le_of_ble_eq_true rfl, Nat.le_of_ble_eq_true rfl⟩ hS0 (Nat.le_of_ble_eq_true rfl) dL_law_418 rfl ?_
                    refine z_pop C dL_law_421 ?_
                    refine z_goto (tgt := 857) C dL_law_422 (by decide) ?_
                    obtain ⟨x104, e_x104⟩ : ∃ y : Int32, y = i + 6 := ⟨_, rfl⟩
                    replace hf := bn_to e_x104 hf
                    refine z_iinc C (lv2 := [(0, .ref b), (1, .ref ((zw K).2.1 0)), (2, .ref ((zw K).2.1 44)), (3, .int x104)]) 3 [1, 2, 3, 0] dL_law_857 rfl rfl (Nat.le_of_ble_eq_true rfl) e_x104 rfl ?_
                    refine z_goto (tgt := 18) C dL_law_860 (by decide) ?_
                    cases hf
                    exact z_sub [0, 1, 2, 3] rfl (ih _ _ _ hz)
                  · replace hf := if_f c97 hf
                    refine zby (c := ((xs (Int32.toNatClampNeg i)) &&& 31) = 7) (fun c105 => ?_) (fun c105 => ?_)
                    · replace hf := if_t c105 hf
                      refine z_tab (v := 7) (tgt := 425) (off := 392) C c105 dL_law_33 (by decide) (by decide) rfl (by decide) ?_
                      refine z_aload_n C 1 dL_law_425 rfl rfl ?_
                      obtain ⟨r107, hc106, hf⟩ := zb_el hf
                      refine z_lXi C (c_X6_fault _ _ hc106) rfl gLw_X6_fault rfl rfl zdX6_fault rfl rfl ⟨Nat.le_of_ble_eq_true rfl, Nat.le_of_ble_eq_true rfl⟩ hS0 (Nat.le_of_ble_eq_true rfl) dL_law_426 rfl ?_
                      refine z_pop C dL_law_429 ?_
                      refine z_aload_n C 2 dL_law_430 rfl rfl ?_
                      obtain ⟨r109, hc108, hf⟩ := zb_el hf
                      refine z_lMi C (c_X7_fault _ _ hc108) rfl gLw_X7_fault rfl rfl zdX7_fault rfl rfl ⟨Nat.le_of_ble_eq_true rfl, Nat.le_of_ble_eq_true rfl⟩ hS0 (Nat.le_of_ble_eq_true rfl) dL_law_431 rfl ?_
                      refine z_pop C dL_law_434 ?_
                      refine z_goto (tgt := 857) C dL_law_435 (by decide) ?_
                      obtain ⟨x110, e_x110⟩ : ∃ y : Int32, y = i + 6 := ⟨_, rfl⟩
                      replace hf := bn_to e_x110 hf
                      refine z_iinc C (lv2 := [(0, .ref b), (1, .ref ((zw K).2.1 0)), (2, .ref ((zw K).2.1 44)), (3, .int x110)]) 3 [1, 2, 3, 0] dL_law_857 rfl rfl (Nat.le_of_ble_eq_true rfl) e_x110 rfl ?_
                      refine z_goto (tgt := 18) C dL_law_860 (by decide) ?_
                      cases hf
                      exact z_sub [0, 1, 2, 3] rfl (ih _ _ _ hz)
                    · replace hf := if_f c105 hf
                      refine zby (c := ((xs (Int32.toNatClampNeg i)) &&& 31) = 8) (fun c111 => ?_) (fun c111 => ?_)
                      · replace hf := if_t c111 hf
                        refine z_tab (v := 8) (tgt := 438) (off := 405) C c111 dL_law_33 (by decide) (by decide) rfl (by decide) ?_
                        refine z_aload_n C 1 dL_law_438 rfl rfl ?_
                        refine z_aload_n C 0 dL_law_439 rfl rfl ?_
                        refine z_iload_n C 3 dL_law_440 rfl rfl ?_
                        refine z_iconst C (v := 1) dL_law_441 rfl ?_
                        refine z_iadd C dL_law_442 ?_
                        obtain ⟨hi112, hf⟩ := ck_el hf
                        refine z_sld C hX hbl hbA hi112 dL_law_443 ?_
                        refine z_aload_n C 0 dL_law_444 rfl rfl ?_
                        refine z_iload_n C 3 dL_law_445 rfl rfl ?_
                        refine z_iconst C (v := 2) dL_law_446 rfl ?_
                        refine z_iadd C dL_law_447 ?_
                        obtain ⟨hi113, hf⟩ := ck_el hf
                        refine z_sld C hX hbl hbA hi113 dL_law_448 ?_
                        obtain ⟨r115, m116, hc114, hf⟩ := zb2_el hf
                        refine z_lXi C (c_X6_fits _ _ hc114) rfl gLw_X6_fits rfl rfl zdX6_fits rfl rfl ⟨Nat.le_of_ble_eq_true rfl, Nat.le_of_ble_eq_true rfl⟩ hS0 (Nat.le_of_ble_eq_true rfl) dL_law_449 rfl ?_
                        refine z_pop C dL_law_452 ?_
                        refine z_aload_n C 2 dL_law_453 rfl rfl ?_
                        refine z_aload_n C 0 dL_law_454 rfl rfl ?_
                        refine z_iload_n C 3 dL_law_455 rfl rfl ?_
                        refine z_iconst C (v := 1) dL_law_456 rfl ?_
                        refine z_iadd C dL_law_457 ?_
                        obtain ⟨hi117, hf⟩ := ck_el hf
                        refine z_sld C hX hbl hbA hi117 dL_law_458 ?_
                        refine z_aload_n C 0 dL_law_459 rfl rfl ?_
                        refine z_iload_n C 3 dL_law_460 rfl rfl ?_
                        refine z_iconst C (v := 2) dL_law_461 rfl ?_
                        refine z_iadd C dL_law_462 ?_
                        obtain ⟨hi118, hf⟩ := ck_el hf
                        refine z_sld C hX hbl hbA hi118 dL_law_463 ?_
                        obtain ⟨r120, m121, hc119, hf⟩ := zb2_el hf
                        refine z_lMi C (c_X7_fits _ _ hc119) rfl gLw_X7_fits rfl rfl zdX7_fits rfl rfl ⟨Nat.le_of_ble_eq_true rfl, Nat.le_of_ble_eq_true rfl⟩ hS0 (Nat.le_of_ble_eq_true rfl) dL_law_464 rfl ?_
                        refine z_pop C dL_law_467 ?_
                        refine z_goto (tgt := 857) C dL_law_468 (by decide) ?_
                        obtain ⟨x122, e_x122⟩ : ∃ y : Int32, y = i + 6 := ⟨_, rfl⟩
                        replace hf := bn_to e_x122 hf
                        refine z_iinc C (lv2 := [(0, .ref b), (1, .ref ((zw K).2.1 0)), (2, .ref ((zw K).2.1 44)), (3, .int x122)]) 3 [1, 2, 3, 0] dL_law_857 rfl rfl (Nat.le_of_ble_eq_true rfl) e_x122 rfl ?_
                        refine z_goto (tgt := 18) C dL_law_860 (by decide) ?_
                        cases hf
                        exact z_sub [0, 1, 2, 3] rfl (ih _ _ _ hz)
                      · replace hf := if_f c111 hf
                        refine zby (c := ((xs (Int32.toNatClampNeg i)) &&& 31) = 9) (fun c123 => ?_) (fun c123 => ?_)
                        · replace hf := if_t c123 hf
                          refine z_tab (v := 9) (tgt := 471) (off := 438) C c123 dL_law_33 (by decide) (by decide) rfl (by decide) ?_
                          refine z_aload_n C 1 dL_law_471 rfl rfl ?_
                          refine z_aload_n C 0 dL_law_472 rfl rfl ?_
                          refine z_iload_n C 3 dL_law_473 rfl rfl ?_
                          refine z_iconst C (v := 1) dL_law_474 rfl ?_
                          refine z_iadd C dL_law_475 ?_
                          obtain ⟨hi124, hf⟩ := ck_el hf
                          refine z_sld C hX hbl hbA hi124 dL_law_476 ?_
                          refine z_aload_n C 0 dL_law_477 rfl rfl ?_
                          refine z_iload_n C 3 dL_law_478 rfl rfl ?_
                          refine z_iconst C (v := 2) dL_law_479 rfl ?_
                          refine z_iadd C dL_law_480 ?_
                          obtain ⟨hi125, hf⟩ := ck_el hf
                          refine z_sld C hX hbl hbA hi125 dL_law_481 ?_
                          obtain ⟨r127, m128, hc126, hf⟩ := zb2_el hf
                          refine z_lXi C (c_X6_surely _ _ hc126) rfl gLw_X6_surely rfl rfl zdX6_surely rfl rfl ⟨Nat.le_of_ble_eq_true rfl, Nat.le_of_ble_eq_true rfl⟩ hS0 (Nat.le_of_ble_eq_true rfl) dL_law_482 rfl ?_
                          refine z_pop C dL_law_485 ?_
                          refine z_aload_n C 2 dL_law_486 rfl rfl ?_
                          refine z_aload_n C 0 dL_law_487 rfl rfl ?_
                          refine z_iload_n C 3 dL_law_488 rfl rfl ?_
                          refine z_iconst C (v := 1) dL_law_489 rfl ?_
                          refine z_iadd C dL_law_490 ?_
                          obtain ⟨hi129, hf⟩ := ck_el hf
                          refine z_sld C hX hbl hbA hi129 dL_law_491 ?_
                          refine z_aload_n C 0 dL_law_492 rfl rfl ?_
                          refine z_iload_n C 3 dL_law_493 rfl rfl ?_
                          refine z_iconst C (v := 2) dL_law_494 rfl ?_
                          refine z_iadd C dL_law_495 ?_
                          obtain ⟨hi130, hf⟩ := ck_el hf
                          refine z_sld C hX hbl hbA hi130 dL_law_496 ?_
                          obtain ⟨r132, m133, hc131, hf⟩ := zb2_el hf
                          refine z_lMi C (c_X7_surely _ _ hc131) rfl gLw_X7_surely rfl rfl zdX7_surely rfl rfl ⟨Nat.le_of_ble_eq_true rfl, Nat.le_of_ble_eq_true rfl⟩ hS0 (Nat.le_of_ble_eq_true rfl) dL_law_497 rfl ?_
                          refine z_pop C dL_law_500 ?_
                          refine z_goto (tgt := 857) C dL_law_501 (by decide) ?_
                          obtain ⟨x134, e_x134⟩ : ∃ y : Int32, y = i + 6 := ⟨_, rfl⟩
                          replace hf := bn_to e_x134 hf
                          refine z_iinc C (lv2 := [(0, .ref b), (1, .ref ((zw K).2.1 0)), (2, .ref ((zw K).2.1 44)), (3, .int x134)]) 3 [1, 2, 3, 0] dL_law_857 rfl rfl (Nat.le_of_ble_eq_true rfl) e_x134 rfl ?_
                          refine z_goto (tgt := 18) C dL_law_860 (by decide) ?_
                          cases hf
                          exact z_sub [0, 1, 2, 3] rfl (ih _ _ _ hz)
                        · replace hf := if_f c123 hf
                          refine zby (c := ((xs (Int32.toNatClampNeg i)) &&& 31) = 10) (fun c135 => ?_) (fun c135 => ?_)
                          · replace hf := if_t c135 hf
                            refine z_tab (v := 10) (tgt := 504) (off := 471) C c135 dL_law_33 (by decide) (by decide) rfl (by decide) ?_
                            refine z_aload_n C 1 dL_law_504 rfl rfl ?_
                            refine z_aload_n C 0 dL_law_505 rfl rfl ?_
                            refine z_iload_n C 3 dL_law_506 rfl rfl ?_
                            refine z_iconst C (v := 1) dL_law_507 rfl ?_
                            refine z_iadd C dL_law_508 ?_
                            obtain ⟨hi136, hf⟩ := ck_el hf
                            refine z_sld C hX hbl hbA hi136 dL_law_509 ?_
                            obtain ⟨r138, m139, hc137, hf⟩ := zb2_el hf
                            refine z_lXi C (c_X6_all _ _ hc137) rfl gLw_X6_all rfl rfl zdX6_all rfl rfl ⟨Nat.le_of_ble_eq_true rfl, Nat.le_of_ble_eq_true rfl⟩ hS0 (Nat.le_of_ble_eq_true rfl) dL_law_510 rfl ?_
                            refine z_pop C dL_law_513 ?_
                            refine z_aload_n C 2 dL_law_514 rfl rfl ?_
                            refine z_aload_n C 0 dL_law_515 rfl rfl ?_
                            refine z_iload_n C 3 dL_law_516 rfl rfl ?_
                            refine z_iconst C (v := 1) dL_law_517 rfl ?_
                            refine z_iadd C dL_law_518 ?_
                            obtain ⟨hi140, hf⟩ := ck_el hf
                            refine z_sld C hX hbl hbA hi140 dL_law_519 ?_
                            obtain ⟨r142, m143, hc141, hf⟩ := zb2_el hf
                            refine z_lMi C (c_X7_all _ _ hc141) rfl gLw_X7_all rfl rfl zdX7_all rfl rfl ⟨Nat.le_of_ble_eq_true rfl, Nat.le_of_ble_eq_true rfl⟩ hS0 (Nat.le_of_ble_eq_true rfl) dL_law_520 rfl ?_
                            refine z_pop C dL_law_523 ?_
                            refine z_goto (tgt := 857) C dL_law_524 (by decide) ?_
                            obtain ⟨x144, e_x144⟩ : ∃ y : Int32, y = i + 6 := ⟨_, rfl⟩
                            replace hf := bn_to e_x144 hf
                            refine z_iinc C (lv2 := [(0, .ref b), (1, .ref ((zw K).2.1 0)), (2, .ref ((zw K).2.1 44)), (3, .int x144)]) 3 [1, 2, 3, 0] dL_law_857 rfl rfl (Nat.le_of_ble_eq_true rfl) e_x144 rfl ?_
                            refine z_goto (tgt := 18) C dL_law_860 (by decide) ?_
                            cases hf
                            exact z_sub [0, 1, 2, 3] rfl (ih _ _ _ hz)
                          · replace hf := if_f c135 hf
                            refine zby (c := ((xs (Int32.toNatClampNeg i)) &&& 31) = 11) (fun c145 => ?_) (fun c145 => ?_)
                            · replace hf := if_t c145 hf
                              refine z_tab (v := 11) (tgt := 527) (off := 494) C c145 dL_law_33 (by decide) (by decide) rfl (by decide) ?_
                              refine z_aload_n C 1 dL_law_527 rfl rfl ?_
                              refine z_aload_n C 0 dL_law_528 rfl rfl ?_
                              refine z_iload_n C 3 dL_law_529 rfl rfl ?_
                              refine z_iconst C (v := 1) dL_law_530 rfl ?_
                              refine z_iadd C dL_law_531 ?_
                              obtain ⟨hi146, hf⟩ := ck_el hf
                              refine z_sld C hX hbl hbA hi146 dL_law_532 ?_
                              refine z_aload_n C 0 dL_law_533 rfl rfl ?_
                              refine z_iload_n C 3 dL_law_534 rfl rfl ?_
                              refine z_iconst C (v := 2) dL_law_535 rfl ?_
                              refine z_iadd C dL_law_536 ?_
                              obtain ⟨hi147, hf⟩ := ck_el hf
                              refine z_sld C hX hbl hbA hi147 dL_law_537 ?_
                              obtain ⟨r149, hc148, hf⟩ := zb_el hf
                              refine z_lXi C (c_X6_wanted _ _ hc148) rfl gLw_X6_wanted rfl rfl zdX6_wanted rfl rfl ⟨Nat.le_of_ble_eq_true rfl, Nat.le_of_ble_eq_true rfl⟩ hS0 (Nat.le_of_ble_eq_true rfl) dL_law_538 rfl ?_
                              refine z_pop C dL_law_541 ?_
                              refine z_aload_n C 2 dL_law_542 rfl rfl ?_
                              refine z_aload_n C 0 dL_law_543 rfl rfl ?_
                              refine z_iload_n C 3 dL_law_544 rfl rfl ?_
                              refine z_iconst C (v := 1) dL_law_545 rfl ?_
                              refine z_iadd C dL_law_546 ?_
                              obtain ⟨hi150, hf⟩ := ck_el hf
                              refine z_sld C hX hbl hbA hi150 dL_law_547 ?_
                              refine z_aload_n C 0 dL_law_548 rfl rfl ?_
                              refine z_iload_n C 3 dL_law_549 rfl rfl ?_
                              refine z_iconst C (v := 2) dL_law_550 rfl ?_
                              refine z_iadd C dL_law_551 ?_
                              obtain ⟨hi151, hf⟩ := ck_el hf
                              refine z_sld C hX hbl hbA hi151 dL_law_552 ?_
                              obtain ⟨r153, hc152, hf⟩ := zb_el hf
                              refine z_lMi C (c_X7_wanted _ _ hc152) rfl gLw_X7_wanted rfl rfl zdX7_wanted rfl rfl ⟨Nat.le_of_ble_eq_true rfl, Nat.le_of_ble_eq_true rfl⟩ hS0 (Nat.le_of_ble_eq_true rfl) dL_law_553 rfl ?_
                              refine z_pop C dL_law_556 ?_
                              refine z_goto (tgt := 857) C dL_law_557 (by decide) ?_
                              obtain ⟨x154, e_x154⟩ : ∃ y : Int32, y = i + 6 := ⟨_, rfl⟩
                              replace hf := bn_to e_x154 hf
                              refine z_iinc C (lv2 := [(0, .ref b), (1, .ref ((zw K).2.1 0)), (2, .ref ((zw K).2.1 44)), (3, .int x154)]) 3 [1, 2, 3, 0] dL_law_857 rfl rfl (Nat.le_of_ble_eq_true rfl) e_x154 rfl ?_
                              refine z_goto (tgt := 18) C dL_law_860 (by decide) ?_
                              cases hf
                              exact z_sub [0, 1, 2, 3] rfl (ih _ _ _ hz)
                            · replace hf := if_f c145 hf
                              refine zby (c := ((xs (Int32.toNatClampNeg i)) &&& 31) = 12) (fun c155 => ?_) (fun c155 => ?_)
                              · replace hf := if_t c155 hf
                                refine z_tab (v := 12) (tgt := 560) (off := 527) C c155 dL_law_33 (by decide) (by decide) rfl (by decide) ?_
                                refine z_aload_n C 1 dL_law_560 rfl rfl ?_
                                refine z_aload_n C 0 dL_law_561 rfl rfl ?_
                                refine z_iload_n C 3 dL_law_562 rfl rfl ?_
                                refine z_iconst C (v := 1) dL_law_563 rfl ?_
                                refine z_iadd C dL_law_564 ?_
                                obtain ⟨hi156, hf⟩ := ck_el hf
                                refine z_sld C hX hbl hbA hi156 dL_law_565 ?_
                                refine z_aload_n C 0 dL_law_566 rfl rfl ?_
                                refine z_iload_n C 3 dL_law_567 rfl rfl ?_
                                refine z_iconst C (v := 2) dL_law_568 rfl ?_
                                refine z_iadd C dL_law_569 ?_
                                obtain ⟨hi157, hf⟩ := ck_el hf
                                refine z_sld C hX hbl hbA hi157 dL_law_570 ?_
                                refine z_aload_n C 0 dL_law_571 rfl rfl ?_
                                refine z_iload_n C 3 dL_law_572 rfl rfl ?_
                                refine z_iconst C (v := 3) dL_law_573 rfl ?_
                                refine z_iadd C dL_law_574 ?_
                                obtain ⟨hi158, hf⟩ := ck_el hf
                                refine z_sld C hX hbl hbA hi158 dL_law_575 ?_
                                obtain ⟨r160, m161, hc159, hf⟩ := zb2_el hf
                                refine z_lXi C (c_X6_dealt _ _ hc159) rfl gLw_X6_dealt rfl rfl zdX6_dealt rfl rfl ⟨Nat.le_of_ble_eq_true rfl, Nat.le_of_ble_eq_true rfl⟩ hS0 (Nat.le_of_ble_eq_true rfl) dL_law_576 rfl ?_
                                refine z_pop C dL_law_579 ?_
                                refine z_aload_n C 2 dL_law_580 rfl rfl ?_
                                refine z_aload_n C 0 dL_law_581 rfl rfl ?_
                                refine z_iload_n C 3 dL_law_582 rfl rfl ?_
                                refine z_iconst C (v := 1) dL_law_583 rfl ?_
                                refine z_iadd C dL_law_584 ?_
                                obtain ⟨hi162, hf⟩ := ck_el hf
                                refine z_sld C hX hbl hbA hi162 dL_law_585 ?_
                                refine z_aload_n C 0 dL_law_586 rfl rfl ?_
                                refine z_iload_n C 3 dL_law_587 rfl rfl ?_
                                refine z_iconst C (v := 2) dL_law_588 rfl ?_
                                refine z_iadd C dL_law_589 ?_
                                obtain ⟨hi163, hf⟩ := ck_el hf
                                refine z_sld C hX hbl hbA hi163 dL_law_590 ?_
                                refine z_aload_n C 0 dL_law_591 rfl rfl ?_
                                refine z_iload_n C 3 dL_law_592 rfl rfl ?_
                                refine z_iconst C (v := 3) dL_law_593 rfl ?_
                                refine z_iadd C dL_law_594 ?_
                                obtain ⟨hi164, hf⟩ := ck_el hf
                                refine z_sld C hX hbl hbA hi164 dL_law_595 ?_
                                obtain ⟨r166, m167, hc165, hf⟩ := zb2_el hf
                                refine z_lMi C (c_X7_dealt _ _ hc165) rfl gLw_X7_dealt rfl rfl zdX7_dealt rfl rfl ⟨Nat.le_of_ble_eq_true rfl, Nat.le_of_ble_eq_true rfl⟩ hS0 (Nat.le_of_ble_eq_true rfl) dL_law_596 rfl ?_
                                refine z_pop C dL_law_599 ?_
                                refine z_goto (tgt := 857) C dL_law_600 (by decide) ?_
                                obtain ⟨x168, e_x168⟩ : ∃ y : Int32, y = i + 6 := ⟨_, rfl⟩
                                replace hf := bn_to e_x168 hf
                                refine z_iinc C (lv2 := [(0, .ref b), (1, .ref ((zw K).2.1 0)), (2, .ref ((zw K).2.1 44)), (3, .int x168)]) 3 [1, 2, 3, 0] dL_law_857 rfl rfl (Nat.le_of_ble_eq_true rfl) e_x168 rfl ?_
                                refine z_goto (tgt := 18) C dL_law_860 (by decide) ?_
                                cases hf
                                exact z_sub [0, 1, 2, 3] rfl (ih _ _ _ hz)
                              · replace hf := if_f c155 hf
                                refine zby (c := ((xs (Int32.toNatClampNeg i)) &&& 31) = 13) (fun c169 => ?_) (fun c169 => ?_)
                                · replace hf := if_t c169 hf
                                  refine z_tab (v := 13) (tgt := 603) (off := 570) C c169 dL_law_33 (by decide) (by decide) rfl (by decide) ?_
                                  refine z_aload_n C 1 dL_law_603 rfl rfl ?_
                                  refine z_aload_n C 0 dL_law_604 rfl rfl ?_
                                  refine z_iload_n C 3 dL_law_605 rfl rfl ?_
                                  refine z_iconst C (v := 1) dL_law_606 rfl ?_
                                  refine z_iadd C dL_law_607 ?_
                                  obtain ⟨hi170, hf⟩ := ck_el hf
                                  refine z_sld C hX hbl hbA hi170 dL_law_608 ?_
                                  refine z_aload_n C 0 dL_law_609 rfl rfl ?_
                                  refine z_iload_n C 3 dL_law_610 rfl rfl ?_
                                  refine z_iconst C (v := 2) dL_law_611 rfl ?_
                                  refine z_iadd C dL_law_612 ?_
                                  obtain ⟨hi171, hf⟩ := ck_el hf
                                  refine z_sld C hX hbl hbA hi171 dL_law_613 ?_
                                  obtain ⟨r173, m174, hc172, hf⟩ := zb2_el hf
                                  refine z_lXi C (c_X6_tooMany _ _ hc172) rfl gLw_X6_tooMany rfl rfl zdX6_tooMany rfl rfl ⟨Nat.le_of_ble_eq_true rfl, Nat.le_of_ble_eq_true rfl⟩ hS0 (Nat.le_of_ble_eq_true rfl) dL_law_614 rfl ?_
                                  refine z_pop C dL_law_617 ?_
                                  refine z_aload_n C 2 dL_law_618 rfl rfl ?_
                                  refine z_aload_n C 0 dL_law_619 rfl rfl ?_
                                  refine z_iload_n C 3 dL_law_620 rfl rfl ?_
                                  refine z_iconst C (v := 1) dL_law_621 rfl ?_
                                  refine z_iadd C dL_law_622 ?_
                                  obtain ⟨hi175, hf⟩ := ck_el hf
                                  refine z_sld C hX hbl hbA hi175 dL_law_623 ?_
                                  refine z_aload_n C 0 dL_law_624 rfl rfl ?_
                                  refine z_iload_n C 3 dL_law_625 rfl rfl ?_
                                  refine z_iconst C (v := 2) dL_law_626 rfl ?_
                                  refine z_iadd C dL_law_627 ?_
                                  obtain ⟨hi176, hf⟩ := ck_el hf
                                  refine z_sld C hX hbl hbA hi176 dL_law_628 ?_
                                  obtain ⟨r178, m179, hc177, hf⟩ := zb2_el hf
                                  refine z_lMi C (c_X7_tooMany _ _ hc177) rfl gLw_X7_tooMany rfl rfl zdX7_tooMany rfl rfl ⟨Nat.le_of_ble_eq_true rfl, Nat.le_of_ble_eq_true rfl⟩ hS0 (Nat.le_of_ble_eq_true rfl) dL_law_629 rfl ?_
                                  refine z_pop C dL_law_632 ?_
                                  refine z_goto (tgt := 857) C dL_law_633 (by decide) ?_
                                  obtain ⟨x180, e_x180⟩ : ∃ y : Int32, y = i + 6 := ⟨_, rfl⟩
                                  replace hf := bn_to e_x180 hf
                                  refine z_iinc C (lv2 := [(0, .ref b), (1, .ref ((zw K).2.1 0)), (2, .ref ((zw K).2.1 44)), (3, .int x180)]) 3 [1, 2, 3, 0] dL_law_857 rfl rfl (Nat.le_of_ble_eq_true rfl) e_x180 rfl ?_
                                  refine z_goto (tgt := 18) C dL_law_860 (by decide) ?_
                                  cases hf
                                  exact z_sub [0, 1, 2, 3] rfl (ih _ _ _ hz)
                                · replace hf := if_f c169 hf
                                  refine zby (c := ((xs (Int32.toNatClampNeg i)) &&& 31) = 14) (fun c181 => ?_) (fun c181 => ?_)
                                  · replace hf := if_t c181 hf
                                    refine z_tab (v := 14) (tgt := 636) (off := 603) C c181 dL_law_33 (by decide) (by decide) rfl (by decide) ?_
                                    refine z_aload_n C 1 dL_law_636 rfl rfl ?_
                                    refine z_aload_n C 0 dL_law_637 rfl rfl ?_
                                    refine z_iload_n C 3 dL_law_638 rfl rfl ?_
                                    refine z_iconst C (v := 1) dL_law_639 rfl ?_
                                    refine z_iadd C dL_law_640 ?_
                                    obtain ⟨hi182, hf⟩ := ck_el hf
                                    refine z_sld C hX hbl hbA hi182 dL_law_641 ?_
                                    refine z_aload_n C 0 dL_law_642 rfl rfl ?_
                                    refine z_iload_n C 3 dL_law_643 rfl rfl ?_
                                    refine z_iconst C (v := 2) dL_law_644 rfl ?_
                                    refine z_iadd C dL_law_645 ?_
                                    obtain ⟨hi183, hf⟩ := ck_el hf
                                    refine z_sld C hX hbl hbA hi183 dL_law_646 ?_
                                    obtain ⟨r185, m186, hc184, hf⟩ := zb2_el hf
                                    refine z_lXi C (c_X6_which _ _ hc184) rfl gLw_X6_which rfl rfl zdX6_which rfl rfl ⟨Nat.le_of_ble_eq_true rfl, Nat.le_of_ble_eq_true rfl⟩ hS0 (Nat.le_of_ble_eq_true rfl) dL_law_647 rfl ?_
                                    refine z_pop C dL_law_650 ?_
                                    refine z_aload_n C 2 dL_law_651 rfl rfl ?_
                                    refine z_aload_n C 0 dL_law_652 rfl rfl ?_
                                    refine z_iload_n C 3 dL_law_653 rfl rfl ?_
                                    refine z_iconst C (v := 1) dL_law_654 rfl ?_
                                    refine z_iadd C dL_law_655 ?_
                                    obtain ⟨hi187, hf⟩ := ck_el hf
                                    refine z_sld C hX hbl hbA hi187 dL_law_656 ?_
                                    refine z_aload_n C 0 dL_law_657 rfl rfl ?_
                                    refine z_iload_n C 3 dL_law_658 rfl rfl ?_
                                    refine z_iconst C (v := 2) dL_law_659 rfl ?_
                                    refine z_iadd C dL_law_660 ?_
                                    obtain ⟨hi188, hf⟩ := ck_el hf
                                    refine z_sld C hX hbl hbA hi188 dL_law_661 ?_
                                    obtain ⟨r190, m191, hc189, hf⟩ := zb2_el hf
                                    refine z_lMi C (c_X7_which _ _ hc189) rfl gLw_X7_which rfl rfl zdX7_which rfl rfl ⟨Nat.le_of_ble_eq_true rfl, Nat.le_of_ble_eq_true rfl⟩ hS0 (Nat.le_of_ble_eq_true rfl) dL_law_662 rfl ?_
                                    refine z_pop C dL_law_665 ?_
                                    refine z_goto (tgt := 857) C dL_law_666 (by decide) ?_
                                    obtain ⟨x192, e_x192⟩ : ∃ y : Int32, y = i + 6 := ⟨_, rfl⟩
                                    replace hf := bn_to e_x192 hf
                                    refine z_iinc C (lv2 := [(0, .ref b), (1, .ref ((zw K).2.1 0)), (2, .ref ((zw K).2.1 44)), (3, .int x192)]) 3 [1, 2, 3, 0] dL_law_857 rfl rfl (Nat.le_of_ble_eq_true rfl) e_x192 rfl ?_
                                    refine z_goto (tgt := 18) C dL_law_860 (by decide) ?_
                                    cases hf
                                    exact z_sub [0, 1, 2, 3] rfl (ih _ _ _ hz)
                                  · replace hf := if_f c181 hf
                                    refine zby (c := ((xs (Int32.toNatClampNeg i)) &&& 31) = 15) (fun c193 => ?_) (fun c193 => ?_)
                                    · replace hf := if_t c193 hf
                                      refine z_tab (v := 15) (tgt := 669) (off := 636) C c193 dL_law_33 (by decide) (by decide) rfl (by decide) ?_
                                      refine z_aload_n C 1 dL_law_669 rfl rfl ?_
                                      refine z_aload_n C 0 dL_law_670 rfl rfl ?_
                                      refine z_iload_n C 3 dL_law_671 rfl rfl ?_
                                      refine z_iconst C (v := 1) dL_law_672 rfl ?_
                                      refine z_iadd C dL_law_673 ?_
                                      obtain ⟨hi194, hf⟩ := ck_el hf
                                      refine z_sld C hX hbl hbA hi194 dL_law_674 ?_
                                      refine z_aload_n C 0 dL_law_675 rfl rfl ?_
                                      refine z_iload_n C 3 dL_law_676 rfl rfl ?_
                                      refine z_iconst C (v := 2) dL_law_677 rfl ?_
                                      refine z_iadd C dL_law_678 ?_
                                      obtain ⟨hi195, hf⟩ := ck_el hf
                                      refine z_sld C hX hbl hbA hi195 dL_law_679 ?_
                                      obtain ⟨r197, hc196, hf⟩ := zb_el hf
                                      refine z_lXi C (c_X6_depends _ _ hc196) rfl gLw_X6_depends rfl rfl zdX6_depends rfl rfl ⟨Nat.le_of_ble_eq_true rfl, Nat.le_of_ble_eq_true rfl⟩ hS0 (Nat.le_of_ble_eq_true rfl) dL_law_680 rfl ?_
                                      refine z_pop C dL_law_683 ?_
                                      refine z_aload_n C 2 dL_law_684 rfl rfl ?_
                                      refine z_aload_n C 0 dL_law_685 rfl rfl ?_
                                      refine z_iload_n C 3 dL_law_686 rfl rfl ?_
                                      refine z_iconst C (v := 1) dL_law_687 rfl ?_
                                      refine z_iadd C dL_law_688 ?_
                                      obtain ⟨hi198, hf⟩ := ck_el hf
                                      refine z_sld C hX hbl hbA hi198 dL_law_689 ?_
                                      refine z_aload_n C 0 dL_law_690 rfl rfl ?_
                                      refine z_iload_n C 3 dL_law_691 rfl rfl ?_
                                      refine z_iconst C (v := 2) dL_law_692 rfl ?_
                                      refine z_iadd C dL_law_693 ?_
                                      obtain ⟨hi199, hf⟩ := ck_el hf
                                      refine z_sld C hX hbl hbA hi199 dL_law_694 ?_
                                      obtain ⟨r201, m202, hc200, hf⟩ := zb2_el hf
                                      refine z_lMi C (c_X7_depends _ _ hc200) rfl gLw_X7_depends rfl rfl zdX7_depends rfl rfl ⟨Nat.le_of_ble_eq_true rfl, Nat.le_of_ble_eq_true rfl⟩ hS0 (Nat.le_of_ble_eq_true rfl) dL_law_695 rfl ?_
                                      refine z_pop C dL_law_698 ?_
                                      refine z_goto (tgt := 857) C dL_law_699 (by decide) ?_
                                      obtain ⟨x203, e_x203⟩ : ∃ y : Int32, y = i + 6 := ⟨_, rfl⟩
                                      replace hf := bn_to e_x203 hf
                                      refine z_iinc C (lv2 := [(0, .ref b), (1, .ref ((zw K).2.1 0)), (2, .ref ((zw K).2.1 44)), (3, .int x203)]) 3 [1, 2, 3, 0] dL_law_857 rfl rfl (Nat.le_of_ble_eq_true rfl) e_x203 rfl ?_
                                      refine z_goto (tgt := 18) C dL_law_860 (by decide) ?_
                                      cases hf
                                      exact z_sub [0, 1, 2, 3] rfl (ih _ _ _ hz)
                                    · replace hf := if_f c193 hf
                                      refine zby (c := ((xs (Int32.toNatClampNeg i)) &&& 31) = 16) (fun c204 => ?_) (fun c204 => ?_)
                                      · replace hf := if_t c204 hf
                                        refine z_tab (v := 16) (tgt := 702) (off := 669) C c204 dL_law_33 (by decide) (by decide) rfl (by decide) ?_
                                        refine z_aload_n C 1 dL_law_702 rfl rfl ?_
                                        refine z_aload_n C 0 dL_law_703 rfl rfl ?_
                                        refine z_iload_n C 3 dL_law_704 rfl rfl ?_
                                        refine z_iconst C (v := 1) dL_law_705 rfl ?_
                                        refine z_iadd C dL_law_706 ?_
                                        obtain ⟨hi205, hf⟩ := ck_el hf
                                        refine z_sld C hX hbl hbA hi205 dL_law_707 ?_
                                        refine z_aload_n C 0 dL_law_708 rfl rfl ?_
                                        refine z_iload_n C 3 dL_law_709 rfl rfl ?_
                                        refine z_iconst C (v := 2) dL_law_710 rfl ?_
                                        refine z_iadd C dL_law_711 ?_
                                        obtain ⟨hi206, hf⟩ := ck_el hf
                                        refine z_sld C hX hbl hbA hi206 dL_law_712 ?_
                                        refine z_aload_n C 0 dL_law_713 rfl rfl ?_
                                        refine z_iload_n C 3 dL_law_714 rfl rfl ?_
                                        refine z_iconst C (v := 3) dL_law_715 rfl ?_
                                        refine z_iadd C dL_law_716 ?_
                                        obtain ⟨hi207, hf⟩ := ck_el hf
                                        refine z_sld C hX hbl hbA hi207 dL_law_717 ?_
                                        obtain ⟨r209, hc208, hf⟩ := zb_el hf
                                        refine z_lXi C (c_X6_part _ _ hc208) rfl gLw_X6_part rfl rfl zdX6_part rfl rfl ⟨Nat.le_of_ble_eq_true rfl, Nat.le_of_ble_eq_true rfl⟩ hS0 (Nat.le_of_ble_eq_true rfl) dL_law_718 rfl ?_
                                        refine z_pop C dL_law_721 ?_
                                        refine z_aload_n C 2 dL_law_722 rfl rfl ?_
                                        refine z_aload_n C 0 dL_law_723 rfl rfl ?_
                                        refine z_iload_n C 3 dL_law_724 rfl rfl ?_
                                        refine z_iconst C (v := 1) dL_law_725 rfl ?_
                                        refine z_iadd C dL_law_726 ?_
                                        obtain ⟨hi210, hf⟩ := ck_el hf
                                        refine z_sld C hX hbl hbA hi210 dL_law_727 ?_
                                        refine z_aload_n C 0 dL_law_728 rfl rfl ?_
                                        refine z_iload_n C 3 dL_law_729 rfl rfl ?_
                                        refine z_iconst C (v := 2) dL_law_730 rfl ?_
                                        refine z_iadd C dL_law_731 ?_
                                        obtain ⟨hi211, hf⟩ := ck_el hf
                                        refine z_sld C hX hbl hbA hi211 dL_law_732 ?_
                                        refine z_aload_n C 0 dL_law_733 rfl rfl ?_
                                        refine z_iload_n C 3 dL_law_734 rfl rfl ?_
                                        refine z_iconst C (v := 3) dL_law_735 rfl ?_
                                        refine z_iadd C dL_law_736 ?_
                                        obtain ⟨hi212, hf⟩ := ck_el hf
                                        refine z_sld C hX hbl hbA hi212 dL_law_737 ?_
                                        obtain ⟨r214, hc213, hf⟩ := zb_el hf
                                        refine z_lMi C (c_X7_part _ _ hc213) rfl gLw_X7_part rfl rfl zdX7_part rfl rfl ⟨Nat.le_of_ble_eq_true rfl, Nat.le_of_ble_eq_true rfl⟩ hS0 (Nat.le_of_ble_eq_true rfl) dL_law_738 rfl ?_
                                        refine z_pop C dL_law_741 ?_
                                        refine z_goto (tgt := 857) C dL_law_742 (by decide) ?_
                                        obtain ⟨x215, e_x215⟩ : ∃ y : Int32, y = i + 6 := ⟨_, rfl⟩
                                        replace hf := bn_to e_x215 hf
                                        refine z_iinc C (lv2 := [(0, .ref b), (1, .ref ((zw K).2.1 0)), (2, .ref ((zw K).2.1 44)), (3, .int x215)]) 3 [1, 2, 3, 0] dL_law_857 rfl rfl (Nat.le_of_ble_eq_true rfl) e_x215 rfl ?_
                                        refine z_goto (tgt := 18) C dL_law_860 (by decide) ?_
                                        cases hf
                                        exact z_sub [0, 1, 2, 3] rfl (ih _ _ _ hz)
                                      · replace hf := if_f c204 hf
                                        refine zby (c := ((xs (Int32.toNatClampNeg i)) &&& 31) = 17) (fun c216 => ?_) (fun c216 => ?_)
                                        · replace hf := if_t c216 hf
                                          refine z_tab (v := 17) (tgt := 745) (off := 712) C c216 dL_law_33 (by decide) (by decide) rfl (by decide) ?_
                                          refine z_aload_n C 1 dL_law_745 rfl rfl ?_
                                          refine z_aload_n C 0 dL_law_746 rfl rfl ?_
                                          refine z_iload_n C 3 dL_law_747 rfl rfl ?_
                                          refine z_iconst C (v := 1) dL_law_748 rfl ?_
                                          refine z_iadd C dL_law_749 ?_
                                          obtain ⟨hi217, hf⟩ := ck_el hf
                                          refine z_sld C hX hbl hbA hi217 dL_law_750 ?_
                                          refine z_aload_n C 0 dL_law_751 rfl rfl ?_
                                          refine z_iload_n C 3 dL_law_752 rfl rfl ?_
                                          refine z_iconst C (v := 2) dL_law_753 rfl ?_
                                          refine z_iadd C dL_law_754 ?_
                                          obtain ⟨hi218, hf⟩ := ck_el hf
                                          refine z_sld C hX hbl hbA hi218 dL_law_755 ?_
                                          obtain ⟨r220, hc219, hf⟩ := zb_el hf
                                          refine z_lXi C (c_X6_told _ _ hc219) rfl gLw_X6_told rfl rfl zdX6_told rfl rfl ⟨Nat.le_of_ble_eq_true rfl, Nat.le_of_ble_eq_true rfl⟩ hS0 (Nat.le_of_ble_eq_true rfl) dL_law_756 rfl ?_
                                          refine z_pop C dL_law_759 ?_
                                          refine z_aload_n C 2 dL_law_760 rfl rfl ?_
                                          refine z_aload_n C 0 dL_law_761 rfl rfl ?_
                                          refine z_iload_n C 3 dL_law_762 rfl rfl ?_
                                          refine z_iconst C (v := 1) dL_law_763 rfl ?_
                                          refine z_iadd C dL_law_764 ?_
                                          obtain ⟨hi221, hf⟩ := ck_el hf
                                          refine z_sld C hX hbl hbA hi221 dL_law_765 ?_
                                          refine z_aload_n C 0 dL_law_766 rfl rfl ?_
                                          refine z_iload_n C 3 dL_law_767 rfl rfl ?_
                                          refine z_iconst C (v := 2) dL_law_768 rfl ?_
                                          refine z_iadd C dL_law_769 ?_
                                          obtain ⟨hi222, hf⟩ := ck_el hf
                                          refine z_sld C hX hbl hbA hi222 dL_law_770 ?_
                                          obtain ⟨r224, hc223, hf⟩ := zb_el hf
                                          refine z_lMi C (c_X7_told _ _ hc223) rfl gLw_X7_told rfl rfl zdX7_told rfl rfl ⟨Nat.le_of_ble_eq_true rfl, Nat.le_of_ble_eq_true rfl⟩ hS0 (Nat.le_of_ble_eq_true rfl) dL_law_771 rfl ?_
                                          refine z_pop C dL_law_774 ?_
                                          refine z_goto (tgt := 857) C dL_law_775 (by decide) ?_
                                          obtain ⟨x225, e_x225⟩ : ∃ y : Int32, y = i + 6 := ⟨_, rfl⟩
                                          replace hf := bn_to e_x225 hf
                                          refine z_iinc C (lv2 := [(0, .ref b), (1, .ref ((zw K).2.1 0)), (2, .ref ((zw K).2.1 44)), (3, .int x225)]) 3 [1, 2, 3, 0] dL_law_857 rfl rfl (Nat.le_of_ble_eq_true rfl) e_x225 rfl ?_
                                          refine z_goto (tgt := 18) C dL_law_860 (by decide) ?_
                                          cases hf
                                          exact z_sub [0, 1, 2, 3] rfl (ih _ _ _ hz)
                                        · replace hf := if_f c216 hf
                                          refine zby (c := ((xs (Int32.toNatClampNeg i)) &&& 31) = 18) (fun c226 => ?_) (fun c226 => ?_)
                                          · replace hf := if_t c226 hf
                                            refine z_tab (v := 18) (tgt := 778) (off := 745) C c226 dL_law_33 (by decide) (by decide) rfl (by decide) ?_
                                            refine z_aload_n C 1 dL_law_778 rfl rfl ?_
                                            refine z_aload_n C 0 dL_law_779 rfl rfl ?_
                                            refine z_iload_n C 3 dL_law_780 rfl rfl ?_
                                            refine z_iconst C (v := 1) dL_law_781 rfl ?_
                                            refine z_iadd C dL_law_782 ?_
                                            obtain ⟨hi227, hf⟩ := ck_el hf
                                            refine z_sld C hX hbl hbA hi227 dL_law_783 ?_
                                            refine z_aload_n C 0 dL_law_784 rfl rfl ?_
                                            refine z_iload_n C 3 dL_law_785 rfl rfl ?_
                                            refine z_iconst C (v := 2) dL_law_786 rfl ?_
                                            refine z_iadd C dL_law_787 ?_
                                            obtain ⟨hi228, hf⟩ := ck_el hf
                                            refine z_sld C hX hbl hbA hi228 dL_law_788 ?_
                                            refine z_aload_n C 0 dL_law_789 rfl rfl ?_
                                            refine z_iload_n C 3 dL_law_790 rfl rfl ?_
                                            refine z_iconst C (v := 3) dL_law_791 rfl ?_
                                            refine z_iadd C dL_law_792 ?_
                                            obtain ⟨hi229, hf⟩ := ck_el hf
                                            refine z_sld C hX hbl hbA hi229 dL_law_793 ?_
                                            obtain ⟨r231, hc230, hf⟩ := zb_el hf
                                            refine z_lXi C (c_X6_from _ _ hc230) rfl gLw_X6_from rfl rfl zdX6_from rfl rfl ⟨Nat.le_of_ble_eq_true rfl, Nat.le_of_ble_eq_true rfl⟩ hS0 (Nat.le_of_ble_eq_true rfl) dL_law_794 rfl ?_
                                            refine z_pop C dL_law_797 ?_
                                            refine z_aload_n C 2 dL_law_798 rfl rfl ?_
                                            refine z_aload_n C 0 dL_law_799 rfl rfl ?_
                                            refine z_iload_n C 3 dL_law_800 rfl rfl ?_
                                            refine z_iconst C (v := 1) dL_law_801 rfl ?_
                                            refine z_iadd C dL_law_802 ?_
                                            obtain ⟨hi232, hf⟩ := ck_el hf
                                            refine z_sld C hX hbl hbA hi232 dL_law_803 ?_
                                            refine z_aload_n C 0 dL_law_804 rfl rfl ?_
                                            refine z_iload_n C 3 dL_law_805 rfl rfl ?_
                                            refine z_iconst C (v := 2) dL_law_806 rfl ?_
                                            refine z_iadd C dL_law_807 ?_
                                            obtain ⟨hi233, hf⟩ := ck_el hf
                                            refine z_sld C hX hbl hbA hi233 dL_law_808 ?_
                                            refine z_aload_n C 0 dL_law_809 rfl rfl ?_
                                            refine z_iload_n C 3 dL_law_810 rfl rfl ?_
                                            refine z_iconst C (v := 3) dL_law_811 rfl ?_
                                            refine z_iadd C dL_law_812 ?_
                                            obtain ⟨hi234, hf⟩ := ck_el hf
                                            refine z_sld C hX hbl hbA hi234 dL_law_813 ?_
                                            obtain ⟨r236, hc235, hf⟩ := zb_el hf
                                            refine z_lMi C (c_X7_from _ _ hc235) rfl gLw_X7_from rfl rfl zdX7_from rfl rfl ⟨Nat.le_of_ble_eq_true rfl, Nat.le_of_ble_eq_true rfl⟩ hS0 (Nat.le_of_ble_eq_true rfl) dL_law_814 rfl ?_
                                            refine z_pop C dL_law_817 ?_
                                            refine z_goto (tgt := 857) C dL_law_818 (by decide) ?_
                                            obtain ⟨x237, e_x237⟩ : ∃ y : Int32, y = i + 6 := ⟨_, rfl⟩
                                            replace hf := bn_to e_x237 hf
                                            refine z_iinc C (lv2 := [(0, .ref b), (1, .ref ((zw K).2.1 0)), (2, .ref ((zw K).2.1 44)), (3, .int x237)]) 3 [1, 2, 3, 0] dL_law_857 rfl rfl (Nat.le_of_ble_eq_true rfl) e_x237 rfl ?_
                                            refine z_goto (tgt := 18) C dL_law_860 (by decide) ?_
                                            cases hf
                                            exact z_sub [0, 1, 2, 3] rfl (ih _ _ _ hz)
                                          · replace hf := if_f c226 hf
                                            refine zby (c := ((xs (Int32.toNatClampNeg i)) &&& 31) = 19) (fun c238 => ?_) (fun c238 => ?_)
                                            · replace hf := if_t c238 hf
                                              refine z_tab (v := 19) (tgt := 821) (off := 788) C c238 dL_law_33 (by decide) (by decide) rfl (by decide) ?_
                                              refine z_aload_n C 1 dL_law_821 rfl rfl ?_
                                              obtain ⟨r240, m241, hc239, hf⟩ := zb2_el hf
                                              refine z_lXi C (c_X6_reset _ _ hc239) rfl gLw_X6_reset rfl rfl zdX6_reset rfl rfl ⟨Nat.le_of_ble_eq_true rfl, Nat.le_of_ble_eq_true rfl⟩ hS0 (Nat.le_of_ble_eq_true rfl) dL_law_822 rfl ?_
                                              refine z_pop C dL_law_825 ?_
                                              refine z_aload_n C 2 dL_law_826 rfl rfl ?_
                                              obtain ⟨r243, m244, hc242, hf⟩ := zb2_el hf
                                              refine z_lMi C (c_X7_reset _ _ hc242) rfl gLw_X7_reset rfl rfl zdX7_reset rfl rfl ⟨Nat.le_of_ble_eq_true rfl, Nat.le_of_ble_eq_true rfl⟩ hS0 (Nat.le_of_ble_eq_true rfl) dL_law_827 rfl ?_
                                              refine z_pop C dL_law_830 ?_
                                              refine z_goto (tgt := 857) C dL_law_831 (by decide) ?_
                                              obtain ⟨x245, e_x245⟩ : ∃ y : Int32, y = i + 6 := ⟨_, rfl⟩
                                              replace hf := bn_to e_x245 hf
                                              refine z_iinc C (lv2 := [(0, .ref b), (1, .ref ((zw K).2.1 0)), (2, .ref ((zw K).2.1 44)), (3, .int x245)]) 3 [1, 2, 3, 0] dL_law_857 rfl rfl (Nat.le_of_ble_eq_true rfl) e_x245 rfl ?_
                                              refine z_goto (tgt := 18) C dL_law_860 (by decide) ?_
                                              cases hf
                                              exact z_sub [0, 1, 2, 3] rfl (ih _ _ _ hz)
                                            · replace hf := if_f c238 hf
                                              refine zby (c := ((xs (Int32.toNatClampNeg i)) &&& 31) = 20) (fun c246 => ?_) (fun c246 => ?_)
                                              · replace hf := if_t c246 hf
                                                refine z_tab (v := 20) (tgt := 834) (off := 801) C c246 dL_law_33 (by decide) (by decide) rfl (by decide) ?_
                                                refine z_aload_n C 1 dL_law_834 rfl rfl ?_
                                                refine z_aload_n C 0 dL_law_835 rfl rfl ?_
                                                refine z_iload_n C 3 dL_law_836 rfl rfl ?_
                                                refine z_iconst C (v := 1) dL_law_837 rfl ?_
                                                refine z_iadd C dL_law_838 ?_
                                                obtain ⟨hi247, hf⟩ := ck_el hf
                                                refine z_sld C hX hbl hbA hi247 dL_law_839 ?_
                                                obtain ⟨r249, m250, hc248, hf⟩ := zb2_el hf
                                                refine z_lXi C (c_X6_count _ _ hc248) rfl gLw_X6_count rfl rfl zdX6_count rfl rfl ⟨Nat.le_of_ble_eq_true rfl, Nat.le_of_ble_eq_true rfl⟩ hS0 (Nat.le_of_ble_eq_true rfl) dL_law_840 rfl ?_
                                                refine z_pop C dL_law_843 ?_
                                                refine z_aload_n C 2 dL_law_844 rfl rfl ?_
                                                refine z_aload_n C 0 dL_law_845 rfl rfl ?_
                                                refine z_iload_n C 3 dL_law_846 rfl rfl ?_
                                                refine z_iconst C (v := 1) dL_law_847 rfl ?_
                                                refine z_iadd C dL_law_848 ?_
                                                obtain ⟨hi251, hf⟩ := ck_el hf
                                                refine z_sld C hX hbl hbA hi251 dL_law_849 ?_
                                                obtain ⟨r253, m254, hc252, hf⟩ := zb2_el hf
                                                refine z_lMi C (c_X7_count _ _ hc252) rfl gLw_X7_count rfl rfl zdX7_count rfl rfl ⟨Nat.le_of_ble_eq_true rfl, Nat.le_of_ble_eq_true rfl⟩ hS0 (Nat.le_of_ble_eq_true rfl) dL_law_850 rfl ?_
                                                refine z_pop C dL_law_853 ?_
                                                refine z_goto (tgt := 857) C dL_law_854 (by decide) ?_
                                                obtain ⟨x255, e_x255⟩ : ∃ y : Int32, y = i + 6 := ⟨_, rfl⟩
                                                replace hf := bn_to e_x255 hf
                                                refine z_iinc C (lv2 := [(0, .ref b), (1, .ref ((zw K).2.1 0)), (2, .ref ((zw K).2.1 44)), (3, .int x255)]) 3 [1, 2, 3, 0] dL_law_857 rfl rfl (Nat.le_of_ble_eq_true rfl) e_x255 rfl ?_
                                                refine z_goto (tgt := 18) C dL_law_860 (by decide) ?_
                                                cases hf
                                                exact z_sub [0, 1, 2, 3] rfl (ih _ _ _ hz)
                                              · replace hf := if_f c246 hf
                                                refine z_tabd (tgt := 857) C dL_law_33 (ztab_out (n := 21) (Nat.le_of_ble_eq_true rfl) (lt_s (lt_s (lt_s (lt_s (lt_s (lt_s (lt_s (lt_s (lt_s (lt_s (lt_s (lt_s (lt_s (lt_s (lt_s (lt_s (lt_s (lt_s (lt_s (lt_s (lt_s lt_0 c2) c22) c41) c55) c69) c87) c97) c105) c111) c123) c135) c145) c155) c169) c181) c193) c204) c216) c226) c238) c246)) (by decide) ?_
                                                obtain ⟨x256, e_x256⟩ : ∃ y : Int32, y = i + 6 := ⟨_, rfl⟩
                                                replace hf := bn_to e_x256 hf
                                                refine z_iinc C (lv2 := [(0, .ref b), (1, .ref ((zw K).2.1 0)), (2, .ref ((zw K).2.1 44)), (3, .int x256)]) 3 [1, 2, 3, 0] dL_law_857 rfl rfl (Nat.le_of_ble_eq_true rfl) e_x256 rfl ?_
                                                refine z_goto (tgt := 18) C dL_law_860 (by decide) ?_
                                                cases hf
                                                exact z_sub [0, 1, 2, 3] rfl (ih _ _ _ hz)
