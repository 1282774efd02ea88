def t_law (xs : Nat → Int32) (L : Nat) (i : Int32) (mx mm : Mem) : Option ((Int32 × Mem × Mem) ⊕ Int32) :=
  (if ((nI L) - 6) < i then (some (.inr 1)) else (ck (zin i L = true) ((if ((xs (Int32.toNatClampNeg i)) &&& 31) = 0 then (ck (zin (i + 1) L = true) ((((if (xs (Int32.toNatClampNeg (i + 1))) = 0 then (some 0) else (some 1)) : Option (Int32)).bind fun y4 => ck (zin (i + 2) L = true) (zb2 (s_X6_node mx y4 (xs (Int32.toNatClampNeg (i + 2)))) fun r7 m8 => ck (zin (i + 1) L = true) ((((if (xs (Int32.toNatClampNeg (i + 1))) = 0 then (some 0) else (some 1)) : Option (Int32)).bind fun y10 => ck (zin (i + 2) L = true) (zb2 (s_X7_node mm y10 (xs (Int32.toNatClampNeg (i + 2)))) fun r13 m14 => (if r7 = r13 then (bn (i + 6) fun x15 => some (.inl (x15, m8, m14))) else (some (.inr 0)))))))))) else ((if ((xs (Int32.toNatClampNeg i)) &&& 31) = 1 then (ck (zin (i + 1) L = true) (ck (zin (i + 2) L = true) ((((if (xs (Int32.toNatClampNeg (i + 2))) = 0 then (some 0) else (some 1)) : Option (Int32)).bind fun y22 => ck (zin (i + 3) L = true) (zb2 (s_X6_value mx (xs (Int32.toNatClampNeg (i + 1))) y22 (xs (Int32.toNatClampNeg (i + 3)))) fun r25 m26 => ck (zin (i + 1) L = true) (ck (zin (i + 2) L = true) ((((if (xs (Int32.toNatClampNeg (i + 2))) = 0 then (some 0) else (some 1)) : Option (Int32)).bind fun y29 => ck (zin (i + 3) L = true) (zb2 (s_X7_value mm (xs (Int32.toNatClampNeg (i + 1))) y29 (xs (Int32.toNatClampNeg (i + 3)))) fun r32 m33 => (if r25 = r32 then (bn (i + 6) fun x34 => some (.inl (x34, m26, m33))) else (some (.inr 0)))))))))))) else ((if ((xs (Int32.toNatClampNeg i)) &&& 31) = 2 then (ck (zin (i + 1) L = true) (ck (zin (i + 2) L = true) (ck (zin (i + 3) L = true) (zb2 (s_X6_edge mx (xs (Int32.toNatClampNeg (i + 1))) (xs (Int32.toNatClampNeg (i + 2))) (xs (Int32.toNatClampNeg (i + 3)))) fun r43 m44 => ck (zin (i + 1) L = true) (ck (zin (i + 2) L = true) (ck (zin (i + 3) L = true) (zb2 (s_X7_edge mm (xs (Int32.toNatClampNeg (i + 1))) (xs (Int32.toNatClampNeg (i + 2))) (xs (Int32.toNatClampNeg (i + 3)))) fun r49 m50 => (if r43 = r49 then (bn (i + 6) fun x51 => some (.inl (x51, m44, m50))) else (some (.inr 0)))))))))) else ((if ((xs (Int32.toNatClampNeg i)) &&& 31) = 3 then (ck (zin (i + 1) L = true) (ck (zin (i + 2) L = true) (ck (zin (i + 3) L = true) (zb2 (s_X6_cut mx (xs (Int32.toNatClampNeg (i + 1))) (xs (Int32.toNatClampNeg (i + 2))) (xs (Int32.toNatClampNeg (i + 3)))) fun r58 m59 => ck (zin (i + 1) L = true) (ck (zin (i + 2) L = true) (ck (zin (i + 3) L = true) (zb2 (s_X7_cut mm (xs (Int32.toNatClampNeg (i + 1))) (xs (Int32.toNatClampNeg (i + 2))) (xs (Int32.toNatClampNeg (i + 3)))) fun r64 m65 => (if r58 = r64 then (bn (i + 6) fun x66 => some (.inl (x66, m59, m65))) else (some (.inr 0)))))))))) else ((if ((xs (Int32.toNatClampNeg i)) &&& 31) = 4 then (ck (zin (i + 1) L = true) (ck (zin (i + 2) L = true) (ck (zin (i + 3) L = true) (ck (zin (i + 4) L = true) (ck (zin (i + 5) L = true) (zb2 (s_X6_feed mx (xs (Int32.toNatClampNeg (i + 1))) (xs (Int32.toNatClampNeg (i + 2))) (xs (Int32.toNatClampNeg (i + 3))) (xs (Int32.toNatClampNeg (i + 4))) (xs (Int32.toNatClampNeg (i + 5)))) fun r75 m76 => ck (zin (i + 1) L = true) (ck (zin (i + 2) L = true) (ck (zin (i + 3) L = true) (ck (zin (i + 4) L = true) (ck (zin (i + 5) L = true) (zb2 (s_X7_feed mm (xs (Int32.toNatClampNeg (i + 1))) (xs (Int32.toNatClampNeg (i + 2))) (xs (Int32.toNatClampNeg (i + 3))) (xs (Int32.toNatClampNeg (i + 4))) (xs (Int32.toNatClampNeg (i + 5)))) fun r83 m84 => (if r75 = r83 then (bn (i + 6) fun x85 => some (.inl (x85, m76, m84))) else (some (.inr 0)))))))))))))) else ((if ((xs (Int32.toNatClampNeg i)) &&& 31) = 5 then (ck (zin (i + 1) L = true) (zb2 (s_X6_end mx (xs (Int32.toNatClampNeg (i + 1)))) fun r90 m91 => ck (zin (i + 1) L = true) (zb2 (s_X7_end mm (xs (Int32.toNatClampNeg (i + 1)))) fun r94 m95 => (if r90 = r94 then (bn (i + 6) fun x96 => some (.inl (x96, m91, m95))) else (some (.inr 0)))))) else ((if ((xs (Int32.toNatClampNeg i)) &&& 31) = 6 then (zb2 (s_X6_shapes mx) fun r100 m101 => zb2 (s_X7_shapes mm) fun r103 m104 => (if r100 = r103 then (bn (i + 6) fun x105 => some (.inl (x105, m101, m104))) else (some (.inr 0)))) else ((if ((xs (Int32.toNatClampNeg i)) &&& 31) = 7 then ((s_X6_fault mx).bind fun r109 => (s_X7_fault mm).bind fun r111 => (if r109 = r111 then (bn (i + 6) fun x112 => some (.inl (x112, mx, mm))) else (some (.inr 0)))) else ((if ((xs (Int32.toNatClampNeg i)) &&& 31) = 8 then (ck (zin (i + 1) L = true) (ck (zin (i + 2) L = true) (zb2 (s_X6_fits mx (xs (Int32.toNatClampNeg (i + 1))) (xs (Int32.toNatClampNeg (i + 2)))) fun r118 m119 => ck (zin (i + 1) L = true) (ck (zin (i + 2) L = true) (zb2 (s_X7_fits mm (xs (Int32.toNatClampNeg (i + 1))) (xs (Int32.toNatClampNeg (i + 2)))) fun r123 m124 => (if r118 = r123 then (bn (i + 6) fun x125 => some (.inl (x125, m119, m124))) else (some (.inr 0)))))))) else ((if ((xs (Int32.toNatClampNeg i)) &&& 31) = 9 then (ck (zin (i + 1) L = true) (ck (zin (i + 2) L = true) (zb2 (s_X6_surely mx (xs (Int32.toNatClampNeg (i + 1))) (xs (Int32.toNatClampNeg (i + 2)))) fun r131 m132 => ck (zin (i + 1) L = true) (ck (zin (i + 2) L = true) (zb2 (s_X7_surely mm (xs (Int32.toNatClampNeg (i + 1))) (xs (Int32.toNatClampNeg (i + 2)))) fun r136 m137 => (if r131 = r136 then (bn (i + 6) fun x138 => some (.inl (x138, m132, m137))) else (some (.inr 0)))))))) else ((if ((xs (Int32.toNatClampNeg i)) &&& 31) = 10 then (ck (zin (i + 1) L = true) (zb2 (s_X6_all mx (xs (Int32.toNatClampNeg (i + 1)))) fun r143 m144 => ck (zin (i + 1) L = true) (zb2 (s_X7_all mm (xs (Int32.toNatClampNeg (i + 1)))) fun r147 m148 => (if r143 = r147 then (bn (i + 6) fun x149 => some (.inl (x149, m144, m148))) else (some (.inr 0)))))) else ((if ((xs (Int32.toNatClampNeg i)) &&& 31) = 11 then (ck (zin (i + 1) L = true) (ck (zin (i + 2) L = true) ((s_X6_wanted mx (xs (Int32.toNatClampNeg (i + 1))) (xs (Int32.toNatClampNeg (i + 2)))).bind fun r155 => ck (zin (i + 1) L = true) (ck (zin (i + 2) L = true) ((s_X7_wanted mm (xs (Int32.toNatClampNeg (i + 1))) (xs (Int32.toNatClampNeg (i + 2)))).bind fun r159 => (if r155 = r159 then (bn (i + 6) fun x160 => some (.inl (x160, mx, mm))) else (some (.inr 0)))))))) else ((if ((xs (Int32.toNatClampNeg i)) &&& 31) = 12 then (ck (zin (i + 1) L = true) (ck (zin (i + 2) L = true) (ck (zin (i + 3) L = true) (zb2 (s_X6_dealt mx (xs (Int32.toNatClampNeg (i + 1))) (xs (Int32.toNatClampNeg (i + 2))) (xs (Int32.toNatClampNeg (i + 3)))) fun r167 m168 => ck (zin (i + 1) L = true) (ck (zin (i + 2) L = true) (ck (zin (i + 3) L = true) (zb2 (s_X7_dealt mm (xs (Int32.toNatClampNeg (i + 1))) (xs (Int32.toNatClampNeg (i + 2))) (xs (Int32.toNatClampNeg (i + 3)))) fun r173 m174 => (if r167 = r173 then (bn (i + 6) fun x175 => some (.inl (x175, m168, m174))) else (some (.inr 0)))))))))) else ((if ((xs (Int32.toNatClampNeg i)) &&& 31) = 13 then (ck (zin (i + 1) L = true) (ck (zin (i + 2) L = true) (zb2 (s_X6_tooMany mx (xs (Int32.toNatClampNeg (i + 1))) (xs (Int32.toNatClampNeg (i + 2)))) fun r181 m182 => ck (zin (i + 1) L = true) (ck (zin (i + 2) L = true) (zb2 (s_X7_tooMany mm (xs (Int32.toNatClampNeg (i + 1))) (xs (Int32.toNatClampNeg (i + 2)))) fun r186 m187 => (if r181 = r186 then (bn (i + 6) fun x188 => some (.inl (x188, m182, m187))) else (some (.inr 0)))))))) else ((if ((xs (Int32.toNatClampNeg i)) &&& 31) = 14 then (ck (zin (i + 1) L = true) (ck (zin (i + 2) L = true) (zb2 (s_X6_which mx (xs (Int32.toNatClampNeg (i + 1))) (xs (Int32.toNatClampNeg (i + 2)))) fun r194 m195 => ck (zin (i + 1) L = true) (ck (zin (i + 2) L = true) (zb2 (s_X7_which mm (xs (Int32.toNatClampNeg (i + 1))) (xs (Int32.toNatClampNeg (i + 2)))) fun r199 m200 => (if r194 = r199 then (bn (i + 6) fun x201 => some (.inl (x201, m195, m200))) else (some (.inr 0)))))))) else ((if ((xs (Int32.toNatClampNeg i)) &&& 31) = 15 then (ck (zin (i + 1) L = true) (ck (zin (i + 2) L = true) ((s_X6_depends mx (xs (Int32.toNatClampNeg (i + 1))) (xs (Int32.toNatClampNeg (i + 2)))).bind fun r207 => ck (zin (i + 1) L = true) (ck (zin (i + 2) L = true) (zb2 (s_X7_depends mm (xs (Int32.toNatClampNeg (i + 1))) (xs (Int32.toNatClampNeg (i + 2)))) fun r211 m212 => (if r207 = r211 then (bn (i + 6) fun x213 => some (.inl (x213, mx, m212))) else (some (.inr 0)))))))) else ((if ((xs (Int32.toNatClampNeg i)) &&& 31) = 16 then (ck (zin (i + 1) L = true) (ck (zin (i + 2) L = true) (ck (zin (i + 3) L = true) ((s_X6_part mx (xs (Int32.toNatClampNeg (i + 1))) (xs (Int32.toNatClampNeg (i + 2))) (xs (Int32.toNatClampNeg (i + 3)))).bind fun r220 => ck (zin (i + 1) L = true) (ck (zin (i + 2) L = true) (ck (zin (i + 3) L = true) ((s_X7_part mm (xs (Int32.toNatClampNeg (i + 1))) (xs (Int32.toNatClampNeg (i + 2))) (xs (Int32.toNatClampNeg (i + 3)))).bind fun r225 => (if r220 = r225 then (bn (i + 6) fun x226 => some (.inl (x226, mx, mm))) else (some (.inr 0)))))))))) else ((if ((xs (Int32.toNatClampNeg i)) &&& 31) = 17 then (ck (zin (i + 1) L = true) (ck (zin (i + 2) L = true) ((s_X6_told mx (xs (Int32.toNatClampNeg (i + 1))) (xs (Int32.toNatClampNeg (i + 2)))).bind fun r232 => ck (zin (i + 1) L = true) (ck (zin (i + 2) L = true) ((s_X7_told mm (xs (Int32.toNatClampNeg (i + 1))) (xs (Int32.toNatClampNeg (i + 2)))).bind fun r236 => (if r232 = r236 then (bn (i + 6) fun x237 => some (.inl (x237, mx, mm))) else (some (.inr 0)))))))) else ((if ((xs (Int32.toNatClampNeg i)) &&& 31) = 18 then (ck (zin (i + 1) L = true) (ck (zin (i + 2) L = true) (ck (zin (i + 3) L = true) ((s_X6_from mx (xs (Int32.toNatClampNeg (i + 1))) (xs (Int32.toNatClampNeg (i + 2))) (xs (Int32.toNatClampNeg (i + 3)))).bind fun r244 => ck (zin (i + 1) L = true) (ck (zin (i + 2) L = true) (ck (zin (i + 3) L = true) ((s_X7_from mm (xs (Int32.toNatClampNeg (i + 1))) (xs (Int32.toNatClampNeg (i + 2))) (xs (Int32.toNatClampNeg (i + 3)))).bind fun r249 => (if r244 = r249 then (bn (i + 6) fun x250 => some (.inl (x250, mx, mm))) else (some (.inr 0)))))))))) else ((if ((xs (Int32.toNatClampNeg i)) &&& 31) = 19 then (zb2 (s_X6_reset mx) fun r254 m255 => zb2 (s_X7_reset mm) fun r257 m258 => (if r254 = r257 then (bn (i + 6) fun x259 => some (.inl (x259, m255, m258))) else (some (.inr 0)))) else ((if ((xs (Int32.toNatClampNeg i)) &&& 31) = 20 then (ck (zin (i + 1) L = true) (zb2 (s_X6_count mx (xs (Int32.toNatClampNeg (i + 1)))) fun r264 m265 => ck (zin (i + 1) L = true) (zb2 (s_X7_count mm (xs (Int32.toNatClampNeg (i + 1)))) fun r268 m269 => (if r264 = r268 then (bn (i + 6) fun x270 => some (.inl (x270, m265, m269))) else (some (.inr 0)))))) else (bn (i + 6) fun x272 => some (.inl (x272, mx, mm)))))))))))))))))))))))))))))))))))))))))))))))
def l_law (xs : Nat → Int32) (L n : Nat) (i : Int32) (mx mm : Mem) : Option Int32 := zlp n (fun a => t_law xs L a.1 a.2.1 a.2.2) (i, mx, mm)
set_option maxRecDepth 100000 in
set_option maxHeartbeats 8000000 in
theorem w_law {K : ZK} (C : zOK ML K cL_law 4 ret RL lw_tbl room_1) {b L : Nat} {xs : Nat → Int32} (hX : va_X b L xs K.1.2.2.2.2 K.1.2.2.2.2.heap) (hbl : b < K.1.2.2.2.2.heap.size) (hbA : ¬ (zw K).2.2.2 b) (hS0 : ∀ q, (zw K).2.2.2 q → K.1.2.2.2.2.heap.size ≤ q) (hret : ∀ (σ : Mem) (lv : List (Nat × Value)) (pc : Nat), decode cL_law pc = .ok (.ireturn, 1) → zGo ML K σ lv pc [.int 1]) : ∀ (n : Nat) (i : Int32) (mx mm : Mem), l_law xs L n i mx mm = some 1 → zGo ML K (jn mx mm) [(0, .ref b), (1, .ref ((zw K).2.1 0)), (2, .ref ((zw K).2.1 44)), (3, .int i)] 18 [] := by
  intro n
  induction n with
  | zero =>
    intro i mx mm hf
    cases hf
  | succ n ih =>
    intro i mx mm hf
    obtain ⟨z, hf, hz⟩ := zlp_el hf
    replace hf : t_law xs L i mx mm = some z := hf
    unfold t_law at hf
    refine z_iload_n C 3 dL_law_18 rfl rfl ?_
    refine z_aload_n C 0 dL_law_19 rfl rfl ?_
    refine z_slen C hX hbl hbA dL_law_20 ?_
    refine z_bipush C (v := 6) dL_law_21 rfl ?_
    refine z_isub C dL_law_23 ?_
    refine z_icmp_gt (tgt := 863) C dL_law_24 (by decide) (fun c273 => ?_) (fun c273 => ?_)
    · replace hf := if_t c273 hf
      refine z_iconst C (v := 1) dL_law_863 rfl ?_
      exact hret _ _ _ dL_law_864
    · replace hf := if_f c273 hf
      refine z_aload_n C 0 dL_law_27 rfl rfl ?_
      refine z_iload_n C 3 dL_law_28 rfl rfl ?_
      obtain ⟨hi1, hf⟩ := ck_el hf
      refine z_sld C hX hbl hbA hi1 dL_law_29 ?_
      refine z_bipush C (v := 31) dL_law_30 rfl ?_
      refine z_iand C dL_law_32 ?_
      refine zby (c := ((xs (Int32.toNatClampNeg i)) &&& 31) = 0) (fun c2 => ?_) (fun c2 => ?_)
      · replace hf := if_t c2 hf
        refine z_tab (v := 0) (tgt := 132) (off := 99) C c2 dL_law_33 (by decide) (by decide) rfl (by decide) ?_
        refine z_aload_n C 1 dL_law_132 rfl rfl ?_
        refine z_aload_n C 0 dL_law_133 rfl rfl ?_
        refine z_iload_n C 3 dL_law_134 rfl rfl ?_
        refine z_iconst C (v := 1) dL_law_135 rfl ?_
        refine z_iadd C dL_law_136 ?_
        obtain ⟨hi3, hf⟩ := ck_el hf
        refine z_sld C hX hbl hbA hi3 dL_law_137 ?_
        obtain ⟨y4, hg, hf⟩ := zb_el hf
        have hj : zGo ML K (jn mx mm) [(0, .ref b), (1, .ref ((zw K).2.1 0)), (2, .ref ((zw K).2.1 44)), (3, .int i)] 146 [.int y4, .ref ((zw K).2.1 0)] := by
          refine z_aload_n C 0 dL_law_146 rfl rfl ?_
          refine z_iload_n C 3 dL_law_147 rfl rfl ?_
          refine z_iconst C (v := 2) dL_law_148 rfl ?_
          refine z_iadd C dL_law_149 ?_
          obtain ⟨hi5, hf⟩ := ck_el hf
          refine z_sld C hX hbl hbA hi5 dL_law_150 ?_
          obtain ⟨r7, m8, hc6, hf⟩ := zb2_el hf
          refine z_lXi C (c_X6_node _ _ hc6) rfl gLw_X6_node rfl rfl zdX6_node rfl rfl ⟨Nat.le_of_ble_eq_true rfl, Nat.le_of_ble_eq_true rfl⟩ hS0 (Nat.le_of_ble_eq_true rfl) dL_law_151 rfl ?_
          refine z_aload_n C 2 dL_law_154 rfl rfl ?_
          refine z_aload_n C 0 dL_law_155 rfl rfl ?_
          refine z_iload_n C 3 dL_law_156 rfl rfl ?_
          refine z_iconst C (v := 1) dL_law_157 rfl ?_
          refine z_iadd C dL_law_158 ?_
          obtain ⟨hi9, hf⟩ := ck_el hf
          refine z_sld C hX hbl hbA hi9 dL_law_159 ?_
          obtain ⟨y10, hg, hf⟩ := zb_el hf
          have hj : zGo ML K (jn m8 mm) [(0, .ref b), (1, .ref ((zw K).2.1 0)), (2, .ref ((zw K).2.1 44)), (3, .int i)] 168 [.int y10, .ref ((zw K).2.1 44), .int r7] := by
            refine z_aload_n C 0 dL_law_168 rfl rfl ?_
            refine z_iload_n C 3 dL_law_169 rfl rfl ?_
            refine z_iconst C (v := 2) dL_law_170 rfl ?_
            refine z_iadd C dL_law_171 ?_
            obtain ⟨hi11, hf⟩ := ck_el hf
            refine z_sld C hX hbl hbA hi11 dL_law_172 ?_
            obtain ⟨r13, m14, hc12, hf⟩ := zb2_el hf
            refine z_lMi C (c_X7_node _ _ hc12) rfl gLw_X7_node rfl rfl zdX7_node rfl rfl ⟨Nat.le_of_ble_eq_true rfl, Nat.le_of_ble_eq_true rfl⟩ hS0 (Nat.le_of_ble_eq_true rfl) dL_law_173 rfl ?_
            refine z_icmp_eq (tgt := 857) C dL_law_176 (by decide) (fun c16 => ?_) (fun c16 => ?_)
            · replace hf := if_t c16 hf
              obtain ⟨x15, e_x15⟩ : ∃ y : Int32, y = i + 6 := ⟨_, rfl⟩
              replace hf := bn_to e_x15 hf
              refine z_iinc C (lv2 := [(0, .ref b), (1, .ref ((zw K).2.1 0)), (2, .ref ((zw K).2.1 44)), (3, .int x15)]) 3 [1, 2, 3, 0] dL_law_857 rfl rfl (Nat.le_of_ble_eq_true rfl) e_x15 rfl ?_
              refine z_goto (tgt := 18) C dL_law_860 (by decide) ?_
              cases hf
              exact z_sub [0, 1, 2, 3] rfl (ih _ _ _ hz)
            · replace hf := if_f c16 hf
              refine z_iconst C (v := 0) dL_law_179 rfl ?_
              cases hf
              exact absurd (zlz_r hz) (by decide)
          replace hf := hg
          clear hg
          refine z_if_eq (tgt := 167) C dL_law_160 (by decide) (fun c17 => ?_) (fun c17 => ?_)
          · replace hf := if_t c17 hf
            refine z_iconst C (v := 0) dL_law_167 rfl ?_
            cases hf
            exact z_sub [0, 1, 2, 3] rfl hj
          · replace hf := if_f c17 hf
            refine z_iconst C (v := 1) dL_law_163 rfl ?_
            refine z_goto (tgt := 168) C dL_law_164 (by decide) ?_
            cases hf
            exact z_sub [0, 1, 2, 3] rfl hj
        replace hf := hg
        clear hg
        refine z_if_eq (tgt := 145) C dL_law_138 (by decide) (fun c18 => ?_) (fun c18 => ?_)
        · replace hf := if_t c18 hf
          refine z_iconst C (v := 0) dL_law_145 rfl ?_
          cases hf
          exact z_sub [0, 1, 2, 3] rfl hj
        · replace hf := if_f c18 hf
          refine z_iconst C (v := 1) dL_law_141 rfl ?_
          refine z_goto (tgt := 146) C dL_law_142 (by decide) ?_
          cases hf
          exact z_sub [0, 1, 2, 3] rfl hj
      · replace hf := if_f c2 hf
        refine zby (c := ((xs (Int32.toNatClampNeg i)) &&& 31) = 1) (fun c19 => ?_) (fun c19 => ?_)
        · replace hf := if_t c19 hf
          refine z_tab (v := 1) (tgt := 181) (off := 148) C c19 dL_law_33 (by decide) (by decide) rfl (by decide) ?_
          refine z_aload_n C 1 dL_law_181 rfl rfl ?_
          refine z_aload_n C 0 dL_law_182 rfl rfl ?_
          refine z_iload_n C 3 dL_law_183 rfl rfl ?_
          refine z_iconst C (v := 1) dL_law_184 rfl ?_
          refine z_iadd C dL_law_185 ?_
          obtain ⟨hi20, hf⟩ := ck_el hf
          refine z_sld C hX hbl hbA hi20 dL_law_186 ?_
          refine z_aload_n C 0 dL_law_187 rfl rfl ?_
          refine z_iload_n C 3 dL_law_188 rfl rfl ?_
          refine z_iconst C (v := 2) dL_law_189 rfl ?_
          refine z_iadd C dL_law_190 ?_
          obtain ⟨hi21, hf⟩ := ck_el hf
          refine z_sld C hX hbl hbA hi21 dL_law_191 ?_
          obtain ⟨y22, hg, hf⟩ := zb_el hf
          have hj : zGo ML K (jn mx mm) [(0, .ref b), (1, .ref ((zw K).2.1 0)), (2, .ref ((zw K).2.1 44)), (3, .int i)] 200 [.int y22, .int (xs (Int32.toNatClampNeg (i + 1))), .ref ((zw K).2.1 0)] := by
            refine z_aload_n C 0 dL_law_200 rfl rfl ?_
            refine z_iload_n C 3 dL_law_201 rfl rfl ?_
            refine z_iconst C (v := 3) dL_law_202 rfl ?_
            refine z_iadd C dL_law_203 ?_
            obtain ⟨hi23, hf⟩ := ck_el hf
            refine z_sld C hX hbl hbA hi23 dL_law_204 ?_
            obtain ⟨r25, m26, hc24, hf⟩ := zb2_el hf
            refine z_lXi C (c_X6_value _ _ hc24) rfl gLw_X6_value rfl rfl zdX6_value rfl rfl ⟨Nat.le_of_ble_eq_true rfl, Nat.le_of_ble_eq_true rfl⟩ hS0 (Nat.le_of_ble_eq_true rfl) dL_law_205 rfl ?_
            refine z_aload_n C 2 dL_law_208 rfl rfl ?_
            refine z_aload_n C 0 dL_law_209 rfl rfl ?_
            refine z_iload_n C 3 dL_law_210 rfl rfl ?_
            refine z_iconst C (v := 1) dL_law_211 rfl ?_
            refine z_iadd C dL_law_212 ?_
            obtain ⟨hi27, hf⟩ := ck_el hf
            refine z_sld C hX hbl hbA hi27 dL_law_213 ?_
            refine z_aload_n C 0 dL_law_214 rfl rfl ?_
            refine z_iload_n C 3 dL_law_215 rfl rfl ?_
            refine z_iconst C (v := 2) dL_law_216 rfl ?_
            refine z_iadd C dL_law_217 ?_
            obtain ⟨hi28, hf⟩ := ck_el hf
            refine z_sld C hX hbl hbA hi28 dL_law_218 ?_
            obtain ⟨y29, hg, hf⟩ := zb_el hf
            have hj : zGo ML K (jn m26 mm) [(0, .ref b), (1, .ref ((zw K).2.1 0)), (2, .ref ((zw K).2.1 44)), (3, .int i)] 227 [.int y29, .int (xs (Int32.toNatClampNeg (i + 1))), .ref ((zw K).2.1 44), .int r25] := by
              refine z_aload_n C 0 dL_law_227 rfl rfl ?_
              refine z_iload_n C 3 dL_law_228 rfl rfl ?_
              refine z_iconst C (v := 3) dL_law_229 rfl ?_
              refine z_iadd C dL_law_230 ?_
              obtain ⟨hi30, hf⟩ := ck_el hf
              refine z_sld C hX hbl hbA hi30 dL_law_231 ?_
              obtain ⟨r32, m33, hc31, hf⟩ := zb2_el hf
              refine z_lMi C (c_X7_value _ _ hc31) rfl gLw_X7_value rfl rfl zdX7_value rfl rfl ⟨Nat.le_of_ble_eq_true rfl, Nat.le_of_ble_eq_true rfl⟩ hS0 (Nat.le_of_ble_eq_true rfl) dL_law_232 rfl ?_
              refine z_icmp_eq (tgt := 857) C dL_law_235 (by decide) (fun c35 => ?_) (fun c35 => ?_)
              · replace hf := if_t c35 hf
                obtain ⟨x34, e_x34⟩ : ∃ y : Int32, y = i + 6 := ⟨_, rfl⟩
                replace hf := bn_to e_x34 hf
                refine z_iinc C (lv2 := [(0, .ref b), (1, .ref ((zw K).2.1 0)), (2, .ref ((zw K).2.1 44)), (3, .int x34)]) 3 [1, 2, 3, 0] dL_law_857 rfl rfl (Nat.le_of_ble_eq_true rfl) e_x34 rfl ?_
                refine z_goto (tgt := 18) C dL_law_860 (by decide) ?_
                cases hf
                exact z_sub [0, 1, 2, 3] rfl (ih _ _ _ hz)
              · replace hf := if_f c35 hf
                refine z_iconst C (v := 0) dL_law_238 rfl ?_
                cases hf
                exact absurd (zlz_r hz) (by decide)
            replace hf := hg
            clear hg
            refine z_if_eq (tgt := 226) C dL_law_219 (by decide) (fun c36 => ?_) (fun c36 => ?_)
            · replace hf := if_t c36 hf
              refine z_iconst C (v := 0) dL_law_226 rfl ?_
              cases hf
              exact z_sub [0, 1, 2, 3] rfl hj
            · replace hf := if_f c36 hf
              refine z_iconst C (v := 1) dL_law_222 rfl ?_
              refine z_goto (tgt := 227) C dL_law_223 (by decide) ?_
              cases hf
              exact z_sub [0, 1, 2, 3] rfl hj
          replace hf := hg
          clear hg
          refine z_if_eq (tgt := 199) C dL_law_192 (by decide) (fun c37 => ?_) (fun c37 => ?_)
          · replace hf := if_t c37 hf
            refine z_iconst C (v := 0) dL_law_199 rfl ?_
            cases hf
            exact z_sub [0, 1, 2, 3] rfl hj
          · replace hf := if_f c37 hf
            refine z_iconst C (v := 1) dL_law_195 rfl ?_
            refine z_goto (tgt := 200) C dL_law_196 (by decide) ?_
            cases hf
            exact z_sub [0, 1, 2, 3] rfl hj
        · replace hf := if_f c19 hf
          refine zby (c := ((xs (Int32.toNatClampNeg i)) &&& 31) = 2) (fun c38 => ?_) (fun c38 => ?_)
          · replace hf := if_t c38 hf
            refine z_tab (v := 2) (tgt := 240) (off := 207) C c38 dL_law_33 (by decide) (by decide) rfl (by decide) ?_
            refine z_aload_n C 1 dL_law_240 rfl rfl ?_
            refine z_aload_n C 0 dL_law_241 rfl rfl ?_
            refine z_iload_n C 3 dL_law_242 rfl rfl ?_
            refine z_iconst C (v := 1) dL_law_243 rfl ?_
            refine z_iadd C dL_law_244 ?_
            obtain ⟨hi39, hf⟩ := ck_el hf
            refine z_sld C hX hbl hbA hi39 dL_law_245 ?_
            refine z_aload_n C 0 dL_law_246 rfl rfl ?_
            refine z_iload_n C 3 dL_law_247 rfl rfl ?_
            refine z_iconst C (v := 2) dL_law_248 rfl ?_
            refine z_iadd C dL_law_249 ?_
            obtain ⟨hi40, hf⟩ := ck_el hf
            refine z_sld C hX hbl hbA hi40 dL_law_250 ?_
            refine z_aload_n C 0 dL_law_251 rfl rfl ?_
            refine z_iload_n C 3 dL_law_252 rfl rfl ?_
            refine z_iconst C (v := 3) dL_law_253 rfl ?_
            refine z_iadd C dL_law_254 ?_
            obtain ⟨hi41, hf⟩ := ck_el hf
            refine z_sld C hX hbl hbA hi41 dL_law_255 ?_
            obtain ⟨r43, m44, hc42, hf⟩ := zb2_el hf
            refine z_lXi C (c_X6_edge _ _ hc42) rfl gLw_X6_edge rfl rfl zdX6_edge rfl rfl ⟨Nat.le_of_ble_eq_true rfl, Nat.le_of_ble_eq_true rfl⟩ hS0 (Nat.le_of_ble_eq_true rfl) dL_law_256 rfl ?_
            refine z_aload_n C 2 dL_law_259 rfl rfl ?_
            refine z_aload_n C 0 dL_law_260 rfl rfl ?_
            refine z_iload_n C 3 dL_law_261 rfl rfl ?_
            refine z_iconst C (v := 1) dL_law_262 rfl ?_
            refine z_iadd C dL_law_263 ?_
            obtain ⟨hi45, hf⟩ := ck_el hf
            refine z_sld C hX hbl hbA hi45 dL_law_264 ?_
            refine z_aload_n C 0 dL_law_265 rfl rfl ?_
            refine z_iload_n C 3 dL_law_266 rfl rfl ?_
            refine z_iconst C (v := 2) dL_law_267 rfl ?_
            refine z_iadd C dL_law_268 ?_
            obtain ⟨hi46, hf⟩ := ck_el hf
            refine z_sld C hX hbl hbA hi46 dL_law_269 ?_
            refine z_aload_n C 0 dL_law_270 rfl rfl ?_
            refine z_iload_n C 3 dL_law_271 rfl rfl ?_
            refine z_iconst C (v := 3) dL_law_272 rfl ?_
            refine z_iadd C dL_law_273 ?_
            obtain ⟨hi47, hf⟩ := ck_el hf
            refine z_sld C hX hbl hbA hi47 dL_law_274 ?_
            obtain ⟨r49, m50, hc48, hf⟩ := zb2_el hf
            refine z_lMi C (c_X7_edge _ _ hc48) rfl gLw_X7_edge rfl rfl zdX7_edge rfl rfl ⟨Nat.le_of_ble_eq_true rfl, Nat.le_of_ble_eq_true rfl⟩ hS0 (Nat.le_of_ble_eq_true rfl) dL_law_275 rfl ?_
            refine z_icmp_eq (tgt := 857) C dL_law_278 (by decide) (fun c52 => ?_) (fun c52 => ?_)
            · replace hf := if_t c52 hf
              obtain ⟨x51, e_x51⟩ : ∃ y : Int32, y = i + 6 := ⟨_, rfl⟩
              replace hf := bn_to e_x51 hf
              refine z_iinc C (lv2 := [(0, .ref b), (1, .ref ((zw K).2.1 0)), (2, .ref ((zw K).2.1 44)), (3, .int x51)]) 3 [1, 2, 3, 0] dL_law_857 rfl rfl (Nat.le_of_ble_eq_true rfl) e_x51 rfl ?_
              refine z_goto (tgt := 18) C dL_law_860 (by decide) ?_
              cases hf
              exact z_sub [0, 1, 2, 3] rfl (ih _ _ _ hz)
            · replace hf := if_f c52 hf
              refine z_iconst C (v := 0) dL_law_281 rfl ?_
              cases hf
              exact absurd (zlz_r hz) (by decide)
          · replace hf := if_f c38 hf
            refine zby (c := ((xs (Int32.toNatClampNeg i)) &&& 31) = 3) (fun c53 => ?_) (fun c53 => ?_)
            · replace hf := if_t c53 hf
              refine z_tab (v := 3) (tgt := 283) (off := 250) C c53 dL_law_33 (by decide) (by decide) rfl (by decide) ?_
              refine z_aload_n C 1 dL_law_283 rfl rfl ?_
              refine z_aload_n C 0 dL_law_284 rfl rfl ?_
              refine z_iload_n C 3 dL_law_285 rfl rfl ?_
              refine z_iconst C (v := 1) dL_law_286 rfl ?_
              refine z_iadd C dL_law_287 ?_
              obtain ⟨hi54, hf⟩ := ck_el hf
              refine z_sld C hX hbl hbA hi54 dL_law_288 ?_
              refine z_aload_n C 0 dL_law_289 rfl rfl ?_
              refine z_iload_n C 3 dL_law_290 rfl rfl ?_
              refine z_iconst C (v := 2) dL_law_291 rfl ?_
              refine z_iadd C dL_law_292 ?_
              obtain ⟨hi55, hf⟩ := ck_el hf
              refine z_sld C hX hbl hbA hi55 dL_law_293 ?_
              refine z_aload_n C 0 dL_law_294 rfl rfl ?_
              refine z_iload_n C 3 dL_law_295 rfl rfl ?_
              refine z_iconst C (v := 3) dL_law_296 rfl ?_
              refine z_iadd C dL_law_297 ?_
              obtain ⟨hi56, hf⟩ := ck_el hf
              refine z_sld C hX hbl hbA hi56 dL_law_298 ?_
              obtain ⟨r58, m59, hc57, hf⟩ := zb2_el hf
              refine z_lXi C (c_X6_cut _ _ hc57) rfl gLw_X6_cut rfl rfl zdX6_cut rfl rfl ⟨Nat.le_of_ble_eq_true rfl, Nat.le_of_ble_eq_true rfl⟩ hS0 (Nat.le_of_ble_eq_true rfl) dL_law_299 rfl ?_
              refine z_aload_n C 2 dL_law_302 rfl rfl ?_
              refine z_aload_n C 0 dL_law_303 rfl rfl ?_
              refine z_iload_n C 3 dL_law_304 rfl rfl ?_
              refine z_iconst C (v := 1) dL_law_305 rfl ?_
              refine z_iadd C dL_law_306 ?_
              obtain ⟨hi60, hf⟩ := ck_el hf
              refine z_sld C hX hbl hbA hi60 dL_law_307 ?_
              refine z_aload_n C 0 dL_law_308 rfl rfl ?_
              refine z_iload_n C 3 dL_law_309 rfl rfl ?_
              refine z_iconst C (v := 2) dL_law_310 rfl ?_
              refine z_iadd C dL_law_311 ?_
              obtain ⟨hi61, hf⟩ := ck_el hf
              refine z_sld C hX hbl hbA hi61 dL_law_312 ?_
              refine z_aload_n C 0 dL_law_313 rfl rfl ?_
              refine z_iload_n C 3 dL_law_314 rfl rfl ?_
              refine z_iconst C (v := 3) dL_law_315 rfl ?_
              refine z_iadd C dL_law_316 ?_
              obtain ⟨hi62, hf⟩ := ck_el hf
              refine z_sld C hX hbl hbA hi62 dL_law_317 ?_
              obtain ⟨r64, m65, hc63, hf⟩ := zb2_el hf
              refine z_lMi C (c_X7_cut _ _ hc63) rfl gLw_X7_cut rfl rfl zdX7_cut rfl rfl ⟨Nat.le_of_ble_eq_true rfl, Nat.le_of_ble_eq_true rfl⟩ hS0 (Nat.le_of_ble_eq_true rfl) dL_law_318 rfl ?_
              refine z_icmp_eq (tgt := 857) C dL_law_321 (by decide) (fun c67 => ?_) (fun c67 => ?_)
              · replace hf := if_t c67 hf
                obtain ⟨x66, e_x66⟩ : ∃ y : Int32, y = i + 6 := ⟨_, rfl⟩
                replace hf := bn_to e_x66 hf
                refine z_iinc C (lv2 := [(0, .ref b), (1, .ref ((zw K).2.1 0)), (2, .ref ((zw K).2.1 44)), (3, .int x66)]) 3 [1, 2, 3, 0] dL_law_857 rfl rfl (Nat.le_of_ble_eq_true rfl) e_x66 rfl ?_
                refine z_goto (tgt := 18) C dL_law_860 (by decide) ?_
                cases hf
                exact z_sub [0, 1, 2, 3] rfl (ih _ _ _ hz)
              · replace hf := if_f c67 hf
                refine z_iconst C (v := 0) dL_law_324 rfl ?_
                cases hf
                exact absurd (zlz_r hz) (by decide)
            · replace hf := if_f c53 hf
              refine zby (c := ((xs (Int32.toNatClampNeg i)) &&& 31) = 4) (fun c68 => ?_) (fun c68 => ?_)
              · replace hf := if_t c68 hf
                refine z_tab (v := 4) (tgt := 326) (off := 293) C c68 dL_law_33 (by decide) (by decide) rfl (by decide) ?_
                refine z_aload_n C 1 dL_law_326 rfl rfl ?_
                refine z_aload_n C 0 dL_law_327 rfl rfl ?_
                refine z_iload_n C 3 dL_law_328 rfl rfl ?_
                refine z_iconst C (v := 1) dL_law_329 rfl ?_
                refine z_iadd C dL_law_330 ?_
                obtain ⟨hi69, hf⟩ := ck_el hf
                refine z_sld C hX hbl hbA hi69 dL_law_331 ?_
                refine z_aload_n C 0 dL_law_332 rfl rfl ?_
                refine z_iload_n C 3 dL_law_333 rfl rfl ?_
                refine z_iconst C (v := 2) dL_law_334 rfl ?_
                refine z_iadd C dL_law_335 ?_
                obtain ⟨hi70, hf⟩ := ck_el hf
                refine z_sld C hX hbl hbA hi70 dL_law_336 ?_
                refine z_aload_n C 0 dL_law_337 rfl rfl ?_
                refine z_iload_n C 3 dL_law_338 rfl rfl ?_
                refine z_iconst C (v := 3) dL_law_339 rfl ?_
                refine z_iadd C dL_law_340 ?_
                obtain ⟨hi71, hf⟩ := ck_el hf
                refine z_sld C hX hbl hbA hi71 dL_law_341 ?_
                refine z_aload_n C 0 dL_law_342 rfl rfl ?_
                refine z_iload_n C 3 dL_law_343 rfl rfl ?_
                refine z_iconst C (v := 4) dL_law_344 rfl ?_
                refine z_iadd C dL_law_345 ?_
                obtain ⟨hi72, hf⟩ := ck_el hf
                refine z_sld C hX hbl hbA hi72 dL_law_346 ?_
                refine z_aload_n C 0 dL_law_347 rfl rfl ?_
                refine z_iload_n C 3 dL_law_348 rfl rfl ?_
                refine z_iconst C (v := 5) dL_law_349 rfl ?_
                refine z_iadd C dL_law_350 ?_
                obtain ⟨hi73, hf⟩ := ck_el hf
                refine z_sld C hX hbl hbA hi73 dL_law_351 ?_
                obtain ⟨r75, m76, hc74, hf⟩ := zb2_el hf
                refine z_lXi C (c_X6_feed _ _ hc74) rfl gLw_X6_feed rfl rfl zdX6_feed rfl rfl ⟨Nat.le_of_ble_eq_true rfl, Nat.le_of_ble_eq_true rfl⟩ hS0 (Nat.le_of_ble_eq_true rfl) dL_law_352 rfl ?_
                refine z_aload_n C 2 dL_law_355 rfl rfl ?_
                refine z_aload_n C 0 dL_law_356 rfl rfl ?_
                refine z_iload_n C 3 dL_law_357 rfl rfl ?_
                refine z_iconst C (v := 1) dL_law_358 rfl ?_
                refine z_iadd C dL_law_359 ?_
                obtain ⟨hi77, hf⟩ := ck_el hf
                refine z_sld C hX hbl hbA hi77 dL_law_360 ?_
                refine z_aload_n C 0 dL_law_361 rfl rfl ?_
                refine z_iload_n C 3 dL_law_362 rfl rfl ?_
                refine z_iconst C (v := 2) dL_law_363 rfl ?_
                refine z_iadd C dL_law_364 ?_
                obtain ⟨hi78, hf⟩ := ck_el hf
                refine z_sld C hX hbl hbA hi78 dL_law_365 ?_
                refine z_aload_n C 0 dL_law_366 rfl rfl ?_
                refine z_iload_n C 3 dL_law_367 rfl rfl ?_
                refine z_iconst C (v := 3) dL_law_368 rfl ?_
                refine z_iadd C dL_law_369 ?_
                obtain ⟨hi79, hf⟩ := ck_el hf
                refine z_sld C hX hbl hbA hi79 dL_law_370 ?_
                refine z_aload_n C 0 dL_law_371 rfl rfl ?_
                refine z_iload_n C 3 dL_law_372 rfl rfl ?_
                refine z_iconst C (v := 4) dL_law_373 rfl ?_
                refine z_iadd C dL_law_374 ?_
                obtain ⟨hi80, hf⟩ := ck_el hf
                refine z_sld C hX hbl hbA hi80 dL_law_375 ?_
                refine z_aload_n C 0 dL_law_376 rfl rfl ?_
                refine z_iload_n C 3 dL_law_377 rfl rfl ?_
                refine z_iconst C (v := 5) dL_law_378 rfl ?_
                refine z_iadd C dL_law_379 ?_
                obtain ⟨hi81, hf⟩ := ck_el hf
                refine z_sld C hX hbl hbA hi81 dL_law_380 ?_
                obtain ⟨r83, m84, hc82, hf⟩ := zb2_el hf
                refine z_lMi C (c_X7_feed _ _ hc82) rfl gLw_X7_feed rfl rfl zdX7_feed rfl rfl ⟨Nat.le_of_ble_eq_true rfl, Nat.le_of_ble_eq_true rfl⟩ hS0 (Nat.le_of_ble_eq_true rfl) dL_law_381 rfl ?_
                refine z_icmp_eq (tgt := 857) C dL_law_384 (by decide) (fun c86 => ?_) (fun c86 => ?_)
                · replace hf := if_t c86 hf
                  obtain ⟨x85, e_x85⟩ : ∃ y : Int32, y = i + 6 := ⟨_, rfl⟩
                  replace hf := bn_to e_x85 hf
                  refine z_iinc C (lv2 := [(0, .ref b), (1, .ref ((zw K).2.1 0)), (2, .ref ((zw K).2.1 44)), (3, .int x85)]) 3 [1, 2, 3, 0] dL_law_857 rfl rfl (Nat.le_of_ble_eq_true rfl) e_x85 rfl ?_
                  refine z_goto (tgt := 18) C dL_law_860 (by decide) ?_
                  cases hf
                  exact z_sub [0, 1, 2, 3] rfl (ih _ _ _ hz)
                · replace hf := if_f c86 hf
                  refine z_iconst C (v := 0) dL_law_387 rfl ?_
                  cases hf
                  exact absurd (zlz_r hz) (by decide)
              · replace hf := if_f c68 hf
                refine zby (c := ((xs (Int32.toNatClampNeg i)) &&& 31) = 5) (fun c87 => ?_) (fun c87 => ?_)
                · replace hf := if_t c87 hf
                  refine z_tab (v := 5) (tgt := 389) (off := 356) C c87 dL_law_33 (by decide) (by decide) rfl (by decide) ?_
                  refine z_aload_n C 1 dL_law_389 rfl rfl ?_
                  refine z_aload_n C 0 dL_law_390 rfl rfl ?_
                  refine z_iload_n C 3 dL_law_391 rfl rfl ?_
                  refine z_iconst C (v := 1) dL_law_392 rfl ?_
                  refine z_iadd C dL_law_393 ?_
                  obtain ⟨hi88, hf⟩ := ck_el hf
                  refine z_sld C hX hbl hbA hi88 dL_law_394 ?_
                  obtain ⟨r90, m91, hc89, hf⟩ := zb2_el hf
                  refine z_lXi C (c_X6_end _ _ hc89) rfl gLw_X6_end rfl rfl zdX6_end rfl rfl ⟨Nat.le_of_ble_eq_true rfl, Nat.le_of_ble_eq_true rfl⟩ hS0 (Nat.le_of_ble_eq_true rfl) dL_law_395 rfl ?_
                  refine z_aload_n C 2 dL_law_398 rfl rfl ?_
                  refine z_aload_n C 0 dL_law_399 rfl rfl ?_
                  refine z_iload_n C 3 dL_law_400 rfl rfl ?_
                  refine z_iconst C (v := 1) dL_law_401 rfl ?_
                  refine z_iadd C dL_law_402 ?_
                  obtain ⟨hi92, hf⟩ := ck_el hf
                  refine z_sld C hX hbl hbA hi92 dL_law_403 ?_
                  obtain ⟨r94, m95, hc93, hf⟩ := zb2_el hf
                  refine z_lMi C (c_X7_end _ _ hc93) rfl gLw_X7_end rfl rfl zdX7_end rfl rfl ⟨Nat.le_of_ble_eq_true rfl, Nat.le_of_ble_eq_true rfl⟩ hS0 (Nat.le_of_ble_eq_true rfl) dL_law_404 rfl ?_
                  refine z_icmp_eq (tgt := 857) C dL_law_407 (by decide) (fun c97 => ?_) (fun c97 => ?_)
                  · replace hf := if_t c97 hf
                    obtain ⟨x96, e_x96⟩ : ∃ y : Int32, y = i + 6 := ⟨_, rfl⟩
                    replace hf := bn_to e_x96 hf
                    refine z_iinc C (lv2 := [(0, .ref b), (1, .ref ((zw K).2.1 0)), (2, .ref ((zw K).2.1 44)), (3, .int x96)]) 3 [1, 2, 3, 0] dL_law_857 rfl rfl (Nat.le_of_ble_eq_true rfl) e_x96 rfl ?_
                    refine z_goto (tgt := 18) C dL_law_860 (by decide) ?_
                    cases hf
                    exact z_sub [0, 1, 2, 3] rfl (ih _ _ _ hz)
                  · replace hf := if_f c97 hf
                    refine z_iconst C (v := 0) dL_law_410 rfl ?_
                    cases hf
                    exact absurd (zlz_r hz) (by decide)
                · replace hf := if_f c87 hf
                  refine zby (c := ((xs (Int32.toNatClampNeg i)) &&& 31) = 6) (fun c98 => ?_) (fun c98 => ?_)
                  · replace hf := if_t c98 hf
                    refine z_tab (v := 6) (tgt := 412) (off := 379) C c98 dL_law_33 (by decide) (by decide) rfl (by decide) ?_
                    refine z_aload_n C 1 dL_law_412 rfl rfl ?_
                    obtain ⟨r100, m101, hc99, hf⟩ := zb2_el hf
                    refine z_lXi C (c_X6_shapes _ _ hc99) rfl gLw_X6_shapes rfl rfl zdX6_shapes rfl rfl ⟨Nat.le_of_ble_eq_true rfl, Nat.le_of_ble_eq_true rfl⟩ hS0 (Nat.le_of_ble_eq_true rfl) dL_law_413 rfl ?_
                    refine z_aload_n C 2 dL_law_416 rfl rfl ?_
                    obtain ⟨r103, m104, hc102, hf⟩ := zb2_el hf
                    refine z_lMi C (c_X7_shapes _ _ hc102) rfl gLw_X7_shapes rfl rfl zdX7_shapes rfl rfl ⟨Nat.le_of_ble_eq_true rfl, Nat.le_of_ble_eq_true rfl⟩ hS0 (Nat.le_of_ble_eq_true rfl) dL_law_417 rfl ?_
                    refine z_icmp_eq (tgt := 857) C dL_law_420 (by decide) (fun c106 => ?_) (fun c106 => ?_)
                    · replace hf := if_t c106 hf
                      obtain ⟨x105, e_x105⟩ : ∃ y : Int32, y = i + 6 := ⟨_, rfl⟩
                      replace hf := bn_to e_x105 hf
                      refine z_iinc C (lv2 := [(0, .ref b), (1, .ref ((zw K).2.1 0)), (2, .ref ((zw K).2.1 44)), (3, .int x105)]) 3 [1, 2, 3, 0] dL_law_857 rfl rfl (Nat.le_of_ble_eq_true rfl) e_x105 rfl ?_
                      refine z_goto (tgt := 18) C dL_law_860 (by decide) ?_
                      cases hf
                      exact z_sub [0, 1, 2, 3] rfl (ih _ _ _ hz)
                    · replace hf := if_f c106 hf
                      refine z_iconst C (v := 0) dL_law_423 rfl ?_
                      cases hf
                      exact absurd (zlz_r hz) (by decide)
                  · replace hf := if_f c98 hf
                    refine zby (c := ((xs (Int32.toNatClampNeg i)) &&& 31) = 7) (fun c107 => ?_) (fun c107 => ?_)
                    · replace hf := if_t c107 hf
                      refine z_tab (v := 7) (tgt := 425) (off := 392) C c107 dL_law_33 (by decide) (by decide) rfl (by decide) ?_
                      refine z_aload_n C 1 dL_law_425 rfl rfl ?_
                      obtain ⟨r109, hc108, hf⟩ := zb_el hf
                      refine z_lXi C (c_X6_fault _ _ hc108) rfl gLw_X6_fault rfl rfl zdX6_fault rfl rfl ⟨Nat.le_of_ble_eq_true rfl, Nat.le_of_ble_eq_true rfl⟩ hS0 (Nat.le_of_ble_eq_true rfl) dL_law_426 rfl ?_
                      refine z_aload_n C 2 dL_law_429 rfl rfl ?_
                      obtain ⟨r111, hc110, hf⟩ := zb_el hf
                      refine z_lMi C (c_X7_fault _ _ hc110) rfl gLw_X7_fault rfl rfl zdX7_fault rfl rfl ⟨Nat.le_of_ble_eq_true rfl, Nat.le_of_ble_eq_true rfl⟩ hS0 (Nat.le_of_ble_eq_true rfl) dL_law_430 rfl ?_
                      refine z_icmp_eq (tgt := 857) C dL_law_433 (by decide) (fun c113 => ?_) (fun c113 => ?_)
                      · replace hf := if_t c113 hf
                        obtain ⟨x112, e_x112⟩ : ∃ y : Int32, y = i + 6 := ⟨_, rfl⟩
                        replace hf := bn_to e_x112 hf
                        refine z_iinc C (lv2 := [(0, .ref b), (1, .ref ((zw K).2.1 0)), (2, .ref ((zw K).2.1 44)), (3, .int x112)]) 3 [1, 2, 3, 0] dL_law_857 rfl rfl (Nat.le_of_ble_eq_true rfl) e_x112 rfl ?_
                        refine z_goto (tgt := 18) C dL_law_860 (by decide) ?_
                        cases hf
                        exact z_sub [0, 1, 2, 3] rfl (ih _ _ _ hz)
                      · replace hf := if_f c113 hf
                        refine z_iconst C (v := 0) dL_law_436 rfl ?_
                        cases hf
                        exact absurd (zlz_r hz) (by decide)
                    · replace hf := if_f c107 hf
                      refine zby (c := ((xs (Int32.toNatClampNeg i)) &&& 31) = 8) (fun c114 => ?_) (fun c114 => ?_)
                      · replace hf := if_t c114 hf
                        refine z_tab (v := 8) (tgt := 438) (off := 405) C c114 dL_law_33 (by decide) (by decide) rfl (by decide) ?_
                        refine z_aload_n C 1 dL_law_438 rfl rfl ?_
                        refine z_aload_n C 0 dL_law_439 rfl rfl ?_
                        refine z_iload_n C 3 dL_law_440 rfl rfl ?_
                        refine z_iconst C (v := 1) dL_law_441 rfl ?_
                        refine z_iadd C dL_law_442 ?_
                        obtain ⟨hi115, hf⟩ := ck_el hf
                        refine z_sld C hX hbl hbA hi115 dL_law_443 ?_
                        refine z_aload_n C 0 dL_law_444 rfl rfl ?_
                        refine z_iload_n C 3 dL_law_445 rfl rfl ?_
                        refine z_iconst C (v := 2) dL_law_446 rfl ?_
                        refine z_iadd C dL_law_447 ?_
                        obtain ⟨hi116, hf⟩ := ck_el hf
                        refine z_sld C hX hbl hbA hi116 dL_law_448 ?_
                        obtain ⟨r118, m119, hc117, hf⟩ := zb2_el hf
                        refine z_lXi C (c_X6_fits _ _ hc117) rfl gLw_X6_fits rfl rfl zdX6_fits rfl rfl ⟨Nat.le_of_ble_eq_true rfl, Nat.le_of_ble_eq_true rfl⟩ hS0 (Nat.le_of_ble_eq_true rfl) dL_law_449 rfl ?_
                        refine z_aload_n C 2 dL_law_452 rfl rfl ?_
                        refine z_aload_n C 0 dL_law_453 rfl rfl ?_
                        refine z_iload_n C 3 dL_law_454 rfl rfl ?_
                        refine z_iconst C (v := 1) dL_law_455 rfl ?_
                        refine z_iadd C dL_law_456 ?_
                        obtain ⟨hi120, hf⟩ := ck_el hf
                        refine z_sld C hX hbl hbA hi120 dL_law_457 ?_
                        refine z_aload_n C 0 dL_law_458 rfl rfl ?_
                        refine z_iload_n C 3 dL_law_459 rfl rfl ?_
                        refine z_iconst C (v := 2) dL_law_460 rfl ?_
                        refine z_iadd C dL_law_461 ?_
                        obtain ⟨hi121, hf⟩ := ck_el hf
                        refine z_sld C hX hbl hbA hi121 dL_law_462 ?_
                        obtain ⟨r123, m124, hc122, hf⟩ := zb2_el hf
                        refine z_lMi C (c_X7_fits _ _ hc122) rfl gLw_X7_fits rfl rfl zdX7_fits rfl rfl ⟨Nat.le_of_ble_eq_true rfl, Nat.le_of_ble_eq_true rfl⟩ hS0 (Nat.le_of_ble_eq_true rfl) dL_law_463 rfl ?_
                        refine z_icmp_eq (tgt := 857) C dL_law_466 (by decide) (fun c126 => ?_) (fun c126 => ?_)
                        · replace hf := if_t c126 hf
                          obtain ⟨x125, e_x125⟩ : ∃ y : Int32, y = i + 6 := ⟨_, rfl⟩
                          replace hf := bn_to e_x125 hf
                          refine z_iinc C (lv2 := [(0, .ref b), (1, .ref ((zw K).2.1 0)), (2, .ref ((zw K).2.1 44)), (3, .int x125)]) 3 [1, 2, 3, 0] dL_law_857 rfl rfl (Nat.le_of_ble_eq_true rfl) e_x125 rfl ?_
                          refine z_goto (tgt := 18) C dL_law_860 (by decide) ?_
                          cases hf
                          exact z_sub [0, 1, 2, 3] rfl (ih _ _ _ hz)
                        · replace hf := if_f c126 hf
                          refine z_iconst C (v := 0) dL_law_469 rfl ?_
                          cases hf
                          exact absurd (zlz_r hz) (by decide)
                      · replace hf := if_f c114 hf
                        refine zby (c := ((xs (Int32.toNatClampNeg i)) &&& 31) = 9) (fun c127 => ?_) (fun c127 => ?_)
                        · replace hf := if_t c127 hf
                          refine z_tab (v := 9) (tgt := 471) (off := 438) C c127 dL_law_33 (by decide) (by decide) rfl (by decide) ?_
                          refine z_aload_n C 1 dL_law_471 rfl rfl ?_
                          refine z_aload_n C 0 dL_law_472 rfl rfl ?_
                          refine z_iload_n C 3 dL_law_473 rfl rfl ?_
                          refine z_iconst C (v := 1) dL_law_474 rfl ?_
                          refine z_iadd C dL_law_475 ?_
                          obtain ⟨hi128, hf⟩ := ck_el hf
                          refine z_sld C hX hbl hbA hi128 dL_law_476 ?_
                          refine z_aload_n C 0 dL_law_477 rfl rfl ?_
                          refine z_iload_n C 3 dL_law_478 rfl rfl ?_
                          refine z_iconst C (v := 2) dL_law_479 rfl ?_
                          refine z_iadd C dL_law_480 ?_
                          obtain ⟨hi129, hf⟩ := ck_el hf
                          refine z_sld C hX hbl hbA hi129 dL_law_481 ?_
                          obtain ⟨r131, m132, hc130, hf⟩ := zb2_el hf
                          refine z_lXi C (c_X6_surely _ _ hc130) rfl gLw_X6_surely rfl rfl zdX6_surely rfl rfl ⟨Nat.le_of_ble_eq_true rfl, Nat.le_of_ble_eq_true rfl⟩ hS0 (Nat.le_of_ble_eq_true rfl) dL_law_482 rfl ?_
                          refine z_aload_n C 2 dL_law_485 rfl rfl ?_
                          refine z_aload_n C 0 dL_law_486 rfl rfl ?_
                          refine z_iload_n C 3 dL_law_487 rfl rfl ?_
                          refine z_iconst C (v := 1) dL_law_488 rfl ?_
                          refine z_iadd C dL_law_489 ?_
                          obtain ⟨hi133, hf⟩ := ck_el hf
                          refine z_sld C hX hbl hbA hi133 dL_law_490 ?_
                          refine z_aload_n C 0 dL_law_491 rfl rfl ?_
                          refine z_iload_n C 3 dL_law_492 rfl rfl ?_
                          refine z_iconst C (v := 2) dL_law_493 rfl ?_
                          refine z_iadd C dL_law_494 ?_
                          obtain ⟨hi134, hf⟩ := ck_el hf
                          refine z_sld C hX hbl hbA hi134 dL_law_495 ?_
                          obtain ⟨r136, m137, hc135, hf⟩ := zb2_el hf
                          refine z_lMi C (c_X7_surely _ _ hc135) rfl gLw_X7_surely rfl rfl zdX7_surely rfl rfl ⟨Nat.le_of_ble_eq_true rfl, Nat.le_of_ble_eq_true rfl⟩ hS0 (Nat.le_of_ble_eq_true rfl) dL_law_496 rfl ?_
                          refine z_icmp_eq (tgt := 857) C dL_law_499 (by decide) (fun c139 => ?_) (fun c139 => ?_)
                          · replace hf := if_t c139 hf
                            obtain ⟨x138, e_x138⟩ : ∃ y : Int32, y = i + 6 := ⟨_, rfl⟩
                            replace hf := bn_to e_x138 hf
                            refine z_iinc C (lv2 := [(0, .ref b), (1, .ref ((zw K).2.1 0)), (2, .ref ((zw K).2.1 44)), (3, .int x138)]) 3 [1, 2, 3, 0] dL_law_857 rfl rfl (Nat.le_of_ble_eq_true rfl) e_x138 rfl ?_
                            refine z_goto (tgt := 18) C dL_law_860 (by decide) ?_
                            cases hf
                            exact z_sub [0, 1, 2, 3] rfl (ih _ _ _ hz)
                          · replace hf := if_f c139 hf
                            refine z_iconst C (v := 0) dL_law_502 rfl ?_
                            cases hf
                            exact absurd (zlz_r hz) (by decide)
                        · replace hf := if_f c127 hf
                          refine zby (c := ((xs (Int32.toNatClampNeg i)) &&& 31) = 10) (fun c140 => ?_) (fun c140 => ?_)
                          · replace hf := if_t c140 hf
                            refine z_tab (v := 10) (tgt := 504) (off := 471) C c140 dL_law_33 (by decide) (by decide) rfl (by decide) ?_
                            refine z_aload_n C 1 dL_law_504 rfl rfl ?_
                            refine z_aload_n C 0 dL_law_505 rfl rfl ?_
                            refine z_iload_n C 3 dL_law_506 rfl rfl ?_
                            refine z_iconst C (v := 1) dL_law_507 rfl ?_
                            refine z_iadd C dL_law_508 ?_
                            obtain ⟨hi141, hf⟩ := ck_el hf
                            refine z_sld C hX hbl hbA hi141 dL_law_509 ?_
                            obtain ⟨r143, m144, hc142, hf⟩ := zb2_el hf
                            refine z_lXi C (c_X6_all _ _ hc142) rfl gLw_X6_all rfl rfl zdX6_all rfl rfl ⟨Nat.le_of_ble_eq_true rfl, Nat.le_of_ble_eq_true rfl⟩ hS0 (Nat.le_of_ble_eq_true rfl) dL_law_510 rfl ?_
                            refine z_aload_n C 2 dL_law_513 rfl rfl ?_
                            refine z_aload_n C 0 dL_law_514 rfl rfl ?_
                            refine z_iload_n C 3 dL_law_515 rfl rfl ?_
                            refine z_iconst C (v := 1) dL_law_516 rfl ?_
                            refine z_iadd C dL_law_517 ?_
                            obtain ⟨hi145, hf⟩ := ck_el hf
                            refine z_sld C hX hbl hbA hi145 dL_law_518 ?_
                            obtain ⟨r147, m148, hc146, hf⟩ := zb2_el hf
                            refine z_lMi C (c_X7_all _ _ hc146) rfl gLw_X7_all rfl rfl zdX7_all rfl rfl ⟨Nat.le_of_ble_eq_true rfl, Nat.le_of_ble_eq_true rfl⟩ hS0 (Nat.le_of_ble_eq_true rfl) dL_law_519 rfl ?_
                            refine z_icmp_eq (tgt := 857) C dL_law_522 (by decide) (fun c150 => ?_) (fun c150 => ?_)
                            · replace hf := if_t c150 hf
                              obtain ⟨x149, e_x149⟩ : ∃ y : Int32, y = i + 6 := ⟨_, rfl⟩
                              replace hf := bn_to e_x149 hf
                              refine z_iinc C (lv2 := [(0, .ref b), (1, .ref ((zw K).2.1 0)), (2, .ref ((zw K).2.1 44)), (3, .int x149)]) 3 [1, 2, 3, 0] dL_law_857 rfl rfl (Nat.le_of_ble_eq_true rfl) e_x149 rfl ?_
                              refine z_goto (tgt := 18) C dL_law_860 (by decide) ?_
                              cases hf
                              exact z_sub [0, 1, 2, 3] rfl (ih _ _ _ hz)
                            · replace hf := if_f c150 hf
                              refine z_iconst C (v := 0) dL_law_525 rfl ?_
                              cases hf
                              exact absurd (zlz_r hz) (by decide)
                          · replace hf := if_f c140 hf
                            refine zby (c := ((xs (Int32.toNatClampNeg i)) &&& 31) = 11) (fun c151 => ?_) (fun c151 => ?_)
                            · replace hf := if_t c151 hf
                              refine z_tab (v := 11) (tgt := 527) (off := 494) C c151 dL_law_33 (by decide) (by decide) rfl (by decide) ?_
                              refine z_aload_n C 1 dL_law_527 rfl rfl ?_
                              refine z_aload_n C 0 dL_law_528 rfl rfl ?_
                              refine z_iload_n C 3 dL_law_529 rfl rfl ?_
                              refine z_iconst C (v := 1) dL_law_530 rfl ?_
                              refine z_iadd C dL_law_531 ?_
                              obtain ⟨hi152, hf⟩ := ck_el hf
                              refine z_sld C hX hbl hbA hi152 dL_law_532 ?_
                              refine z_aload_n C 0 dL_law_533 rfl rfl ?_
                              refine z_iload_n C 3 dL_law_534 rfl rfl ?_
                              refine z_iconst C (v := 2) dL_law_535 rfl ?_
                              refine z_iadd C dL_law_536 ?_
                              obtain ⟨hi153, hf⟩ := ck_el hf
                              refine z_sld C hX hbl hbA hi153 dL_law_537 ?_
                              obtain ⟨r155, hc154, hf⟩ := zb_el hf
                              refine z_lXi C (c_X6_wanted _ _ hc154) rfl gLw_X6_wanted rfl rfl zdX6_wanted rfl rfl ⟨Nat.le_of_ble_eq_true rfl, Nat.le_of_ble_eq_true rfl⟩ hS0 (Nat.le_of_ble_eq_true rfl) dL_law_538 rfl ?_
                              refine z_aload_n C 2 dL_law_541 rfl rfl ?_
                              refine z_aload_n C 0 dL_law_542 rfl rfl ?_
                              refine z_iload_n C 3 dL_law_543 rfl rfl ?_
                              refine z_iconst C (v := 1) dL_law_544 rfl ?_
                              refine z_iadd C dL_law_545 ?_
                              obtain ⟨hi156, hf⟩ := ck_el hf
                              refine z_sld C hX hbl hbA hi156 dL_law_546 ?_
                              refine z_aload_n C 0 dL_law_547 rfl rfl ?_
                              refine z_iload_n C 3 dL_law_548 rfl rfl ?_
                              refine z_iconst C (v := 2) dL_law_549 rfl ?_
                              refine z_iadd C dL_law_550 ?_
                              obtain ⟨hi157, hf⟩ := ck_el hf
                              refine z_sld C hX hbl hbA hi157 dL_law_551 ?_
                              obtain ⟨r159, hc158, hf⟩ := zb_el hf
                              refine z_lMi C (c_X7_wanted _ _ hc158) rfl gLw_X7_wanted rfl rfl zdX7_wanted rfl rfl ⟨Nat.le_of_ble_eq_true rfl, Nat.le_of_ble_eq_true rfl⟩ hS0 (Nat.le_of_ble_eq_true rfl) dL_law_552 rfl ?_
                              refine z_icmp_eq (tgt := 857) C dL_law_555 (by decide) (fun c161 => ?_) (fun c161 => ?_)
                              · replace hf := if_t c161 hf
                                obtain ⟨x160, e_x160⟩ : ∃ y : Int32, y = i + 6 := ⟨_, rfl⟩
                                replace hf := bn_to e_x160 hf
                                refine z_iinc C (lv2 := [(0, .ref b), (1, .ref ((zw K).2.1 0)), (2, .ref ((zw K).2.1 44)), (3, .int x160)]) 3 [1, 2, 3, 0] dL_law_857 rfl rfl (Nat.le_of_ble_eq_true rfl) e_x160 rfl ?_
                                refine z_goto (tgt := 18) C dL_law_860 (by decide) ?_
                                cases hf
                                exact z_sub [0, 1, 2, 3] rfl (ih _ _ _ hz)
                              · replace hf := if_f c161 hf
                                refine z_iconst C (v := 0) dL_law_558 rfl ?_
                                cases hf
                                exact absurd (zlz_r hz) (by decide)
                            · replace hf := if_f c151 hf
                              refine zby (c := ((xs (Int32.toNatClampNeg i)) &&& 31) = 12) (fun c162 => ?_) (fun c162 => ?_)
                              · replace hf := if_t c162 hf
                                refine z_tab (v := 12) (tgt := 560) (off := 527) C c162 dL_law_33 (by decide) (by decide) rfl (by decide) ?_
                                refine z_aload_n C 1 dL_law_560 rfl rfl ?_
                                refine z_aload_n C 0 dL_law_561 rfl rfl ?_
                                refine z_iload_n C 3 dL_law_562 rfl rfl ?_
                                refine z_iconst C (v := 1) dL_law_563 rfl ?_
                                refine z_iadd C dL_law_564 ?_
                                obtain ⟨hi163, hf⟩ := ck_el hf
                                refine z_sld C hX hbl hbA hi163 dL_law_565 ?_
                                refine z_aload_n C 0 dL_law_566 rfl rfl ?_
                                refine z_iload_n C 3 dL_law_567 rfl rfl ?_
                                refine z_iconst C (v := 2) dL_law_568 rfl ?_
                                refine z_iadd C dL_law_569 ?_
                                obtain ⟨hi164, hf⟩ := ck_el hf
                                refine z_sld C hX hbl hbA hi164 dL_law_570 ?_
                                refine z_aload_n C 0 dL_law_571 rfl rfl ?_
                                refine z_iload_n C 3 dL_law_572 rfl rfl ?_
                                refine z_iconst C (v := 3) dL_law_573 rfl ?_
                                refine z_iadd C dL_law_574 ?_
                                obtain ⟨hi165, hf⟩ := ck_el hf
                                refine z_sld C hX hbl hbA hi165 dL_law_575 ?_
                                obtain ⟨r167, m168, hc166, hf⟩ := zb2_el hf
                                refine z_lXi C (c_X6_dealt _ _ hc166) rfl gLw_X6_dealt rfl rfl zdX6_dealt rfl rfl ⟨Nat.le_of_ble_eq_true rfl, Nat.le_of_ble_eq_true rfl⟩ hS0 (Nat.le_of_ble_eq_true rfl) dL_law_576 rfl ?_
                                refine z_aload_n C 2 dL_law_579 rfl rfl ?_
                                refine z_aload_n C 0 dL_law_580 rfl rfl ?_
                                refine z_iload_n C 3 dL_law_581 rfl rfl ?_
                                refine z_iconst C (v := 1) dL_law_582 rfl ?_
                                refine z_iadd C dL_law_583 ?_
                                obtain ⟨hi169, hf⟩ := ck_el hf
                                refine z_sld C hX hbl hbA hi169 dL_law_584 ?_
                                refine z_aload_n C 0 dL_law_585 rfl rfl ?_
                                refine z_iload_n C 3 dL_law_586 rfl rfl ?_
                                refine z_iconst C (v := 2) dL_law_587 rfl ?_
                                refine z_iadd C dL_law_588 ?_
                                obtain ⟨hi170, hf⟩ := ck_el hf
                                refine z_sld C hX hbl hbA hi170 dL_law_589 ?_
                                refine z_aload_n C 0 dL_law_590 rfl rfl ?_
                                refine z_iload_n C 3 dL_law_591 rfl rfl ?_
                                refine z_iconst C (v := 3) dL_law_592 rfl ?_
                                refine z_iadd C dL_law_593 ?_
                                obtain ⟨hi171, hf⟩ := ck_el hf
                                refine z_sld C hX hbl hbA hi171 dL_law_594 ?_
                                obtain ⟨r173, m174, hc172, hf⟩ := zb2_el hf
                                refine z_lMi C (c_X7_dealt _ _ hc172) rfl gLw_X7_dealt rfl rfl zdX7_dealt rfl rfl ⟨Nat.le_of_ble_eq_true rfl, Nat.le_of_ble_eq_true rfl⟩ hS0 (Nat.le_of_ble_eq_true rfl) dL_law_595 rfl ?_
                                refine z_icmp_eq (tgt := 857) C dL_law_598 (by decide) (fun c176 => ?_) (fun c176 => ?_)
                                · replace hf := if_t c176 hf
                                  obtain ⟨x175, e_x175⟩ : ∃ y : Int32, y = i + 6 := ⟨_, rfl⟩
                                  replace hf := bn_to e_x175 hf
                                  refine z_iinc C (lv2 := [(0, .ref b), (1, .ref ((zw K).2.1 0)), (2, .ref ((zw K).2.1 44)), (3, .int x175)]) 3 [1, 2, 3, 0] dL_law_857 rfl rfl (Nat.le_of_ble_eq_true rfl) e_x175 rfl ?_
                                  refine z_goto (tgt := 18) C dL_law_860 (by decide) ?_
                                  cases hf
                                  exact z_sub [0, 1, 2, 3] rfl (ih _ _ _ hz)
                                · replace hf := if_f c176 hf
                                  refine z_iconst C (v := 0) dL_law_601 rfl ?_
                                  cases hf
                                  exact absurd (zlz_r hz) (by decide)
                              · replace hf := if_f c162 hf
                                refine zby (c := ((xs (Int32.toNatClampNeg i)) &&& 31) = 13) (fun c177 => ?_) (fun c177 => ?_)
                                · replace hf := if_t c177 hf
                                  refine z_tab (v := 13) (tgt := 603) (off := 570) C c177 dL_law_33 (by decide) (by decide) rfl (by decide) ?_
                                  refine z_aload_n C 1 dL_law_603 rfl rfl ?_
                                  refine z_aload_n C 0 dL_law_604 rfl rfl ?_
                                  refine z_iload_n C 3 dL_law_605 rfl rfl ?_
                                  refine z_iconst C (v := 1) dL_law_606 rfl ?_
                                  refine z_iadd C dL_law_607 ?_
                                  obtain ⟨hi178, hf⟩ := ck_el hf
                                  refine z_sld C hX hbl hbA hi178 dL_law_608 ?_
                                  refine z_aload_n C 0 dL_law_609 rfl rfl ?_
                                  refine z_iload_n C 3 dL_law_610 rfl rfl ?_
                                  refine z_iconst C (v := 2) dL_law_611 rfl ?_
                                  refine z_iadd C dL_law_612 ?_
                                  obtain ⟨hi179, hf⟩ := ck_el hf
                                  refine z_sld C hX hbl hbA hi179 dL_law_613 ?_
                                  obtain ⟨r181, m182, hc180, hf⟩ := zb2_el hf
                                  refine z_lXi C (c_X6_tooMany _ _ hc180) rfl gLw_X6_tooMany rfl rfl zdX6_tooMany rfl rfl ⟨Nat.le_of_ble_eq_true rfl, Nat.le_of_ble_eq_true rfl⟩ hS0 (Nat.le_of_ble_eq_true rfl) dL_law_614 rfl ?_
                                  refine z_aload_n C 2 dL_law_617 rfl rfl ?_
                                  refine z_aload_n C 0 dL_law_618 rfl rfl ?_
                                  refine z_iload_n C 3 dL_law_619 rfl rfl ?_
                                  refine z_iconst C (v := 1) dL_law_620 rfl ?_
                                  refine z_iadd C dL_law_621 ?_
                                  obtain ⟨hi183, hf⟩ := ck_el hf
                                  refine z_sld C hX hbl hbA hi183 dL_law_622 ?_
                                  refine z_aload_n C 0 dL_law_623 rfl rfl ?_
                                  refine z_iload_n C 3 dL_law_624 rfl rfl ?_
                                  refine z_iconst C (v := 2) dL_law_625 rfl ?_
                                  refine z_iadd C dL_law_626 ?_
                                  obtain ⟨hi184, hf⟩ := ck_el hf
                                  refine z_sld C hX hbl hbA hi184 dL_law_627 ?_
                                  obtain ⟨r186, m187, hc185, hf⟩ := zb2_el hf
                                  refine z_lMi C (c_X7_tooMany _ _ hc185) rfl gLw_X7_tooMany rfl rfl zdX7_tooMany rfl rfl ⟨Nat.le_of_ble_eq_true rfl, Nat.le_of_ble_eq_true rfl⟩ hS0 (Nat.le_of_ble_eq_true rfl) dL_law_628 rfl ?_
                                  refine z_icmp_eq (tgt := 857) C dL_law_631 (by decide) (fun c189 => ?_) (fun c189 => ?_)
                                  · replace hf := if_t c189 hf
                                    obtain ⟨x188, e_x188⟩ : ∃ y : Int32, y = i + 6 := ⟨_, rfl⟩
                                    replace hf := bn_to e_x188 hf
                                    refine z_iinc C (lv2 := [(0, .ref b), (1, .ref ((zw K).2.1 0)), (2, .ref ((zw K).2.1 44)), (3, .int x188)]) 3 [1, 2, 3, 0] dL_law_857 rfl rfl (Nat.le_of_ble_eq_true rfl) e_x188 rfl ?_
                                    refine z_goto (tgt := 18) C dL_law_860 (by decide) ?_
                                    cases hf
                                    exact z_sub [0, 1, 2, 3] rfl (ih _ _ _ hz)
                                  · replace hf := if_f c189 hf
                                    refine z_iconst C (v := 0) dL_law_634 rfl ?_
                                    cases hf
                                    exact absurd (zlz_r hz) (by decide)
                                · replace hf := if_f c177 hf
                                  refine zby (c := ((xs (Int32.toNatClampNeg i)) &&& 31) = 14) (fun c190 => ?_) (fun c190 => ?_)
                                  · replace hf := if_t c190 hf
                                    refine z_tab (v := 14) (tgt := 636) (off := 603) C c190 dL_law_33 (by decide) (by decide) rfl (by decide) ?_
                                    refine z_aload_n C 1 dL_law_636 rfl rfl ?_
                                    refine z_aload_n C 0 dL_law_637 rfl rfl ?_
                                    refine z_iload_n C 3 dL_law_638 rfl rfl ?_
                                    refine z_iconst C (v := 1) dL_law_639 rfl ?_
                                    refine z_iadd C dL_law_640 ?_
                                    obtain ⟨hi191, hf⟩ := ck_el hf
                                    refine z_sld C hX hbl hbA hi191 dL_law_641 ?_
                                    refine z_aload_n C 0 dL_law_642 rfl rfl ?_
                                    refine z_iload_n C 3 dL_law_643 rfl rfl ?_
                                    refine z_iconst C (v := 2) dL_law_644 rfl ?_
                                    refine z_iadd C dL_law_645 ?_
                                    obtain ⟨hi192, hf⟩ := ck_el hf
                                    refine z_sld C hX hbl hbA hi192 dL_law_646 ?_
                                    obtain ⟨r194, m195, hc193, hf⟩ := zb2_el hf
                                    refine z_lXi C (c_X6_which _ _ hc193) rfl gLw_X6_which rfl rfl zdX6_which rfl rfl ⟨Nat.le_of_ble_eq_true rfl, Nat.le_of_ble_eq_true rfl⟩ hS0 (Nat.le_of_ble_eq_true rfl) dL_law_647 rfl ?_
                                    refine z_aload_n C 2 dL_law_650 rfl rfl ?_
                                    refine z_aload_n C 0 dL_law_651 rfl rfl ?_
                                    refine z_iload_n C 3 dL_law_652 rfl rfl ?_
                                    refine z_iconst C (v := 1) dL_law_653 rfl ?_
                                    refine z_iadd C dL_law_654 ?_
                                    obtain ⟨hi196, hf⟩ := ck_el hf
                                    refine z_sld C hX hbl hbA hi196 dL_law_655 ?_
                                    refine z_aload_n C 0 dL_law_656 rfl rfl ?_
                                    refine z_iload_n C 3 dL_law_657 rfl rfl ?_
                                    refine z_iconst C (v := 2) dL_law_658 rfl ?_
                                    refine z_iadd C dL_law_659 ?_
                                    obtain ⟨hi197, hf⟩ := ck_el hf
                                    refine z_sld C hX hbl hbA hi197 dL_law_660 ?_
                                    obtain ⟨r199, m200, hc198, hf⟩ := zb2_el hf
                                    refine z_lMi C (c_X7_which _ _ hc198) rfl gLw_X7_which rfl rfl zdX7_which rfl rfl ⟨Nat.le_of_ble_eq_true rfl, Nat.le_of_ble_eq_true rfl⟩ hS0 (Nat.le_of_ble_eq_true rfl) dL_law_661 rfl ?_
                                    refine z_icmp_eq (tgt := 857) C dL_law_664 (by decide) (fun c202 => ?_) (fun c202 => ?_)
                                    · replace hf := if_t c202 hf
                                      obtain ⟨x201, e_x201⟩ : ∃ y : Int32, y = i + 6 := ⟨_, rfl⟩
                                      replace hf := bn_to e_x201 hf
                                      refine z_iinc C (lv2 := [(0, .ref b), (1, .ref ((zw K).2.1 0)), (2, .ref ((zw K).2.1 44)), (3, .int x201)]) 3 [1, 2, 3, 0] dL_law_857 rfl rfl (Nat.le_of_ble_eq_true rfl) e_x201 rfl ?_
                                      refine z_goto (tgt := 18) C dL_law_860 (by decide) ?_
                                      cases hf
                                      exact z_sub [0, 1, 2, 3] rfl (ih _ _ _ hz)
                                    · replace hf := if_f c202 hf
                                      refine z_iconst C (v := 0) dL_law_667 rfl ?_
                                      cases hf
                                      exact absurd (zlz_r hz) (by decide)
                                  · replace hf := if_f c190 hf
                                    refine zby (c := ((xs (Int32.toNatClampNeg i)) &&& 31) = 15) (fun c203 => ?_) (fun c203 => ?_)
                                    · replace hf := if_t c203 hf
                                      refine z_tab (v := 15) (tgt := 669) (off := 636) C c203 dL_law_33 (by decide) (by decide) rfl (by decide) ?_
                                      refine z_aload_n C 1 dL_law_669 rfl rfl ?_
                                      refine z_aload_n C 0 dL_law_670 rfl rfl ?_
                                      refine z_iload_n C 3 dL_law_671 rfl rfl ?_
                                      refine z_iconst C (v := 1) dL_law_672 rfl ?_
                                      refine z_iadd C dL_law_673 ?_
                                      obtain ⟨hi204, hf⟩ := ck_el hf
                                      refine z_sld C hX hbl hbA hi204 dL_law_674 ?_
                                      refine z_aload_n C 0 dL_law_675 rfl rfl ?_
                                      refine z_iload_n C 3 dL_law_676 rfl rfl ?_
                                      refine z_iconst C (v := 2) dL_law_677 rfl ?_
                                      refine z_iadd C dL_law_678 ?_
                                      obtain ⟨hi205, hf⟩ := ck_el hf
                                      refine z_sld C hX hbl hbA hi205 dL_law_679 ?_
                                      obtain ⟨r207, hc206, hf⟩ := zb_el hf
                                      refine z_lXi C (c_X6_depends _ _ hc206) rfl gLw_X6_depends rfl rfl zdX6_depends rfl rfl ⟨Nat.le_of_ble_eq_true rfl, Nat.le_of_ble_eq_true rfl⟩ hS0 (Nat.le_of_ble_eq_true rfl) dL_law_680 rfl ?_
                                      refine z_aload_n C 2 dL_law_683 rfl rfl ?_
                                      refine z_aload_n C 0 dL_law_684 rfl rfl ?_
                                      refine z_iload_n C 3 dL_law_685 rfl rfl ?_
                                      refine z_iconst C (v := 1) dL_law_686 rfl ?_
                                      refine z_iadd C dL_law_687 ?_
                                      obtain ⟨hi208, hf⟩ := ck_el hf
                                      refine z_sld C hX hbl hbA hi208 dL_law_688 ?_
                                      refine z_aload_n C 0 dL_law_689 rfl rfl ?_
                                      refine z_iload_n C 3 dL_law_690 rfl rfl ?_
                                      refine z_iconst C (v := 2) dL_law_691 rfl ?_
                                      refine z_iadd C dL_law_692 ?_
                                      obtain ⟨hi209, hf⟩ := ck_el hf
                                      refine z_sld C hX hbl hbA hi209 dL_law_693 ?_
                                      obtain ⟨r211, m212, hc210, hf⟩ := zb2_el hf
                                      refine z_lMi C (c_X7_depends _ _ hc210) rfl gLw_X7_depends rfl rfl zdX7_depends rfl rfl ⟨Nat.le_of_ble_eq_true rfl, Nat.le_of_ble_eq_true rfl⟩ hS0 (Nat.le_of_ble_eq_true rfl) dL_law_694 rfl ?_
                                      refine z_icmp_eq (tgt := 857) C dL_law_697 (by decide) (fun c214 => ?_) (fun c214 => ?_)
                                      · replace hf := if_t c214 hf
                                        obtain ⟨x213, e_x213⟩ : ∃ y : Int32, y = i + 6 := ⟨_, rfl⟩
                                        replace hf := bn_to e_x213 hf
                                        refine z_iinc C (lv2 := [(0, .ref b), (1, .ref ((zw K).2.1 0)), (2, .ref ((zw K).2.1 44)), (3, .int x213)]) 3 [1, 2, 3, 0] dL_law_857 rfl rfl (Nat.le_of_ble_eq_true rfl) e_x213 rfl ?_
                                        refine z_goto (tgt := 18) C dL_law_860 (by decide) ?_
                                        cases hf
                                        exact z_sub [0, 1, 2, 3] rfl (ih _ _ _ hz)
                                      · replace hf := if_f c214 hf
                                        refine z_iconst C (v := 0) dL_law_700 rfl ?_
                                        cases hf
                                        exact absurd (zlz_r hz) (by decide)
                                    · replace hf := if_f c203 hf
                                      refine zby (c := ((xs (Int32.toNatClampNeg i)) &&& 31) = 16) (fun c215 => ?_) (fun c215 => ?_)
                                      · replace hf := if_t c215 hf
                                        refine z_tab (v := 16) (tgt := 702) (off := 669) C c215 dL_law_33 (by decide) (by decide) rfl (by decide) ?_
                                        refine z_aload_n C 1 dL_law_702 rfl rfl ?_
                                        refine z_aload_n C 0 dL_law_703 rfl rfl ?_
                                        refine z_iload_n C 3 dL_law_704 rfl rfl ?_
                                        refine z_iconst C (v := 1) dL_law_705 rfl ?_
                                        refine z_iadd C dL_law_706 ?_
                                        obtain ⟨hi216, hf⟩ := ck_el hf
                                        refine z_sld C hX hbl hbA hi216 dL_law_707 ?_
                                        refine z_aload_n C 0 dL_law_708 rfl rfl ?_
                                        refine z_iload_n C 3 dL_law_709 rfl rfl ?_
                                        refine z_iconst C (v := 2) dL_law_710 rfl ?_
                                        refine z_iadd C dL_law_711 ?_
                                        obtain ⟨hi217, hf⟩ := ck_el hf
                                        refine z_sld C hX hbl hbA hi217 dL_law_712 ?_
                                        refine z_aload_n C 0 dL_law_713 rfl rfl ?_
                                        refine z_iload_n C 3 dL_law_714 rfl rfl ?_
                                        refine z_iconst C (v := 3) dL_law_715 rfl ?_
                                        refine z_iadd C dL_law_716 ?_
                                        obtain ⟨hi218, hf⟩ := ck_el hf
                                        refine z_sld C hX hbl hbA hi218 dL_law_717 ?_
                                        obtain ⟨r220, hc219, hf⟩ := zb_el hf
                                        refine z_lXi C (c_X6_part _ _ hc219) rfl gLw_X6_part rfl rfl zdX6_part rfl rfl ⟨Nat.le_of_ble_eq_true rfl, Nat.le_of_ble_eq_true rfl⟩ hS0 (Nat.le_of_ble_eq_true rfl) dL_law_718 rfl ?_
                                        refine z_aload_n C 2 dL_law_721 rfl rfl ?_
                                        refine z_aload_n C 0 dL_law_722 rfl rfl ?_
                                        refine z_iload_n C 3 dL_law_723 rfl rfl ?_
                                        refine z_iconst C (v := 1) dL_law_724 rfl ?_
                                        refine z_iadd C dL_law_725 ?_
                                        obtain ⟨hi221, hf⟩ := ck_el hf
                                        refine z_sld C hX hbl hbA hi221 dL_law_726 ?_
                                        refine z_aload_n C 0 dL_law_727 rfl rfl ?_
                                        refine z_iload_n C 3 dL_law_728 rfl rfl ?_
                                        refine z_iconst C (v := 2) dL_law_729 rfl ?_
                                        refine z_iadd C dL_law_730 ?_
                                        obtain ⟨hi222, hf⟩ := ck_el hf
                                        refine z_sld C hX hbl hbA hi222 dL_law_731 ?_
                                        refine z_aload_n C 0 dL_law_732 rfl rfl ?_
                                        refine z_iload_n C 3 dL_law_733 rfl rfl ?_
                                        refine z_iconst C (v := 3) dL_law_734 rfl ?_
                                        refine z_iadd C dL_law_735 ?_
                                        obtain ⟨hi223, hf⟩ := ck_el hf
                                        refine z_sld C hX hbl hbA hi223 dL_law_736 ?_
                                        obtain ⟨r225, hc224, hf⟩ := zb_el hf
                                        refine z_lMi C (c_X7_part _ _ hc224) rfl gLw_X7_part rfl rfl zdX7_part rfl rfl ⟨Nat.le_of_ble_eq_true rfl, Nat.le_of_ble_eq_true rfl⟩ hS0 (Nat.le_of_ble_eq_true rfl) dL_law_737 rfl ?_
                                        refine z_icmp_eq (tgt := 857) C dL_law_740 (by decide) (fun c227 => ?_) (fun c227 => ?_)
                                        · replace hf := if_t c227 hf
                                          obtain ⟨x226, e_x226⟩ : ∃ y : Int32, y = i + 6 := ⟨_, rfl⟩
                                          replace hf := bn_to e_x226 hf
                                          refine z_iinc C (lv2 := [(0, .ref b), (1, .ref ((zw K).2.1 0)), (2, .ref ((zw K).2.1 44)), (3, .int x226)]) 3 [1, 2, 3, 0] dL_law_857 rfl rfl (Nat.le_of_ble_eq_true rfl) e_x226 rfl ?_
                                          refine z_goto (tgt := 18) C dL_law_860 (by decide) ?_
                                          cases hf
                                          exact z_sub [0, 1, 2, 3] rfl (ih _ _ _ hz)
                                        · replace hf := if_f c227 hf
                                          refine z_iconst C (v := 0) dL_law_743 rfl ?_
                                          cases hf
                                          exact absurd (zlz_r hz) (by decide)
                                      · replace hf := if_f c215 hf
                                        refine zby (c := ((xs (Int32.toNatClampNeg i)) &&& 31) = 17) (fun c228 => ?_) (fun c228 => ?_)
                                        · replace hf := if_t c228 hf
                                          refine z_tab (v := 17) (tgt := 745) (off := 712) C c228 dL_law_33 (by decide) (by decide) rfl (by decide) ?_
                                          refine z_aload_n C 1 dL_law_745 rfl rfl ?_
                                          refine z_aload_n C 0 dL_law_746 rfl rfl ?_
                                          refine z_iload_n C 3 dL_law_747 rfl rfl ?_
                                          refine z_iconst C (v := 1) dL_law_748 rfl ?_
                                          refine z_iadd C dL_law_749 ?_
                                          obtain ⟨hi229, hf⟩ := ck_el hf
                                          refine z_sld C hX hbl hbA hi229 dL_law_750 ?_
                                          refine z_aload_n C 0 dL_law_751 rfl rfl ?_
                                          refine z_iload_n C 3 dL_law_752 rfl rfl ?_
                                          refine z_iconst C (v := 2) dL_law_753 rfl ?_
                                          refine z_iadd C dL_law_754 ?_
                                          obtain ⟨hi230, hf⟩ := ck_el hf
                                          refine z_sld C hX hbl hbA hi230 dL_law_755 ?_
                                          obtain ⟨r232, hc231, hf⟩ := zb_el hf
                                          refine z_lXi C (c_X6_told _ _ hc231) rfl gLw_X6_told rfl rfl zdX6_told rfl rfl ⟨Nat.le_of_ble_eq_true rfl, Nat.le_of_ble_eq_true rfl⟩ hS0 (Nat.le_of_ble_eq_true rfl) dL_law_756 rfl ?_
                                          refine z_aload_n C 2 dL_law_759 rfl rfl ?_
                                          refine z_aload_n C 0 dL_law_760 rfl rfl ?_
                                          refine z_iload_n C 3 dL_law_761 rfl rfl ?_
                                          refine z_iconst C (v := 1) dL_law_762 rfl ?_
                                          refine z_iadd C dL_law_763 ?_
                                          obtain ⟨hi233, hf⟩ := ck_el hf
                                          refine z_sld C hX hbl hbA hi233 dL_law_764 ?_
                                          refine z_aload_n C 0 dL_law_765 rfl rfl ?_
                                          refine z_iload_n C 3 dL_law_766 rfl rfl ?_
                                          refine z_iconst C (v := 2) dL_law_767 rfl ?_
                                          refine z_iadd C dL_law_768 ?_
                                          obtain ⟨hi234, hf⟩ := ck_el hf
                                          refine z_sld C hX hbl hbA hi234 dL_law_769 ?_
                                          obtain ⟨r236, hc235, hf⟩ := zb_el hf
                                          refine z_lMi C (c_X7_told _ _ hc235) rfl gLw_X7_told rfl rfl zdX7_told rfl rfl ⟨Nat.le_of_ble_eq_true rfl, Nat.le_of_ble_eq_true rfl⟩ hS0 (Nat.le_of_ble_eq_true rfl) dL_law_770 rfl ?_
                                          refine z_icmp_eq (tgt := 857) C dL_law_773 (by decide) (fun c238 => ?_) (fun c238 => ?_)
                                          · replace hf := if_t c238 hf
                                            obtain ⟨x237, e_x237⟩ : ∃ y : Int32, y = i + 6 := ⟨_, rfl⟩
                                            replace hf := bn_to e_x237 hf
                                            refine z_iinc C (lv2 := [(0, .ref b), (1, .ref ((zw K).2.1 0)), (2, .ref ((zw K).2.1 44)), (3, .int x237)]) 3 [1, 2, 3, 0] dL_law_857 rfl rfl (Nat.le_of_ble_eq_true rfl) e_x237 rfl ?_
                                            refine z_goto (tgt := 18) C dL_law_860 (by decide) ?_
                                            cases hf
                                            exact z_sub [0, 1, 2, 3] rfl (ih _ _ _ hz)
                                          · replace hf := if_f c238 hf
                                            refine z_iconst C (v := 0) dL_law_776 rfl ?_
                                            cases hf
                                            exact absurd (zlz_r hz) (by decide)
                                        · replace hf := if_f c228 hf
                                          refine zby (c := ((xs (Int32.toNatClampNeg i)) &&& 31) = 18) (fun c239 => ?_) (fun c239 => ?_)
                                          · replace hf := if_t c239 hf
                                            refine z_tab (v := 18) (tgt := 778) (off := 745) C c239 dL_law_33 (by decide) (by decide) rfl (by decide) ?_
                                            refine z_aload_n C 1 dL_law_778 rfl rfl ?_
                                            refine z_aload_n C 0 dL_law_779 rfl rfl ?_
                                            refine z_iload_n C 3 dL_law_780 rfl rfl ?_
                                            refine z_iconst C (v := 1) dL_law_781 rfl ?_
                                            refine z_iadd C dL_law_782 ?_
                                            obtain ⟨hi240, hf⟩ := ck_el hf
                                            refine z_sld C hX hbl hbA hi240 dL_law_783 ?_
                                            refine z_aload_n C 0 dL_law_784 rfl rfl ?_
                                            refine z_iload_n C 3 dL_law_785 rfl rfl ?_
                                            refine z_iconst C (v := 2) dL_law_786 rfl ?_
                                            refine z_iadd C dL_law_787 ?_
                                            obtain ⟨hi241, hf⟩ := ck_el hf
                                            refine z_sld C hX hbl hbA hi241 dL_law_788 ?_
                                            refine z_aload_n C 0 dL_law_789 rfl rfl ?_
                                            refine z_iload_n C 3 dL_law_790 rfl rfl ?_
                                            refine z_iconst C (v := 3) dL_law_791 rfl ?_
                                            refine z_iadd C dL_law_792 ?_
                                            obtain ⟨hi242, hf⟩ := ck_el hf
                                            refine z_sld C hX hbl hbA hi242 dL_law_793 ?_
                                            obtain ⟨r244, hc243, hf⟩ := zb_el hf
                                            refine z_lXi C (c_X6_from _ _ hc243) rfl gLw_X6_from rfl rfl zdX6_from rfl rfl ⟨Nat.le_of_ble_eq_true rfl, Nat.le_of_ble_eq_true rfl⟩ hS0 (Nat.le_of_ble_eq_true rfl) dL_law_794 rfl ?_
                                            refine z_aload_n C 2 dL_law_797 rfl rfl ?_
                                            refine z_aload_n C 0 dL_law_798 rfl rfl ?_
                                            refine z_iload_n C 3 dL_law_799 rfl rfl ?_
                                            refine z_iconst C (v := 1) dL_law_800 rfl ?_
                                            refine z_iadd C dL_law_801 ?_
                                            obtain ⟨hi245, hf⟩ := ck_el hf
                                            refine z_sld C hX hbl hbA hi245 dL_law_802 ?_
                                            refine z_aload_n C 0 dL_law_803 rfl rfl ?_
                                            refine z_iload_n C 3 dL_law_804 rfl rfl ?_
                                            refine z_iconst C (v := 2) dL_law_805 rfl ?_
                                            refine z_iadd C dL_law_806 ?_
                                            obtain ⟨hi246, hf⟩ := ck_el hf
                                            refine z_sld C hX hbl hbA hi246 dL_law_807 ?_
                                            refine z_aload_n C 0 dL_law_808 rfl rfl ?_
                                            refine z_iload_n C 3 dL_law_809 rfl rfl ?_
                                            refine z_iconst C (v := 3) dL_law_810 rfl ?_
                                            refine z_iadd C dL_law_811 ?_
                                            obtain ⟨hi247, hf⟩ := ck_el hf
                                            refine z_sld C hX hbl hbA hi247 dL_law_812 ?_
                                            obtain ⟨r249, hc248, hf⟩ := zb_el hf
                                            refine z_lMi C (c_X7_from _ _ hc248) rfl gLw_X7_from rfl rfl zdX7_from rfl rfl ⟨Nat.le_of_ble_eq_true rfl, Nat.le_of_ble_eq_true rfl⟩ hS0 (Nat.le_of_ble_eq_true rfl) dL_law_813 rfl ?_
                                            refine z_icmp_eq (tgt := 857) C dL_law_816 (by decide) (fun c251 => ?_) (fun c251 => ?_)
                                            · replace hf := if_t c251 hf
                                              obtain ⟨x250, e_x250⟩ : ∃ y : Int32, y = i + 6 := ⟨_, rfl⟩
                                              replace hf := bn_to e_x250 hf
                                              refine z_iinc C (lv2 := [(0, .ref b), (1, .ref ((zw K).2.1 0)), (2, .ref ((zw K).2.1 44)), (3, .int x250)]) 3 [1, 2, 3, 0] dL_law_857 rfl rfl (Nat.le_of_ble_eq_true rfl) e_x250 rfl ?_
                                              refine z_goto (tgt := 18) C dL_law_860 (by decide) ?_
                                              cases hf
                                              exact z_sub [0, 1, 2, 3] rfl (ih _ _ _ hz)
                                            · replace hf := if_f c251 hf
                                              refine z_iconst C (v := 0) dL_law_819 rfl ?_
                                              cases hf
                                              exact absurd (zlz_r hz) (by decide)
                                          · replace hf := if_f c239 hf
                                            refine zby (c := ((xs (Int32.toNatClampNeg i)) &&& 31) = 19) (fun c252 => ?_) (fun c252 => ?_)
                                            · replace hf := if_t c252 hf
                                              refine z_tab (v := 19) (tgt := 821) (off := 788) C c252 dL_law_33 (by decide) (by decide) rfl (by decide) ?_
                                              refine z_aload_n C 1 dL_law_821 rfl rfl ?_
                                              obtain ⟨r254, m255, hc253, hf⟩ := zb2_el hf
                                              refine z_lXi C (c_X6_reset _ _ hc253) rfl gLw_X6_reset rfl rfl zdX6_reset rfl rfl ⟨Nat.le_of_ble_eq_true rfl, Nat.le_of_ble_eq_true rfl⟩ hS0 (Nat.le_of_ble_eq_true rfl) dL_law_822 rfl ?_
                                              refine z_aload_n C 2 dL_law_825 rfl rfl ?_
                                              obtain ⟨r257, m258, hc256, hf⟩ := zb2_el hf
                                              refine z_lMi C (c_X7_reset _ _ hc256) rfl gLw_X7_reset rfl rfl zdX7_reset rfl rfl ⟨Nat.le_of_ble_eq_true rfl, Nat.le_of_ble_eq_true rfl⟩ hS0 (Nat.le_of_ble_eq_true rfl) dL_law_826 rfl ?_
                                              refine z_icmp_eq (tgt := 857) C dL_law_829 (by decide) (fun c260 => ?_) (fun c260 => ?_)
                                              · replace hf := if_t c260 hf
                                                obtain ⟨x259, e_x259⟩ : ∃ y : Int32, y = i + 6 := ⟨_, rfl⟩
                                                replace hf := bn_to e_x259 hf
                                                refine z_iinc C (lv2 := [(0, .ref b), (1, .ref ((zw K).2.1 0)), (2, .ref ((zw K).2.1 44)), (3, .int x259)]) 3 [1, 2, 3, 0] dL_law_857 rfl rfl (Nat.le_of_ble_eq_true rfl) e_x259 rfl ?_
                                                refine z_goto (tgt := 18) C dL_law_860 (by decide) ?_
                                                cases hf
                                                exact z_sub [0, 1, 2, 3] rfl (ih _ _ _ hz)
                                              · replace hf := if_f c260 hf
                                                refine z_iconst C (v := 0) dL_law_832 rfl ?_
                                                cases hf
                                                exact absurd (zlz_r hz) (by decide)
                                            · replace hf := if_f c252 hf
                                              refine zby (c := ((xs (Int32.toNatClampNeg i)) &&& 31) = 20) (fun c261 => ?_) (fun c261 => ?_)
                                              · replace hf := if_t c261 hf
                                                refine z_tab (v := 20) (tgt := 834) (off := 801) C c261 dL_law_33 (by decide) (by decide) rfl (by decide) ?_
                                                refine z_aload_n C 1 dL_law_834 rfl rfl ?_
                                                refine z_aload_n C 0 dL_law_835 rfl rfl ?_
                                                refine z_iload_n C 3 dL_law_836 rfl rfl ?_
                                                refine z_iconst C (v := 1) dL_law_837 rfl ?_
                                                refine z_iadd C dL_law_838 ?_
                                                obtain ⟨hi262, hf⟩ := ck_el hf
                                                refine z_sld C hX hbl hbA hi262 dL_law_839 ?_
                                                obtain ⟨r264, m265, hc263, hf⟩ := zb2_el hf
                                                refine z_lXi C (c_X6_count _ _ hc263) rfl gLw_X6_count rfl rfl zdX6_count rfl rfl ⟨Nat.le_of_ble_eq_true rfl, Nat.le_of_ble_eq_true rfl⟩ hS0 (Nat.le_of_ble_eq_true rfl) dL_law_840 rfl ?_
                                                refine z_aload_n C 2 dL_law_843 rfl rfl ?_
                                                refine z_aload_n C 0 dL_law_844 rfl rfl ?_
                                                refine z_iload_n C 3 dL_law_845 rfl rfl ?_
                                                refine z_iconst C (v := 1) dL_law_846 rfl ?_
                                                refine z_iadd C dL_law_847 ?_
                                                obtain ⟨hi266, hf⟩ := ck_el hf
                                                refine z_sld C hX hbl hbA hi266 dL_law_848 ?_
                                                obtain ⟨r268, m269, hc267, hf⟩ := zb2_el hf
                                                refine z_lMi C (c_X7_count _ _ hc267) rfl gLw_X7_count rfl rfl zdX7_count rfl rfl ⟨Nat.le_of_ble_eq_true rfl, Nat.le_of_ble_eq_true rfl⟩ hS0 (Nat.le_of_ble_eq_true rfl) dL_law_849 rfl ?_
                                                refine z_icmp_eq (tgt := 857) C dL_law_852 (by decide) (fun c271 => ?_) (fun c271 => ?_)
                                                · replace hf := if_t c271 hf
                                                  obtain ⟨x270, e_x270⟩ : ∃ y : Int32, y = i + 6 := ⟨_, rfl⟩
                                                  replace hf := bn_to e_x270 hf
                                                  refine z_iinc C (lv2 := [(0, .ref b), (1, .ref ((zw K).2.1 0)), (2, .ref ((zw K).2.1 44)), (3, .int x270)]) 3 [1, 2, 3, 0] dL_law_857 rfl rfl (Nat.le_of_ble_eq_true rfl) e_x270 rfl ?_
                                                  refine z_goto (tgt := 18) C dL_law_860 (by decide) ?_
                                                  cases hf
                                                  exact z_sub [0, 1, 2, 3] rfl (ih _ _ _ hz)
                                                · replace hf := if_f c271 hf
                                                  refine z_iconst C (v := 0) dL_law_855 rfl ?_
                                                  cases hf
                                                  exact absurd (zlz_r hz) (by decide)
                                              · replace hf := if_f c261 hf
                                                refine z_tabd (tgt := 857) C dL_law_33 (ztab_out (n := 21) (Nat.le_of_ble_eq_true rfl) (lt_s (lt_s (lt_s (lt_s (lt_s (lt_s (lt_s (lt_s (lt_s (lt_s (lt_s (lt_s (lt_s (lt_s (lt_s (lt_s (lt_s (lt_s (lt_s (lt_s (lt_s lt_0 c2) c19) c38) c53) c68) c87) c98) c107) c114) c127) c140) c151) c162) c177) c190) c203) c215) c228) c239) c252) c261)) (by decide) ?_
                                                obtain ⟨x272, e_x272⟩ : ∃ y : Int32, y = i + 6 := ⟨_, rfl⟩
                                                replace hf := bn_to e_x272 hf
                                                refine z_iinc C (lv2 := [(0, .ref b), (1, .ref ((zw K).2.1 0)), (2, .ref ((zw K).2.1 44)), (3, .int x272)]) 3 [1, 2, 3, 0] dL_law_857 rfl rfl (Nat.le_of_ble_eq_true rfl) e_x272 rfl ?_
                                                refine z_goto (tgt := 18) C dL_law_860 (by decide) ?_
                                                cases hf
                                                exact z_sub [0, 1, 2, 3] rfl (ih _ _ _ hz)
