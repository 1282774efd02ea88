set_option maxRecDepth 20000 in
theorem ggX7_counted_X7_joined : GoodIn wsX7_counted wsX7_joined := goodIn_sub (List.forall_mem_cons.mpr ⟨(List.mem_of_getElem? (i := 4) rfl), (fun _ h => absurd h List.not_mem_nil)⟩) (by decide +kernel)
set_option maxRecDepth 20000 in
theorem gX7_counted_X7_joined : GoodIn wsX7_counted (va_wsS RX7 274 yX7_joined wsX7_joined) := goodIn_app (goodIn_sub (List.forall_mem_cons.mpr ⟨(List.mem_of_getElem? (i := 1) rfl), (List.forall_mem_cons.mpr ⟨(List.mem_of_getElem? (i := 2) rfl), (List.forall_mem_cons.mpr ⟨(List.mem_of_getElem? (i := 3) rfl), (fun _ h => absurd h List.not_mem_nil)⟩)⟩)⟩) (by decide +kernel)) ggX7_counted_X7_joined
theorem dX7_counted_0 : decode cX7_counted 0 = .ok (.iconst 1, 1) := by decide +kernel
theorem dX7_counted_1 : decode cX7_counted 1 = .ok (.istore 4, 2) := by decide +kernel
theorem dX7_counted_3 : decode cX7_counted 3 = .ok (.iload_n 2, 1) := by decide +kernel
theorem dX7_counted_4 : decode cX7_counted 4 = .ok (.ifCond .ne 7, 3) := by decide +kernel
theorem dX7_counted_7 : decode cX7_counted 7 = .ok (.iconst 1, 1) := by decide +kernel
theorem dX7_counted_8 : decode cX7_counted 8 = .ok (.goto 4, 3) := by decide +kernel
theorem dX7_counted_11 : decode cX7_counted 11 = .ok (.iconst 0, 1) := by decide +kernel
theorem dX7_counted_12 : decode cX7_counted 12 = .ok (.istore 5, 2) := by decide +kernel
theorem dX7_counted_14 : decode cX7_counted 14 = .ok (.iconst 1, 1) := by decide +kernel
theorem dX7_counted_15 : decode cX7_counted 15 = .ok (.istore 6, 2) := by decide +kernel
theorem dX7_counted_17 : decode cX7_counted 17 = .ok (.iload 6, 2) := by decide +kernel
theorem dX7_counted_19 : decode cX7_counted 19 = .ok (.iload_n 3, 1) := by decide +kernel
theorem dX7_counted_20 : decode cX7_counted 20 = .ok (.if_icmp .gt 34, 3) := by decide +kernel
theorem dX7_counted_23 : decode cX7_counted 23 = .ok (.iload 4, 2) := by decide +kernel
theorem dX7_counted_25 : decode cX7_counted 25 = .ok (.iload_n 1, 1) := by decide +kernel
theorem dX7_counted_26 : decode cX7_counted 26 = .ok (.invokestatic 274, 3) := by decide +kernel
theorem dX7_counted_29 : decode cX7_counted 29 = .ok (.istore 4, 2) := by decide +kernel
theorem dX7_counted_31 : decode cX7_counted 31 = .ok (.iload 5, 2) := by decide +kernel
theorem dX7_counted_33 : decode cX7_counted 33 = .ok (.iload 6, 2) := by decide +kernel
theorem dX7_counted_35 : decode cX7_counted 35 = .ok (.iload_n 2, 1) := by decide +kernel
theorem dX7_counted_36 : decode cX7_counted 36 = .ok (.if_icmp .lt 8, 3) := by decide +kernel
theorem dX7_counted_39 : decode cX7_counted 39 = .ok (.iload 4, 2) := by decide +kernel
theorem dX7_counted_41 : decode cX7_counted 41 = .ok (.goto 4, 3) := by decide +kernel
theorem dX7_counted_44 : decode cX7_counted 44 = .ok (.iconst 0, 1) := by decide +kernel
theorem dX7_counted_45 : decode cX7_counted 45 = .ok (.ior, 1) := by decide +kernel
theorem dX7_counted_46 : decode cX7_counted 46 = .ok (.istore 5, 2) := by decide +kernel
theorem dX7_counted_48 : decode cX7_counted 48 = .ok (.iinc 6 1, 3) := by decide +kernel
theorem dX7_counted_51 : decode cX7_counted 51 = .ok (.goto (-34), 3) := by decide +kernel
theorem dX7_counted_54 : decode cX7_counted 54 = .ok (.iload 5, 2) := by decide +kernel
theorem dX7_counted_56 : decode cX7_counted 56 = .ok (.ireturn, 1) := by decide +kernel
def rmX7_counted : Room := { frames := 1, cells := 0, slots := 0, locals := 24 }
theorem zdX7_counted : yX7_counted.cls = RX7 ∧ yX7_counted.cls ≠ "java/lang/invoke/MethodHandle" ∧ yX7_counted.cls ≠ "java/lang/invoke/VarHandle" ∧ (parseMethodDescriptor yX7_counted.desc).map (fun d => d.parameters.length) = some 3 := by decide +kernel
def t_X7_counted_17 (a1 : Int32) (a2 : Int32) (a3 : Int32) (i2 : Int32) (i3 : Int32) (i4 : Int32) : Option ((Int32 × Int32 × Int32) ⊕ (Int32)) :=
  (if a3 < i4 then (some (.inr i3)) else ((s_X7_joined i2 a1).bind fun r6 => (if i4 < a2 then (bn (i3 ||| 0) fun x7 => bn (i4 + 1) fun x8 => some (.inl (r6, x7, x8))) else (bn (i3 ||| r6) fun x9 => bn (i4 + 1) fun x10 => some (.inl (r6, x9, x10))))))
def l_X7_counted_17 (a1 : Int32) (a2 : Int32) (a3 : Int32) (n : Nat) (i2 : Int32) (i3 : Int32) (i4 : Int32) : Option (Int32) := zlp n (fun a => t_X7_counted_17 a1 a2 a3 a.1 a.2.1 a.2.2) (i2, i3, i4)
def s_X7_counted (a1 : Int32) (a2 : Int32) (a3 : Int32) : Option (Int32) :=
  (((if a2 = 0 then (some 1) else (some 0)) : Option (Int32)).bind fun y1 => ((l_X7_counted_17 a1 a2 a3 FU 1 y1 1).bind fun y13 => some y13))
set_option maxRecDepth 100000 in
set_option maxHeartbeats 4000000 in
theorem w_X7_counted_17 {K : ZK} (C : zOK MM K cX7_counted 7 (some .int) RX7 wsX7_counted rmX7_counted) {m : Mem} {a1 : Int32} {a2 : Int32} {a3 : Int32}  {o0 : Int32} (hk : zGo MM K m [(5, .int o0)] 54 []) : ∀ (n : Nat) (i2 : Int32) (i3 : Int32) (i4 : Int32), l_X7_counted_17 a1 a2 a3 n i2 i3 i4 = some o0 → zGo MM K m [(1, .int a1), (2, .int a2), (3, .int a3), (4, .int i2), (5, .int i3), (6, .int i4)] 17 [] := by
  intro n
  induction n with
  | zero =>
    intro i2 i3 i4 hf
    cases hf
  | succ n ih =>
    intro i2 i3 i4 hf
    obtain ⟨z, hf, hz⟩ := zlp_el hf
    replace hf : t_X7_counted_17 a1 a2 a3 i2 i3 i4 = some z := hf
    unfold t_X7_counted_17 at hf
    refine z_iload C 5 dX7_counted_17 rfl ?_
    refine z_iload_n C 2 dX7_counted_19 rfl rfl ?_
    refine z_icmp_gt (tgt := 54) C dX7_counted_20 (by decide) (fun c12 => ?_) (fun c12 => ?_)
    · replace hf := if_t c12 hf
      cases hf
      replace hz := zlz_r hz
      cases hz
      exact z_sub [4] rfl hk
    · replace hf := if_f c12 hf
      refine z_iload C 3 dX7_counted_23 rfl ?_
      refine z_iload_n C 0 dX7_counted_25 rfl rfl ?_
      obtain ⟨r6, hc5, hf⟩ := zb_el hf
      refine z_cSi C (c_X7_joined _ _ hc5) rfl gX7_counted_X7_joined rfl rfl zdX7_joined.2 rfl ⟨Nat.le_of_ble_eq_true rfl, Nat.le_of_ble_eq_true rfl⟩ (Nat.le_of_ble_eq_true rfl) dX7_counted_26 rfl ?_
      refine z_istore C (lv2 := [(1, .int a1), (2, .int a2), (3, .int a3), (4, .int r6), (5, .int i3), (6, .int i4)]) [1, 2, 3, 0, 4, 5] dX7_counted_29 (Nat.le_of_ble_eq_true rfl) rfl ?_
      refine z_iload C 4 dX7_counted_31 rfl ?_
      refine z_iload C 5 dX7_counted_33 rfl ?_
      refine z_iload_n C 1 dX7_counted_35 rfl rfl ?_
      refine z_icmp_lt (tgt := 44) C dX7_counted_36 (by decide) (fun c11 => ?_) (fun c11 => ?_)
      · replace hf := if_t c11 hf
        refine z_iconst C (v := 0) dX7_counted_44 rfl ?_
        refine z_ior C dX7_counted_45 ?_
        refine z_topi (fun x7 e_x7 => ?_)
        replace hf := bn_to e_x7 hf
        refine z_istore C (lv2 := [(1, .int a1), (2, .int a2), (3, .int a3), (4, .int r6), (5, .int x7), (6, .int i4)]) [1, 2, 3, 4, 0, 5] dX7_counted_46 (Nat.le_of_ble_eq_true rfl) rfl ?_
        obtain ⟨x8, e_x8⟩ : ∃ y : Int32, y = i4 + 1 := ⟨_, rfl⟩
        replace hf := bn_to e_x8 hf
        refine z_iinc C (lv2 := [(1, .int a1), (2, .int a2), (3, .int a3), (4, .int r6), (5, .int x7), (6, .int x8)]) 5 [1, 2, 3, 4, 5, 0] dX7_counted_48 rfl rfl (Nat.le_of_ble_eq_true rfl) e_x8 rfl ?_
        refine z_goto (tgt := 17) C dX7_counted_51 (by decide) ?_
        cases hf
        exact z_sub [0, 1, 2, 3, 4, 5] rfl (ih r6 x7 x8 hz)
      · replace hf := if_f c11 hf
        refine z_iload C 3 dX7_counted_39 rfl ?_
        refine z_goto (tgt := 45) C dX7_counted_41 (by decide) ?_
        refine z_ior C dX7_counted_45 ?_
        refine z_topi (fun x9 e_x9 => ?_)
        replace hf := bn_to e_x9 hf
        refine z_istore C (lv2 := [(1, .int a1), (2, .int a2), (3, .int a3), (4, .int r6), (5, .int x9), (6, .int i4)]) [1, 2, 3, 4, 0, 5] dX7_counted_46 (Nat.le_of_ble_eq_true rfl) rfl ?_
        obtain ⟨x10, e_x10⟩ : ∃ y : Int32, y = i4 + 1 := ⟨_, rfl⟩
        replace hf := bn_to e_x10 hf
        refine z_iinc C (lv2 := [(1, .int a1), (2, .int a2), (3, .int a3), (4, .int r6), (5, .int x9), (6, .int x10)]) 5 [1, 2, 3, 4, 5, 0] dX7_counted_48 rfl rfl (Nat.le_of_ble_eq_true rfl) e_x10 rfl ?_
        refine z_goto (tgt := 17) C dX7_counted_51 (by decide) ?_
        cases hf
        exact z_sub [0, 1, 2, 3, 4, 5] rfl (ih r6 x9 x10 hz)
set_option maxRecDepth 100000 in
set_option maxHeartbeats 4000000 in
theorem c_X7_counted (l : Launch) (w : ZW) {m : Mem} {a1 : Int32} {a2 : Int32} {a3 : Int32} {r9 : Int32}  (hf : s_X7_counted a1 a2 a3 = some r9) : zCi MM l w yX7_counted wsX7_counted rmX7_counted [.ref (w.2.1 0), .int a1, .int a2, .int a3] m m r9 := by
  refine z_met_i MM_ok (own := RX7) (by decide +kernel) rfl rfl (Nat.le_of_ble_eq_true rfl) ?_
  intro K C hKw hKl hret
  subst hKw
  subst hKl
  unfold s_X7_counted at hf
  show zGo MM K m [(0, .ref ((zw K).2.1 0)), (1, .int a1), (2, .int a2), (3, .int a3)] 0 []
  refine z_iconst C (v := 1) dX7_counted_0 rfl ?_
  refine z_istore C (lv2 := [(0, .ref ((zw K).2.1 0)), (1, .int a1), (2, .int a2), (3, .int a3), (4, .int 1)]) [1, 2, 3, 4, 0] dX7_counted_1 (Nat.le_of_ble_eq_true rfl) rfl ?_
  refine z_iload_n C 2 dX7_counted_3 rfl rfl ?_
  obtain ⟨y1, hg, hf⟩ := zb_el hf
  have hj : zGo MM K m [(1, .int a1), (2, .int a2), (3, .int a3), (4, .int 1)] 12 [.int y1] := by
    refine z_istore C (lv2 := [(1, .int a1), (2, .int a2), (3, .int a3), (4, .int 1), (5, .int y1)]) [1, 2, 3, 4, 0] dX7_counted_12 (Nat.le_of_ble_eq_true rfl) rfl ?_
    refine z_iconst C (v := 1) dX7_counted_14 rfl ?_
    refine z_istore C (lv2 := [(1, .int a1), (2, .int a2), (3, .int a3), (4, .int 1), (5, .int y1), (6, .int 1)]) [1, 2, 3, 4, 5, 0] dX7_counted_15 (Nat.le_of_ble_eq_true rfl) rfl ?_
    obtain ⟨y13, hg, hf⟩ := zb_el hf
    refine z_sub [0, 1, 2, 3, 4, 5] rfl (w_X7_counted_17 C  ?_ _ _ _ _ hg)
    clear hg
    refine z_iload C 0 dX7_counted_54 rfl ?_
    have e1 := Option.some.inj hf
    subst e1
    exact hret _ _ dX7_counted_56
  replace hf := hg
  clear hg
  refine z_if_ne (tgt := 11) C dX7_counted_4 (by decide) (fun c14 => ?_) (fun c14 => ?_)
  · replace hf := if_f c14 hf
    refine z_iconst C (v := 0) dX7_counted_11 rfl ?_
    cases hf
    exact z_sub [1, 2, 3, 4] rfl hj
  · replace hf := if_t c14 hf
    refine z_iconst C (v := 1) dX7_counted_7 rfl ?_
    refine z_goto (tgt := 12) C dX7_counted_8 (by decide) ?_
    cases hf
    exact z_sub [1, 2, 3, 4] rfl hj
set_option maxRecDepth 20000 in
theorem ggX7_dealtTo_X7_takes : GoodIn wsX7_dealtTo wsX7_takes := goodIn_sub (List.forall_mem_cons.mpr ⟨(List.mem_of_getElem? (i := 14) rfl), (List.forall_mem_append.mpr ⟨(List.forall_mem_cons.mpr ⟨(List.mem_of_getElem? (i := 15) rfl), (List.forall_mem_cons.mpr ⟨(List.mem_of_getElem? (i := 16) rfl), (List.forall_mem_cons.mpr ⟨(List.mem_of_getElem? (i := 17) rfl), (List.forall_mem_cons.mpr ⟨(List.mem_of_getElem? (i := 18) rfl), (List.forall_mem_cons.mpr ⟨(List.mem_of_getElem? (i := 19) rfl), (List.forall_mem_cons.mpr ⟨(List.mem_of_getElem? (i := 20) rfl), (List.forall_mem_cons.mpr ⟨(List.mem_of_getElem? (i := 21) rfl), (List.forall_mem_cons.mpr ⟨(List.mem_of_getElem? (i := 22) rfl), (List.forall_mem_cons.mpr ⟨(List.mem_of_getElem? (i := 23) rfl), (List.forall_mem_cons.mpr ⟨(List.mem_of_getElem? (i := 24) rfl), (List.forall_mem_cons.mpr ⟨(List.mem_of_getElem? (i := 25) rfl), (List.forall_mem_cons.mpr ⟨(List.mem_of_getElem? (i := 26) rfl), (List.forall_mem_cons.mpr ⟨(List.mem_of_getElem? (i := 13) rfl), (List.forall_mem_cons.mpr ⟨(List.mem_of_getElem? (i := 27) rfl), (fun _ h => absurd h List.not_mem_nil)⟩)⟩)⟩)⟩)⟩)⟩)⟩)⟩)⟩)⟩)⟩)⟩)⟩)⟩), (fun _ h => (List.mem_cons_of_mem _ (List.mem_append_right _ h)))⟩)⟩) (by decide +kernel)
set_option maxRecDepth 20000 in
theorem gX7_dealtTo_X7_takes : GoodIn wsX7_dealtTo (wsV RX7 277 RX7 yX7_takes wsX7_takes) := goodIn_app (goodIn_sub (List.forall_mem_cons.mpr ⟨(List.mem_of_getElem? (i := 10) rfl), (List.forall_mem_cons.mpr ⟨(List.mem_of_getElem? (i := 11) rfl), (List.forall_mem_cons.mpr ⟨(List.mem_of_getElem? (i := 12) rfl), (List.forall_mem_cons.mpr ⟨(List.mem_of_getElem? (i := 13) rfl), (fun _ h => absurd h List.not_mem_nil)⟩)⟩)⟩)⟩) (by decide +kernel)) ggX7_dealtTo_X7_takes
set_option maxRecDepth 20000 in
theorem ggX7_dealtTo_X7_counted : GoodIn wsX7_dealtTo wsX7_counted := goodIn_sub (List.forall_mem_cons.mpr ⟨(List.mem_of_getElem? (i := 31) rfl), (List.forall_mem_cons.mpr ⟨(List.mem_of_getElem? (i := 32) rfl), (List.forall_mem_cons.mpr ⟨(List.mem_of_getElem? (i := 33) rfl), (List.forall_mem_cons.mpr ⟨(List.mem_of_getElem? (i := 13) rfl), (List.forall_mem_cons.mpr ⟨(List.mem_of_getElem? (i := 34) rfl), (fun _ h => absurd h List.not_mem_nil)⟩)⟩)⟩)⟩)⟩) (by decide +kernel)
set_option maxRecDepth 20000 in
theorem gX7_dealtTo_X7_counted : GoodIn wsX7_dealtTo (wsV RX7 281 RX7 yX7_counted wsX7_counted) := goodIn_app (goodIn_sub (List.forall_mem_cons.mpr ⟨(List.mem_of_getElem? (i := 28) rfl), (List.forall_mem_cons.mpr ⟨(List.mem_of_getElem? (i := 29) rfl), (List.forall_mem_cons.mpr ⟨(List.mem_of_getElem? (i := 30) rfl), (List.forall_mem_cons.mpr ⟨(List.mem_of_getElem? (i := 13) rfl), (fun _ h => absurd h List.not_mem_nil)⟩)⟩)⟩)⟩) (by decide +kernel)) ggX7_dealtTo_X7_counted
set_option maxRecDepth 20000 in
theorem ggX7_dealtTo_X7_joined : GoodIn wsX7_dealtTo wsX7_joined := goodIn_sub (List.forall_mem_cons.mpr ⟨(List.mem_of_getElem? (i := 34) rfl), (fun _ h => absurd h List.not_mem_nil)⟩) (by decide +kernel)
set_option maxRecDepth 20000 in
theorem gX7_dealtTo_X7_joined : GoodIn wsX7_dealtTo (va_wsS RX7 274 yX7_joined wsX7_joined) := goodIn_app (goodIn_sub (List.forall_mem_cons.mpr ⟨(List.mem_of_getElem? (i := 32) rfl), (List.forall_mem_cons.mpr ⟨(List.mem_of_getElem? (i := 33) rfl), (List.forall_mem_cons.mpr ⟨(List.mem_of_getElem? (i := 13) rfl), (fun _ h => absurd h List.not_mem_nil)⟩)⟩)⟩) (by decide +kernel)) ggX7_dealtTo_X7_joined
set_option maxRecDepth 100000 in
theorem daX7_dealtTo : ∀ q ∈ ([(0, .sipush 160, 3), (3, .iload_n 1, 1), (4, .imul, 1), (5, .istore 4, 2), (7, .iconst 0, 1), (8, .istore 5, 2), (10, .iload 5, 2), (12, .aload_n 0, 1), (13, .getfield 47, 3), (16, .iload_n 1, 1), (17, .iaload, 1), (18, .if_icmp .ge 35, 3), (21, .aload_n 0, 1), (22, .getfield 128, 3), (25, .iload 5, 2), (27, .aload_n 0, 1), (28, .getfield 50, 3), (31, .iload 4, 2), (33, .iload 5, 2), (35, .iadd, 1), (36, .iaload, 1), (37, .iconst 1, 1), (38, .if_icmp .ne 7, 3), (41, .iconst 1, 1), (42, .goto 4, 3), (45, .iconst 0, 1), (46, .iastore, 1), (47, .iinc 5 1, 3), (50, .goto (-40), 3), (53, .iconst 1, 1), (54, .istore 5, 2), (56, .aload_n 0, 1), (57, .getfield 47, 3), (60, .iload_n 1, 1), (61, .iaload, 1), (62, .iconst 1, 1), (63, .isub, 1), (64, .istore 6, 2), (66, .iload 6, 2), (68, .ifCond .lt 283, 3), (71, .aload_n 0, 1), (72, .getfield 53, 3), (75, .iload 4, 2), (77, .iload 6, 2), (79, .iadd, 1), (80, .iaload, 1), (81, .bipush (-4), 2), (83, .if_icmp .ne 8, 3), (86, .bipush (-4), 2), (88, .goto 16, 3), (91, .aload_n 0, 1), (92, .getfield 53, 3), (95, .iload 4, 2), (97, .iload 6, 2), (99, .iadd, 1), (100, .iaload, 1), (101, .iload 4, 2), (103, .isub, 1), (104, .istore 7, 2), (106, .aload_n 0, 1), (107, .getfield 50, 3), (110, .iload 4, 2), (112, .iload 6, 2), (114, .iadd, 1), (115, .iaload, 1), (116, .iconst 2, 1), (117, .if_icmp .ne 161, 3), (120, .aload_n 0, 1), (121, .getfield 62, 3), (124, .iload 4, 2), (126, .iload 6, 2), (128, .iadd, 1), (129, .iaload, 1), (130, .istore 8, 2), (132, .aload_n 0, 1), (133, .getfield 128, 3), (136, .iload 6, 2), (138, .iaload, 1), (139, .istore 9, 2), (141, .iconst 0, 1), (142, .istore 10, 2), (144, .iload 10, 2), (146, .aload_n 0, 1), (147, .getfield 17, 3), (150, .iload_n 2, 1), (151, .iaload, 1), (152, .if_icmp .ge 80, 3), (155, .iload 8, 2), (157, .bipush (-4), 2), (159, .if_icmp .eq 73, 3), (162, .aload_n 0, 1), (163, .getfield 125, 3), (166, .iload 10, 2), (168, .iaload, 1), (169, .bipush (-4), 2), (171, .if_icmp .eq 15, 3), (174, .aload_n 0, 1), (175, .getfield 125, 3), (178, .iload 10, 2), (180, .iaload, 1), (181, .iload 8, 2), (183, .if_icmp .ne 7, 3), (186, .iconst 1, 1), (187, .goto 4, 3), (190, .iconst 0, 1), (191, .istore 11, 2), (193, .iload 9, 2), (195, .iload 11, 2), (197, .ifCond .eq 25, 3), (200, .aload_n 0, 1), (201, .iload 8, 2), (203, .iload_n 2, 1), (204, .iload 10, 2), (206, .iload_n 3, 1), (207, .invokevirtual 277, 3), (210, .ifCond .eq 12, 3), (213, .iconst 1, 1), (214, .iconst 1, 1), (215, .iload 10, 2), (217, .ishl, 1), (218, .ishl, 1), (219, .goto 4, 3), (222, .iconst 0, 1), (223, .ior, 1), (224, .istore 9, 2), (226, .iinc 10 1, 3), (229, .goto (-85), 3), (232, .aload_n 0, 1), (233, .getfield 128, 3), (236, .iload 7, 2), (238, .aload_n 0, 1), (239, .getfield 128, 3), (242, .iload 7, 2), (244, .iaload, 1), (245, .aload_n 0, 1), (246, .iload 9, 2), (248, .aload_n 0, 1), (249, .getfield 56, 3), (252, .iload 4, 2), (254, .iload 6, 2), (256, .iadd, 1), (257, .iaload, 1), (258, .aload_n 0, 1), (259, .getfield 59, 3), (262, .iload 4, 2), (264, .iload 6, 2), (266, .iadd, 1), (267, .iaload, 1), (268, .invokevirtual 281, 3), (271, .invokestatic 274, 3), (274, .iastore, 1), (275, .goto 70, 3), (278, .aload_n 0, 1), (279, .getfield 50, 3), (282, .iload 4, 2), (284, .iload 6, 2), (286, .iadd, 1), (287, .iaload, 1), (288, .iconst 1, 1), (289, .if_icmp .ne 23, 3), (292, .aload_n 0, 1), (293, .getfield 128, 3), (296, .iload 7, 2), (298, .dup2, 1), (299, .iaload, 1), (300, .aload_n 0, 1), (301, .getfield 128, 3), (304, .iload 6, 2), (306, .iaload, 1), (307, .ior, 1), (308, .iastore, 1), (309, .goto 36, 3), (312, .iload 7, 2), (314, .bipush (-4), 2), (316, .if_icmp .ne 15, 3), (319, .aload_n 0, 1), (320, .getfield 128, 3), (323, .iload 6, 2), (325, .iaload, 1), (326, .istore 5, 2), (328, .goto 17, 3), (331, .aload_n 0, 1), (332, .getfield 128, 3), (335, .iload 7, 2), (337, .aload_n 0, 1), (338, .getfield 128, 3), (341, .iload 6, 2), (343, .iaload, 1), (344, .iastore, 1), (345, .iinc 6 (-1), 3), (348, .goto (-282), 3), (351, .iload 5, 2), (353, .ireturn, 1)] : List (Nat × Instr × Nat)), decode cX7_dealtTo q.1 = .ok q.2 := by decide +kernel
theorem dX7_dealtTo_0 : decode cX7_dealtTo 0 = .ok (.sipush 160, 3) := daX7_dealtTo (0, .sipush 160, 3) (List.mem_of_getElem? (i := 0) rfl)
theorem dX7_dealtTo_3 : decode cX7_dealtTo 3 = .ok (.iload_n 1, 1) := daX7_dealtTo (3, .iload_n 1, 1) (List.mem_of_getElem? (i := 1) rfl)
theorem dX7_dealtTo_4 : decode cX7_dealtTo 4 = .ok (.imul, 1) := daX7_dealtTo (4, .imul, 1) (List.mem_of_getElem? (i := 2) rfl)
theorem dX7_dealtTo_5 : decode cX7_dealtTo 5 = .ok (.istore 4, 2) := daX7_dealtTo (5, .istore 4, 2) (List.mem_of_getElem? (i := 3) rfl)
theorem dX7_dealtTo_7 : decode cX7_dealtTo 7 = .ok (.iconst 0, 1) := daX7_dealtTo (7, .iconst 0, 1) (List.mem_of_getElem? (i := 4) rfl)
theorem dX7_dealtTo_8 : decode cX7_dealtTo 8 = .ok (.istore 5, 2) := daX7_dealtTo (8, .istore 5, 2) (List.mem_of_getElem? (i := 5) rfl)
theorem dX7_dealtTo_10 : decode cX7_dealtTo 10 = .ok (.iload 5, 2) := daX7_dealtTo (10, .iload 5, 2) (List.mem_of_getElem? (i := 6) rfl)
theorem dX7_dealtTo_12 : decode cX7_dealtTo 12 = .ok (.aload_n 0, 1) := daX7_dealtTo (12, .aload_n 0, 1) (List.mem_of_getElem? (i := 7) rfl)
theorem dX7_dealtTo_13 : decode cX7_dealtTo 13 = .ok (.getfield 47, 3) := daX7_dealtTo (13, .getfield 47, 3) (List.mem_of_getElem? (i := 8) rfl)
theorem dX7_dealtTo_16 : decode cX7_dealtTo 16 = .ok (.iload_n 1, 1) := daX7_dealtTo (16, .iload_n 1, 1) (List.mem_of_getElem? (i := 9) rfl)
theorem dX7_dealtTo_17 : decode cX7_dealtTo 17 = .ok (.iaload, 1) := daX7_dealtTo (17, .iaload, 1) (List.mem_of_getElem? (i := 10) rfl)
theorem dX7_dealtTo_18 : decode cX7_dealtTo 18 = .ok (.if_icmp .ge 35, 3) := daX7_dealtTo (18, .if_icmp .ge 35, 3) (List.mem_of_getElem? (i := 11) rfl)
theorem dX7_dealtTo_21 : decode cX7_dealtTo 21 = .ok (.aload_n 0, 1) := daX7_dealtTo (21, .aload_n 0, 1) (List.mem_of_getElem? (i := 12) rfl)
theorem dX7_dealtTo_22 : decode cX7_dealtTo 22 = .ok (.getfield 128, 3) := daX7_dealtTo (22, .getfield 128, 3) (List.mem_of_getElem? (i := 13) rfl)
theorem dX7_dealtTo_25 : decode cX7_dealtTo 25 = .ok (.iload 5, 2) := daX7_dealtTo (25, .iload 5, 2) (List.mem_of_getElem? (i := 14) rfl)
theorem dX7_dealtTo_27 : decode cX7_dealtTo 27 = .ok (.aload_n 0, 1) := daX7_dealtTo (27, .aload_n 0, 1) (List.mem_of_getElem? (i := 15) rfl)
theorem dX7_dealtTo_28 : decode cX7_dealtTo 28 = .ok (.getfield 50, 3) := daX7_dealtTo (28, .getfield 50, 3) (List.mem_of_getElem? (i := 16) rfl)
theorem dX7_dealtTo_31 : decode cX7_dealtTo 31 = .ok (.iload 4, 2) := daX7_dealtTo (31, .iload 4, 2) (List.mem_of_getElem? (i := 17) rfl)
theorem dX7_dealtTo_33 : decode cX7_dealtTo 33 = .ok (.iload 5, 2) := daX7_dealtTo (33, .iload 5, 2) (List.mem_of_getElem? (i := 18) rfl)
theorem dX7_dealtTo_35 : decode cX7_dealtTo 35 = .ok (.iadd, 1) := daX7_dealtTo (35, .iadd, 1) (List.mem_of_getElem? (i := 19) rfl)
theorem dX7_dealtTo_36 : decode cX7_dealtTo 36 = .ok (.iaload, 1) := daX7_dealtTo (36, .iaload, 1) (List.mem_of_getElem? (i := 20) rfl)
theorem dX7_dealtTo_37 : decode cX7_dealtTo 37 = .ok (.iconst 1, 1) := daX7_dealtTo (37, .iconst 1, 1) (List.mem_of_getElem? (i := 21) rfl)
theorem dX7_dealtTo_38 : decode cX7_dealtTo 38 = .ok (.if_icmp .ne 7, 3) := daX7_dealtTo (38, .if_icmp .ne 7, 3) (List.mem_of_getElem? (i := 22) rfl)
theorem dX7_dealtTo_41 : decode cX7_dealtTo 41 = .ok (.iconst 1, 1) := daX7_dealtTo (41, .iconst 1, 1) (List.mem_of_getElem? (i := 23) rfl)
theorem dX7_dealtTo_42 : decode cX7_dealtTo 42 = .ok (.goto 4, 3) := daX7_dealtTo (42, .goto 4, 3) (List.mem_of_getElem? (i := 24) rfl)
theorem dX7_dealtTo_45 : decode cX7_dealtTo 45 = .ok (.iconst 0, 1) := daX7_dealtTo (45, .iconst 0, 1) (List.mem_of_getElem? (i := 25) rfl)
theorem dX7_dealtTo_46 : decode cX7_dealtTo 46 = .ok (.iastore, 1) := daX7_dealtTo (46, .iastore, 1) (List.mem_of_getElem? (i := 26) rfl)
theorem dX7_dealtTo_47 : decode cX7_dealtTo 47 = .ok (.iinc 5 1, 3) := daX7_dealtTo (47, .iinc 5 1, 3) (List.mem_of_getElem? (i := 27) rfl)
theorem dX7_dealtTo_50 : decode cX7_dealtTo 50 = .ok (.goto (-40), 3) := daX7_dealtTo (50, .goto (-40), 3) (List.mem_of_getElem? (i := 28) rfl)
theorem dX7_dealtTo_53 : decode cX7_dealtTo 53 = .ok (.iconst 1, 1) := daX7_dealtTo (53, .iconst 1, 1) (List.mem_of_getElem? (i := 29) rfl)
theorem dX7_dealtTo_54 : decode cX7_dealtTo 54 = .ok (.istore 5, 2) := daX7_dealtTo (54, .istore 5, 2) (List.mem_of_getElem? (i := 30) rfl)
theorem dX7_dealtTo_56 : decode cX7_dealtTo 56 = .ok (.aload_n 0, 1) := daX7_dealtTo (56, .aload_n 0, 1) (List.mem_of_getElem? (i := 31) rfl)
theorem dX7_dealtTo_57 : decode cX7_dealtTo 57 = .ok (.getfield 47, 3) := daX7_dealtTo (57, .getfield 47, 3) (List.mem_of_getElem? (i := 32) rfl)
theorem dX7_dealtTo_60 : decode cX7_dealtTo 60 = .ok (.iload_n 1, 1) := daX7_dealtTo (60, .iload_n 1, 1) (List.mem_of_getElem? (i := 33) rfl)
theorem dX7_dealtTo_61 : decode cX7_dealtTo 61 = .ok (.iaload, 1) := daX7_dealtTo (61, .iaload, 1) (List.mem_of_getElem? (i := 34) rfl)
theorem dX7_dealtTo_62 : decode cX7_dealtTo 62 = .ok (.iconst 1, 1) := daX7_dealtTo (62, .iconst 1, 1) (List.mem_of_getElem? (i := 35) rfl)
theorem dX7_dealtTo_63 : decode cX7_dealtTo 63 = .ok (.isub, 1) := daX7_dealtTo (63, .isub, 1) (List.mem_of_getElem? (i := 36) rfl)
theorem dX7_dealtTo_64 : decode cX7_dealtTo 64 = .ok (.istore 6, 2) := daX7_dealtTo (64, .istore 6, 2) (List.mem_of_getElem? (i := 37) rfl)
theorem dX7_dealtTo_66 : decode cX7_dealtTo 66 = .ok (.iload 6, 2) := daX7_dealtTo (66, .iload 6, 2) (List.mem_of_getElem? (i := 38) rfl)
theorem dX7_dealtTo_68 : decode cX7_dealtTo 68 = .ok (.ifCond .lt 283, 3) := daX7_dealtTo (68, .ifCond .lt 283, 3) (List.mem_of_getElem? (i := 39) rfl)
theorem dX7_dealtTo_71 : decode cX7_dealtTo 71 = .ok (.aload_n 0, 1) := daX7_dealtTo (71, .aload_n 0, 1) (List.mem_of_getElem? (i := 40) rfl)
theorem dX7_dealtTo_72 : decode cX7_dealtTo 72 = .ok (.getfield 53, 3) := daX7_dealtTo (72, .getfield 53, 3) (List.mem_of_getElem? (i := 41) rfl)
theorem dX7_dealtTo_75 : decode cX7_dealtTo 75 = .ok (.iload 4, 2) := daX7_dealtTo (75, .iload 4, 2) (List.mem_of_getElem? (i := 42) rfl)
theorem dX7_dealtTo_77 : decode cX7_dealtTo 77 = .ok (.iload 6, 2) := daX7_dealtTo (77, .iload 6, 2) (List.mem_of_getElem? (i := 43) rfl)
theorem dX7_dealtTo_79 : decode cX7_dealtTo 79 = .ok (.iadd, 1) := daX7_dealtTo (79, .iadd, 1) (List.mem_of_getElem? (i := 44) rfl)
theorem dX7_dealtTo_80 : decode cX7_dealtTo 80 = .ok (.iaload, 1) := daX7_dealtTo (80, .iaload, 1) (List.mem_of_getElem? (i := 45) rfl)
theorem dX7_dealtTo_81 : decode cX7_dealtTo 81 = .ok (.bipush (-4), 2) := daX7_dealtTo (81, .bipush (-4), 2) (List.mem_of_getElem? (i := 46) rfl)
theorem dX7_dealtTo_83 : decode cX7_dealtTo 83 = .ok (.if_icmp .ne 8, 3) := daX7_dealtTo (83, .if_icmp .ne 8, 3) (List.mem_of_getElem? (i := 47) rfl)
theorem dX7_dealtTo_86 : decode cX7_dealtTo 86 = .ok (.bipush (-4), 2) := daX7_dealtTo (86, .bipush (-4), 2) (List.mem_of_getElem? (i := 48) rfl)
theorem dX7_dealtTo_88 : decode cX7_dealtTo 88 = .ok (.goto 16, 3) := daX7_dealtTo (88, .goto 16, 3) (List.mem_of_getElem? (i := 49) rfl)
theorem dX7_dealtTo_91 : decode cX7_dealtTo 91 = .ok (.aload_n 0, 1) := daX7_dealtTo (91, .aload_n 0, 1) (List.mem_of_getElem? (i := 50) rfl)
theorem dX7_dealtTo_92 : decode cX7_dealtTo 92 = .ok (.getfield 53, 3) := daX7_dealtTo (92, .getfield 53, 3) (List.mem_of_getElem? (i := 51) rfl)
theorem dX7_dealtTo_95 : decode cX7_dealtTo 95 = .ok (.iload 4, 2) := daX7_dealtTo (95, .iload 4, 2) (List.mem_of_getElem? (i := 52) rfl)
theorem dX7_dealtTo_97 : decode cX7_dealtTo 97 = .ok (.iload 6, 2) := daX7_dealtTo (97, .iload 6, 2) (List.mem_of_getElem? (i := 53) rfl)
theorem dX7_dealtTo_99 : decode cX7_dealtTo 99 = .ok (.iadd, 1) := daX7_dealtTo (99, .iadd, 1) (List.mem_of_getElem? (i := 54) rfl)
theorem dX7_dealtTo_100 : decode cX7_dealtTo 100 = .ok (.iaload, 1) := daX7_dealtTo (100, .iaload, 1) (List.mem_of_getElem? (i := 55) rfl)
theorem dX7_dealtTo_101 : decode cX7_dealtTo 101 = .ok (.iload 4, 2) := daX7_dealtTo (101, .iload 4, 2) (List.mem_of_getElem? (i := 56) rfl)
theorem dX7_dealtTo_103 : decode cX7_dealtTo 103 = .ok (.isub, 1) := daX7_dealtTo (103, .isub, 1) (List.mem_of_getElem? (i := 57) rfl)
theorem dX7_dealtTo_104 : decode cX7_dealtTo 104 = .ok (.istore 7, 2) := daX7_dealtTo (104, .istore 7, 2) (List.mem_of_getElem? (i := 58) rfl)
theorem dX7_dealtTo_106 : decode cX7_dealtTo 106 = .ok (.aload_n 0, 1) := daX7_dealtTo (106, .aload_n 0, 1) (List.mem_of_getElem? (i := 59) rfl)
theorem dX7_dealtTo_107 : decode cX7_dealtTo 107 = .ok (.getfield 50, 3) := daX7_dealtTo (107, .getfield 50, 3) (List.mem_of_getElem? (i := 60) rfl)
theorem dX7_dealtTo_110 : decode cX7_dealtTo 110 = .ok (.iload 4, 2) := daX7_dealtTo (110, .iload 4, 2) (List.mem_of_getElem? (i := 61) rfl)
theorem dX7_dealtTo_112 : decode cX7_dealtTo 112 = .ok (.iload 6, 2) := daX7_dealtTo (112, .iload 6, 2) (List.mem_of_getElem? (i := 62) rfl)
theorem dX7_dealtTo_114 : decode cX7_dealtTo 114 = .ok (.iadd, 1) := daX7_dealtTo (114, .iadd, 1) (List.mem_of_getElem? (i := 63) rfl)
theorem dX7_dealtTo_115 : decode cX7_dealtTo 115 = .ok (.iaload, 1) := daX7_dealtTo (115, .iaload, 1) (List.mem_of_getElem? (i := 64) rfl)
theorem dX7_dealtTo_116 : decode cX7_dealtTo 116 = .ok (.iconst 2, 1) := daX7_dealtTo (116, .iconst 2, 1) (List.mem_of_getElem? (i := 65) rfl)
theorem dX7_dealtTo_117 : decode cX7_dealtTo 117 = .ok (.if_icmp .ne 161, 3) := daX7_dealtTo (117, .if_icmp .ne 161, 3) (List.mem_of_getElem? (i := 66) rfl)
theorem dX7_dealtTo_120 : decode cX7_dealtTo 120 = .ok (.aload_n 0, 1) := daX7_dealtTo (120, .aload_n 0, 1) (List.mem_of_getElem? (i := 67) rfl)
theorem dX7_dealtTo_121 : decode cX7_dealtTo 121 = .ok (.getfield 62, 3) := daX7_dealtTo (121, .getfield 62, 3) (List.mem_of_getElem? (i := 68) rfl)
theorem dX7_dealtTo_124 : decode cX7_dealtTo 124 = .ok (.iload 4, 2) := daX7_dealtTo (124, .iload 4, 2) (List.mem_of_getElem? (i := 69) rfl)
theorem dX7_dealtTo_126 : decode cX7_dealtTo 126 = .ok (.iload 6, 2) := daX7_dealtTo (126, .iload 6, 2) (List.mem_of_getElem? (i := 70) rfl)
theorem dX7_dealtTo_128 : decode cX7_dealtTo 128 = .ok (.iadd, 1) := daX7_dealtTo (128, .iadd, 1) (List.mem_of_getElem? (i := 71) rfl)
theorem dX7_dealtTo_129 : decode cX7_dealtTo 129 = .ok (.iaload, 1) := daX7_dealtTo (129, .iaload, 1) (List.mem_of_getElem? (i := 72) rfl)
theorem dX7_dealtTo_130 : decode cX7_dealtTo 130 = .ok (.istore 8, 2) := daX7_dealtTo (130, .istore 8, 2) (List.mem_of_getElem? (i := 73) rfl)
theorem dX7_dealtTo_132 : decode cX7_dealtTo 132 = .ok (.aload_n 0, 1) := daX7_dealtTo (132, .aload_n 0, 1) (List.mem_of_getElem? (i := 74) rfl)
theorem dX7_dealtTo_133 : decode cX7_dealtTo 133 = .ok (.getfield 128, 3) := daX7_dealtTo (133, .getfield 128, 3) (List.mem_of_getElem? (i := 75) rfl)
theorem dX7_dealtTo_136 : decode cX7_dealtTo 136 = .ok (.iload 6, 2) := daX7_dealtTo (136, .iload 6, 2) (List.mem_of_getElem? (i := 76) rfl)
theorem dX7_dealtTo_138 : decode cX7_dealtTo 138 = .ok (.iaload, 1) := daX7_dealtTo (138, .iaload, 1) (List.mem_of_getElem? (i := 77) rfl)
theorem dX7_dealtTo_139 : decode cX7_dealtTo 139 = .ok (.istore 9, 2) := daX7_dealtTo (139, .istore 9, 2) (List.mem_of_getElem? (i := 78) rfl)
theorem dX7_dealtTo_141 : decode cX7_dealtTo 141 = .ok (.iconst 0, 1) := daX7_dealtTo (141, .iconst 0, 1) (List.mem_of_getElem? (i := 79) rfl)
theorem dX7_dealtTo_142 : decode cX7_dealtTo 142 = .ok (.istore 10, 2) := daX7_dealtTo (142, .istore 10, 2) (List.mem_of_getElem? (i := 80) rfl)
theorem dX7_dealtTo_144 : decode cX7_dealtTo 144 = .ok (.iload 10, 2) := daX7_dealtTo (144, .iload 10, 2) (List.mem_of_getElem? (i := 81) rfl)
theorem dX7_dealtTo_146 : decode cX7_dealtTo 146 = .ok (.aload_n 0, 1) := daX7_dealtTo (146, .aload_n 0, 1) (List.mem_of_getElem? (i := 82) rfl)
theorem dX7_dealtTo_147 : decode cX7_dealtTo 147 = .ok (.getfield 17, 3) := daX7_dealtTo (147, .getfield 17, 3) (List.mem_of_getElem? (i := 83) rfl)
theorem dX7_dealtTo_150 : decode cX7_dealtTo 150 = .ok (.iload_n 2, 1) := daX7_dealtTo (150, .iload_n 2, 1) (List.mem_of_getElem? (i := 84) rfl)
theorem dX7_dealtTo_151 : decode cX7_dealtTo 151 = .ok (.iaload, 1) := daX7_dealtTo (151, .iaload, 1) (List.mem_of_getElem? (i := 85) rfl)
theorem dX7_dealtTo_152 : decode cX7_dealtTo 152 = .ok (.if_icmp .ge 80, 3) := daX7_dealtTo (152, .if_icmp .ge 80, 3) (List.mem_of_getElem? (i := 86) rfl)
theorem dX7_dealtTo_155 : decode cX7_dealtTo 155 = .ok (.iload 8, 2) := daX7_dealtTo (155, .iload 8, 2) (List.mem_of_getElem? (i := 87) rfl)
theorem dX7_dealtTo_157 : decode cX7_dealtTo 157 = .ok (.bipush (-4), 2) := daX7_dealtTo (157, .bipush (-4), 2) (List.mem_of_getElem? (i := 88) rfl)
theorem dX7_dealtTo_159 : decode cX7_dealtTo 159 = .ok (.if_icmp .eq 73, 3) := daX7_dealtTo (159, .if_icmp .eq 73, 3) (List.mem_of_getElem? (i := 89) rfl)
theorem dX7_dealtTo_162 : decode cX7_dealtTo 162 = .ok (.aload_n 0, 1) := daX7_dealtTo (162, .aload_n 0, 1) (List.mem_of_getElem? (i := 90) rfl)
theorem dX7_dealtTo_163 : decode cX7_dealtTo 163 = .ok (.getfield 125, 3) := daX7_dealtTo (163, .getfield 125, 3) (List.mem_of_getElem? (i := 91) rfl)
theorem dX7_dealtTo_166 : decode cX7_dealtTo 166 = .ok (.iload 10, 2) := daX7_dealtTo (166, .iload 10, 2) (List.mem_of_getElem? (i := 92) rfl)
theorem dX7_dealtTo_168 : decode cX7_dealtTo 168 = .ok (.iaload, 1) := daX7_dealtTo (168, .iaload, 1) (List.mem_of_getElem? (i := 93) rfl)
theorem dX7_dealtTo_169 : decode cX7_dealtTo 169 = .ok (.bipush (-4), 2) := daX7_dealtTo (169, .bipush (-4), 2) (List.mem_of_getElem? (i := 94) rfl)
theorem dX7_dealtTo_171 : decode cX7_dealtTo 171 = .ok (.if_icmp .eq 15, 3) := daX7_dealtTo (171, .if_icmp .eq 15, 3) (List.mem_of_getElem? (i := 95) rfl)
theorem dX7_dealtTo_174 : decode cX7_dealtTo 174 = .ok (.aload_n 0, 1) := daX7_dealtTo (174, .aload_n 0, 1) (List.mem_of_getElem? (i := 96) rfl)
theorem dX7_dealtTo_175 : decode cX7_dealtTo 175 = .ok (.getfield 125, 3) := daX7_dealtTo (175, .getfield 125, 3) (List.mem_of_getElem? (i := 97) rfl)
theorem dX7_dealtTo_178 : decode cX7_dealtTo 178 = .ok (.iload 10, 2) := daX7_dealtTo (178, .iload 10, 2) (List.mem_of_getElem? (i := 98) rfl)
theorem dX7_dealtTo_180 : decode cX7_dealtTo 180 = .ok (.iaload, 1) := daX7_dealtTo (180, .iaload, 1) (List.mem_of_getElem? (i := 99) rfl)
theorem dX7_dealtTo_181 : decode cX7_dealtTo 181 = .ok (.iload 8, 2) := daX7_dealtTo (181, .iload 8, 2) (List.mem_of_getElem? (i := 100) rfl)
theorem dX7_dealtTo_183 : decode cX7_dealtTo 183 = .ok (.if_icmp .ne 7, 3) := daX7_dealtTo (183, .if_icmp .ne 7, 3) (List.mem_of_getElem? (i := 101) rfl)
theorem dX7_dealtTo_186 : decode cX7_dealtTo 186 = .ok (.iconst 1, 1) := daX7_dealtTo (186, .iconst 1, 1) (List.mem_of_getElem? (i := 102) rfl)
theorem dX7_dealtTo_187 : decode cX7_dealtTo 187 = .ok (.goto 4, 3) := daX7_dealtTo (187, .goto 4, 3) (List.mem_of_getElem? (i := 103) rfl)
theorem dX7_dealtTo_190 : decode cX7_dealtTo 190 = .ok (.iconst 0, 1) := daX7_dealtTo (190, .iconst 0, 1) (List.mem_of_getElem? (i := 104) rfl)
theorem dX7_dealtTo_191 : decode cX7_dealtTo 191 = .ok (.istore 11, 2) := daX7_dealtTo (191, .istore 11, 2) (List.mem_of_getElem? (i := 105) rfl)
theorem dX7_dealtTo_193 : decode cX7_dealtTo 193 = .ok (.iload 9, 2) := daX7_dealtTo (193, .iload 9, 2) (List.mem_of_getElem? (i := 106) rfl)
theorem dX7_dealtTo_195 : decode cX7_dealtTo 195 = .ok (.iload 11, 2) := daX7_dealtTo (195, .iload 11, 2) (List.mem_of_getElem? (i := 107) rfl)
theorem dX7_dealtTo_197 : decode cX7_dealtTo 197 = .ok (.ifCond .eq 25, 3) := daX7_dealtTo (197, .ifCond .eq 25, 3) (List.mem_of_getElem? (i := 108) rfl)
theorem dX7_dealtTo_200 : decode cX7_dealtTo 200 = .ok (.aload_n 0, 1) := daX7_dealtTo (200, .aload_n 0, 1) (List.mem_of_getElem? (i := 109) rfl)
theorem dX7_dealtTo_201 : decode cX7_dealtTo 201 = .ok (.iload 8, 2) := daX7_dealtTo (201, .iload 8, 2) (List.mem_of_getElem? (i := 110) rfl)
theorem dX7_dealtTo_203 : decode cX7_dealtTo 203 = .ok (.iload_n 2, 1) := daX7_dealtTo (203, .iload_n 2, 1) (List.mem_of_getElem? (i := 111) rfl)
theorem dX7_dealtTo_204 : decode cX7_dealtTo 204 = .ok (.iload 10, 2) := daX7_dealtTo (204, .iload 10, 2) (List.mem_of_getElem? (i := 112) rfl)
theorem dX7_dealtTo_206 : decode cX7_dealtTo 206 = .ok (.iload_n 3, 1) := daX7_dealtTo (206, .iload_n 3, 1) (List.mem_of_getElem? (i := 113) rfl)
theorem dX7_dealtTo_207 : decode cX7_dealtTo 207 = .ok (.invokevirtual 277, 3) := daX7_dealtTo (207, .invokevirtual 277, 3) (List.mem_of_getElem? (i := 114) rfl)
theorem dX7_dealtTo_210 : decode cX7_dealtTo 210 = .ok (.ifCond .eq 12, 3) := daX7_dealtTo (210, .ifCond .eq 12, 3) (List.mem_of_getElem? (i := 115) rfl)
theorem dX7_dealtTo_213 : decode cX7_dealtTo 213 = .ok (.iconst 1, 1) := daX7_dealtTo (213, .iconst 1, 1) (List.mem_of_getElem? (i := 116) rfl)
theorem dX7_dealtTo_214 : decode cX7_dealtTo 214 = .ok (.iconst 1, 1) := daX7_dealtTo (214, .iconst 1, 1) (List.mem_of_getElem? (i := 117) rfl)
theorem dX7_dealtTo_215 : decode cX7_dealtTo 215 = .ok (.iload 10, 2) := daX7_dealtTo (215, .iload 10, 2) (List.mem_of_getElem? (i := 118) rfl)
theorem dX7_dealtTo_217 : decode cX7_dealtTo 217 = .ok (.ishl, 1) := daX7_dealtTo (217, .ishl, 1) (List.mem_of_getElem? (i := 119) rfl)
theorem dX7_dealtTo_218 : decode cX7_dealtTo 218 = .ok (.ishl, 1) := daX7_dealtTo (218, .ishl, 1) (List.mem_of_getElem? (i := 120) rfl)
theorem dX7_dealtTo_219 : decode cX7_dealtTo 219 = .ok (.goto 4, 3) := daX7_dealtTo (219, .goto 4, 3) (List.mem_of_getElem? (i := 121) rfl)
theorem dX7_dealtTo_222 : decode cX7_dealtTo 222 = .ok (.iconst 0, 1) := daX7_dealtTo (222, .iconst 0, 1) (List.mem_of_getElem? (i := 122) rfl)
theorem dX7_dealtTo_223 : decode cX7_dealtTo 223 = .ok (.ior, 1) := daX7_dealtTo (223, .ior, 1) (List.mem_of_getElem? (i := 123) rfl)
theorem dX7_dealtTo_224 : decode cX7_dealtTo 224 = .ok (.istore 9, 2) := daX7_dealtTo (224, .istore 9, 2) (List.mem_of_getElem? (i := 124) rfl)
theorem dX7_dealtTo_226 : decode cX7_dealtTo 226 = .ok (.iinc 10 1, 3) := daX7_dealtTo (226, .iinc 10 1, 3) (List.mem_of_getElem? (i := 125) rfl)
theorem dX7_dealtTo_229 : decode cX7_dealtTo 229 = .ok (.goto (-85), 3) := daX7_dealtTo (229, .goto (-85), 3) (List.mem_of_getElem? (i := 126) rfl)
theorem dX7_dealtTo_232 : decode cX7_dealtTo 232 = .ok (.aload_n 0, 1) := daX7_dealtTo (232, .aload_n 0, 1) (List.mem_of_getElem? (i := 127) rfl)
theorem dX7_dealtTo_233 : decode cX7_dealtTo 233 = .ok (.getfield 128, 3) := daX7_dealtTo (233, .getfield 128, 3) (List.mem_of_getElem? (i := 128) rfl)
theorem dX7_dealtTo_236 : decode cX7_dealtTo 236 = .ok (.iload 7, 2) := daX7_dealtTo (236, .iload 7, 2) (List.mem_of_getElem? (i := 129) rfl)
theorem dX7_dealtTo_238 : decode cX7_dealtTo 238 = .ok (.aload_n 0, 1) := daX7_dealtTo (238, .aload_n 0, 1) (List.mem_of_getElem? (i := 130) rfl)
theorem dX7_dealtTo_239 : decode cX7_dealtTo 239 = .ok (.getfield 128, 3) := daX7_dealtTo (239, .getfield 128, 3) (List.mem_of_getElem? (i := 131) rfl)
theorem dX7_dealtTo_242 : decode cX7_dealtTo 242 = .ok (.iload 7, 2) := daX7_dealtTo (242, .iload 7, 2) (List.mem_of_getElem? (i := 132) rfl)
theorem dX7_dealtTo_244 : decode cX7_dealtTo 244 = .ok (.iaload, 1) := daX7_dealtTo (244, .iaload, 1) (List.mem_of_getElem? (i := 133) rfl)
theorem dX7_dealtTo_245 : decode cX7_dealtTo 245 = .ok (.aload_n 0, 1) := daX7_dealtTo (245, .aload_n 0, 1) (List.mem_of_getElem? (i := 134) rfl)
theorem dX7_dealtTo_246 : decode cX7_dealtTo 246 = .ok (.iload 9, 2) := daX7_dealtTo (246, .iload 9, 2) (List.mem_of_getElem? (i := 135) rfl)
theorem dX7_dealtTo_248 : decode cX7_dealtTo 248 = .ok (.aload_n 0, 1) := daX7_dealtTo (248, .aload_n 0, 1) (List.mem_of_getElem? (i := 136) rfl)
theorem dX7_dealtTo_249 : decode cX7_dealtTo 249 = .ok (.getfield 56, 3) := daX7_dealtTo (249, .getfield 56, 3) (List.mem_of_getElem? (i := 137) rfl)
theorem dX7_dealtTo_252 : decode cX7_dealtTo 252 = .ok (.iload 4, 2) := daX7_dealtTo (252, .iload 4, 2) (List.mem_of_getElem? (i := 138) rfl)
theorem dX7_dealtTo_254 : decode cX7_dealtTo 254 = .ok (.iload 6, 2) := daX7_dealtTo (254, .iload 6, 2) (List.mem_of_getElem? (i := 139) rfl)
theorem dX7_dealtTo_256 : decode cX7_dealtTo 256 = .ok (.iadd, 1) := daX7_dealtTo (256, .iadd, 1) (List.mem_of_getElem? (i := 140) rfl)
theorem dX7_dealtTo_257 : decode cX7_dealtTo 257 = .ok (.iaload, 1) := daX7_dealtTo (257, .iaload, 1) (List.mem_of_getElem? (i := 141) rfl)
theorem dX7_dealtTo_258 : decode cX7_dealtTo 258 = .ok (.aload_n 0, 1) := daX7_dealtTo (258, .aload_n 0, 1) (List.mem_of_getElem? (i := 142) rfl)
theorem dX7_dealtTo_259 : decode cX7_dealtTo 259 = .ok (.getfield 59, 3) := daX7_dealtTo (259, .getfield 59, 3) (List.mem_of_getElem? (i := 143) rfl)
theorem dX7_dealtTo_262 : decode cX7_dealtTo 262 = .ok (.iload 4, 2) := daX7_dealtTo (262, .iload 4, 2) (List.mem_of_getElem? (i := 144) rfl)
theorem dX7_dealtTo_264 : decode cX7_dealtTo 264 = .ok (.iload 6, 2) := daX7_dealtTo (264, .iload 6, 2) (List.mem_of_getElem? (i := 145) rfl)
theorem dX7_dealtTo_266 : decode cX7_dealtTo 266 = .ok (.iadd, 1) := daX7_dealtTo (266, .iadd, 1) (List.mem_of_getElem? (i := 146) rfl)
theorem dX7_dealtTo_267 : decode cX7_dealtTo 267 = .ok (.iaload, 1) := daX7_dealtTo (267, .iaload, 1) (List.mem_of_getElem? (i := 147) rfl)
theorem dX7_dealtTo_268 : decode cX7_dealtTo 268 = .ok (.invokevirtual 281, 3) := daX7_dealtTo (268, .invokevirtual 281, 3) (List.mem_of_getElem? (i := 148) rfl)
theorem dX7_dealtTo_271 : decode cX7_dealtTo 271 = .ok (.invokestatic 274, 3) := daX7_dealtTo (271, .invokestatic 274, 3) (List.mem_of_getElem? (i := 149) rfl)
theorem dX7_dealtTo_274 : decode cX7_dealtTo 274 = .ok (.iastore, 1) := daX7_dealtTo (274, .iastore, 1) (List.mem_of_getElem? (i := 150) rfl)
theorem dX7_dealtTo_275 : decode cX7_dealtTo 275 = .ok (.goto 70, 3) := daX7_dealtTo (275, .goto 70, 3) (List.mem_of_getElem? (i := 151) rfl)
theorem dX7_dealtTo_278 : decode cX7_dealtTo 278 = .ok (.aload_n 0, 1) := daX7_dealtTo (278, .aload_n 0, 1) (List.mem_of_getElem? (i := 152) rfl)
theorem dX7_dealtTo_279 : decode cX7_dealtTo 279 = .ok (.getfield 50, 3) := daX7_dealtTo (279, .getfield 50, 3) (List.mem_of_getElem? (i := 153) rfl)
theorem dX7_dealtTo_282 : decode cX7_dealtTo 282 = .ok (.iload 4, 2) := daX7_dealtTo (282, .iload 4, 2) (List.mem_of_getElem? (i := 154) rfl)
theorem dX7_dealtTo_284 : decode cX7_dealtTo 284 = .ok (.iload 6, 2) := daX7_dealtTo (284, .iload 6, 2) (List.mem_of_getElem? (i := 155) rfl)
theorem dX7_dealtTo_286 : decode cX7_dealtTo 286 = .ok (.iadd, 1) := daX7_dealtTo (286, .iadd, 1) (List.mem_of_getElem? (i := 156) rfl)
theorem dX7_dealtTo_287 : decode cX7_dealtTo 287 = .ok (.iaload, 1) := daX7_dealtTo (287, .iaload, 1) (List.mem_of_getElem? (i := 157) rfl)
theorem dX7_dealtTo_288 : decode cX7_dealtTo 288 = .ok (.iconst 1, 1) := daX7_dealtTo (288, .iconst 1, 1) (List.mem_of_getElem? (i := 158) rfl)
theorem dX7_dealtTo_289 : decode cX7_dealtTo 289 = .ok (.if_icmp .ne 23, 3) := daX7_dealtTo (289, .if_icmp .ne 23, 3) (List.mem_of_getElem? (i := 159) rfl)
theorem dX7_dealtTo_292 : decode cX7_dealtTo 292 = .ok (.aload_n 0, 1) := daX7_dealtTo (292, .aload_n 0, 1) (List.mem_of_getElem? (i := 160) rfl)
theorem dX7_dealtTo_293 : decode cX7_dealtTo 293 = .ok (.getfield 128, 3) := daX7_dealtTo (293, .getfield 128, 3) (List.mem_of_getElem? (i := 161) rfl)
theorem dX7_dealtTo_296 : decode cX7_dealtTo 296 = .ok (.iload 7, 2) := daX7_dealtTo (296, .iload 7, 2) (List.mem_of_getElem? (i := 162) rfl)
theorem dX7_dealtTo_298 : decode cX7_dealtTo 298 = .ok (.dup2, 1) := daX7_dealtTo (298, .dup2, 1) (List.mem_of_getElem? (i := 163) rfl)
theorem dX7_dealtTo_299 : decode cX7_dealtTo 299 = .ok (.iaload, 1) := daX7_dealtTo (299, .iaload, 1) (List.mem_of_getElem? (i := 164) rfl)
theorem dX7_dealtTo_300 : decode cX7_dealtTo 300 = .ok (.aload_n 0, 1) := daX7_dealtTo (300, .aload_n 0, 1) (List.mem_of_getElem? (i := 165) rfl)
theorem dX7_dealtTo_301 : decode cX7_dealtTo 301 = .ok (.getfield 128, 3) := daX7_dealtTo (301, .getfield 128, 3) (List.mem_of_getElem? (i := 166) rfl)
theorem dX7_dealtTo_304 : decode cX7_dealtTo 304 = .ok (.iload 6, 2) := daX7_dealtTo (304, .iload 6, 2) (List.mem_of_getElem? (i := 167) rfl)
theorem dX7_dealtTo_306 : decode cX7_dealtTo 306 = .ok (.iaload, 1) := daX7_dealtTo (306, .iaload, 1) (List.mem_of_getElem? (i := 168) rfl)
theorem dX7_dealtTo_307 : decode cX7_dealtTo 307 = .ok (.ior, 1) := daX7_dealtTo (307, .ior, 1) (List.mem_of_getElem? (i := 169) rfl)
theorem dX7_dealtTo_308 : decode cX7_dealtTo 308 = .ok (.iastore, 1) := daX7_dealtTo (308, .iastore, 1) (List.mem_of_getElem? (i := 170) rfl)
theorem dX7_dealtTo_309 : decode cX7_dealtTo 309 = .ok (.goto 36, 3) := daX7_dealtTo (309, .goto 36, 3) (List.mem_of_getElem? (i := 171) rfl)
theorem dX7_dealtTo_312 : decode cX7_dealtTo 312 = .ok (.iload 7, 2) := daX7_dealtTo (312, .iload 7, 2) (List.mem_of_getElem? (i := 172) rfl)
theorem dX7_dealtTo_314 : decode cX7_dealtTo 314 = .ok (.bipush (-4), 2) := daX7_dealtTo (314, .bipush (-4), 2) (List.mem_of_getElem? (i := 173) rfl)
theorem dX7_dealtTo_316 : decode cX7_dealtTo 316 = .ok (.if_icmp .ne 15, 3) := daX7_dealtTo (316, .if_icmp .ne 15, 3) (List.mem_of_getElem? (i := 174) rfl)
theorem dX7_dealtTo_319 : decode cX7_dealtTo 319 = .ok (.aload_n 0, 1) := daX7_dealtTo (319, .aload_n 0, 1) (List.mem_of_getElem? (i := 175) rfl)
theorem dX7_dealtTo_320 : decode cX7_dealtTo 320 = .ok (.getfield 128, 3) := daX7_dealtTo (320, .getfield 128, 3) (List.mem_of_getElem? (i := 176) rfl)
theorem dX7_dealtTo_323 : decode cX7_dealtTo 323 = .ok (.iload 6, 2) := daX7_dealtTo (323, .iload 6, 2) (List.mem_of_getElem? (i := 177) rfl)
theorem dX7_dealtTo_325 : decode cX7_dealtTo 325 = .ok (.iaload, 1) := daX7_dealtTo (325, .iaload, 1) (List.mem_of_getElem? (i := 178) rfl)
theorem dX7_dealtTo_326 : decode cX7_dealtTo 326 = .ok (.istore 5, 2) := daX7_dealtTo (326, .istore 5, 2) (List.mem_of_getElem? (i := 179) rfl)
theorem dX7_dealtTo_328 : decode cX7_dealtTo 328 = .ok (.goto 17, 3) := daX7_dealtTo (328, .goto 17, 3) (List.mem_of_getElem? (i := 180) rfl)
theorem dX7_dealtTo_331 : decode cX7_dealtTo 331 = .ok (.aload_n 0, 1) := daX7_dealtTo (331, .aload_n 0, 1) (List.mem_of_getElem? (i := 181) rfl)
theorem dX7_dealtTo_332 : decode cX7_dealtTo 332 = .ok (.getfield 128, 3) := daX7_dealtTo (332, .getfield 128, 3) (List.mem_of_getElem? (i := 182) rfl)
theorem dX7_dealtTo_335 : decode cX7_dealtTo 335 = .ok (.iload 7, 2) := daX7_dealtTo (335, .iload 7, 2) (List.mem_of_getElem? (i := 183) rfl)
theorem dX7_dealtTo_337 : decode cX7_dealtTo 337 = .ok (.aload_n 0, 1) := daX7_dealtTo (337, .aload_n 0, 1) (List.mem_of_getElem? (i := 184) rfl)
theorem dX7_dealtTo_338 : decode cX7_dealtTo 338 = .ok (.getfield 128, 3) := daX7_dealtTo (338, .getfield 128, 3) (List.mem_of_getElem? (i := 185) rfl)
theorem dX7_dealtTo_341 : decode cX7_dealtTo 341 = .ok (.iload 6, 2) := daX7_dealtTo (341, .iload 6, 2) (List.mem_of_getElem? (i := 186) rfl)
theorem dX7_dealtTo_343 : decode cX7_dealtTo 343 = .ok (.iaload, 1) := daX7_dealtTo (343, .iaload, 1) (List.mem_of_getElem? (i := 187) rfl)
theorem dX7_dealtTo_344 : decode cX7_dealtTo 344 = .ok (.iastore, 1) := daX7_dealtTo (344, .iastore, 1) (List.mem_of_getElem? (i := 188) rfl)
theorem dX7_dealtTo_345 : decode cX7_dealtTo 345 = .ok (.iinc 6 (-1), 3) := daX7_dealtTo (345, .iinc 6 (-1), 3) (List.mem_of_getElem? (i := 189) rfl)
theorem dX7_dealtTo_348 : decode cX7_dealtTo 348 = .ok (.goto (-282), 3) := daX7_dealtTo (348, .goto (-282), 3) (List.mem_of_getElem? (i := 190) rfl)
theorem dX7_dealtTo_351 : decode cX7_dealtTo 351 = .ok (.iload 5, 2) := daX7_dealtTo (351, .iload 5, 2) (List.mem_of_getElem? (i := 191) rfl)
theorem dX7_dealtTo_353 : decode cX7_dealtTo 353 = .ok (.ireturn, 1) := daX7_dealtTo (353, .ireturn, 1) (List.mem_of_getElem? (i := 192) rfl)
def rmX7_dealtTo : Room := { frames := 2, cells := 0, slots := 0, locals := 50 }
theorem zdX7_dealtTo : yX7_dealtTo.cls = RX7 ∧ yX7_dealtTo.cls ≠ "java/lang/invoke/MethodHandle" ∧ yX7_dealtTo.cls ≠ "java/lang/invoke/VarHandle" ∧ (parseMethodDescriptor yX7_dealtTo.desc).map (fun d => d.parameters.length) = some 3 := by decide +kernel
theorem kiX7_dealtTo_X7 : ∀ w ∈ wsX70, w ∈ wsX7_dealtTo := fun _ h => (List.mem_cons_of_mem _ (List.mem_append_right _ h))
theorem kfX7_dealtTo_47 : Cond.fieldLink RX7 47 "ShapeJudgeModel" "size" "[I" ∈ wsX7_dealtTo := (List.mem_of_getElem? (i := 1) rfl)
theorem kfX7_dealtTo_128 : Cond.fieldLink RX7 128 "ShapeJudgeModel" "sets" "[I" ∈ wsX7_dealtTo := (List.mem_of_getElem? (i := 2) rfl)
theorem kfX7_dealtTo_50 : Cond.fieldLink RX7 50 "ShapeJudgeModel" "kind" "[I" ∈ wsX7_dealtTo := (List.mem_of_getElem? (i := 3) rfl)
theorem kfX7_dealtTo_53 : Cond.fieldLink RX7 53 "ShapeJudgeModel" "around" "[I" ∈ wsX7_dealtTo := (List.mem_of_getElem? (i := 4) rfl)
theorem kfX7_dealtTo_62 : Cond.fieldLink RX7 62 "ShapeJudgeModel" "partOf" "[I" ∈ wsX7_dealtTo := (List.mem_of_getElem? (i := 5) rfl)
theorem kfX7_dealtTo_17 : Cond.fieldLink RX7 17 "ShapeJudgeModel" "many" "[I" ∈ wsX7_dealtTo := (List.mem_of_getElem? (i := 6) rfl)
theorem kfX7_dealtTo_125 : Cond.fieldLink RX7 125 "ShapeJudgeModel" "only" "[I" ∈ wsX7_dealtTo := (List.mem_of_getElem? (i := 7) rfl)
theorem kfX7_dealtTo_56 : Cond.fieldLink RX7 56 "ShapeJudgeModel" "least" "[I" ∈ wsX7_dealtTo := (List.mem_of_getElem? (i := 8) rfl)
theorem kfX7_dealtTo_59 : Cond.fieldLink RX7 59 "ShapeJudgeModel" "most" "[I" ∈ wsX7_dealtTo := (List.mem_of_getElem? (i := 9) rfl)
def t_X7_dealtTo_10 (a1 : Int32) (x1 : Int32) (i2 : Int32) (m3 : Mem) : Option ((Int32 × Mem) ⊕ (Mem)) :=
  ck (zin a1 6 = true) ((if (m3 13 (Int32.toNatClampNeg a1)) ≤ i2 then (some (.inr m3)) else (ck (zin (x1 + i2) 960 = true) ((if (m3 14 (Int32.toNatClampNeg (x1 + i2))) = 1 then (ck (zin i2 160 = true) (bn (sto m3 40 (Int32.toNatClampNeg i2) 1) fun m10 => bn (i2 + 1) fun x11 => some (.inl (x11, m10)))) else (ck (zin i2 160 = true) (bn (sto m3 40 (Int32.toNatClampNeg i2) 0) fun m7 => bn (i2 + 1) fun x8 => some (.inl (x8, m7)))))))))
def l_X7_dealtTo_10 (a1 : Int32) (x1 : Int32) (n : Nat) (i2 : Int32) (m3 : Mem) : Option (Mem) := zlp n (fun a => t_X7_dealtTo_10 a1 x1 a.1 a.2) (i2, m3)
def t_X7_dealtTo_144 (a2 : Int32) (a3 : Int32) (m19 : Mem) (x39 : Int32) (i42 : Int32) (i43 : Int32) : Option ((Int32 × Int32) ⊕ (Int32)) :=
  ck (zin a2 10 = true) ((if (m19 3 (Int32.toNatClampNeg a2)) ≤ i43 then (some (.inr i42)) else ((if x39 = (-4) then (some (.inr i42)) else (ck (zin i43 5 = true) ((((if (m19 39 (Int32.toNatClampNeg i43)) = (-4) then (some 1) else (ck (zin i43 5 = true) ((if (m19 39 (Int32.toNatClampNeg i43)) = x39 then (some 1) else (some 0))))) : Option (Int32)).bind fun y46 => (if y46 = 0 then (bn (i42 ||| 0) fun x47 => bn (i43 + 1) fun x48 => some (.inl (x47, x48))) else ((s_X7_takes m19 x39 a2 i43 a3).bind fun r50 => (if r50 = 0 then (bn (i42 ||| 0) fun x51 => bn (i43 + 1) fun x52 => some (.inl (x51, x52))) else (bn (i42 ||| ((1 : Int32) <<< (((1 : Int32) <<< (i43 &&& 31)) &&& 31))) fun x53 => bn (i43 + 1) fun x54 => some (.inl (x53, x54)))))))))))))
def l_X7_dealtTo_144 (a2 : Int32) (a3 : Int32) (m19 : Mem) (x39 : Int32) (n : Nat) (i42 : Int32) (i43 : Int32) : Option (Int32) := zlp n (fun a => t_X7_dealtTo_144 a2 a3 m19 x39 a.1 a.2) (i42, i43)
def t_X7_dealtTo_66 (a2 : Int32) (a3 : Int32) (x1 : Int32) (i17 : Int32) (i18 : Int32) (m19 : Mem) : Option ((Int32 × Int32 × Mem) ⊕ (Int32 × Mem)) :=
  (if i18 < 0 then (some (.inr (i17, m19))) else (ck (zin (x1 + i18) 960 = true) ((((if (m19 15 (Int32.toNatClampNeg (x1 + i18))) = (-4) then (some (-4)) else (ck (zin (x1 + i18) 960 = true) (some ((m19 15 (Int32.toNatClampNeg (x1 + i18))) - x1)))) : Option (Int32)).bind fun y21 => ck (zin (x1 + i18) 960 = true) ((if (m19 14 (Int32.toNatClampNeg (x1 + i18))) = 2 then (ck (zin (x1 + i18) 960 = true) (bn (m19 18 (Int32.toNatClampNeg (x1 + i18))) fun x39 => ck (zin i18 160 = true) (bn (m19 40 (Int32.toNatClampNeg i18)) fun x41 => ((l_X7_dealtTo_144 a2 a3 m19 x39 FU x41 0).bind fun y62 => ck (zin y21 160 = true) (ck (zin (x1 + i18) 960 = true) (ck (zin (x1 + i18) 960 = true) ((s_X7_counted y62 (m19 16 (Int32.toNatClampNeg (x1 + i18))) (m19 17 (Int32.toNatClampNeg (x1 + i18)))).bind fun r67 => (s_X7_joined (m19 40 (Int32.toNatClampNeg y21)) r67).bind fun r69 => ck (zin y21 160 = true) (bn (sto m19 40 (Int32.toNatClampNeg y21) r69) fun m71 => bn (i18 + (-1)) fun x72 => some (.inl (i17, x72, m71)))))))))) else (ck (zin (x1 + i18) 960 = true) ((if (m19 14 (Int32.toNatClampNeg (x1 + i18))) = 1 then (ck (zin y21 160 = true) (ck (zin i18 160 = true) (ck (zin y21 160 = true) (bn (sto m19 40 (Int32.toNatClampNeg y21) ((m19 40 (Int32.toNatClampNeg y21)) ||| (m19 40 (Int32.toNatClampNeg i18)))) fun m35 => bn (i18 + (-1)) fun x36 => some (.inl (i17, x36, m35)))))) else ((if y21 = (-4) then (ck (zin i18 160 = true) (bn (m19 40 (Int32.toNatClampNeg i18)) fun x29 => bn (i18 + (-1)) fun x30 => some (.inl (x29, x30, m19)))) else (ck (zin i18 160 = true) (ck (zin y21 160 = true) (bn (sto m19 40 (Int32.toNatClampNeg y21) (m19 40 (Int32.toNatClampNeg i18))) fun m26 => bn (i18 + (-1)) fun x27 => some (.inl (i17, x27, m26))))))))))))))))
def l_X7_dealtTo_66 (a2 : Int32) (a3 : Int32) (x1 : Int32) (n : Nat) (i17 : Int32) (i18 : Int32) (m19 : Mem) : Option (Int32 × Mem) := zlp n (fun a => t_X7_dealtTo_66 a2 a3 x1 a.1 a.2.1 a.2.2) (i17, i18, m19)
def s_X7_dealtTo (m : Mem) (a1 : Int32) (a2 : Int32) (a3 : Int32) : Option (Int32 × Mem) :=
  bn ((160 : Int32) * a1) fun x1 => ((l_X7_dealtTo_10 a1 x1 FU 0 m).bind fun m14 => ck (zin a1 6 = true) (bn ((m14 13 (Int32.toNatClampNeg a1)) - 1) fun x16 => (zb2 (l_X7_dealtTo_66 a2 a3 x1 FU 1 x16 m14) fun y77 m78 => some (y77, m78))))
set_option maxRecDepth 100000 in
set_option maxHeartbeats 4000000 in
theorem w_X7_dealtTo_10 {K : ZK} (C : zOK MM K cX7_dealtTo 12 (some .int) RX7 wsX7_dealtTo rmX7_dealtTo) {a1 : Int32} {a2 : Int32} {a3 : Int32} {x1 : Int32}  {o0 : Mem} (hk : zGo MM K o0 [(0, .ref ((zw K).2.1 0)), (1, .int a1), (2, .int a2), (3, .int a3), (4, .int x1)] 53 []) : ∀ (n : Nat) (i2 : Int32) (m3 : Mem), l_X7_dealtTo_10 a1 x1 n i2 m3 = some o0 → zGo MM K m3 [(0, .ref ((zw K).2.1 0)), (1, .int a1), (2, .int a2), (3, .int a3), (4, .int x1), (5, .int i2)] 10 [] := by
  intro n
  induction n with
  | zero =>
    intro i2 m3 hf
    cases hf
  | succ n ih =>
    intro i2 m3 hf
    obtain ⟨z, hf, hz⟩ := zlp_el hf
    replace hf : t_X7_dealtTo_10 a1 x1 i2 m3 = some z := hf
    unfold t_X7_dealtTo_10 at hf
    refine z_iload C 5 dX7_dealtTo_10 rfl ?_
    refine z_aload_n C 0 dX7_dealtTo_12 rfl rfl ?_
    refine z_getr C (t := 13) (Nat.le_of_ble_eq_true rfl) rfl rfl 15 (Nat.le_of_ble_eq_true rfl) rfl kiX7_dealtTo_X7 kfX7_dealtTo_47 dX7_dealtTo_13 ?_
    refine z_iload_n C 1 dX7_dealtTo_16 rfl rfl ?_
    obtain ⟨hi4, hf⟩ := ck_el hf
    refine z_iald C (k := 13) (Nat.le_of_ble_eq_true rfl) rfl hi4 dX7_dealtTo_17 ?_
    refine z_icmp_ge (tgt := 53) C dX7_dealtTo_18 (by decide) (fun c13 => ?_) (fun c13 => ?_)
    · replace hf := if_t c13 hf
      cases hf
      replace hz := zlz_r hz
      cases hz
      exact z_sub [0, 1, 2, 3, 4] rfl hk
    · replace hf := if_f c13 hf
      refine z_aload_n C 0 dX7_dealtTo_21 rfl rfl ?_
      refine z_getr C (t := 40) (Nat.le_of_ble_eq_true rfl) rfl rfl 51 (Nat.le_of_ble_eq_true rfl) rfl kiX7_dealtTo_X7 kfX7_dealtTo_128 dX7_dealtTo_22 ?_
      refine z_iload C 5 dX7_dealtTo_25 rfl ?_
      refine z_aload_n C 0 dX7_dealtTo_27 rfl rfl ?_
      refine z_getr C (t := 14) (Nat.le_of_ble_eq_true rfl) rfl rfl 16 (Nat.le_of_ble_eq_true rfl) rfl kiX7_dealtTo_X7 kfX7_dealtTo_50 dX7_dealtTo_28 ?_
      refine z_iload C 4 dX7_dealtTo_31 rfl ?_
      refine z_iload C 5 dX7_dealtTo_33 rfl ?_
      refine z_iadd C dX7_dealtTo_35 ?_
      obtain ⟨hi5, hf⟩ := ck_el hf
      refine z_iald C (k := 14) (Nat.le_of_ble_eq_true rfl) rfl hi5 dX7_dealtTo_36 ?_
      refine z_iconst C (v := 1) dX7_dealtTo_37 rfl ?_
      refine z_icmp_ne (tgt := 45) C dX7_dealtTo_38 (by decide) (fun c12 => ?_) (fun c12 => ?_)
      · replace hf := if_f c12 hf
        refine z_iconst C (v := 0) dX7_dealtTo_45 rfl ?_
        obtain ⟨hi6, hf⟩ := ck_el hf
        refine z_iast C (k := 40) (Nat.le_of_ble_eq_true rfl) rfl hi6 dX7_dealtTo_46 ?_
        refine z_nm (fun m7 e_m7 => ?_)
        replace hf := bn_to e_m7 hf
        obtain ⟨x8, e_x8⟩ : ∃ y : Int32, y = i2 + 1 := ⟨_, rfl⟩
        replace hf := bn_to e_x8 hf
        refine z_iinc C (lv2 := [(0, .ref ((zw K).2.1 0)), (1, .int a1), (2, .int a2), (3, .int a3), (4, .int x1), (5, .int x8)]) 5 [1, 2, 3, 4, 5, 0] dX7_dealtTo_47 rfl rfl (Nat.le_of_ble_eq_true rfl) e_x8 rfl ?_
        refine z_goto (tgt := 10) C dX7_dealtTo_50 (by decide) ?_
        cases hf
        exact z_sub [0, 1, 2, 3, 4, 5] rfl (ih x8 m7 hz)
      · replace hf := if_t c12 hf
        refine z_iconst C (v := 1) dX7_dealtTo_41 rfl ?_
        refine z_goto (tgt := 46) C dX7_dealtTo_42 (by decide) ?_
        obtain ⟨hi9, hf⟩ := ck_el hf
        refine z_iast C (k := 40) (Nat.le_of_ble_eq_true rfl) rfl hi9 dX7_dealtTo_46 ?_
        refine z_nm (fun m10 e_m10 => ?_)
        replace hf := bn_to e_m10 hf
        obtain ⟨x11, e_x11⟩ : ∃ y : Int32, y = i2 + 1 := ⟨_, rfl⟩
        replace hf := bn_to e_x11 hf
        refine z_iinc C (lv2 := [(0, .ref ((zw K).2.1 0)), (1, .int a1), (2, .int a2), (3, .int a3), (4, .int x1), (5, .int x11)]) 5 [1, 2, 3, 4, 5, 0] dX7_dealtTo_47 rfl rfl (Nat.le_of_ble_eq_true rfl) e_x11 rfl ?_
        refine z_goto (tgt := 10) C dX7_dealtTo_50 (by decide) ?_
        cases hf
        exact z_sub [0, 1, 2, 3, 4, 5] rfl (ih x11 m10 hz)
set_option maxRecDepth 100000 in
set_option maxHeartbeats 4000000 in
theorem w_X7_dealtTo_144 {K : ZK} (C : zOK MM K cX7_dealtTo 12 (some .int) RX7 wsX7_dealtTo rmX7_dealtTo) {a2 : Int32} {a3 : Int32} {x1 : Int32} {i17 : Int32} {i18 : Int32} {m19 : Mem} {y21 : Int32} {x39 : Int32}  {o0 : Int32} (hk : zGo MM K m19 [(0, .ref ((zw K).2.1 0)), (2, .int a2), (3, .int a3), (4, .int x1), (5, .int i17), (6, .int i18), (7, .int y21), (9, .int o0)] 232 []) : ∀ (n : Nat) (i42 : Int32) (i43 : Int32), l_X7_dealtTo_144 a2 a3 m19 x39 n i42 i43 = some o0 → zGo MM K m19 [(0, .ref ((zw K).2.1 0)), (2, .int a2), (3, .int a3), (4, .int x1), (5, .int i17), (6, .int i18), (7, .int y21), (8, .int x39), (9, .int i42), (10, .int i43)] 144 [] := by
  intro n
  induction n with
  | zero =>
    intro i42 i43 hf
    cases hf
  | succ n ih =>
    intro i42 i43 hf
    obtain ⟨z, hf, hz⟩ := zlp_el hf
    replace hf : t_X7_dealtTo_144 a2 a3 m19 x39 i42 i43 = some z := hf
    unfold t_X7_dealtTo_144 at hf
    refine z_iload C 9 dX7_dealtTo_144 rfl ?_
    refine z_aload_n C 0 dX7_dealtTo_146 rfl rfl ?_
    refine z_getr C (t := 3) (Nat.le_of_ble_eq_true rfl) rfl rfl 3 (Nat.le_of_ble_eq_true rfl) rfl kiX7_dealtTo_X7 kfX7_dealtTo_17 dX7_dealtTo_147 ?_
    refine z_iload_n C 1 dX7_dealtTo_150 rfl rfl ?_
    obtain ⟨hi44, hf⟩ := ck_el hf
    refine z_iald C (k := 3) (Nat.le_of_ble_eq_true rfl) rfl hi44 dX7_dealtTo_151 ?_
    refine z_icmp_ge (tgt := 232) C dX7_dealtTo_152 (by decide) (fun c61 => ?_) (fun c61 => ?_)
    · replace hf := if_t c61 hf
      cases hf
      replace hz := zlz_r hz
      cases hz
      exact z_sub [0, 1, 2, 3, 4, 5, 6, 8] rfl hk
    · replace hf := if_f c61 hf
      refine z_iload C 7 dX7_dealtTo_155 rfl ?_
      refine z_bipush C (v := (-4)) dX7_dealtTo_157 (by decide) ?_
      refine z_icmp_eq (tgt := 232) C dX7_dealtTo_159 (by decide) (fun c60 => ?_) (fun c60 => ?_)
      · replace hf := if_t c60 hf
        cases hf
        replace hz := zlz_r hz
        cases hz
        exact z_sub [0, 1, 2, 3, 4, 5, 6, 8] rfl hk
      · replace hf := if_f c60 hf
        refine z_aload_n C 0 dX7_dealtTo_162 rfl rfl ?_
        refine z_getr C (t := 39) (Nat.le_of_ble_eq_true rfl) rfl rfl 50 (Nat.le_of_ble_eq_true rfl) rfl kiX7_dealtTo_X7 kfX7_dealtTo_125 dX7_dealtTo_163 ?_
        refine z_iload C 9 dX7_dealtTo_166 rfl ?_
        obtain ⟨hi45, hf⟩ := ck_el hf
        refine z_iald C (k := 39) (Nat.le_of_ble_eq_true rfl) rfl hi45 dX7_dealtTo_168 ?_
        refine z_bipush C (v := (-4)) dX7_dealtTo_169 (by decide) ?_
        obtain ⟨y46, hg, hf⟩ := zb_el hf
        have hj : zGo MM K m19 [(0, .ref ((zw K).2.1 0)), (2, .int a2), (3, .int a3), (4, .int x1), (5, .int i17), (6, .int i18), (7, .int y21), (8, .int x39), (9, .int i42), (10, .int i43)] 191 [.int y46] := by
          refine z_istore C (lv2 := [(0, .ref ((zw K).2.1 0)), (2, .int a2), (3, .int a3), (4, .int x1), (5, .int i17), (6, .int i18), (7, .int y21), (8, .int x39), (9, .int i42), (10, .int i43), (11, .int y46)]) [1, 2, 3, 4, 5, 6, 7, 8, 9, 10, 0] dX7_dealtTo_191 (Nat.le_of_ble_eq_true rfl) rfl ?_
          refine z_iload C 8 dX7_dealtTo_193 rfl ?_
          refine z_iload C 10 dX7_dealtTo_195 rfl ?_
          refine z_if_eq (tgt := 222) C dX7_dealtTo_197 (by decide) (fun c56 => ?_) (fun c56 => ?_)
          · replace hf := if_t c56 hf
            refine z_iconst C (v := 0) dX7_dealtTo_222 rfl ?_
            refine z_ior C dX7_dealtTo_223 ?_
            refine z_topi (fun x47 e_x47 => ?_)
            replace hf := bn_to e_x47 hf
            refine z_istore C (lv2 := [(0, .ref ((zw K).2.1 0)), (2, .int a2), (3, .int a3), (4, .int x1), (5, .int i17), (6, .int i18), (7, .int y21), (8, .int x39), (9, .int x47), (10, .int i43), (11, .int y46)]) [1, 2, 3, 4, 5, 6, 7, 8, 0, 9, 10] dX7_dealtTo_224 (Nat.le_of_ble_eq_true rfl) rfl ?_
            obtain ⟨x48, e_x48⟩ : ∃ y : Int32, y = i43 + 1 := ⟨_, rfl⟩
            replace hf := bn_to e_x48 hf
            refine z_iinc C (lv2 := [(0, .ref ((zw K).2.1 0)), (2, .int a2), (3, .int a3), (4, .int x1), (5, .int i17), (6, .int i18), (7, .int y21), (8, .int x39), (9, .int x47), (10, .int x48), (11, .int y46)]) 9 [1, 2, 3, 4, 5, 6, 7, 8, 9, 0, 10] dX7_dealtTo_226 rfl rfl (Nat.le_of_ble_eq_true rfl) e_x48 rfl ?_
            refine z_goto (tgt := 144) C dX7_dealtTo_229 (by decide) ?_
            cases hf
            exact z_sub [0, 1, 2, 3, 4, 5, 6, 7, 8, 9] rfl (ih x47 x48 hz)
          · replace hf := if_f c56 hf
            refine z_aload_n C 0 dX7_dealtTo_200 rfl rfl ?_
            refine z_iload C 7 dX7_dealtTo_201 rfl ?_
            refine z_iload_n C 1 dX7_dealtTo_203 rfl rfl ?_
            refine z_iload C 9 dX7_dealtTo_204 rfl ?_
            refine z_iload_n C 2 dX7_dealtTo_206 rfl rfl ?_
            obtain ⟨r50, hc49, hf⟩ := zb_el hf
            refine z_cVi C (c_X7_takes _ _ hc49) rfl gX7_dealtTo_X7_takes rfl rfl zdX7_takes rfl (Nat.le_of_ble_eq_true rfl) rfl rfl rfl ⟨Nat.le_of_ble_eq_true rfl, Nat.le_of_ble_eq_true rfl⟩ (Nat.le_of_ble_eq_true rfl) dX7_dealtTo_207 rfl ?_
            refine z_if_eq (tgt := 222) C dX7_dealtTo_210 (by decide) (fun c55 => ?_) (fun c55 => ?_)
            · replace hf := if_t c55 hf
              refine z_iconst C (v := 0) dX7_dealtTo_222 rfl ?_
              refine z_ior C dX7_dealtTo_223 ?_
              refine z_topi (fun x51 e_x51 => ?_)
              replace hf := bn_to e_x51 hf
              refine z_istore C (lv2 := [(0, .ref ((zw K).2.1 0)), (2, .int a2), (3, .int a3), (4, .int x1), (5, .int i17), (6, .int i18), (7, .int y21), (8, .int x39), (9, .int x51), (10, .int i43), (11, .int y46)]) [1, 2, 3, 4, 5, 6, 7, 8, 0, 9, 10] dX7_dealtTo_224 (Nat.le_of_ble_eq_true rfl) rfl ?_
              obtain ⟨x52, e_x52⟩ : ∃ y : Int32, y = i43 + 1 := ⟨_, rfl⟩
              replace hf := bn_to e_x52 hf
              refine z_iinc C (lv2 := [(0, .ref ((zw K).2.1 0)), (2, .int a2), (3, .int a3), (4, .int x1), (5, .int i17), (6, .int i18), (7, .int y21), (8, .int x39), (9, .int x51), (10, .int x52), (11, .int y46)]) 9 [1, 2, 3, 4, 5, 6, 7, 8, 9, 0, 10] dX7_dealtTo_226 rfl rfl (Nat.le_of_ble_eq_true rfl) e_x52 rfl ?_
              refine z_goto (tgt := 144) C dX7_dealtTo_229 (by decide) ?_
              cases hf
              exact z_sub [0, 1, 2, 3, 4, 5, 6, 7, 8, 9] rfl (ih x51 x52 hz)
            · replace hf := if_f c55 hf
              refine z_iconst C (v := 1) dX7_dealtTo_213 rfl ?_
              refine z_iconst C (v := 1) dX7_dealtTo_214 rfl ?_
              refine z_iload C 9 dX7_dealtTo_215 rfl ?_
              refine z_ishl C dX7_dealtTo_217 ?_
              refine z_ishl C dX7_dealtTo_218 ?_
              refine z_goto (tgt := 223) C dX7_dealtTo_219 (by decide) ?_
              refine z_ior C dX7_dealtTo_223 ?_
              refine z_topi (fun x53 e_x53 => ?_)
              replace hf := bn_to e_x53 hf
              refine z_istore C (lv2 := [(0, .ref ((zw K).2.1 0)), (2, .int a2), (3, .int a3), (4, .int x1), (5, .int i17), (6, .int i18), (7, .int y21), (8, .int x39), (9, .int x53), (10, .int i43), (11, .int y46)]) [1, 2, 3, 4, 5, 6, 7, 8, 0, 9, 10] dX7_dealtTo_224 (Nat.le_of_ble_eq_true rfl) rfl ?_
              obtain ⟨x54, e_x54⟩ : ∃ y : Int32, y = i43 + 1 := ⟨_, rfl⟩
              replace hf := bn_to e_x54 hf
              refine z_iinc C (lv2 := [(0, .ref ((zw K).2.1 0)), (2, .int a2), (3, .int a3), (4, .int x1), (5, .int i17), (6, .int i18), (7, .int y21), (8, .int x39), (9, .int x53), (10, .int x54), (11, .int y46)]) 9 [1, 2, 3, 4, 5, 6, 7, 8, 9, 0, 10] dX7_dealtTo_226 rfl rfl (Nat.le_of_ble_eq_true rfl) e_x54 rfl ?_
              refine z_goto (tgt := 144) C dX7_dealtTo_229 (by decide) ?_
              cases hf
              exact z_sub [0, 1, 2, 3, 4, 5, 6, 7, 8, 9] rfl (ih x53 x54 hz)
        replace hf := hg
        clear hg
        refine z_icmp_eq (tgt := 186) C dX7_dealtTo_171 (by decide) (fun c59 => ?_) (fun c59 => ?_)
        · replace hf := if_t c59 hf
          refine z_iconst C (v := 1) dX7_dealtTo_186 rfl ?_
          refine z_goto (tgt := 191) C dX7_dealtTo_187 (by decide) ?_
          cases hf
          exact z_sub [0, 1, 2, 3, 4, 5, 6, 7, 8, 9] rfl hj
        · replace hf := if_f c59 hf
          refine z_aload_n C 0 dX7_dealtTo_174 rfl rfl ?_
          refine z_getr C (t := 39) (Nat.le_of_ble_eq_true rfl) rfl rfl 50 (Nat.le_of_ble_eq_true rfl) rfl kiX7_dealtTo_X7 kfX7_dealtTo_125 dX7_dealtTo_175 ?_
          refine z_iload C 9 dX7_dealtTo_178 rfl ?_
          obtain ⟨hi57, hf⟩ := ck_el hf
          refine z_iald C (k := 39) (Nat.le_of_ble_eq_true rfl) rfl hi57 dX7_dealtTo_180 ?_
          refine z_iload C 7 dX7_dealtTo_181 rfl ?_
          refine z_icmp_ne (tgt := 190) C dX7_dealtTo_183 (by decide) (fun c58 => ?_) (fun c58 => ?_)
          · replace hf := if_f c58 hf
            refine z_iconst C (v := 0) dX7_dealtTo_190 rfl ?_
            cases hf
            exact z_sub [0, 1, 2, 3, 4, 5, 6, 7, 8, 9] rfl hj
          · replace hf := if_t c58 hf
            refine z_iconst C (v := 1) dX7_dealtTo_186 rfl ?_
            refine z_goto (tgt := 191) C dX7_dealtTo_187 (by decide) ?_
            cases hf
            exact z_sub [0, 1, 2, 3, 4, 5, 6, 7, 8, 9] rfl hj
set_option maxRecDepth 100000 in
set_option maxHeartbeats 4000000 in
theorem w_X7_dealtTo_66 {K : ZK} (C : zOK MM K cX7_dealtTo 12 (some .int) RX7 wsX7_dealtTo rmX7_dealtTo) {a2 : Int32} {a3 : Int32} {x1 : Int32}  {o0 : Int32} {o1 : Mem} (hk : zGo MM K o1 [(5, .int o0)] 351 []) : ∀ (n : Nat) (i17 : Int32) (i18 : Int32) (m19 : Mem), l_X7_dealtTo_66 a2 a3 x1 n i17 i18 m19 = some (o0, o1) → zGo MM K m19 [(0, .ref ((zw K).2.1 0)), (2, .int a2), (3, .int a3), (4, .int x1), (5, .int i17), (6, .int i18)] 66 [] := by
  intro n
  induction n with
  | zero =>
    intro i17 i18 m19 hf
    cases hf
  | succ n ih =>
    intro i17 i18 m19 hf
    obtain ⟨z, hf, hz⟩ := zlp_el hf
    replace hf : t_X7_dealtTo_66 a2 a3 x1 i17 i18 m19 = some z := hf
    unfold t_X7_dealtTo_66 at hf
    refine z_iload C 5 dX7_dealtTo_66 rfl ?_
    refine z_if_lt (tgt := 351) C dX7_dealtTo_68 (by decide) (fun c76 => ?_) (fun c76 => ?_)
    · replace hf := if_t c76 hf
      cases hf
      replace hz := zlz_r hz
      cases hz
      exact z_sub [4] rfl hk
    · replace hf := if_f c76 hf
      refine z_aload_n C 0 dX7_dealtTo_71 rfl rfl ?_
      refine z_getr C (t := 15) (Nat.le_of_ble_eq_true rfl) rfl rfl 17 (Nat.le_of_ble_eq_true rfl) rfl kiX7_dealtTo_X7 kfX7_dealtTo_53 dX7_dealtTo_72 ?_
      refine z_iload C 3 dX7_dealtTo_75 rfl ?_
      refine z_iload C 5 dX7_dealtTo_77 rfl ?_
      refine z_iadd C dX7_dealtTo_79 ?_
      obtain ⟨hi20, hf⟩ := ck_el hf
      refine z_iald C (k := 15) (Nat.le_of_ble_eq_true rfl) rfl hi20 dX7_dealtTo_80 ?_
      refine z_bipush C (v := (-4)) dX7_dealtTo_81 (by decide) ?_
      obtain ⟨y21, hg, hf⟩ := zb_el hf
      have hj : zGo MM K m19 [(0, .ref ((zw K).2.1 0)), (2, .int a2), (3, .int a3), (4, .int x1), (5, .int i17), (6, .int i18)] 104 [.int y21] := by
        refine z_istore C (lv2 := [(0, .ref ((zw K).2.1 0)), (2, .int a2), (3, .int a3), (4, .int x1), (5, .int i17), (6, .int i18), (7, .int y21)]) [1, 2, 3, 4, 5, 6, 0] dX7_dealtTo_104 (Nat.le_of_ble_eq_true rfl) rfl ?_
        refine z_aload_n C 0 dX7_dealtTo_106 rfl rfl ?_
        refine z_getr C (t := 14) (Nat.le_of_ble_eq_true rfl) rfl rfl 16 (Nat.le_of_ble_eq_true rfl) rfl kiX7_dealtTo_X7 kfX7_dealtTo_50 dX7_dealtTo_107 ?_
        refine z_iload C 3 dX7_dealtTo_110 rfl ?_
        refine z_iload C 5 dX7_dealtTo_112 rfl ?_
        refine z_iadd C dX7_dealtTo_114 ?_
        obtain ⟨hi22, hf⟩ := ck_el hf
        refine z_iald C (k := 14) (Nat.le_of_ble_eq_true rfl) rfl hi22 dX7_dealtTo_115 ?_
        refine z_iconst C (v := 2) dX7_dealtTo_116 rfl ?_
        refine z_icmp_ne (tgt := 278) C dX7_dealtTo_117 (by decide) (fun c73 => ?_) (fun c73 => ?_)
        · replace hf := if_f c73 hf
          refine z_aload_n C 0 dX7_dealtTo_278 rfl rfl ?_
          refine z_getr C (t := 14) (Nat.le_of_ble_eq_true rfl) rfl rfl 16 (Nat.le_of_ble_eq_true rfl) rfl kiX7_dealtTo_X7 kfX7_dealtTo_50 dX7_dealtTo_279 ?_
          refine z_iload C 3 dX7_dealtTo_282 rfl ?_
          refine z_iload C 5 dX7_dealtTo_284 rfl ?_
          refine z_iadd C dX7_dealtTo_286 ?_
          obtain ⟨hi23, hf⟩ := ck_el hf
          refine z_iald C (k := 14) (Nat.le_of_ble_eq_true rfl) rfl hi23 dX7_dealtTo_287 ?_
          refine z_iconst C (v := 1) dX7_dealtTo_288 rfl ?_
          refine z_icmp_ne (tgt := 312) C dX7_dealtTo_289 (by decide) (fun c37 => ?_) (fun c37 => ?_)
          · replace hf := if_f c37 hf
            refine z_iload C 6 dX7_dealtTo_312 rfl ?_
            refine z_bipush C (v := (-4)) dX7_dealtTo_314 (by decide) ?_
            refine z_icmp_ne (tgt := 331) C dX7_dealtTo_316 (by decide) (fun c31 => ?_) (fun c31 => ?_)
            · replace hf := if_f c31 hf
              refine z_aload_n C 0 dX7_dealtTo_331 rfl rfl ?_
              refine z_getr C (t := 40) (Nat.le_of_ble_eq_true rfl) rfl rfl 51 (Nat.le_of_ble_eq_true rfl) rfl kiX7_dealtTo_X7 kfX7_dealtTo_128 dX7_dealtTo_332 ?_
              refine z_iload C 6 dX7_dealtTo_335 rfl ?_
              refine z_aload_n C 0 dX7_dealtTo_337 rfl rfl ?_
              refine z_getr C (t := 40) (Nat.le_of_ble_eq_true rfl) rfl rfl 51 (Nat.le_of_ble_eq_true rfl) rfl kiX7_dealtTo_X7 kfX7_dealtTo_128 dX7_dealtTo_338 ?_
              refine z_iload C 5 dX7_dealtTo_341 rfl ?_
              obtain ⟨hi24, hf⟩ := ck_el hf
              refine z_iald C (k := 40) (Nat.le_of_ble_eq_true rfl) rfl hi24 dX7_dealtTo_343 ?_
              obtain ⟨hi25, hf⟩ := ck_el hf
              refine z_iast C (k := 40) (Nat.le_of_ble_eq_true rfl) rfl hi25 dX7_dealtTo_344 ?_
              refine z_nm (fun m26 e_m26 => ?_)
              replace hf := bn_to e_m26 hf
              obtain ⟨x27, e_x27⟩ : ∃ y : Int32, y = i18 + (-1) := ⟨_, rfl⟩
              replace hf := bn_to e_x27 hf
              refine z_iinc C (lv2 := [(0, .ref ((zw K).2.1 0)), (2, .int a2), (3, .int a3), (4, .int x1), (5, .int i17), (6, .int x27), (7, .int y21)]) 5 [1, 2, 3, 4, 5, 0, 6] dX7_dealtTo_345 (by decide) rfl (Nat.le_of_ble_eq_true rfl) e_x27 rfl ?_
              refine z_goto (tgt := 66) C dX7_dealtTo_348 (by decide) ?_
              cases hf
              exact z_sub [0, 1, 2, 3, 4, 5] rfl (ih i17 x27 m26 hz)
            · replace hf := if_t c31 hf
              refine z_aload_n C 0 dX7_dealtTo_319 rfl rfl ?_
              refine z_getr C (t := 40) (Nat.le_of_ble_eq_true rfl) rfl rfl 51 (Nat.le_of_ble_eq_true rfl) rfl kiX7_dealtTo_X7 kfX7_dealtTo_128 dX7_dealtTo_320 ?_
              refine z_iload C 5 dX7_dealtTo_323 rfl ?_
              obtain ⟨hi28, hf⟩ := ck_el hf
              refine z_iald C (k := 40) (Nat.le_of_ble_eq_true rfl) rfl hi28 dX7_dealtTo_325 ?_
              refine z_topi (fun x29 e_x29 => ?_)
              replace hf := bn_to e_x29 hf
              refine z_istore C (lv2 := [(0, .ref ((zw K).2.1 0)), (2, .int a2), (3, .int a3), (4, .int x1), (5, .int x29), (6, .int i18), (7, .int y21)]) [1, 2, 3, 4, 0, 5, 6] dX7_dealtTo_326 (Nat.le_of_ble_eq_true rfl) rfl ?_
              refine z_goto (tgt := 345) C dX7_dealtTo_328 (by decide) ?_
              obtain ⟨x30, e_x30⟩ : ∃ y : Int32, y = i18 + (-1) := ⟨_, rfl⟩
              replace hf := bn_to e_x30 hf
              refine z_iinc C (lv2 := [(0, .ref ((zw K).2.1 0)), (2, .int a2), (3, .int a3), (4, .int x1), (5, .int x29), (6, .int x30), (7, .int y21)]) 5 [1, 2, 3, 4, 5, 0, 6] dX7_dealtTo_345 (by decide) rfl (Nat.le_of_ble_eq_true rfl) e_x30 rfl ?_
              refine z_goto (tgt := 66) C dX7_dealtTo_348 (by decide) ?_
              cases hf
              exact z_sub [0, 1, 2, 3, 4, 5] rfl (ih x29 x30 m19 hz)
          · replace hf := if_t c37 hf
            refine z_aload_n C 0 dX7_dealtTo_292 rfl rfl ?_
            refine z_getr C (t := 40) (Nat.le_of_ble_eq_true rfl) rfl rfl 51 (Nat.le_of_ble_eq_true rfl) rfl kiX7_dealtTo_X7 kfX7_dealtTo_128 dX7_dealtTo_293 ?_
            refine z_iload C 6 dX7_dealtTo_296 rfl ?_
            refine z_dup2 C dX7_dealtTo_298 ?_
            obtain ⟨hi32, hf⟩ := ck_el hf
            refine z_iald C (k := 40) (Nat.le_of_ble_eq_true rfl) rfl hi32 dX7_dealtTo_299 ?_
            refine z_aload_n C 0 dX7_dealtTo_300 rfl rfl ?_
            refine z_getr C (t := 40) (Nat.le_of_ble_eq_true rfl) rfl rfl 51 (Nat.le_of_ble_eq_true rfl) rfl kiX7_dealtTo_X7 kfX7_dealtTo_128 dX7_dealtTo_301 ?_
            refine z_iload C 5 dX7_dealtTo_304 rfl ?_
            obtain ⟨hi33, hf⟩ := ck_el hf
            refine z_iald C (k := 40) (Nat.le_of_ble_eq_true rfl) rfl hi33 dX7_dealtTo_306 ?_
            refine z_ior C dX7_dealtTo_307 ?_
            obtain ⟨hi34, hf⟩ := ck_el hf
            refine z_iast C (k := 40) (Nat.le_of_ble_eq_true rfl) rfl hi34 dX7_dealtTo_308 ?_
            refine z_nm (fun m35 e_m35 => ?_)
            replace hf := bn_to e_m35 hf
            refine z_goto (tgt := 345) C dX7_dealtTo_309 (by decide) ?_
            obtain ⟨x36, e_x36⟩ : ∃ y : Int32, y = i18 + (-1) := ⟨_, rfl⟩
            replace hf := bn_to e_x36 hf
            refine z_iinc C (lv2 := [(0, .ref ((zw K).2.1 0)), (2, .int a2), (3, .int a3), (4, .int x1), (5, .int i17), (6, .int x36), (7, .int y21)]) 5 [1, 2, 3, 4, 5, 0, 6] dX7_dealtTo_345 (by decide) rfl (Nat.le_of_ble_eq_true rfl) e_x36 rfl ?_
            refine z_goto (tgt := 66) C dX7_dealtTo_348 (by decide) ?_
            cases hf
            exact z_sub [0, 1, 2, 3, 4, 5] rfl (ih i17 x36 m35 hz)
        · replace hf := if_t c73 hf
          refine z_aload_n C 0 dX7_dealtTo_120 rfl rfl ?_
          refine z_getr C (t := 18) (Nat.le_of_ble_eq_true rfl) rfl rfl 20 (Nat.le_of_ble_eq_true rfl) rfl kiX7_dealtTo_X7 kfX7_dealtTo_62 dX7_dealtTo_121 ?_
          refine z_iload C 3 dX7_dealtTo_124 rfl ?_
          refine z_iload C 5 dX7_dealtTo_126 rfl ?_
          refine z_iadd C dX7_dealtTo_128 ?_
          obtain ⟨hi38, hf⟩ := ck_el hf
          refine z_iald C (k := 18) (Nat.le_of_ble_eq_true rfl) rfl hi38 dX7_dealtTo_129 ?_
          refine z_topi (fun x39 e_x39 => ?_)
          replace hf := bn_to e_x39 hf
          refine z_istore C (lv2 := [(0, .ref ((zw K).2.1 0)), (2, .int a2), (3, .int a3), (4, .int x1), (5, .int i17), (6, .int i18), (7, .int y21), (8, .int x39)]) [1, 2, 3, 4, 5, 6, 7, 0] dX7_dealtTo_130 (Nat.le_of_ble_eq_true rfl) rfl ?_
          refine z_aload_n C 0 dX7_dealtTo_132 rfl rfl ?_
          refine z_getr C (t := 40) (Nat.le_of_ble_eq_true rfl) rfl rfl 51 (Nat.le_of_ble_eq_true rfl) rfl kiX7_dealtTo_X7 kfX7_dealtTo_128 dX7_dealtTo_133 ?_
          refine z_iload C 5 dX7_dealtTo_136 rfl ?_
          obtain ⟨hi40, hf⟩ := ck_el hf
          refine z_iald C (k := 40) (Nat.le_of_ble_eq_true rfl) rfl hi40 dX7_dealtTo_138 ?_
          refine z_topi (fun x41 e_x41 => ?_)
          replace hf := bn_to e_x41 hf
          refine z_istore C (lv2 := [(0, .ref ((zw K).2.1 0)), (2, .int a2), (3, .int a3), (4, .int x1), (5, .int i17), (6, .int i18), (7, .int y21), (8, .int x39), (9, .int x41)]) [1, 2, 3, 4, 5, 6, 7, 8, 0] dX7_dealtTo_139 (Nat.le_of_ble_eq_true rfl) rfl ?_
          refine z_iconst C (v := 0) dX7_dealtTo_141 rfl ?_
          refine z_istore C (lv2 := [(0, .ref ((zw K).2.1 0)), (2, .int a2), (3, .int a3), (4, .int x1), (5, .int i17), (6, .int i18), (7, .int y21), (8, .int x39), (9, .int x41), (10, .int 0)]) [1, 2, 3, 4, 5, 6, 7, 8, 9, 0] dX7_dealtTo_142 (Nat.le_of_ble_eq_true rfl) rfl ?_
          obtain ⟨y62, hg, hf⟩ := zb_el hf
          refine z_sub [0, 1, 2, 3, 4, 5, 6, 7, 8, 9] rfl (w_X7_dealtTo_144 C  ?_ _ _ _ hg)
          clear hg
          refine z_aload_n C 0 dX7_dealtTo_232 rfl rfl ?_
          refine z_getr C (t := 40) (Nat.le_of_ble_eq_true rfl) rfl rfl 51 (Nat.le_of_ble_eq_true rfl) rfl kiX7_dealtTo_X7 kfX7_dealtTo_128 dX7_dealtTo_233 ?_
          refine z_iload C 6 dX7_dealtTo_236 rfl ?_
          refine z_aload_n C 0 dX7_dealtTo_238 rfl rfl ?_
          refine z_getr C (t := 40) (Nat.le_of_ble_eq_true rfl) rfl rfl 51 (Nat.le_of_ble_eq_true rfl) rfl kiX7_dealtTo_X7 kfX7_dealtTo_128 dX7_dealtTo_239 ?_
          refine z_iload C 6 dX7_dealtTo_242 rfl ?_
          obtain ⟨hi63, hf⟩ := ck_el hf
          refine z_iald C (k := 40) (Nat.le_of_ble_eq_true rfl) rfl hi63 dX7_dealtTo_244 ?_
          refine z_aload_n C 0 dX7_dealtTo_245 rfl rfl ?_
          refine z_iload C 7 dX7_dealtTo_246 rfl ?_
          refine z_aload_n C 0 dX7_dealtTo_248 rfl rfl ?_
          refine z_getr C (t := 16) (Nat.le_of_ble_eq_true rfl) rfl rfl 18 (Nat.le_of_ble_eq_true rfl) rfl kiX7_dealtTo_X7 kfX7_dealtTo_56 dX7_dealtTo_249 ?_
          refine z_iload C 3 dX7_dealtTo_252 rfl ?_
          refine z_iload C 5 dX7_dealtTo_254 rfl ?_
          refine z_iadd C dX7_dealtTo_256 ?_
          obtain ⟨hi64, hf⟩ := ck_el hf
          refine z_iald C (k := 16) (Nat.le_of_ble_eq_true rfl) rfl hi64 dX7_dealtTo_257 ?_
          refine z_aload_n C 0 dX7_dealtTo_258 rfl rfl ?_
          refine z_getr C (t := 17) (Nat.le_of_ble_eq_true rfl) rfl rfl 19 (Nat.le_of_ble_eq_true rfl) rfl kiX7_dealtTo_X7 kfX7_dealtTo_59 dX7_dealtTo_259 ?_
          refine z_iload C 3 dX7_dealtTo_262 rfl ?_
          refine z_iload C 5 dX7_dealtTo_264 rfl ?_
          refine z_iadd C dX7_dealtTo_266 ?_
          obtain ⟨hi65, hf⟩ := ck_el hf
          refine z_iald C (k := 17) (Nat.le_of_ble_eq_true rfl) rfl hi65 dX7_dealtTo_267 ?_
          obtain ⟨r67, hc66, hf⟩ := zb_el hf
          refine z_cVi C (c_X7_counted _ _ hc66) rfl gX7_dealtTo_X7_counted rfl rfl zdX7_counted rfl (Nat.le_of_ble_eq_true rfl) rfl rfl rfl ⟨Nat.le_of_ble_eq_true rfl, Nat.le_of_ble_eq_true rfl⟩ (Nat.le_of_ble_eq_true rfl) dX7_dealtTo_268 rfl ?_
          obtain ⟨r69, hc68, hf⟩ := zb_el hf
          refine z_cSi C (c_X7_joined _ _ hc68) rfl gX7_dealtTo_X7_joined rfl rfl zdX7_joined.2 rfl ⟨Nat.le_of_ble_eq_true rfl, Nat.le_of_ble_eq_true rfl⟩ (Nat.le_of_ble_eq_true rfl) dX7_dealtTo_271 rfl ?_
          obtain ⟨hi70, hf⟩ := ck_el hf
          refine z_iast C (k := 40) (Nat.le_of_ble_eq_true rfl) rfl hi70 dX7_dealtTo_274 ?_
          refine z_nm (fun m71 e_m71 => ?_)
          replace hf := bn_to e_m71 hf
          refine z_goto (tgt := 345) C dX7_dealtTo_275 (by decide) ?_
          obtain ⟨x72, e_x72⟩ : ∃ y : Int32, y = i18 + (-1) := ⟨_, rfl⟩
          replace hf := bn_to e_x72 hf
          refine z_iinc C (lv2 := [(0, .ref ((zw K).2.1 0)), (2, .int a2), (3, .int a3), (4, .int x1), (5, .int i17), (6, .int x72), (7, .int y21), (9, .int y62)]) 5 [1, 2, 3, 4, 5, 0, 6, 7] dX7_dealtTo_345 (by decide) rfl (Nat.le_of_ble_eq_true rfl) e_x72 rfl ?_
          refine z_goto (tgt := 66) C dX7_dealtTo_348 (by decide) ?_
          cases hf
          exact z_sub [0, 1, 2, 3, 4, 5] rfl (ih i17 x72 m71 hz)
      replace hf := hg
      clear hg
      refine z_icmp_ne (tgt := 91) C dX7_dealtTo_83 (by decide) (fun c75 => ?_) (fun c75 => ?_)
      · replace hf := if_f c75 hf
        refine z_aload_n C 0 dX7_dealtTo_91 rfl rfl ?_
        refine z_getr C (t := 15) (Nat.le_of_ble_eq_true rfl) rfl rfl 17 (Nat.le_of_ble_eq_true rfl) rfl kiX7_dealtTo_X7 kfX7_dealtTo_53 dX7_dealtTo_92 ?_
        refine z_iload C 3 dX7_dealtTo_95 rfl ?_
        refine z_iload C 5 dX7_dealtTo_97 rfl ?_
        refine z_iadd C dX7_dealtTo_99 ?_
        obtain ⟨hi74, hf⟩ := ck_el hf
        refine z_iald C (k := 15) (Nat.le_of_ble_eq_true rfl) rfl hi74 dX7_dealtTo_100 ?_
        refine z_iload C 3 dX7_dealtTo_101 rfl ?_
        refine z_isub C dX7_dealtTo_103 ?_
        cases hf
        exact z_sub [0, 1, 2, 3, 4, 5] rfl hj
      · replace hf := if_t c75 hf
        refine z_bipush C (v := (-4)) dX7_dealtTo_86 (by decide) ?_
        refine z_goto (tgt := 104) C dX7_dealtTo_88 (by decide) ?_
        cases hf
        exact z_sub [0, 1, 2, 3, 4, 5] rfl hj
set_option maxRecDepth 100000 in
set_option maxHeartbeats 4000000 in
theorem c_X7_dealtTo (l : Launch) (w : ZW) {m : Mem} {a1 : Int32} {a2 : Int32} {a3 : Int32} {r9 : Int32} {m9 : Mem}  (hf : s_X7_dealtTo m a1 a2 a3 = some (r9, m9)) : zCi MM l w yX7_dealtTo wsX7_dealtTo rmX7_dealtTo [.ref (w.2.1 0), .int a1, .int a2, .int a3] m m9 r9 := by
  refine z_met_i MM_ok (own := RX7) (by decide +kernel) rfl rfl (Nat.le_of_ble_eq_true rfl) ?_
  intro K C hKw hKl hret
  subst hKw
  subst hKl
  unfold s_X7_dealtTo at hf
  show zGo MM K m [(0, .ref ((zw K).2.1 0)), (1, .int a1), (2, .int a2), (3, .int a3)] 0 []
  refine z_sipush C (v := 160) dX7_dealtTo_0 rfl ?_
  refine z_iload_n C 1 dX7_dealtTo_3 rfl rfl ?_
  refine z_imul C dX7_dealtTo_4 ?_
  refine z_topi (fun x1 e_x1 => ?_)
  replace hf := bn_to e_x1 hf
  refine z_istore C (lv2 := [(0, .ref ((zw K).2.1 0)), (1, .int a1), (2, .int a2), (3, .int a3), (4, .int x1)]) [1, 2, 3, 4, 0] dX7_dealtTo_5 (Nat.le_of_ble_eq_true rfl) rfl ?_
  refine z_iconst C (v := 0) dX7_dealtTo_7 rfl ?_
  refine z_istore C (lv2 := [(0, .ref ((zw K).2.1 0)), (1, .int a1), (2, .int a2), (3, .int a3), (4, .int x1), (5, .int 0)]) [1, 2, 3, 4, 5, 0] dX7_dealtTo_8 (Nat.le_of_ble_eq_true rfl) rfl ?_
  obtain ⟨m14, hg, hf⟩ := zb_el hf
  refine z_sub [0, 1, 2, 3, 4, 5] rfl (w_X7_dealtTo_10 C  ?_ _ _ _ hg)
  clear hg
  refine z_iconst C (v := 1) dX7_dealtTo_53 rfl ?_
  refine z_istore C (lv2 := [(0, .ref ((zw K).2.1 0)), (1, .int a1), (2, .int a2), (3, .int a3), (4, .int x1), (5, .int 1)]) [1, 2, 3, 4, 5, 0] dX7_dealtTo_54 (Nat.le_of_ble_eq_true rfl) rfl ?_
  refine z_aload_n C 0 dX7_dealtTo_56 rfl rfl ?_
  refine z_getr C (t := 13) (Nat.le_of_ble_eq_true rfl) rfl rfl 15 (Nat.le_of_ble_eq_true rfl) rfl kiX7_dealtTo_X7 kfX7_dealtTo_47 dX7_dealtTo_57 ?_
  refine z_iload_n C 1 dX7_dealtTo_60 rfl rfl ?_
  obtain ⟨hi15, hf⟩ := ck_el hf
  refine z_iald C (k := 13) (Nat.le_of_ble_eq_true rfl) rfl hi15 dX7_dealtTo_61 ?_
  refine z_iconst C (v := 1) dX7_dealtTo_62 rfl ?_
  refine z_isub C dX7_dealtTo_63 ?_
  refine z_topi (fun x16 e_x16 => ?_)
  replace hf := bn_to e_x16 hf
  refine z_istore C (lv2 := [(0, .ref ((zw K).2.1 0)), (1, .int a1), (2, .int a2), (3, .int a3), (4, .int x1), (5, .int 1), (6, .int x16)]) [1, 2, 3, 4, 5, 6, 0] dX7_dealtTo_64 (Nat.le_of_ble_eq_true rfl) rfl ?_
  obtain ⟨y77, m78, hg, hf⟩ := zb2_el hf
  refine z_sub [0, 2, 3, 4, 5, 6] rfl (w_X7_dealtTo_66 C  ?_ _ _ _ _ hg)
  clear hg
  refine z_iload C 0 dX7_dealtTo_351 rfl ?_
  obtain ⟨e1, e2⟩ := sp_el hf
  subst e1
  subst e2
  exact hret _ _ dX7_dealtTo_353
set_option maxRecDepth 20000 in
theorem ggX7_can_X7_wantedSet : GoodIn wsX7_can wsX7_wantedSet := goodIn_sub (List.forall_mem_cons.mpr ⟨(List.mem_of_getElem? (i := 7) rfl), (List.forall_mem_append.mpr ⟨(List.forall_mem_cons.mpr ⟨(List.mem_of_getElem? (i := 2) rfl), (List.forall_mem_cons.mpr ⟨(List.mem_of_getElem? (i := 8) rfl), (List.forall_mem_cons.mpr ⟨(List.mem_of_getElem? (i := 9) rfl), (List.forall_mem_cons.mpr ⟨(List.mem_of_getElem? (i := 10) rfl), (List.forall_mem_cons.mpr ⟨(List.mem_of_getElem? (i := 11) rfl), (List.forall_mem_cons.mpr ⟨(List.mem_of_getElem? (i := 6) rfl), (List.forall_mem_cons.mpr ⟨(List.mem_of_getElem? (i := 12) rfl), (List.forall_mem_cons.mpr ⟨(List.mem_of_getElem? (i := 13) rfl), (List.forall_mem_cons.mpr ⟨(List.mem_of_getElem? (i := 14) rfl), (fun _ h => absurd h List.not_mem_nil)⟩)⟩)⟩)⟩)⟩)⟩)⟩)⟩)⟩), (fun _ h => (List.mem_cons_of_mem _ (List.mem_append_right _ h)))⟩)⟩) (by decide +kernel)
set_option maxRecDepth 20000 in
theorem gX7_can_X7_wantedSet : GoodIn wsX7_can (wsV RX7 288 RX7 yX7_wantedSet wsX7_wantedSet) := goodIn_app (goodIn_sub (List.forall_mem_cons.mpr ⟨(List.mem_of_getElem? (i := 3) rfl), (List.forall_mem_cons.mpr ⟨(List.mem_of_getElem? (i := 4) rfl), (List.forall_mem_cons.mpr ⟨(List.mem_of_getElem? (i := 5) rfl), (List.forall_mem_cons.mpr ⟨(List.mem_of_getElem? (i := 6) rfl), (fun _ h => absurd h List.not_mem_nil)⟩)⟩)⟩)⟩) (by decide +kernel)) ggX7_can_X7_wantedSet
set_option maxRecDepth 20000 in
theorem ggX7_can_X7_dealtTo : GoodIn wsX7_can wsX7_dealtTo := goodIn_sub (List.forall_mem_cons.mpr ⟨(List.mem_of_getElem? (i := 18) rfl), (List.forall_mem_append.mpr ⟨(List.forall_mem_append.mpr ⟨(show ∀ w ∈ wsX7_dealtTo_r1, w ∈ wsX7_can from (List.forall_mem_cons.mpr ⟨(List.mem_of_getElem? (i := 19) rfl), (List.forall_mem_cons.mpr ⟨(List.mem_of_getElem? (i := 20) rfl), (List.forall_mem_cons.mpr ⟨(List.mem_of_getElem? (i := 21) rfl), (List.forall_mem_cons.mpr ⟨(List.mem_of_getElem? (i := 22) rfl), (List.forall_mem_cons.mpr ⟨(List.mem_of_getElem? (i := 23) rfl), (List.forall_mem_cons.mpr ⟨(List.mem_of_getElem? (i := 2) rfl), (List.forall_mem_cons.mpr ⟨(List.mem_of_getElem? (i := 24) rfl), (List.forall_mem_cons.mpr ⟨(List.mem_of_getElem? (i := 25) rfl), (List.forall_mem_cons.mpr ⟨(List.mem_of_getElem? (i := 26) rfl), (List.forall_mem_cons.mpr ⟨(List.mem_of_getElem? (i := 27) rfl), (List.forall_mem_cons.mpr ⟨(List.mem_of_getElem? (i := 28) rfl), (List.forall_mem_cons.mpr ⟨(List.mem_of_getElem? (i := 29) rfl), (List.forall_mem_cons.mpr ⟨(List.mem_of_getElem? (i := 6) rfl), (List.forall_mem_cons.mpr ⟨(List.mem_of_getElem? (i := 30) rfl), (List.forall_mem_cons.mpr ⟨(List.mem_of_getElem? (i := 8) rfl), (List.forall_mem_cons.mpr ⟨(List.mem_of_getElem? (i := 14) rfl), (List.forall_mem_cons.mpr ⟨(List.mem_of_getElem? (i := 31) rfl), (List.forall_mem_cons.mpr ⟨(List.mem_of_getElem? (i := 32) rfl), (List.forall_mem_cons.mpr ⟨(List.mem_of_getElem? (i := 33) rfl), (List.forall_mem_cons.mpr ⟨(List.mem_of_getElem? (i := 34) rfl), (List.forall_mem_cons.mpr ⟨(List.mem_of_getElem? (i := 35) rfl), (List.forall_mem_cons.mpr ⟨(List.mem_of_getElem? (i := 36) rfl), (List.forall_mem_cons.mpr ⟨(List.mem_of_getElem? (i := 37) rfl), (List.forall_mem_cons.mpr ⟨(List.mem_of_getElem? (i := 38) rfl), (fun _ h => absurd h List.not_mem_nil)⟩)⟩)⟩)⟩)⟩)⟩)⟩)⟩)⟩)⟩)⟩)⟩)⟩)⟩)⟩)⟩)⟩)⟩)⟩)⟩)⟩)⟩)⟩)⟩)), (show ∀ w ∈ wsX7_dealtTo_r2, w ∈ wsX7_can from (List.forall_mem_cons.mpr ⟨(List.mem_of_getElem? (i := 39) rfl), (List.forall_mem_cons.mpr ⟨(List.mem_of_getElem? (i := 40) rfl), (List.forall_mem_cons.mpr ⟨(List.mem_of_getElem? (i := 41) rfl), (List.forall_mem_cons.mpr ⟨(List.mem_of_getElem? (i := 42) rfl), (List.forall_mem_cons.mpr ⟨(List.mem_of_getElem? (i := 43) rfl), (List.forall_mem_cons.mpr ⟨(List.mem_of_getElem? (i := 44) rfl), (List.forall_mem_cons.mpr ⟨(List.mem_of_getElem? (i := 45) rfl), (List.forall_mem_cons.mpr ⟨(List.mem_of_getElem? (i := 46) rfl), (List.forall_mem_cons.mpr ⟨(List.mem_of_getElem? (i := 47) rfl), (List.forall_mem_cons.mpr ⟨(List.mem_of_getElem? (i := 48) rfl), (fun _ h => absurd h List.not_mem_nil)⟩)⟩)⟩)⟩)⟩)⟩)⟩)⟩)⟩)⟩))⟩), (fun _ h => (List.mem_cons_of_mem _ (List.mem_append_right _ h)))⟩)⟩) (by decide +kernel)
set_option maxRecDepth 20000 in
theorem gX7_can_X7_dealtTo : GoodIn wsX7_can (wsV RX7 291 RX7 yX7_dealtTo wsX7_dealtTo) := goodIn_app (goodIn_sub (List.forall_mem_cons.mpr ⟨(List.mem_of_getElem? (i := 15) rfl), (List.forall_mem_cons.mpr ⟨(List.mem_of_getElem? (i := 16) rfl), (List.forall_mem_cons.mpr ⟨(List.mem_of_getElem? (i := 17) rfl), (List.forall_mem_cons.mpr ⟨(List.mem_of_getElem? (i := 6) rfl), (fun _ h => absurd h List.not_mem_nil)⟩)⟩)⟩)⟩) (by decide +kernel)) ggX7_can_X7_dealtTo
theorem dX7_can_0 : decode cX7_can 0 = .ok (.aload_n 0, 1) := by decide +kernel
theorem dX7_can_1 : decode cX7_can 1 = .ok (.iload_n 1, 1) := by decide +kernel
theorem dX7_can_2 : decode cX7_can 2 = .ok (.iload_n 2, 1) := by decide +kernel
theorem dX7_can_3 : decode cX7_can 3 = .ok (.invokevirtual 288, 3) := by decide +kernel
theorem dX7_can_6 : decode cX7_can 6 = .ok (.istore 4, 2) := by decide +kernel
theorem dX7_can_8 : decode cX7_can 8 = .ok (.aload_n 0, 1) := by decide +kernel
theorem dX7_can_9 : decode cX7_can 9 = .ok (.getfield 29, 3) := by decide +kernel
theorem dX7_can_12 : decode cX7_can 12 = .ok (.iload_n 1, 1) := by decide +kernel
theorem dX7_can_13 : decode cX7_can 13 = .ok (.baload, 1) := by decide +kernel
theorem dX7_can_14 : decode cX7_can 14 = .ok (.ifCond .eq 20, 3) := by decide +kernel
theorem dX7_can_17 : decode cX7_can 17 = .ok (.iload 4, 2) := by decide +kernel
theorem dX7_can_19 : decode cX7_can 19 = .ok (.iconst 1, 1) := by decide +kernel
theorem dX7_can_20 : decode cX7_can 20 = .ok (.aload_n 0, 1) := by decide +kernel
theorem dX7_can_21 : decode cX7_can 21 = .ok (.getfield 17, 3) := by decide +kernel
theorem dX7_can_24 : decode cX7_can 24 = .ok (.iload_n 2, 1) := by decide +kernel
theorem dX7_can_25 : decode cX7_can 25 = .ok (.iaload, 1) := by decide +kernel
theorem dX7_can_26 : decode cX7_can 26 = .ok (.ishl, 1) := by decide +kernel
theorem dX7_can_27 : decode cX7_can 27 = .ok (.iconst 1, 1) := by decide +kernel
theorem dX7_can_28 : decode cX7_can 28 = .ok (.isub, 1) := by decide +kernel
theorem dX7_can_29 : decode cX7_can 29 = .ok (.if_icmp .eq 5, 3) := by decide +kernel
theorem dX7_can_32 : decode cX7_can 32 = .ok (.iconst 0, 1) := by decide +kernel
theorem dX7_can_33 : decode cX7_can 33 = .ok (.ireturn, 1) := by decide +kernel
theorem dX7_can_34 : decode cX7_can 34 = .ok (.aload_n 0, 1) := by decide +kernel
theorem dX7_can_35 : decode cX7_can 35 = .ok (.iload_n 1, 1) := by decide +kernel
theorem dX7_can_36 : decode cX7_can 36 = .ok (.iload_n 2, 1) := by decide +kernel
theorem dX7_can_37 : decode cX7_can 37 = .ok (.iload_n 3, 1) := by decide +kernel
theorem dX7_can_38 : decode cX7_can 38 = .ok (.invokevirtual 291, 3) := by decide +kernel
theorem dX7_can_41 : decode cX7_can 41 = .ok (.iload 4, 2) := by decide +kernel
theorem dX7_can_43 : decode cX7_can 43 = .ok (.ishr, 1) := by decide +kernel
theorem dX7_can_44 : decode cX7_can 44 = .ok (.iconst 1, 1) := by decide +kernel
theorem dX7_can_45 : decode cX7_can 45 = .ok (.iand, 1) := by decide +kernel
theorem dX7_can_46 : decode cX7_can 46 = .ok (.iconst 1, 1) := by decide +kernel
theorem dX7_can_47 : decode cX7_can 47 = .ok (.if_icmp .ne 7, 3) := by decide +kernel
theorem dX7_can_50 : decode cX7_can 50 = .ok (.iconst 1, 1) := by decide +kernel
theorem dX7_can_51 : decode cX7_can 51 = .ok (.goto 4, 3) := by decide +kernel
theorem dX7_can_54 : decode cX7_can 54 = .ok (.iconst 0, 1) := by decide +kernel
theorem dX7_can_55 : decode cX7_can 55 = .ok (.ireturn, 1) := by decide +kernel
def rmX7_can : Room := { frames := 3, cells := 0, slots := 0, locals := 81 }
theorem zdX7_can : yX7_can.cls = RX7 ∧ yX7_can.cls ≠ "java/lang/invoke/MethodHandle" ∧ yX7_can.cls ≠ "java/lang/invoke/VarHandle" ∧ (parseMethodDescriptor yX7_can.desc).map (fun d => d.parameters.length) = some 3 := by decide +kernel
theorem kiX7_can_X7 : ∀ w ∈ wsX70, w ∈ wsX7_can := fun _ h => (List.mem_cons_of_mem _ (List.mem_append_right _ h))
theorem kfX7_can_29 : Cond.fieldLink RX7 29 "ShapeJudgeModel" "closed" "[Z" ∈ wsX7_can := (List.mem_of_getElem? (i := 1) rfl)
theorem kfX7_can_17 : Cond.fieldLink RX7 17 "ShapeJudgeModel" "many" "[I" ∈ wsX7_can := (List.mem_of_getElem? (i := 2) rfl)
def s_X7_can (m : Mem) (a1 : Int32) (a2 : Int32) (a3 : Int32) : Option (Int32 × Mem) :=
  (s_X7_wantedSet m a1 a2).bind fun r2 => ck (zin a1 6 = true) ((if (m 7 (Int32.toNatClampNeg a1)) = 0 then (zb2 (s_X7_dealtTo m a1 a2 a3) fun r5 m6 => (if ((r5 >>> (r2 &&& 31)) &&& 1) = 1 then (some (1, m6)) else (some (0, m6)))) else (ck (zin a2 10 = true) ((if r2 = (((1 : Int32) <<< ((m 3 (Int32.toNatClampNeg a2)) &&& 31)) - 1) then (zb2 (s_X7_dealtTo m a1 a2 a3) fun r10 m11 => (if ((r10 >>> (r2 &&& 31)) &&& 1) = 1 then (some (1, m11)) else (some (0, m11)))) else (some (0, m)))))))
set_option maxRecDepth 100000 in
set_option maxHeartbeats 4000000 in
theorem c_X7_can (l : Launch) (w : ZW) {m : Mem} {a1 : Int32} {a2 : Int32} {a3 : Int32} {r9 : Int32} {m9 : Mem}  (hf : s_X7_can m a1 a2 a3 = some (r9, m9)) : zCi MM l w yX7_can wsX7_can rmX7_can [.ref (w.2.1 0), .int a1, .int a2, .int a3] m m9 r9 := by
  refine z_met_z MM_ok (own := RX7) (by decide +kernel) rfl rfl (Nat.le_of_ble_eq_true rfl) ?_
  intro K C hKw hKl hret
  subst hKw
  subst hKl
  unfold s_X7_can at hf
  show zGo MM K m [(0, .ref ((zw K).2.1 0)), (1, .int a1), (2, .int a2), (3, .int a3)] 0 []
  refine z_aload_n C 0 dX7_can_0 rfl rfl ?_
  refine z_iload_n C 1 dX7_can_1 rfl rfl ?_
  refine z_iload_n C 2 dX7_can_2 rfl rfl ?_
  obtain ⟨r2, hc1, hf⟩ := zb_el hf
  refine z_cVi C (c_X7_wantedSet _ _ hc1) rfl gX7_can_X7_wantedSet rfl rfl zdX7_wantedSet rfl (Nat.le_of_ble_eq_true rfl) rfl rfl rfl ⟨Nat.le_of_ble_eq_true rfl, Nat.le_of_ble_eq_true rfl⟩ (Nat.le_of_ble_eq_true rfl) dX7_can_3 rfl ?_
  refine z_istore C (lv2 := [(0, .ref ((zw K).2.1 0)), (1, .int a1), (2, .int a2), (3, .int a3), (4, .int r2)]) [1, 2, 3, 4, 0] dX7_can_6 (Nat.le_of_ble_eq_true rfl) rfl ?_
  refine z_aload_n C 0 dX7_can_8 rfl rfl ?_
  refine z_getr C (t := 7) (Nat.le_of_ble_eq_true rfl) rfl rfl 9 (Nat.le_of_ble_eq_true rfl) rfl kiX7_can_X7 kfX7_can_29 dX7_can_9 ?_
  refine z_iload_n C 1 dX7_can_12 rfl rfl ?_
  obtain ⟨hi3, hf⟩ := ck_el hf
  refine z_zald C (k := 7) (Nat.le_of_ble_eq_true rfl) rfl hi3 dX7_can_13 ?_
  refine z_if_eq (tgt := 34) C dX7_can_14 (by decide) (fun c14 => ?_) (fun c14 => ?_)
  · replace hf := if_t c14 hf
    refine z_aload_n C 0 dX7_can_34 rfl rfl ?_
    refine z_iload_n C 1 dX7_can_35 rfl rfl ?_
    refine z_iload_n C 2 dX7_can_36 rfl rfl ?_
    refine z_iload_n C 3 dX7_can_37 rfl rfl ?_
    obtain ⟨r5, m6, hc4, hf⟩ := zb2_el hf
    refine z_cVi C (c_X7_dealtTo _ _ hc4) rfl gX7_can_X7_dealtTo rfl rfl zdX7_dealtTo rfl (Nat.le_of_ble_eq_true rfl) rfl rfl rfl ⟨Nat.le_of_ble_eq_true rfl, Nat.le_of_ble_eq_true rfl⟩ (Nat.le_of_ble_eq_true rfl) dX7_can_38 rfl ?_
    refine z_iload C 4 dX7_can_41 rfl ?_
    refine z_ishr C dX7_can_43 ?_
    refine z_iconst C (v := 1) dX7_can_44 rfl ?_
    refine z_iand C dX7_can_45 ?_
    refine z_iconst C (v := 1) dX7_can_46 rfl ?_
    refine z_icmp_ne (tgt := 54) C dX7_can_47 (by decide) (fun c7 => ?_) (fun c7 => ?_)
    · replace hf := if_f c7 hf
      refine z_iconst C (v := 0) dX7_can_54 rfl ?_
      obtain ⟨e1, e2⟩ := sp_el hf
      subst e1
      subst e2
      exact hret _ _ dX7_can_55 (Or.inl rfl)
    · replace hf := if_t c7 hf
      refine z_iconst C (v := 1) dX7_can_50 rfl ?_
      refine z_goto (tgt := 55) C dX7_can_51 (by decide) ?_
      obtain ⟨e1, e2⟩ := sp_el hf
      subst e1
      subst e2
      exact hret _ _ dX7_can_55 (Or.inr rfl)
  · replace hf := if_f c14 hf
    refine z_iload C 4 dX7_can_17 rfl ?_
    refine z_iconst C (v := 1) dX7_can_19 rfl ?_
    refine z_aload_n C 0 dX7_can_20 rfl rfl ?_
    refine z_getr C (t := 3) (Nat.le_of_ble_eq_true rfl) rfl rfl 3 (Nat.le_of_ble_eq_true rfl) rfl kiX7_can_X7 kfX7_can_17 dX7_can_21 ?_
    refine z_iload_n C 2 dX7_can_24 rfl rfl ?_
    obtain ⟨hi8, hf⟩ := ck_el hf
    refine z_iald C (k := 3) (Nat.le_of_ble_eq_true rfl) rfl hi8 dX7_can_25 ?_
    refine z_ishl C dX7_can_26 ?_
    refine z_iconst C (v := 1) dX7_can_27 rfl ?_
    refine z_isub C dX7_can_28 ?_
    refine z_icmp_eq (tgt := 34) C dX7_can_29 (by decide) (fun c13 => ?_) (fun c13 => ?_)
    · replace hf := if_t c13 hf
      refine z_aload_n C 0 dX7_can_34 rfl rfl ?_
      refine z_iload_n C 1 dX7_can_35 rfl rfl ?_
      refine z_iload_n C 2 dX7_can_36 rfl rfl ?_
      refine z_iload_n C 3 dX7_can_37 rfl rfl ?_
      obtain ⟨r10, m11, hc9, hf⟩ := zb2_el hf
      refine z_cVi C (c_X7_dealtTo _ _ hc9) rfl gX7_can_X7_dealtTo rfl rfl zdX7_dealtTo rfl (Nat.le_of_ble_eq_true rfl) rfl rfl rfl ⟨Nat.le_of_ble_eq_true rfl, Nat.le_of_ble_eq_true rfl⟩ (Nat.le_of_ble_eq_true rfl) dX7_can_38 rfl ?_
      refine z_iload C 4 dX7_can_41 rfl ?_
      refine z_ishr C dX7_can_43 ?_
      refine z_iconst C (v := 1) dX7_can_44 rfl ?_
      refine z_iand C dX7_can_45 ?_
      refine z_iconst C (v := 1) dX7_can_46 rfl ?_
      refine z_icmp_ne (tgt := 54) C dX7_can_47 (by decide) (fun c12 => ?_) (fun c12 => ?_)
      · replace hf := if_f c12 hf
        refine z_iconst C (v := 0) dX7_can_54 rfl ?_
        obtain ⟨e1, e2⟩ := sp_el hf
        subst e1
        subst e2
        exact hret _ _ dX7_can_55 (Or.inl rfl)
      · replace hf := if_t c12 hf
        refine z_iconst C (v := 1) dX7_can_50 rfl ?_
        refine z_goto (tgt := 55) C dX7_can_51 (by decide) ?_
        obtain ⟨e1, e2⟩ := sp_el hf
        subst e1
        subst e2
        exact hret _ _ dX7_can_55 (Or.inr rfl)
    · replace hf := if_f c13 hf
      refine z_iconst C (v := 0) dX7_can_32 rfl ?_
      obtain ⟨e1, e2⟩ := sp_el hf
      subst e1
      subst e2
      exact hret _ _ dX7_can_33 (Or.inl rfl)
set_option maxRecDepth 20000 in
theorem ggX7_changes_X7_can : GoodIn wsX7_changes wsX7_can := goodIn_sub (List.forall_mem_cons.mpr ⟨(List.mem_of_getElem? (i := 10) rfl), (List.forall_mem_append.mpr ⟨(List.forall_mem_append.mpr ⟨(show ∀ w ∈ wsX7_can_r1, w ∈ wsX7_changes from (List.forall_mem_cons.mpr ⟨(List.mem_of_getElem? (i := 11) rfl), (List.forall_mem_cons.mpr ⟨(List.mem_of_getElem? (i := 12) rfl), (List.forall_mem_cons.mpr ⟨(List.mem_of_getElem? (i := 13) rfl), (List.forall_mem_cons.mpr ⟨(List.mem_of_getElem? (i := 14) rfl), (List.forall_mem_cons.mpr ⟨(List.mem_of_getElem? (i := 15) rfl), (List.forall_mem_cons.mpr ⟨(List.mem_of_getElem? (i := 9) rfl), (List.forall_mem_cons.mpr ⟨(List.mem_of_getElem? (i := 16) rfl), (List.forall_mem_cons.mpr ⟨(List.mem_of_getElem? (i := 17) rfl), (List.forall_mem_cons.mpr ⟨(List.mem_of_getElem? (i := 18) rfl), (List.forall_mem_cons.mpr ⟨(List.mem_of_getElem? (i := 19) rfl), (List.forall_mem_cons.mpr ⟨(List.mem_of_getElem? (i := 20) rfl), (List.forall_mem_cons.mpr ⟨(List.mem_of_getElem? (i := 21) rfl), (List.forall_mem_cons.mpr ⟨(List.mem_of_getElem? (i := 22) rfl), (List.forall_mem_cons.mpr ⟨(List.mem_of_getElem? (i := 23) rfl), (List.forall_mem_cons.mpr ⟨(List.mem_of_getElem? (i := 24) rfl), (List.forall_mem_cons.mpr ⟨(List.mem_of_getElem? (i := 25) rfl), (List.forall_mem_cons.mpr ⟨(List.mem_of_getElem? (i := 26) rfl), (List.forall_mem_cons.mpr ⟨(List.mem_of_getElem? (i := 27) rfl), (List.forall_mem_cons.mpr ⟨(List.mem_of_getElem? (i := 28) rfl), (List.forall_mem_cons.mpr ⟨(List.mem_of_getElem? (i := 29) rfl), (List.forall_mem_cons.mpr ⟨(List.mem_of_getElem? (i := 30) rfl), (List.forall_mem_cons.mpr ⟨(List.mem_of_getElem? (i := 31) rfl), (List.forall_mem_cons.mpr ⟨(List.mem_of_getElem? (i := 32) rfl), (List.forall_mem_cons.mpr ⟨(List.mem_of_getElem? (i := 33) rfl), (fun _ h => absurd h List.not_mem_nil)⟩)⟩)⟩)⟩)⟩)⟩)⟩)⟩)⟩)⟩)⟩)⟩)⟩)⟩)⟩)⟩)⟩)⟩)⟩)⟩)⟩)⟩)⟩)⟩)), (show ∀ w ∈ wsX7_can_r2, w ∈ wsX7_changes from (List.forall_mem_cons.mpr ⟨(List.mem_of_getElem? (i := 34) rfl), (List.forall_mem_cons.mpr ⟨(List.mem_of_getElem? (i := 35) rfl), (List.forall_mem_cons.mpr ⟨(List.mem_of_getElem? (i := 36) rfl), (List.forall_mem_cons.mpr ⟨(List.mem_of_getElem? (i := 37) rfl), (List.forall_mem_cons.mpr ⟨(List.mem_of_getElem? (i := 38) rfl), (List.forall_mem_cons.mpr ⟨(List.mem_of_getElem? (i := 39) rfl), (List.forall_mem_cons.mpr ⟨(List.mem_of_getElem? (i := 40) rfl), (List.forall_mem_cons.mpr ⟨(List.mem_of_getElem? (i := 41) rfl), (List.forall_mem_cons.mpr ⟨(List.mem_of_getElem? (i := 4) rfl), (List.forall_mem_cons.mpr ⟨(List.mem_of_getElem? (i := 42) rfl), (List.forall_mem_cons.mpr ⟨(List.mem_of_getElem? (i := 5) rfl), (List.forall_mem_cons.mpr ⟨(List.mem_of_getElem? (i := 43) rfl), (List.forall_mem_cons.mpr ⟨(List.mem_of_getElem? (i := 44) rfl), (List.forall_mem_cons.mpr ⟨(List.mem_of_getElem? (i := 45) rfl), (List.forall_mem_cons.mpr ⟨(List.mem_of_getElem? (i := 46) rfl), (List.forall_mem_cons.mpr ⟨(List.mem_of_getElem? (i := 47) rfl), (List.forall_mem_cons.mpr ⟨(List.mem_of_getElem? (i := 48) rfl), (List.forall_mem_cons.mpr ⟨(List.mem_of_getElem? (i := 49) rfl), (List.forall_mem_cons.mpr ⟨(List.mem_of_getElem? (i := 50) rfl), (List.forall_mem_cons.mpr ⟨(List.mem_of_getElem? (i := 51) rfl), (List.forall_mem_cons.mpr ⟨(List.mem_of_getElem? (i := 52) rfl), (List.forall_mem_cons.mpr ⟨(List.mem_of_getElem? (i := 53) rfl), (List.forall_mem_cons.mpr ⟨(List.mem_of_getElem? (i := 54) rfl), (List.forall_mem_cons.mpr ⟨(List.mem_of_getElem? (i := 55) rfl), (fun _ h => absurd h List.not_mem_nil)⟩)⟩)⟩)⟩)⟩)⟩)⟩)⟩)⟩)⟩)⟩)⟩)⟩)⟩)⟩)⟩)⟩)⟩)⟩)⟩)⟩)⟩)⟩)⟩))⟩), (fun _ h => (List.mem_cons_of_mem _ (List.mem_append_right _ h)))⟩)⟩) (by decide +kernel)
set_option maxRecDepth 20000 in
theorem gX7_changes_X7_can : GoodIn wsX7_changes (wsV RX7 295 RX7 yX7_can wsX7_can) := goodIn_app (goodIn_sub (List.forall_mem_cons.mpr ⟨(List.mem_of_getElem? (i := 6) rfl), (List.forall_mem_cons.mpr ⟨(List.mem_of_getElem? (i := 7) rfl), (List.forall_mem_cons.mpr ⟨(List.mem_of_getElem? (i := 8) rfl), (List.forall_mem_cons.mpr ⟨(List.mem_of_getElem? (i := 9) rfl), (fun _ h => absurd h List.not_mem_nil)⟩)⟩)⟩)⟩) (by decide +kernel)) ggX7_changes_X7_can
set_option maxRecDepth 100000 in
theorem daX7_changes : ∀ q ∈ ([(0, .iconst 0, 1), (1, .istore_n 3, 1), (2, .iconst 0, 1), (3, .istore 4, 2), (5, .iload 4, 2), (7, .aload_n 0, 1), (8, .getfield 258, 3), (11, .if_icmp .ge 131, 3), (14, .iconst 0, 1), (15, .istore 5, 2), (17, .iload 5, 2), (19, .aload_n 0, 1), (20, .getfield 140, 3), (23, .if_icmp .ge 113, 3), (26, .aload_n 0, 1), (27, .getfield 131, 3), (30, .iload 4, 2), (32, .iaload, 1), (33, .iload_n 1, 1), (34, .if_icmp .ne 102, 3), (37, .bipush 10, 2), (39, .iload 4, 2), (41, .imul, 1), (42, .iload 5, 2), (44, .iadd, 1), (45, .istore 6, 2), (47, .iload_n 2, 1), (48, .ifCond .eq 28, 3), (51, .aload_n 0, 1), (52, .getfield 122, 3), (55, .iload 6, 2), (57, .baload, 1), (58, .ifCond .ne 72, 3), (61, .aload_n 0, 1), (62, .iload 4, 2), (64, .iload 5, 2), (66, .iconst 1, 1), (67, .invokevirtual 295, 3), (70, .ifCond .eq 60, 3), (73, .goto 25, 3), (76, .aload_n 0, 1), (77, .getfield 119, 3), (80, .iload 6, 2), (82, .baload, 1), (83, .ifCond .eq 47, 3), (86, .aload_n 0, 1), (87, .iload 4, 2), (89, .iload 5, 2), (91, .iconst 0, 1), (92, .invokevirtual 295, 3), (95, .ifCond .ne 35, 3), (98, .aload_n 0, 1), (99, .getfield 119, 3), (102, .iload 6, 2), (104, .iload_n 2, 1), (105, .ifCond .eq 13, 3), (108, .aload_n 0, 1), (109, .getfield 119, 3), (112, .iload 6, 2), (114, .baload, 1), (115, .goto 4, 3), (118, .iconst 0, 1), (119, .bastore, 1), (120, .aload_n 0, 1), (121, .getfield 122, 3), (124, .iload 6, 2), (126, .iload_n 2, 1), (127, .bastore, 1), (128, .iconst 1, 1), (129, .istore_n 3, 1), (130, .iinc 5 1, 3), (133, .goto (-116), 3), (136, .iinc 4 1, 3), (139, .goto (-134), 3), (142, .iload_n 3, 1), (143, .ireturn, 1)] : List (Nat × Instr × Nat)), decode cX7_changes q.1 = .ok q.2 := by decide +kernel
theorem dX7_changes_0 : decode cX7_changes 0 = .ok (.iconst 0, 1) := daX7_changes (0, .iconst 0, 1) (List.mem_of_getElem? (i := 0) rfl)
theorem dX7_changes_1 : decode cX7_changes 1 = .ok (.istore_n 3, 1) := daX7_changes (1, .istore_n 3, 1) (List.mem_of_getElem? (i := 1) rfl)
theorem dX7_changes_2 : decode cX7_changes 2 = .ok (.iconst 0, 1) := daX7_changes (2, .iconst 0, 1) (List.mem_of_getElem? (i := 2) rfl)
theorem dX7_changes_3 : decode cX7_changes 3 = .ok (.istore 4, 2) := daX7_changes (3, .istore 4, 2) (List.mem_of_getElem? (i := 3) rfl)
theorem dX7_changes_5 : decode cX7_changes 5 = .ok (.iload 4, 2) := daX7_changes (5, .iload 4, 2) (List.mem_of_getElem? (i := 4) rfl)
theorem dX7_changes_7 : decode cX7_changes 7 = .ok (.aload_n 0, 1) := daX7_changes (7, .aload_n 0, 1) (List.mem_of_getElem? (i := 5) rfl)
theorem dX7_changes_8 : decode cX7_changes 8 = .ok (.getfield 258, 3) := daX7_changes (8, .getfield 258, 3) (List.mem_of_getElem? (i := 6) rfl)
theorem dX7_changes_11 : decode cX7_changes 11 = .ok (.if_icmp .ge 131, 3) := daX7_changes (11, .if_icmp .ge 131, 3) (List.mem_of_getElem? (i := 7) rfl)
theorem dX7_changes_14 : decode cX7_changes 14 = .ok (.iconst 0, 1) := daX7_changes (14, .iconst 0, 1) (List.mem_of_getElem? (i := 8) rfl)
theorem dX7_changes_15 : decode cX7_changes 15 = .ok (.istore 5, 2) := daX7_changes (15, .istore 5, 2) (List.mem_of_getElem? (i := 9) rfl)
theorem dX7_changes_17 : decode cX7_changes 17 = .ok (.iload 5, 2) := daX7_changes (17, .iload 5, 2) (List.mem_of_getElem? (i := 10) rfl)
theorem dX7_changes_19 : decode cX7_changes 19 = .ok (.aload_n 0, 1) := daX7_changes (19, .aload_n 0, 1) (List.mem_of_getElem? (i := 11) rfl)
theorem dX7_changes_20 : decode cX7_changes 20 = .ok (.getfield 140, 3) := daX7_changes (20, .getfield 140, 3) (List.mem_of_getElem? (i := 12) rfl)
theorem dX7_changes_23 : decode cX7_changes 23 = .ok (.if_icmp .ge 113, 3) := daX7_changes (23, .if_icmp .ge 113, 3) (List.mem_of_getElem? (i := 13) rfl)
theorem dX7_changes_26 : decode cX7_changes 26 = .ok (.aload_n 0, 1) := daX7_changes (26, .aload_n 0, 1) (List.mem_of_getElem? (i := 14) rfl)
theorem dX7_changes_27 : decode cX7_changes 27 = .ok (.getfield 131, 3) := daX7_changes (27, .getfield 131, 3) (List.mem_of_getElem? (i := 15) rfl)
theorem dX7_changes_30 : decode cX7_changes 30 = .ok (.iload 4, 2) := daX7_changes (30, .iload 4, 2) (List.mem_of_getElem? (i := 16) rfl)
theorem dX7_changes_32 : decode cX7_changes 32 = .ok (.iaload, 1) := daX7_changes (32, .iaload, 1) (List.mem_of_getElem? (i := 17) rfl)
theorem dX7_changes_33 : decode cX7_changes 33 = .ok (.iload_n 1, 1) := daX7_changes (33, .iload_n 1, 1) (List.mem_of_getElem? (i := 18) rfl)
theorem dX7_changes_34 : decode cX7_changes 34 = .ok (.if_icmp .ne 102, 3) := daX7_changes (34, .if_icmp .ne 102, 3) (List.mem_of_getElem? (i := 19) rfl)
theorem dX7_changes_37 : decode cX7_changes 37 = .ok (.bipush 10, 2) := daX7_changes (37, .bipush 10, 2) (List.mem_of_getElem? (i := 20) rfl)
theorem dX7_changes_39 : decode cX7_changes 39 = .ok (.iload 4, 2) := daX7_changes (39, .iload 4, 2) (List.mem_of_getElem? (i := 21) rfl)
theorem dX7_changes_41 : decode cX7_changes 41 = .ok (.imul, 1) := daX7_changes (41, .imul, 1) (List.mem_of_getElem? (i := 22) rfl)
theorem dX7_changes_42 : decode cX7_changes 42 = .ok (.iload 5, 2) := daX7_changes (42, .iload 5, 2) (List.mem_of_getElem? (i := 23) rfl)
theorem dX7_changes_44 : decode cX7_changes 44 = .ok (.iadd, 1) := daX7_changes (44, .iadd, 1) (List.mem_of_getElem? (i := 24) rfl)
theorem dX7_changes_45 : decode cX7_changes 45 = .ok (.istore 6, 2) := daX7_changes (45, .istore 6, 2) (List.mem_of_getElem? (i := 25) rfl)
theorem dX7_changes_47 : decode cX7_changes 47 = .ok (.iload_n 2, 1) := daX7_changes (47, .iload_n 2, 1) (List.mem_of_getElem? (i := 26) rfl)
theorem dX7_changes_48 : decode cX7_changes 48 = .ok (.ifCond .eq 28, 3) := daX7_changes (48, .ifCond .eq 28, 3) (List.mem_of_getElem? (i := 27) rfl)
theorem dX7_changes_51 : decode cX7_changes 51 = .ok (.aload_n 0, 1) := daX7_changes (51, .aload_n 0, 1) (List.mem_of_getElem? (i := 28) rfl)
theorem dX7_changes_52 : decode cX7_changes 52 = .ok (.getfield 122, 3) := daX7_changes (52, .getfield 122, 3) (List.mem_of_getElem? (i := 29) rfl)
theorem dX7_changes_55 : decode cX7_changes 55 = .ok (.iload 6, 2) := daX7_changes (55, .iload 6, 2) (List.mem_of_getElem? (i := 30) rfl)
theorem dX7_changes_57 : decode cX7_changes 57 = .ok (.baload, 1) := daX7_changes (57, .baload, 1) (List.mem_of_getElem? (i := 31) rfl)
theorem dX7_changes_58 : decode cX7_changes 58 = .ok (.ifCond .ne 72, 3) := daX7_changes (58, .ifCond .ne 72, 3) (List.mem_of_getElem? (i := 32) rfl)
theorem dX7_changes_61 : decode cX7_changes 61 = .ok (.aload_n 0, 1) := daX7_changes (61, .aload_n 0, 1) (List.mem_of_getElem? (i := 33) rfl)
theorem dX7_changes_62 : decode cX7_changes 62 = .ok (.iload 4, 2) := daX7_changes (62, .iload 4, 2) (List.mem_of_getElem? (i := 34) rfl)
theorem dX7_changes_64 : decode cX7_changes 64 = .ok (.iload 5, 2) := daX7_changes (64, .iload 5, 2) (List.mem_of_getElem? (i := 35) rfl)
theorem dX7_changes_66 : decode cX7_changes 66 = .ok (.iconst 1, 1) := daX7_changes (66, .iconst 1, 1) (List.mem_of_getElem? (i := 36) rfl)
theorem dX7_changes_67 : decode cX7_changes 67 = .ok (.invokevirtual 295, 3) := daX7_changes (67, .invokevirtual 295, 3) (List.mem_of_getElem? (i := 37) rfl)
theorem dX7_changes_70 : decode cX7_changes 70 = .ok (.ifCond .eq 60, 3) := daX7_changes (70, .ifCond .eq 60, 3) (List.mem_of_getElem? (i := 38) rfl)
theorem dX7_changes_73 : decode cX7_changes 73 = .ok (.goto 25, 3) := daX7_changes (73, .goto 25, 3) (List.mem_of_getElem? (i := 39) rfl)
theorem dX7_changes_76 : decode cX7_changes 76 = .ok (.aload_n 0, 1) := daX7_changes (76, .aload_n 0, 1) (List.mem_of_getElem? (i := 40) rfl)
theorem dX7_changes_77 : decode cX7_changes 77 = .ok (.getfield 119, 3) := daX7_changes (77, .getfield 119, 3) (List.mem_of_getElem? (i := 41) rfl)
theorem dX7_changes_80 : decode cX7_changes 80 = .ok (.iload 6, 2) := daX7_changes (80, .iload 6, 2) (List.mem_of_getElem? (i := 42) rfl)
theorem dX7_changes_82 : decode cX7_changes 82 = .ok (.baload, 1) := daX7_changes (82, .baload, 1) (List.mem_of_getElem? (i := 43) rfl)
theorem dX7_changes_83 : decode cX7_changes 83 = .ok (.ifCond .eq 47, 3) := daX7_changes (83, .ifCond .eq 47, 3) (List.mem_of_getElem? (i := 44) rfl)
theorem dX7_changes_86 : decode cX7_changes 86 = .ok (.aload_n 0, 1) := daX7_changes (86, .aload_n 0, 1) (List.mem_of_getElem? (i := 45) rfl)
theorem dX7_changes_87 : decode cX7_changes 87 = .ok (.iload 4, 2) := daX7_changes (87, .iload 4, 2) (List.mem_of_getElem? (i := 46) rfl)
theorem dX7_changes_89 : decode cX7_changes 89 = .ok (.iload 5, 2) := daX7_changes (89, .iload 5, 2) (List.mem_of_getElem? (i := 47) rfl)
theorem dX7_changes_91 : decode cX7_changes 91 = .ok (.iconst 0, 1) := daX7_changes (91, .iconst 0, 1) (List.mem_of_getElem? (i := 48) rfl)
theorem dX7_changes_92 : decode cX7_changes 92 = .ok (.invokevirtual 295, 3) := daX7_changes (92, .invokevirtual 295, 3) (List.mem_of_getElem? (i := 49) rfl)
theorem dX7_changes_95 : decode cX7_changes 95 = .ok (.ifCond .ne 35, 3) := daX7_changes (95, .ifCond .ne 35, 3) (List.mem_of_getElem? (i := 50) rfl)
theorem dX7_changes_98 : decode cX7_changes 98 = .ok (.aload_n 0, 1) := daX7_changes (98, .aload_n 0, 1) (List.mem_of_getElem? (i := 51) rfl)
theorem dX7_changes_99 : decode cX7_changes 99 = .ok (.getfield 119, 3) := daX7_changes (99, .getfield 119, 3) (List.mem_of_getElem? (i := 52) rfl)
theorem dX7_changes_102 : decode cX7_changes 102 = .ok (.iload 6, 2) := daX7_changes (102, .iload 6, 2) (List.mem_of_getElem? (i := 53) rfl)
theorem dX7_changes_104 : decode cX7_changes 104 = .ok (.iload_n 2, 1) := daX7_changes (104, .iload_n 2, 1) (List.mem_of_getElem? (i := 54) rfl)
theorem dX7_changes_105 : decode cX7_changes 105 = .ok (.ifCond .eq 13, 3) := daX7_changes (105, .ifCond .eq 13, 3) (List.mem_of_getElem? (i := 55) rfl)
theorem dX7_changes_108 : decode cX7_changes 108 = .ok (.aload_n 0, 1) := daX7_changes (108, .aload_n 0, 1) (List.mem_of_getElem? (i := 56) rfl)
theorem dX7_changes_109 : decode cX7_changes 109 = .ok (.getfield 119, 3) := daX7_changes (109, .getfield 119, 3) (List.mem_of_getElem? (i := 57) rfl)
theorem dX7_changes_112 : decode cX7_changes 112 = .ok (.iload 6, 2) := daX7_changes (112, .iload 6, 2) (List.mem_of_getElem? (i := 58) rfl)
theorem dX7_changes_114 : decode cX7_changes 114 = .ok (.baload, 1) := daX7_changes (114, .baload, 1) (List.mem_of_getElem? (i := 59) rfl)
theorem dX7_changes_115 : decode cX7_changes 115 = .ok (.goto 4, 3) := daX7_changes (115, .goto 4, 3) (List.mem_of_getElem? (i := 60) rfl)
theorem dX7_changes_118 : decode cX7_changes 118 = .ok (.iconst 0, 1) := daX7_changes (118, .iconst 0, 1) (List.mem_of_getElem? (i := 61) rfl)
theorem dX7_changes_119 : decode cX7_changes 119 = .ok (.bastore, 1) := daX7_changes (119, .bastore, 1) (List.mem_of_getElem? (i := 62) rfl)
theorem dX7_changes_120 : decode cX7_changes 120 = .ok (.aload_n 0, 1) := daX7_changes (120, .aload_n 0, 1) (List.mem_of_getElem? (i := 63) rfl)
theorem dX7_changes_121 : decode cX7_changes 121 = .ok (.getfield 122, 3) := daX7_changes (121, .getfield 122, 3) (List.mem_of_getElem? (i := 64) rfl)
theorem dX7_changes_124 : decode cX7_changes 124 = .ok (.iload 6, 2) := daX7_changes (124, .iload 6, 2) (List.mem_of_getElem? (i := 65) rfl)
theorem dX7_changes_126 : decode cX7_changes 126 = .ok (.iload_n 2, 1) := daX7_changes (126, .iload_n 2, 1) (List.mem_of_getElem? (i := 66) rfl)
theorem dX7_changes_127 : decode cX7_changes 127 = .ok (.bastore, 1) := daX7_changes (127, .bastore, 1) (List.mem_of_getElem? (i := 67) rfl)
theorem dX7_changes_128 : decode cX7_changes 128 = .ok (.iconst 1, 1) := daX7_changes (128, .iconst 1, 1) (List.mem_of_getElem? (i := 68) rfl)
theorem dX7_changes_129 : decode cX7_changes 129 = .ok (.istore_n 3, 1) := daX7_changes (129, .istore_n 3, 1) (List.mem_of_getElem? (i := 69) rfl)
theorem dX7_changes_130 : decode cX7_changes 130 = .ok (.iinc 5 1, 3) := daX7_changes (130, .iinc 5 1, 3) (List.mem_of_getElem? (i := 70) rfl)
theorem dX7_changes_133 : decode cX7_changes 133 = .ok (.goto (-116), 3) := daX7_changes (133, .goto (-116), 3) (List.mem_of_getElem? (i := 71) rfl)
theorem dX7_changes_136 : decode cX7_changes 136 = .ok (.iinc 4 1, 3) := daX7_changes (136, .iinc 4 1, 3) (List.mem_of_getElem? (i := 72) rfl)
theorem dX7_changes_139 : decode cX7_changes 139 = .ok (.goto (-134), 3) := daX7_changes (139, .goto (-134), 3) (List.mem_of_getElem? (i := 73) rfl)
theorem dX7_changes_142 : decode cX7_changes 142 = .ok (.iload_n 3, 1) := daX7_changes (142, .iload_n 3, 1) (List.mem_of_getElem? (i := 74) rfl)
theorem dX7_changes_143 : decode cX7_changes 143 = .ok (.ireturn, 1) := daX7_changes (143, .ireturn, 1) (List.mem_of_getElem? (i := 75) rfl)
def rmX7_changes : Room := { frames := 4, cells := 0, slots := 0, locals := 105 }
theorem zdX7_changes : yX7_changes.cls = RX7 ∧ yX7_changes.cls ≠ "java/lang/invoke/MethodHandle" ∧ yX7_changes.cls ≠ "java/lang/invoke/VarHandle" ∧ (parseMethodDescriptor yX7_changes.desc).map (fun d => d.parameters.length) = some 2 := by decide +kernel
theorem kiX7_changes_X7 : ∀ w ∈ wsX70, w ∈ wsX7_changes := fun _ h => (List.mem_cons_of_mem _ (List.mem_append_right _ h))
theorem kfX7_changes_258 : Cond.fieldLink RX7 258 "ShapeJudgeModel" "shapes" "I" ∈ wsX7_changes := (List.mem_of_getElem? (i := 1) rfl)
theorem kfX7_changes_140 : Cond.fieldLink RX7 140 "ShapeJudgeModel" "nodes" "I" ∈ wsX7_changes := (List.mem_of_getElem? (i := 2) rfl)
theorem kfX7_changes_131 : Cond.fieldLink RX7 131 "ShapeJudgeModel" "ranks" "[I" ∈ wsX7_changes := (List.mem_of_getElem? (i := 3) rfl)
theorem kfX7_changes_119 : Cond.fieldLink RX7 119 "ShapeJudgeModel" "fitting" "[Z" ∈ wsX7_changes := (List.mem_of_getElem? (i := 5) rfl)
theorem kfX7_changes_122 : Cond.fieldLink RX7 122 "ShapeJudgeModel" "sure" "[Z" ∈ wsX7_changes := (List.mem_of_getElem? (i := 4) rfl)
def t_X7_changes_17 (a1 : Int32) (a2 : Int32) (i2 : Int32) (i4 : Int32) (i5 : Int32) (m6 : Mem) : Option ((Int32 × Int32 × Mem) ⊕ (Int32 × Mem)) :=
  (if (m6 0 0) ≤ i5 then (some (.inr (i4, m6))) else (ck (zin i2 6 = true) ((if (m6 41 (Int32.toNatClampNeg i2)) = a1 then (bn (((10 : Int32) * i2) + i5) fun x8 => (if a2 = 0 then (ck (zin x8 60 = true) ((if (m6 37 (Int32.toNatClampNeg x8)) = 0 then (bn (i5 + 1) fun x10 => some (.inl (i4, x10, m6))) else (zb2 (s_X7_can m6 i2 i5 0) fun r12 m13 => (if r12 = 0 then ((if a2 = 0 then (ck (zin x8 60 = true) (bn (sto m13 37 (Int32.toNatClampNeg x8) (vp_nar .boolean 0)) fun m16 => ck (zin x8 60 = true) (bn (sto m16 38 (Int32.toNatClampNeg x8) (vp_nar .boolean a2)) fun m18 => bn (i5 + 1) fun x19 => some (.inl (1, x19, m18))))) else (ck (zin x8 60 = true) (ck (zin x8 60 = true) (bn (sto m13 37 (Int32.toNatClampNeg x8) (vp_nar .boolean (m13 37 (Int32.toNatClampNeg x8)))) fun m22 => ck (zin x8 60 = true) (bn (sto m22 38 (Int32.toNatClampNeg x8) (vp_nar .boolean a2)) fun m24 => bn (i5 + 1) fun x25 => some (.inl (1, x25, m24)))))))) else (bn (i5 + 1) fun x14 => some (.inl (i4, x14, m13)))))))) else (ck (zin x8 60 = true) ((if (m6 38 (Int32.toNatClampNeg x8)) = 0 then (zb2 (s_X7_can m6 i2 i5 1) fun r32 m33 => (if r32 = 0 then (bn (i5 + 1) fun x34 => some (.inl (i4, x34, m33))) else ((if a2 = 0 then (ck (zin x8 60 = true) (bn (sto m33 37 (Int32.toNatClampNeg x8) (vp_nar .boolean 0)) fun m36 => ck (zin x8 60 = true) (bn (sto m36 38 (Int32.toNatClampNeg x8) (vp_nar .boolean a2)) fun m38 => bn (i5 + 1) fun x39 => some (.inl (1, x39, m38))))) else (ck (zin x8 60 = true) (ck (zin x8 60 = true) (bn (sto m33 37 (Int32.toNatClampNeg x8) (vp_nar .boolean (m33 37 (Int32.toNatClampNeg x8)))) fun m42 => ck (zin x8 60 = true) (bn (sto m42 38 (Int32.toNatClampNeg x8) (vp_nar .boolean a2)) fun m44 => bn (i5 + 1) fun x45 => some (.inl (1, x45, m44)))))))))) else (bn (i5 + 1) fun x30 => some (.inl (i4, x30, m6)))))))) else (some (.inr (i4, m6)))))))
def l_X7_changes_17 (a1 : Int32) (a2 : Int32) (i2 : Int32) (n : Nat) (i4 : Int32) (i5 : Int32) (m6 : Mem) : Option (Int32 × Mem) := zlp n (fun a => t_X7_changes_17 a1 a2 i2 a.1 a.2.1 a.2.2) (i4, i5, m6)
def t_X7_changes_5 (a1 : Int32) (a2 : Int32) (i1 : Int32) (i2 : Int32) (m3 : Mem) : Option ((Int32 × Int32 × Mem) ⊕ (Int32 × Mem)) :=
  (if (m3 0 7) ≤ i2 then (some (.inr (i1, m3))) else ((zb2 (l_X7_changes_17 a1 a2 i2 FU i1 0 m3) fun y52 m53 => bn (i2 + 1) fun x54 => some (.inl (y52, x54, m53)))))
def l_X7_changes_5 (a1 : Int32) (a2 : Int32) (n : Nat) (i1 : Int32) (i2 : Int32) (m3 : Mem) : Option (Int32 × Mem) := zlp n (fun a => t_X7_changes_5 a1 a2 a.1 a.2.1 a.2.2) (i1, i2, m3)
def s_X7_changes (m : Mem) (a1 : Int32) (a2 : Int32) : Option (Int32 × Mem) :=
  (zb2 (l_X7_changes_5 a1 a2 FU 0 0 m) fun y56 m57 => ck (y56 = 0 ∨ y56 = 1) (some (y56, m57)))
set_option maxRecDepth 100000 in
set_option maxHeartbeats 4000000 in
theorem w_X7_changes_17 {K : ZK} (C : zOK MM K cX7_changes 7 (some .boolean) RX7 wsX7_changes rmX7_changes) {a1 : Int32} {a2 : Int32} {i2 : Int32}  {o0 : Int32} {o1 : Mem} (hk : zGo MM K o1 [(0, .ref ((zw K).2.1 0)), (1, .int a1), (2, .int a2), (3, .int o0), (4, .int i2)] 136 []) : ∀ (n : Nat) (i4 : Int32) (i5 : Int32) (m6 : Mem), l_X7_changes_17 a1 a2 i2 n i4 i5 m6 = some (o0, o1) → zGo MM K m6 [(0, .ref ((zw K).2.1 0)), (1, .int a1), (2, .int a2), (3, .int i4), (4, .int i2), (5, .int i5)] 17 [] := by
  intro n
  induction n with
  | zero =>
    intro i4 i5 m6 hf
    cases hf
  | succ n ih =>
    intro i4 i5 m6 hf
    obtain ⟨z, hf, hz⟩ := zlp_el hf
    replace hf : t_X7_changes_17 a1 a2 i2 i4 i5 m6 = some z := hf
    unfold t_X7_changes_17 at hf
    refine z_iload C 5 dX7_changes_17 rfl ?_
    refine z_aload_n C 0 dX7_changes_19 rfl rfl ?_
    refine z_geti C (Nat.le_of_ble_eq_true rfl) rfl rfl 0 (Nat.le_of_ble_eq_true rfl) rfl kiX7_changes_X7 kfX7_changes_140 dX7_changes_20 ?_
    refine z_icmp_ge (tgt := 136) C dX7_changes_23 (by decide) (fun c51 => ?_) (fun c51 => ?_)
    · replace hf := if_t c51 hf
      cases hf
      replace hz := zlz_r hz
      cases hz
      exact z_sub [0, 1, 2, 3, 4] rfl hk
    · replace hf := if_f c51 hf
      refine z_aload_n C 0 dX7_changes_26 rfl rfl ?_
      refine z_getr C (t := 41) (Nat.le_of_ble_eq_true rfl) rfl rfl 52 (Nat.le_of_ble_eq_true rfl) rfl kiX7_changes_X7 kfX7_changes_131 dX7_changes_27 ?_
      refine z_iload C 4 dX7_changes_30 rfl ?_
      obtain ⟨hi7, hf⟩ := ck_el hf
      refine z_iald C (k := 41) (Nat.le_of_ble_eq_true rfl) rfl hi7 dX7_changes_32 ?_
      refine z_iload_n C 1 dX7_changes_33 rfl rfl ?_
      refine z_icmp_ne (tgt := 136) C dX7_changes_34 (by decide) (fun c50 => ?_) (fun c50 => ?_)
      · replace hf := if_f c50 hf
        cases hf
        replace hz := zlz_r hz
        cases hz
        exact z_sub [0, 1, 2, 3, 4] rfl hk
      · replace hf := if_t c50 hf
        refine z_bipush C (v := 10) dX7_changes_37 rfl ?_
        refine z_iload C 4 dX7_changes_39 rfl ?_
        refine z_imul C dX7_changes_41 ?_
        refine z_iload C 5 dX7_changes_42 rfl ?_
        refine z_iadd C dX7_changes_44 ?_
        refine z_topi (fun x8 e_x8 => ?_)
        replace hf := bn_to e_x8 hf
        refine z_istore C (lv2 := [(0, .ref ((zw K).2.1 0)), (1, .int a1), (2, .int a2), (3, .int i4), (4, .int i2), (5, .int i5), (6, .int x8)]) [1, 2, 3, 4, 5, 6, 0] dX7_changes_45 (Nat.le_of_ble_eq_true rfl) rfl ?_
        refine z_iload_n C 2 dX7_changes_47 rfl rfl ?_
        refine z_if_eq (tgt := 76) C dX7_changes_48 (by decide) (fun c49 => ?_) (fun c49 => ?_)
        · replace hf := if_t c49 hf
          refine z_aload_n C 0 dX7_changes_76 rfl rfl ?_
          refine z_getr C (t := 37) (Nat.le_of_ble_eq_true rfl) rfl rfl 48 (Nat.le_of_ble_eq_true rfl) rfl kiX7_changes_X7 kfX7_changes_119 dX7_changes_77 ?_
          refine z_iload C 6 dX7_changes_80 rfl ?_
          obtain ⟨hi9, hf⟩ := ck_el hf
          refine z_zald C (k := 37) (Nat.le_of_ble_eq_true rfl) rfl hi9 dX7_changes_82 ?_
          refine z_if_eq (tgt := 130) C dX7_changes_83 (by decide) (fun c28 => ?_) (fun c28 => ?_)
          · replace hf := if_t c28 hf
            obtain ⟨x10, e_x10⟩ : ∃ y : Int32, y = i5 + 1 := ⟨_, rfl⟩
            replace hf := bn_to e_x10 hf
            refine z_iinc C (lv2 := [(0, .ref ((zw K).2.1 0)), (1, .int a1), (2, .int a2), (3, .int i4), (4, .int i2), (5, .int x10), (6, .int x8)]) 5 [1, 2, 3, 4, 5, 0, 6] dX7_changes_130 rfl rfl (Nat.le_of_ble_eq_true rfl) e_x10 rfl ?_
            refine z_goto (tgt := 17) C dX7_changes_133 (by decide) ?_
            cases hf
            exact z_sub [0, 1, 2, 3, 4, 5] rfl (ih i4 x10 m6 hz)
          · replace hf := if_f c28 hf
            refine z_aload_n C 0 dX7_changes_86 rfl rfl ?_
            refine z_iload C 4 dX7_changes_87 rfl ?_
            refine z_iload C 5 dX7_changes_89 rfl ?_
            refine z_iconst C (v := 0) dX7_changes_91 rfl ?_
            obtain ⟨r12, m13, hc11, hf⟩ := zb2_el hf
            refine z_cVi C (c_X7_can _ _ hc11) rfl gX7_changes_X7_can rfl rfl zdX7_can rfl (Nat.le_of_ble_eq_true rfl) rfl rfl rfl ⟨Nat.le_of_ble_eq_true rfl, Nat.le_of_ble_eq_true rfl⟩ (Nat.le_of_ble_eq_true rfl) dX7_changes_92 rfl ?_
            refine z_if_ne (tgt := 130) C dX7_changes_95 (by decide) (fun c27 => ?_) (fun c27 => ?_)
            · replace hf := if_f c27 hf
              obtain ⟨x14, e_x14⟩ : ∃ y : Int32, y = i5 + 1 := ⟨_, rfl⟩
              replace hf := bn_to e_x14 hf
              refine z_iinc C (lv2 := [(0, .ref ((zw K).2.1 0)), (1, .int a1), (2, .int a2), (3, .int i4), (4, .int i2), (5, .int x14), (6, .int x8)]) 5 [1, 2, 3, 4, 5, 0, 6] dX7_changes_130 rfl rfl (Nat.le_of_ble_eq_true rfl) e_x14 rfl ?_
              refine z_goto (tgt := 17) C dX7_changes_133 (by decide) ?_
              cases hf
              exact z_sub [0, 1, 2, 3, 4, 5] rfl (ih i4 x14 m13 hz)
            · replace hf := if_t c27 hf
              refine z_aload_n C 0 dX7_changes_98 rfl rfl ?_
              refine z_getr C (t := 37) (Nat.le_of_ble_eq_true rfl) rfl rfl 48 (Nat.le_of_ble_eq_true rfl) rfl kiX7_changes_X7 kfX7_changes_119 dX7_changes_99 ?_
              refine z_iload C 6 dX7_changes_102 rfl ?_
              refine z_iload_n C 2 dX7_changes_104 rfl rfl ?_
              refine z_if_eq (tgt := 118) C dX7_changes_105 (by decide) (fun c26 => ?_) (fun c26 => ?_)
              · replace hf := if_t c26 hf
                refine z_iconst C (v := 0) dX7_changes_118 rfl ?_
                obtain ⟨hi15, hf⟩ := ck_el hf
                refine z_zast C (k := 37) (Nat.le_of_ble_eq_true rfl) rfl hi15 dX7_changes_119 ?_
                refine z_nm (fun m16 e_m16 => ?_)
                replace hf := bn_to e_m16 hf
                refine z_aload_n C 0 dX7_changes_120 rfl rfl ?_
                refine z_getr C (t := 38) (Nat.le_of_ble_eq_true rfl) rfl rfl 49 (Nat.le_of_ble_eq_true rfl) rfl kiX7_changes_X7 kfX7_changes_122 dX7_changes_121 ?_
                refine z_iload C 6 dX7_changes_124 rfl ?_
                refine z_iload_n C 2 dX7_changes_126 rfl rfl ?_
                obtain ⟨hi17, hf⟩ := ck_el hf
                refine z_zast C (k := 38) (Nat.le_of_ble_eq_true rfl) rfl hi17 dX7_changes_127 ?_
                refine z_nm (fun m18 e_m18 => ?_)
                replace hf := bn_to e_m18 hf
                refine z_iconst C (v := 1) dX7_changes_128 rfl ?_
                refine z_istore_n C (lv2 := [(0, .ref ((zw K).2.1 0)), (1, .int a1), (2, .int a2), (3, .int 1), (4, .int i2), (5, .int i5), (6, .int x8)]) [1, 2, 3, 0, 4, 5, 6] dX7_changes_129 rfl (Nat.le_of_ble_eq_true rfl) rfl ?_
                obtain ⟨x19, e_x19⟩ : ∃ y : Int32, y = i5 + 1 := ⟨_, rfl⟩
                replace hf := bn_to e_x19 hf
                refine z_iinc C (lv2 := [(0, .ref ((zw K).2.1 0)), (1, .int a1), (2, .int a2), (3, .int 1), (4, .int i2), (5, .int x19), (6, .int x8)]) 5 [1, 2, 3, 4, 5, 0, 6] dX7_changes_130 rfl rfl (Nat.le_of_ble_eq_true rfl) e_x19 rfl ?_
                refine z_goto (tgt := 17) C dX7_changes_133 (by decide) ?_
                cases hf
                exact z_sub [0, 1, 2, 3, 4, 5] rfl (ih 1 x19 m18 hz)
              · replace hf := if_f c26 hf
                refine z_aload_n C 0 dX7_changes_108 rfl rfl ?_
                refine z_getr C (t := 37) (Nat.le_of_ble_eq_true rfl) rfl rfl 48 (Nat.le_of_ble_eq_true rfl) rfl kiX7_changes_X7 kfX7_changes_119 dX7_changes_109 ?_
                refine z_iload C 6 dX7_changes_112 rfl ?_
                obtain ⟨hi20, hf⟩ := ck_el hf
                refine z_zald C (k := 37) (Nat.le_of_ble_eq_true rfl) rfl hi20 dX7_changes_114 ?_
                refine z_goto (tgt := 119) C dX7_changes_115 (by decide) ?_
                obtain ⟨hi21, hf⟩ := ck_el hf
                refine z_zast C (k := 37) (Nat.le_of_ble_eq_true rfl) rfl hi21 dX7_changes_119 ?_
                refine z_nm (fun m22 e_m22 => ?_)
                replace hf := bn_to e_m22 hf
                refine z_aload_n C 0 dX7_changes_120 rfl rfl ?_
                refine z_getr C (t := 38) (Nat.le_of_ble_eq_true rfl) rfl rfl 49 (Nat.le_of_ble_eq_true rfl) rfl kiX7_changes_X7 kfX7_changes_122 dX7_changes_121 ?_
                refine z_iload C 6 dX7_changes_124 rfl ?_
                refine z_iload_n C 2 dX7_changes_126 rfl rfl ?_
                obtain ⟨hi23, hf⟩ := ck_el hf
                refine z_zast C (k := 38) (Nat.le_of_ble_eq_true rfl) rfl hi23 dX7_changes_127 ?_
                refine z_nm (fun m24 e_m24 => ?_)
                replace hf := bn_to e_m24 hf
                refine z_iconst C (v := 1) dX7_changes_128 rfl ?_
                refine z_istore_n C (lv2 := [(0, .ref ((zw K).2.1 0)), (1, .int a1), (2, .int a2), (3, .int 1), (4, .int i2), (5, .int i5), (6, .int x8)]) [1, 2, 3, 0, 4, 5, 6] dX7_changes_129 rfl (Nat.le_of_ble_eq_true rfl) rfl ?_
                obtain ⟨x25, e_x25⟩ : ∃ y : Int32, y = i5 + 1 := ⟨_, rfl⟩
                replace hf := bn_to e_x25 hf
                refine z_iinc C (lv2 := [(0, .ref ((zw K).2.1 0)), (1, .int a1), (2, .int a2), (3, .int 1), (4, .int i2), (5, .int x25), (6, .int x8)]) 5 [1, 2, 3, 4, 5, 0, 6] dX7_changes_130 rfl rfl (Nat.le_of_ble_eq_true rfl) e_x25 rfl ?_
                refine z_goto (tgt := 17) C dX7_changes_133 (by decide) ?_
                cases hf
                exact z_sub [0, 1, 2, 3, 4, 5] rfl (ih 1 x25 m24 hz)
        · replace hf := if_f c49 hf
          refine z_aload_n C 0 dX7_changes_51 rfl rfl ?_
          refine z_getr C (t := 38) (Nat.le_of_ble_eq_true rfl) rfl rfl 49 (Nat.le_of_ble_eq_true rfl) rfl kiX7_changes_X7 kfX7_changes_122 dX7_changes_52 ?_
          refine z_iload C 6 dX7_changes_55 rfl ?_
          obtain ⟨hi29, hf⟩ := ck_el hf
          refine z_zald C (k := 38) (Nat.le_of_ble_eq_true rfl) rfl hi29 dX7_changes_57 ?_
          refine z_if_ne (tgt := 130) C dX7_changes_58 (by decide) (fun c48 => ?_) (fun c48 => ?_)
          · replace hf := if_f c48 hf
            obtain ⟨x30, e_x30⟩ : ∃ y : Int32, y = i5 + 1 := ⟨_, rfl⟩
            replace hf := bn_to e_x30 hf
            refine z_iinc C (lv2 := [(0, .ref ((zw K).2.1 0)), (1, .int a1), (2, .int a2), (3, .int i4), (4, .int i2), (5, .int x30), (6, .int x8)]) 5 [1, 2, 3, 4, 5, 0, 6] dX7_changes_130 rfl rfl (Nat.le_of_ble_eq_true rfl) e_x30 rfl ?_
            refine z_goto (tgt := 17) C dX7_changes_133 (by decide) ?_
            cases hf
            exact z_sub [0, 1, 2, 3, 4, 5] rfl (ih i4 x30 m6 hz)
          · replace hf := if_t c48 hf
            refine z_aload_n C 0 dX7_changes_61 rfl rfl ?_
            refine z_iload C 4 dX7_changes_62 rfl ?_
            refine z_iload C 5 dX7_changes_64 rfl ?_
            refine z_iconst C (v := 1) dX7_changes_66 rfl ?_
            obtain ⟨r32, m33, hc31, hf⟩ := zb2_el hf
            refine z_cVi C (c_X7_can _ _ hc31) rfl gX7_changes_X7_can rfl rfl zdX7_can rfl (Nat.le_of_ble_eq_true rfl) rfl rfl rfl ⟨Nat.le_of_ble_eq_true rfl, Nat.le_of_ble_eq_true rfl⟩ (Nat.le_of_ble_eq_true rfl) dX7_changes_67 rfl ?_
            refine z_if_eq (tgt := 130) C dX7_changes_70 (by decide) (fun c47 => ?_) (fun c47 => ?_)
            · replace hf := if_t c47 hf
              obtain ⟨x34, e_x34⟩ : ∃ y : Int32, y = i5 + 1 := ⟨_, rfl⟩
              replace hf := bn_to e_x34 hf
              refine z_iinc C (lv2 := [(0, .ref ((zw K).2.1 0)), (1, .int a1), (2, .int a2), (3, .int i4), (4, .int i2), (5, .int x34), (6, .int x8)]) 5 [1, 2, 3, 4, 5, 0, 6] dX7_changes_130 rfl rfl (Nat.le_of_ble_eq_true rfl) e_x34 rfl ?_
              refine z_goto (tgt := 17) C dX7_changes_133 (by decide) ?_
              cases hf
              exact z_sub [0, 1, 2, 3, 4, 5] rfl (ih i4 x34 m33 hz)
            · replace hf := if_f c47 hf
              refine z_goto (tgt := 98) C dX7_changes_73 (by decide) ?_
              refine z_aload_n C 0 dX7_changes_98 rfl rfl ?_
              refine z_getr C (t := 37) (Nat.le_of_ble_eq_true rfl) rfl rfl 48 (Nat.le_of_ble_eq_true rfl) rfl kiX7_changes_X7 kfX7_changes_119 dX7_changes_99 ?_
              refine z_iload C 6 dX7_changes_102 rfl ?_
              refine z_iload_n C 2 dX7_changes_104 rfl rfl ?_
              refine z_if_eq (tgt := 118) C dX7_changes_105 (by decide) (fun c46 => ?_) (fun c46 => ?_)
              · replace hf := if_t c46 hf
                refine z_iconst C (v := 0) dX7_changes_118 rfl ?_
                obtain ⟨hi35, hf⟩ := ck_el hf
                refine z_zast C (k := 37) (Nat.le_of_ble_eq_true rfl) rfl hi35 dX7_changes_119 ?_
                refine z_nm (fun m36 e_m36 => ?_)
                replace hf := bn_to e_m36 hf
                refine z_aload_n C 0 dX7_changes_120 rfl rfl ?_
                refine z_getr C (t := 38) (Nat.le_of_ble_eq_true rfl) rfl rfl 49 (Nat.le_of_ble_eq_true rfl) rfl kiX7_changes_X7 kfX7_changes_122 dX7_changes_121 ?_
                refine z_iload C 6 dX7_changes_124 rfl ?_
                refine z_iload_n C 2 dX7_changes_126 rfl rfl ?_
                obtain ⟨hi37, hf⟩ := ck_el hf
                refine z_zast C (k := 38) (Nat.le_of_ble_eq_true rfl) rfl hi37 dX7_changes_127 ?_
                refine z_nm (fun m38 e_m38 => ?_)
                replace hf := bn_to e_m38 hf
                refine z_iconst C (v := 1) dX7_changes_128 rfl ?_
                refine z_istore_n C (lv2 := [(0, .ref ((zw K).2.1 0)), (1, .int a1), (2, .int a2), (3, .int 1), (4, .int i2), (5, .int i5), (6, .int x8)]) [1, 2, 3, 0, 4, 5, 6] dX7_changes_129 rfl (Nat.le_of_ble_eq_true rfl) rfl ?_
                obtain ⟨x39, e_x39⟩ : ∃ y : Int32, y = i5 + 1 := ⟨_, rfl⟩
                replace hf := bn_to e_x39 hf
                refine z_iinc C (lv2 := [(0, .ref ((zw K).2.1 0)), (1, .int a1), (2, .int a2), (3, .int 1), (4, .int i2), (5, .int x39), (6, .int x8)]) 5 [1, 2, 3, 4, 5, 0, 6] dX7_changes_130 rfl rfl (Nat.le_of_ble_eq_true rfl) e_x39 rfl ?_
                refine z_goto (tgt := 17) C dX7_changes_133 (by decide) ?_
                cases hf
                exact z_sub [0, 1, 2, 3, 4, 5] rfl (ih 1 x39 m38 hz)
              · replace hf := if_f c46 hf
                refine z_aload_n C 0 dX7_changes_108 rfl rfl ?_
                refine z_getr C (t := 37) (Nat.le_of_ble_eq_true rfl) rfl rfl 48 (Nat.le_of_ble_eq_true rfl) rfl kiX7_changes_X7 kfX7_changes_119 dX7_changes_109 ?_
                refine z_iload C 6 dX7_changes_112 rfl ?_
                obtain ⟨hi40, hf⟩ := ck_el hf
                refine z_zald C (k := 37) (Nat.le_of_ble_eq_true rfl) rfl hi40 dX7_changes_114 ?_
                refine z_goto (tgt := 119) C dX7_changes_115 (by decide) ?_
                obtain ⟨hi41, hf⟩ := ck_el hf
                refine z_zast C (k := 37) (Nat.le_of_ble_eq_true rfl) rfl hi41 dX7_changes_119 ?_
                refine z_nm (fun m42 e_m42 => ?_)
                replace hf := bn_to e_m42 hf
                refine z_aload_n C 0 dX7_changes_120 rfl rfl ?_
                refine z_getr C (t := 38) (Nat.le_of_ble_eq_true rfl) rfl rfl 49 (Nat.le_of_ble_eq_true rfl) rfl kiX7_changes_X7 kfX7_changes_122 dX7_changes_121 ?_
                refine z_iload C 6 dX7_changes_124 rfl ?_
                refine z_iload_n C 2 dX7_changes_126 rfl rfl ?_
                obtain ⟨hi43, hf⟩ := ck_el hf
                refine z_zast C (k := 38) (Nat.le_of_ble_eq_true rfl) rfl hi43 dX7_changes_127 ?_
                refine z_nm (fun m44 e_m44 => ?_)
                replace hf := bn_to e_m44 hf
                refine z_iconst C (v := 1) dX7_changes_128 rfl ?_
                refine z_istore_n C (lv2 := [(0, .ref ((zw K).2.1 0)), (1, .int a1), (2, .int a2), (3, .int 1), (4, .int i2), (5, .int i5), (6, .int x8)]) [1, 2, 3, 0, 4, 5, 6] dX7_changes_129 rfl (Nat.le_of_ble_eq_true rfl) rfl ?_
                obtain ⟨x45, e_x45⟩ : ∃ y : Int32, y = i5 + 1 := ⟨_, rfl⟩
                replace hf := bn_to e_x45 hf
                refine z_iinc C (lv2 := [(0, .ref ((zw K).2.1 0)), (1, .int a1), (2, .int a2), (3, .int 1), (4, .int i2), (5, .int x45), (6, .int x8)]) 5 [1, 2, 3, 4, 5, 0, 6] dX7_changes_130 rfl rfl (Nat.le_of_ble_eq_true rfl) e_x45 rfl ?_
                refine z_goto (tgt := 17) C dX7_changes_133 (by decide) ?_
                cases hf
                exact z_sub [0, 1, 2, 3, 4, 5] rfl (ih 1 x45 m44 hz)
set_option maxRecDepth 100000 in
set_option maxHeartbeats 4000000 in
theorem w_X7_changes_5 {K : ZK} (C : zOK MM K cX7_changes 7 (some .boolean) RX7 wsX7_changes rmX7_changes) {a1 : Int32} {a2 : Int32}  {o0 : Int32} {o1 : Mem} (hk : zGo MM K o1 [(3, .int o0)] 142 []) : ∀ (n : Nat) (i1 : Int32) (i2 : Int32) (m3 : Mem), l_X7_changes_5 a1 a2 n i1 i2 m3 = some (o0, o1) → zGo MM K m3 [(0, .ref ((zw K).2.1 0)), (1, .int a1), (2, .int a2), (3, .int i1), (4, .int i2)] 5 [] := by
  intro n
  induction n with
  | zero =>
    intro i1 i2 m3 hf
    cases hf
  | succ n ih =>
    intro i1 i2 m3 hf
    obtain ⟨z, hf, hz⟩ := zlp_el hf
    replace hf : t_X7_changes_5 a1 a2 i1 i2 m3 = some z := hf
    unfold t_X7_changes_5 at hf
    refine z_iload C 4 dX7_changes_5 rfl ?_
    refine z_aload_n C 0 dX7_changes_7 rfl rfl ?_
    refine z_geti C (Nat.le_of_ble_eq_true rfl) rfl rfl 7 (Nat.le_of_ble_eq_true rfl) rfl kiX7_changes_X7 kfX7_changes_258 dX7_changes_8 ?_
    refine z_icmp_ge (tgt := 142) C dX7_changes_11 (by decide) (fun c55 => ?_) (fun c55 => ?_)
    · replace hf := if_t c55 hf
      cases hf
      replace hz := zlz_r hz
      cases hz
      exact z_sub [3] rfl hk
    · replace hf := if_f c55 hf
      refine z_iconst C (v := 0) dX7_changes_14 rfl ?_
      refine z_istore C (lv2 := [(0, .ref ((zw K).2.1 0)), (1, .int a1), (2, .int a2), (3, .int i1), (4, .int i2), (5, .int 0)]) [1, 2, 3, 4, 5, 0] dX7_changes_15 (Nat.le_of_ble_eq_true rfl) rfl ?_
      obtain ⟨y52, m53, hg, hf⟩ := zb2_el hf
      refine z_sub [0, 1, 2, 3, 4, 5] rfl (w_X7_changes_17 C  ?_ _ _ _ _ hg)
      clear hg
      obtain ⟨x54, e_x54⟩ : ∃ y : Int32, y = i2 + 1 := ⟨_, rfl⟩
      replace hf := bn_to e_x54 hf
      refine z_iinc C (lv2 := [(0, .ref ((zw K).2.1 0)), (1, .int a1), (2, .int a2), (3, .int y52), (4, .int x54)]) 4 [1, 2, 3, 4, 0] dX7_changes_136 rfl rfl (Nat.le_of_ble_eq_true rfl) e_x54 rfl ?_
      refine z_goto (tgt := 5) C dX7_changes_139 (by decide) ?_
      cases hf
      exact z_sub [0, 1, 2, 3, 4] rfl (ih y52 x54 m53 hz)
set_option maxRecDepth 100000 in
set_option maxHeartbeats 4000000 in
theorem c_X7_changes (l : Launch) (w : ZW) {m : Mem} {a1 : Int32} {a2 : Int32} {r9 : Int32} {m9 : Mem}  (hf : s_X7_changes m a1 a2 = some (r9, m9)) : zCi MM l w yX7_changes wsX7_changes rmX7_changes [.ref (w.2.1 0), .int a1, .int a2] m m9 r9 := by
  refine z_met_z MM_ok (own := RX7) (by decide +kernel) rfl rfl (Nat.le_of_ble_eq_true rfl) ?_
  intro K C hKw hKl hret
  subst hKw
  subst hKl
  unfold s_X7_changes at hf
  show zGo MM K m [(0, .ref ((zw K).2.1 0)), (1, .int a1), (2, .int a2)] 0 []
  refine z_iconst C (v := 0) dX7_changes_0 rfl ?_
  refine z_istore_n C (lv2 := [(0, .ref ((zw K).2.1 0)), (1, .int a1), (2, .int a2), (3, .int 0)]) [1, 2, 3, 0] dX7_changes_1 rfl (Nat.le_of_ble_eq_true rfl) rfl ?_
  refine z_iconst C (v := 0) dX7_changes_2 rfl ?_
  refine z_istore C (lv2 := [(0, .ref ((zw K).2.1 0)), (1, .int a1), (2, .int a2), (3, .int 0), (4, .int 0)]) [1, 2, 3, 4, 0] dX7_changes_3 (Nat.le_of_ble_eq_true rfl) rfl ?_
  obtain ⟨y56, m57, hg, hf⟩ := zb2_el hf
  refine z_sub [0, 1, 2, 3, 4] rfl (w_X7_changes_5 C  ?_ _ _ _ _ hg)
  clear hg
  refine z_iload_n C 0 dX7_changes_142 rfl rfl ?_
  obtain ⟨hz, hf⟩ := ck_el hf
  obtain ⟨e1, e2⟩ := sp_el hf
  subst e1
  subst e2
  exact hret _ _ dX7_changes_143 hz
