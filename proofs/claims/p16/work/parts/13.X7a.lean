theorem dX7_in_0 : decode cX7_in 0 = .ok (.lload_n 0, 1) := by decide +kernel
theorem dX7_in_1 : decode cX7_in 1 = .ok (.lload_n 2, 1) := by decide +kernel
theorem dX7_in_2 : decode cX7_in 2 = .ok (.lcmp, 1) := by decide +kernel
theorem dX7_in_3 : decode cX7_in 3 = .ok (.ifCond .lt 14, 3) := by decide +kernel
theorem dX7_in_6 : decode cX7_in 6 = .ok (.lload_n 0, 1) := by decide +kernel
theorem dX7_in_7 : decode cX7_in 7 = .ok (.lload 4, 2) := by decide +kernel
theorem dX7_in_9 : decode cX7_in 9 = .ok (.lcmp, 1) := by decide +kernel
theorem dX7_in_10 : decode cX7_in 10 = .ok (.ifCond .gt 7, 3) := by decide +kernel
theorem dX7_in_13 : decode cX7_in 13 = .ok (.iconst 1, 1) := by decide +kernel
theorem dX7_in_14 : decode cX7_in 14 = .ok (.goto 4, 3) := by decide +kernel
theorem dX7_in_17 : decode cX7_in 17 = .ok (.iconst 0, 1) := by decide +kernel
theorem dX7_in_18 : decode cX7_in 18 = .ok (.ireturn, 1) := by decide +kernel
def rmX7_in : Room := { frames := 0, cells := 0, slots := 0, locals := 0 }
theorem zdX7_in : yX7_in.cls = RX7 ∧ yX7_in.cls ≠ "java/lang/invoke/MethodHandle" ∧ yX7_in.cls ≠ "java/lang/invoke/VarHandle" ∧ (parseMethodDescriptor yX7_in.desc).map (fun d => d.parameters.length) = some 3 := by decide +kernel
def s_X7_in (a1 : Int64) (a2 : Int64) (a3 : Int64) : Option (Int32) :=
  (if (lg_cmp a1 a2) < 0 then (some 0) else ((if 0 < (lg_cmp a1 a3) then (some 0) else (some 1))))
set_option maxRecDepth 100000 in
set_option maxHeartbeats 4000000 in
theorem c_X7_in (l : Launch) (w : ZW) {m : Mem} {a1 : Int64} {a2 : Int64} {a3 : Int64} {r9 : Int32}  (hf : s_X7_in a1 a2 a3 = some r9) : zCi MM l w yX7_in wsX7_in rmX7_in [.long a1, .long a2, .long a3] m m r9 := by
  refine z_met_z MM_ok (own := RX7) (by decide +kernel) rfl rfl (Nat.le_of_ble_eq_true rfl) ?_
  intro K C hKw hKl hret
  subst hKw
  subst hKl
  unfold s_X7_in at hf
  show zGo MM K m [(0, .long a1), (2, .long a2), (4, .long a3)] 0 []
  refine z_lload_n C 0 dX7_in_0 rfl rfl ?_
  refine z_lload_n C 1 dX7_in_1 rfl rfl ?_
  refine z_lcmp C dX7_in_2 ?_
  refine z_if_lt (tgt := 17) C dX7_in_3 (by decide) (fun c2 => ?_) (fun c2 => ?_)
  · replace hf := if_t c2 hf
    refine z_iconst C (v := 0) dX7_in_17 rfl ?_
    have e1 := Option.some.inj hf
    subst e1
    exact hret _ _ dX7_in_18 (Or.inl rfl)
  · replace hf := if_f c2 hf
    refine z_lload_n C 0 dX7_in_6 rfl rfl ?_
    refine z_lload C 2 dX7_in_7 rfl ?_
    refine z_lcmp C dX7_in_9 ?_
    refine z_if_gt (tgt := 17) C dX7_in_10 (by decide) (fun c1 => ?_) (fun c1 => ?_)
    · replace hf := if_t c1 hf
      refine z_iconst C (v := 0) dX7_in_17 rfl ?_
      have e1 := Option.some.inj hf
      subst e1
      exact hret _ _ dX7_in_18 (Or.inl rfl)
    · replace hf := if_f c1 hf
      refine z_iconst C (v := 1) dX7_in_13 rfl ?_
      refine z_goto (tgt := 18) C dX7_in_14 (by decide) ?_
      have e1 := Option.some.inj hf
      subst e1
      exact hret _ _ dX7_in_18 (Or.inr rfl)
set_option maxRecDepth 20000 in
theorem ggX7_isShape_X7_in : GoodIn wsX7_isShape wsX7_in := goodIn_sub (List.forall_mem_cons.mpr ⟨(List.mem_of_getElem? (i := 5) rfl), (fun _ h => absurd h List.not_mem_nil)⟩) (by decide +kernel)
set_option maxRecDepth 20000 in
theorem gX7_isShape_X7_in : GoodIn wsX7_isShape (va_wsS RX7 144 yX7_in wsX7_in) := goodIn_app (goodIn_sub (List.forall_mem_cons.mpr ⟨(List.mem_of_getElem? (i := 2) rfl), (List.forall_mem_cons.mpr ⟨(List.mem_of_getElem? (i := 3) rfl), (List.forall_mem_cons.mpr ⟨(List.mem_of_getElem? (i := 4) rfl), (fun _ h => absurd h List.not_mem_nil)⟩)⟩)⟩) (by decide +kernel)) ggX7_isShape_X7_in
theorem dX7_isShape_0 : decode cX7_isShape 0 = .ok (.iload_n 1, 1) := by decide +kernel
theorem dX7_isShape_1 : decode cX7_isShape 1 = .ok (.i2l, 1) := by decide +kernel
theorem dX7_isShape_2 : decode cX7_isShape 2 = .ok (.lconst 0, 1) := by decide +kernel
theorem dX7_isShape_3 : decode cX7_isShape 3 = .ok (.aload_n 0, 1) := by decide +kernel
theorem dX7_isShape_4 : decode cX7_isShape 4 = .ok (.getfield 258, 3) := by decide +kernel
theorem dX7_isShape_7 : decode cX7_isShape 7 = .ok (.iconst 1, 1) := by decide +kernel
theorem dX7_isShape_8 : decode cX7_isShape 8 = .ok (.isub, 1) := by decide +kernel
theorem dX7_isShape_9 : decode cX7_isShape 9 = .ok (.i2l, 1) := by decide +kernel
theorem dX7_isShape_10 : decode cX7_isShape 10 = .ok (.invokestatic 144, 3) := by decide +kernel
theorem dX7_isShape_13 : decode cX7_isShape 13 = .ok (.ireturn, 1) := by decide +kernel
def rmX7_isShape : Room := { frames := 1, cells := 0, slots := 0, locals := 25 }
theorem zdX7_isShape : yX7_isShape.cls = RX7 ∧ yX7_isShape.cls ≠ "java/lang/invoke/MethodHandle" ∧ yX7_isShape.cls ≠ "java/lang/invoke/VarHandle" ∧ (parseMethodDescriptor yX7_isShape.desc).map (fun d => d.parameters.length) = some 1 := by decide +kernel
theorem kiX7_isShape_X7 : ∀ w ∈ wsX70, w ∈ wsX7_isShape := fun _ h => (List.mem_cons_of_mem _ (List.mem_append_right _ h))
theorem kfX7_isShape_258 : Cond.fieldLink RX7 258 "ShapeJudgeModel" "shapes" "I" ∈ wsX7_isShape := (List.mem_of_getElem? (i := 1) rfl)
def s_X7_isShape (m : Mem) (a1 : Int32) : Option (Int32) :=
  (s_X7_in (a1.toInt64) 0 ((m 0 7) - 1).toInt64).bind fun r2 => ck (r2 = 0 ∨ r2 = 1) (some r2)
set_option maxRecDepth 100000 in
set_option maxHeartbeats 4000000 in
theorem c_X7_isShape (l : Launch) (w : ZW) {m : Mem} {a1 : Int32} {r9 : Int32}  (hf : s_X7_isShape m a1 = some r9) : zCi MM l w yX7_isShape wsX7_isShape rmX7_isShape [.ref (w.2.1 0), .int a1] m m r9 := by
  refine z_met_z MM_ok (own := RX7) (by decide +kernel) rfl rfl (Nat.le_of_ble_eq_true rfl) ?_
  intro K C hKw hKl hret
  subst hKw
  subst hKl
  unfold s_X7_isShape at hf
  show zGo MM K m [(0, .ref ((zw K).2.1 0)), (1, .int a1)] 0 []
  refine z_iload_n C 1 dX7_isShape_0 rfl rfl ?_
  refine z_i2l C dX7_isShape_1 ?_
  refine z_lconst C (v := 0) dX7_isShape_2 rfl ?_
  refine z_aload_n C 0 dX7_isShape_3 rfl rfl ?_
  refine z_geti C (Nat.le_of_ble_eq_true rfl) rfl rfl 7 (Nat.le_of_ble_eq_true rfl) rfl kiX7_isShape_X7 kfX7_isShape_258 dX7_isShape_4 ?_
  refine z_iconst C (v := 1) dX7_isShape_7 rfl ?_
  refine z_isub C dX7_isShape_8 ?_
  refine z_i2l C dX7_isShape_9 ?_
  obtain ⟨r2, hc1, hf⟩ := zb_el hf
  refine z_cSi C (c_X7_in _ _ hc1) rfl gX7_isShape_X7_in rfl rfl zdX7_in.2 rfl ⟨Nat.le_of_ble_eq_true rfl, Nat.le_of_ble_eq_true rfl⟩ (Nat.le_of_ble_eq_true rfl) dX7_isShape_10 rfl ?_
  obtain ⟨hz, hf⟩ := ck_el hf
  have e1 := Option.some.inj hf
  subst e1
  exact hret _ _ dX7_isShape_13 hz
theorem dX7_free_0 : decode cX7_free 0 = .ok (.iconst 0, 1) := by decide +kernel
theorem dX7_free_1 : decode cX7_free 1 = .ok (.istore_n 1, 1) := by decide +kernel
theorem dX7_free_2 : decode cX7_free 2 = .ok (.iload_n 1, 1) := by decide +kernel
theorem dX7_free_3 : decode cX7_free 3 = .ok (.iconst 5, 1) := by decide +kernel
theorem dX7_free_4 : decode cX7_free 4 = .ok (.if_icmp .ge 17, 3) := by decide +kernel
theorem dX7_free_7 : decode cX7_free 7 = .ok (.aload_n 0, 1) := by decide +kernel
theorem dX7_free_8 : decode cX7_free 8 = .ok (.getfield 125, 3) := by decide +kernel
theorem dX7_free_11 : decode cX7_free 11 = .ok (.iload_n 1, 1) := by decide +kernel
theorem dX7_free_12 : decode cX7_free 12 = .ok (.bipush (-4), 2) := by decide +kernel
theorem dX7_free_14 : decode cX7_free 14 = .ok (.iastore, 1) := by decide +kernel
theorem dX7_free_15 : decode cX7_free 15 = .ok (.iinc 1 1, 3) := by decide +kernel
theorem dX7_free_18 : decode cX7_free 18 = .ok (.goto (-16), 3) := by decide +kernel
theorem dX7_free_21 : decode cX7_free 21 = .ok (.return_, 1) := by decide +kernel
def rmX7_free : Room := { frames := 0, cells := 0, slots := 0, locals := 0 }
theorem zdX7_free : yX7_free.cls = RX7 ∧ yX7_free.cls ≠ "java/lang/invoke/MethodHandle" ∧ yX7_free.cls ≠ "java/lang/invoke/VarHandle" ∧ (parseMethodDescriptor yX7_free.desc).map (fun d => d.parameters.length) = some 0 := by decide +kernel
theorem kiX7_free_X7 : ∀ w ∈ wsX70, w ∈ wsX7_free := fun _ h => (List.mem_cons_of_mem _ (List.mem_append_right _ h))
theorem kfX7_free_125 : Cond.fieldLink RX7 125 "ShapeJudgeModel" "only" "[I" ∈ wsX7_free := (List.mem_of_getElem? (i := 1) rfl)
def t_X7_free_2  (i1 : Int32) (m2 : Mem) : Option ((Int32 × Mem) ⊕ (Mem)) :=
  (if 5 ≤ i1 then (some (.inr m2)) else (ck (zin i1 5 = true) (bn (sto m2 39 (Int32.toNatClampNeg i1) (-4)) fun m4 => bn (i1 + 1) fun x5 => some (.inl (x5, m4)))))
def l_X7_free_2  (n : Nat) (i1 : Int32) (m2 : Mem) : Option (Mem) := zlp n (fun a => t_X7_free_2  a.1 a.2) (i1, m2)
def s_X7_free (m : Mem)  : Option (Mem) :=
  ((l_X7_free_2  FU 0 m).bind fun m7 => some m7)
set_option maxRecDepth 100000 in
set_option maxHeartbeats 4000000 in
theorem w_X7_free_2 {K : ZK} (C : zOK MM K cX7_free 2 none RX7 wsX7_free rmX7_free)   {o0 : Mem} (hk : zGo MM K o0 [] 21 []) : ∀ (n : Nat) (i1 : Int32) (m2 : Mem), l_X7_free_2  n i1 m2 = some o0 → zGo MM K m2 [(0, .ref ((zw K).2.1 0)), (1, .int i1)] 2 [] := by
  intro n
  induction n with
  | zero =>
    intro i1 m2 hf
    cases hf
  | succ n ih =>
    intro i1 m2 hf
    obtain ⟨z, hf, hz⟩ := zlp_el hf
    replace hf : t_X7_free_2  i1 m2 = some z := hf
    unfold t_X7_free_2 at hf
    refine z_iload_n C 1 dX7_free_2 rfl rfl ?_
    refine z_iconst C (v := 5) dX7_free_3 rfl ?_
    refine z_icmp_ge (tgt := 21) C dX7_free_4 (by decide) (fun c6 => ?_) (fun c6 => ?_)
    · replace hf := if_t c6 hf
      cases hf
      replace hz := zlz_r hz
      cases hz
      exact z_sub [] rfl hk
    · replace hf := if_f c6 hf
      refine z_aload_n C 0 dX7_free_7 rfl rfl ?_
      refine z_getr C (t := 39) (Nat.le_of_ble_eq_true rfl) rfl rfl 50 (Nat.le_of_ble_eq_true rfl) rfl kiX7_free_X7 kfX7_free_125 dX7_free_8 ?_
      refine z_iload_n C 1 dX7_free_11 rfl rfl ?_
      refine z_bipush C (v := (-4)) dX7_free_12 (by decide) ?_
      obtain ⟨hi3, hf⟩ := ck_el hf
      refine z_iast C (k := 39) (Nat.le_of_ble_eq_true rfl) rfl hi3 dX7_free_14 ?_
      refine z_nm (fun m4 e_m4 => ?_)
      replace hf := bn_to e_m4 hf
      obtain ⟨x5, e_x5⟩ : ∃ y : Int32, y = i1 + 1 := ⟨_, rfl⟩
      replace hf := bn_to e_x5 hf
      refine z_iinc C (lv2 := [(0, .ref ((zw K).2.1 0)), (1, .int x5)]) 1 [1, 0] dX7_free_15 rfl rfl (Nat.le_of_ble_eq_true rfl) e_x5 rfl ?_
      refine z_goto (tgt := 2) C dX7_free_18 (by decide) ?_
      cases hf
      exact z_sub [0, 1] rfl (ih x5 m4 hz)
set_option maxRecDepth 100000 in
set_option maxHeartbeats 4000000 in
theorem c_X7_free (l : Launch) (w : ZW) {m : Mem}  {m9 : Mem}  (hf : s_X7_free m  = some m9) : zCv MM l w yX7_free wsX7_free rmX7_free [.ref (w.2.1 0)] m m9 := by
  refine z_met_v MM_ok (own := RX7) (by decide +kernel) rfl rfl (Nat.le_of_ble_eq_true rfl) ?_
  intro K C hKw hKl hret
  subst hKw
  subst hKl
  unfold s_X7_free at hf
  show zGo MM K m [(0, .ref ((zw K).2.1 0))] 0 []
  refine z_iconst C (v := 0) dX7_free_0 rfl ?_
  refine z_istore_n C (lv2 := [(0, .ref ((zw K).2.1 0)), (1, .int 0)]) [1, 0] dX7_free_1 rfl (Nat.le_of_ble_eq_true rfl) rfl ?_
  obtain ⟨m7, hg, hf⟩ := zb_el hf
  refine z_sub [0, 1] rfl (w_X7_free_2 C  ?_ _ _ _ hg)
  clear hg
  have e1 := Option.some.inj hf
  subst e1
  exact hret _ _ dX7_free_21
set_option maxRecDepth 100000 in
theorem daX7_findRanks : ∀ q ∈ ([(0, .iconst 0, 1), (1, .istore_n 1, 1), (2, .iload_n 1, 1), (3, .aload_n 0, 1), (4, .getfield 258, 3), (7, .if_icmp .ge 16, 3), (10, .aload_n 0, 1), (11, .getfield 131, 3), (14, .iload_n 1, 1), (15, .iconst 0, 1), (16, .iastore, 1), (17, .iinc 1 1, 3), (20, .goto (-18), 3), (23, .iconst 0, 1), (24, .istore_n 1, 1), (25, .iload_n 1, 1), (26, .bipush 7, 2), (28, .if_icmp .ge 132, 3), (31, .iconst 0, 1), (32, .istore_n 2, 1), (33, .iload_n 2, 1), (34, .aload_n 0, 1), (35, .getfield 258, 3), (38, .if_icmp .ge 116, 3), (41, .iconst 0, 1), (42, .istore_n 3, 1), (43, .iload_n 3, 1), (44, .aload_n 0, 1), (45, .getfield 32, 3), (48, .iload_n 2, 1), (49, .iaload, 1), (50, .if_icmp .ge 98, 3), (53, .bipush 6, 2), (55, .iload_n 2, 1), (56, .imul, 1), (57, .iload_n 3, 1), (58, .iadd, 1), (59, .istore 4, 2), (61, .aload_n 0, 1), (62, .getfield 38, 3), (65, .iload 4, 2), (67, .iaload, 1), (68, .iconst 1, 1), (69, .if_icmp .eq 14, 3), (72, .aload_n 0, 1), (73, .getfield 38, 3), (76, .iload 4, 2), (78, .iaload, 1), (79, .iconst 2, 1), (80, .if_icmp .ne 62, 3), (83, .aload_n 0, 1), (84, .getfield 131, 3), (87, .aload_n 0, 1), (88, .getfield 41, 3), (91, .iload 4, 2), (93, .iaload, 1), (94, .iaload, 1), (95, .aload_n 0, 1), (96, .getfield 38, 3), (99, .iload 4, 2), (101, .iaload, 1), (102, .iconst 2, 1), (103, .if_icmp .ne 7, 3), (106, .iconst 1, 1), (107, .goto 4, 3), (110, .iconst 0, 1), (111, .iadd, 1), (112, .istore 5, 2), (114, .aload_n 0, 1), (115, .getfield 131, 3), (118, .iload_n 2, 1), (119, .iload 5, 2), (121, .aload_n 0, 1), (122, .getfield 131, 3), (125, .iload_n 2, 1), (126, .iaload, 1), (127, .if_icmp .le 8, 3), (130, .iload 5, 2), (132, .goto 9, 3), (135, .aload_n 0, 1), (136, .getfield 131, 3), (139, .iload_n 2, 1), (140, .iaload, 1), (141, .iastore, 1), (142, .iinc 3 1, 3), (145, .goto (-102), 3), (148, .iinc 2 1, 3), (151, .goto (-118), 3), (154, .iinc 1 1, 3), (157, .goto (-132), 3), (160, .return_, 1)] : List (Nat × Instr × Nat)), decode cX7_findRanks q.1 = .ok q.2 := by decide +kernel
theorem dX7_findRanks_0 : decode cX7_findRanks 0 = .ok (.iconst 0, 1) := daX7_findRanks (0, .iconst 0, 1) (List.mem_of_getElem? (i := 0) rfl)
theorem dX7_findRanks_1 : decode cX7_findRanks 1 = .ok (.istore_n 1, 1) := daX7_findRanks (1, .istore_n 1, 1) (List.mem_of_getElem? (i := 1) rfl)
theorem dX7_findRanks_2 : decode cX7_findRanks 2 = .ok (.iload_n 1, 1) := daX7_findRanks (2, .iload_n 1, 1) (List.mem_of_getElem? (i := 2) rfl)
theorem dX7_findRanks_3 : decode cX7_findRanks 3 = .ok (.aload_n 0, 1) := daX7_findRanks (3, .aload_n 0, 1) (List.mem_of_getElem? (i := 3) rfl)
theorem dX7_findRanks_4 : decode cX7_findRanks 4 = .ok (.getfield 258, 3) := daX7_findRanks (4, .getfield 258, 3) (List.mem_of_getElem? (i := 4) rfl)
theorem dX7_findRanks_7 : decode cX7_findRanks 7 = .ok (.if_icmp .ge 16, 3) := daX7_findRanks (7, .if_icmp .ge 16, 3) (List.mem_of_getElem? (i := 5) rfl)
theorem dX7_findRanks_10 : decode cX7_findRanks 10 = .ok (.aload_n 0, 1) := daX7_findRanks (10, .aload_n 0, 1) (List.mem_of_getElem? (i := 6) rfl)
theorem dX7_findRanks_11 : decode cX7_findRanks 11 = .ok (.getfield 131, 3) := daX7_findRanks (11, .getfield 131, 3) (List.mem_of_getElem? (i := 7) rfl)
theorem dX7_findRanks_14 : decode cX7_findRanks 14 = .ok (.iload_n 1, 1) := daX7_findRanks (14, .iload_n 1, 1) (List.mem_of_getElem? (i := 8) rfl)
theorem dX7_findRanks_15 : decode cX7_findRanks 15 = .ok (.iconst 0, 1) := daX7_findRanks (15, .iconst 0, 1) (List.mem_of_getElem? (i := 9) rfl)
theorem dX7_findRanks_16 : decode cX7_findRanks 16 = .ok (.iastore, 1) := daX7_findRanks (16, .iastore, 1) (List.mem_of_getElem? (i := 10) rfl)
theorem dX7_findRanks_17 : decode cX7_findRanks 17 = .ok (.iinc 1 1, 3) := daX7_findRanks (17, .iinc 1 1, 3) (List.mem_of_getElem? (i := 11) rfl)
theorem dX7_findRanks_20 : decode cX7_findRanks 20 = .ok (.goto (-18), 3) := daX7_findRanks (20, .goto (-18), 3) (List.mem_of_getElem? (i := 12) rfl)
theorem dX7_findRanks_23 : decode cX7_findRanks 23 = .ok (.iconst 0, 1) := daX7_findRanks (23, .iconst 0, 1) (List.mem_of_getElem? (i := 13) rfl)
theorem dX7_findRanks_24 : decode cX7_findRanks 24 = .ok (.istore_n 1, 1) := daX7_findRanks (24, .istore_n 1, 1) (List.mem_of_getElem? (i := 14) rfl)
theorem dX7_findRanks_25 : decode cX7_findRanks 25 = .ok (.iload_n 1, 1) := daX7_findRanks (25, .iload_n 1, 1) (List.mem_of_getElem? (i := 15) rfl)
theorem dX7_findRanks_26 : decode cX7_findRanks 26 = .ok (.bipush 7, 2) := daX7_findRanks (26, .bipush 7, 2) (List.mem_of_getElem? (i := 16) rfl)
theorem dX7_findRanks_28 : decode cX7_findRanks 28 = .ok (.if_icmp .ge 132, 3) := daX7_findRanks (28, .if_icmp .ge 132, 3) (List.mem_of_getElem? (i := 17) rfl)
theorem dX7_findRanks_31 : decode cX7_findRanks 31 = .ok (.iconst 0, 1) := daX7_findRanks (31, .iconst 0, 1) (List.mem_of_getElem? (i := 18) rfl)
theorem dX7_findRanks_32 : decode cX7_findRanks 32 = .ok (.istore_n 2, 1) := daX7_findRanks (32, .istore_n 2, 1) (List.mem_of_getElem? (i := 19) rfl)
theorem dX7_findRanks_33 : decode cX7_findRanks 33 = .ok (.iload_n 2, 1) := daX7_findRanks (33, .iload_n 2, 1) (List.mem_of_getElem? (i := 20) rfl)
theorem dX7_findRanks_34 : decode cX7_findRanks 34 = .ok (.aload_n 0, 1) := daX7_findRanks (34, .aload_n 0, 1) (List.mem_of_getElem? (i := 21) rfl)
theorem dX7_findRanks_35 : decode cX7_findRanks 35 = .ok (.getfield 258, 3) := daX7_findRanks (35, .getfield 258, 3) (List.mem_of_getElem? (i := 22) rfl)
theorem dX7_findRanks_38 : decode cX7_findRanks 38 = .ok (.if_icmp .ge 116, 3) := daX7_findRanks (38, .if_icmp .ge 116, 3) (List.mem_of_getElem? (i := 23) rfl)
theorem dX7_findRanks_41 : decode cX7_findRanks 41 = .ok (.iconst 0, 1) := daX7_findRanks (41, .iconst 0, 1) (List.mem_of_getElem? (i := 24) rfl)
theorem dX7_findRanks_42 : decode cX7_findRanks 42 = .ok (.istore_n 3, 1) := daX7_findRanks (42, .istore_n 3, 1) (List.mem_of_getElem? (i := 25) rfl)
theorem dX7_findRanks_43 : decode cX7_findRanks 43 = .ok (.iload_n 3, 1) := daX7_findRanks (43, .iload_n 3, 1) (List.mem_of_getElem? (i := 26) rfl)
theorem dX7_findRanks_44 : decode cX7_findRanks 44 = .ok (.aload_n 0, 1) := daX7_findRanks (44, .aload_n 0, 1) (List.mem_of_getElem? (i := 27) rfl)
theorem dX7_findRanks_45 : decode cX7_findRanks 45 = .ok (.getfield 32, 3) := daX7_findRanks (45, .getfield 32, 3) (List.mem_of_getElem? (i := 28) rfl)
theorem dX7_findRanks_48 : decode cX7_findRanks 48 = .ok (.iload_n 2, 1) := daX7_findRanks (48, .iload_n 2, 1) (List.mem_of_getElem? (i := 29) rfl)
theorem dX7_findRanks_49 : decode cX7_findRanks 49 = .ok (.iaload, 1) := daX7_findRanks (49, .iaload, 1) (List.mem_of_getElem? (i := 30) rfl)
theorem dX7_findRanks_50 : decode cX7_findRanks 50 = .ok (.if_icmp .ge 98, 3) := daX7_findRanks (50, .if_icmp .ge 98, 3) (List.mem_of_getElem? (i := 31) rfl)
theorem dX7_findRanks_53 : decode cX7_findRanks 53 = .ok (.bipush 6, 2) := daX7_findRanks (53, .bipush 6, 2) (List.mem_of_getElem? (i := 32) rfl)
theorem dX7_findRanks_55 : decode cX7_findRanks 55 = .ok (.iload_n 2, 1) := daX7_findRanks (55, .iload_n 2, 1) (List.mem_of_getElem? (i := 33) rfl)
theorem dX7_findRanks_56 : decode cX7_findRanks 56 = .ok (.imul, 1) := daX7_findRanks (56, .imul, 1) (List.mem_of_getElem? (i := 34) rfl)
theorem dX7_findRanks_57 : decode cX7_findRanks 57 = .ok (.iload_n 3, 1) := daX7_findRanks (57, .iload_n 3, 1) (List.mem_of_getElem? (i := 35) rfl)
theorem dX7_findRanks_58 : decode cX7_findRanks 58 = .ok (.iadd, 1) := daX7_findRanks (58, .iadd, 1) (List.mem_of_getElem? (i := 36) rfl)
theorem dX7_findRanks_59 : decode cX7_findRanks 59 = .ok (.istore 4, 2) := daX7_findRanks (59, .istore 4, 2) (List.mem_of_getElem? (i := 37) rfl)
theorem dX7_findRanks_61 : decode cX7_findRanks 61 = .ok (.aload_n 0, 1) := daX7_findRanks (61, .aload_n 0, 1) (List.mem_of_getElem? (i := 38) rfl)
theorem dX7_findRanks_62 : decode cX7_findRanks 62 = .ok (.getfield 38, 3) := daX7_findRanks (62, .getfield 38, 3) (List.mem_of_getElem? (i := 39) rfl)
theorem dX7_findRanks_65 : decode cX7_findRanks 65 = .ok (.iload 4, 2) := daX7_findRanks (65, .iload 4, 2) (List.mem_of_getElem? (i := 40) rfl)
theorem dX7_findRanks_67 : decode cX7_findRanks 67 = .ok (.iaload, 1) := daX7_findRanks (67, .iaload, 1) (List.mem_of_getElem? (i := 41) rfl)
theorem dX7_findRanks_68 : decode cX7_findRanks 68 = .ok (.iconst 1, 1) := daX7_findRanks (68, .iconst 1, 1) (List.mem_of_getElem? (i := 42) rfl)
theorem dX7_findRanks_69 : decode cX7_findRanks 69 = .ok (.if_icmp .eq 14, 3) := daX7_findRanks (69, .if_icmp .eq 14, 3) (List.mem_of_getElem? (i := 43) rfl)
theorem dX7_findRanks_72 : decode cX7_findRanks 72 = .ok (.aload_n 0, 1) := daX7_findRanks (72, .aload_n 0, 1) (List.mem_of_getElem? (i := 44) rfl)
theorem dX7_findRanks_73 : decode cX7_findRanks 73 = .ok (.getfield 38, 3) := daX7_findRanks (73, .getfield 38, 3) (List.mem_of_getElem? (i := 45) rfl)
theorem dX7_findRanks_76 : decode cX7_findRanks 76 = .ok (.iload 4, 2) := daX7_findRanks (76, .iload 4, 2) (List.mem_of_getElem? (i := 46) rfl)
theorem dX7_findRanks_78 : decode cX7_findRanks 78 = .ok (.iaload, 1) := daX7_findRanks (78, .iaload, 1) (List.mem_of_getElem? (i := 47) rfl)
theorem dX7_findRanks_79 : decode cX7_findRanks 79 = .ok (.iconst 2, 1) := daX7_findRanks (79, .iconst 2, 1) (List.mem_of_getElem? (i := 48) rfl)
theorem dX7_findRanks_80 : decode cX7_findRanks 80 = .ok (.if_icmp .ne 62, 3) := daX7_findRanks (80, .if_icmp .ne 62, 3) (List.mem_of_getElem? (i := 49) rfl)
theorem dX7_findRanks_83 : decode cX7_findRanks 83 = .ok (.aload_n 0, 1) := daX7_findRanks (83, .aload_n 0, 1) (List.mem_of_getElem? (i := 50) rfl)
theorem dX7_findRanks_84 : decode cX7_findRanks 84 = .ok (.getfield 131, 3) := daX7_findRanks (84, .getfield 131, 3) (List.mem_of_getElem? (i := 51) rfl)
theorem dX7_findRanks_87 : decode cX7_findRanks 87 = .ok (.aload_n 0, 1) := daX7_findRanks (87, .aload_n 0, 1) (List.mem_of_getElem? (i := 52) rfl)
theorem dX7_findRanks_88 : decode cX7_findRanks 88 = .ok (.getfield 41, 3) := daX7_findRanks (88, .getfield 41, 3) (List.mem_of_getElem? (i := 53) rfl)
theorem dX7_findRanks_91 : decode cX7_findRanks 91 = .ok (.iload 4, 2) := daX7_findRanks (91, .iload 4, 2) (List.mem_of_getElem? (i := 54) rfl)
theorem dX7_findRanks_93 : decode cX7_findRanks 93 = .ok (.iaload, 1) := daX7_findRanks (93, .iaload, 1) (List.mem_of_getElem? (i := 55) rfl)
theorem dX7_findRanks_94 : decode cX7_findRanks 94 = .ok (.iaload, 1) := daX7_findRanks (94, .iaload, 1) (List.mem_of_getElem? (i := 56) rfl)
theorem dX7_findRanks_95 : decode cX7_findRanks 95 = .ok (.aload_n 0, 1) := daX7_findRanks (95, .aload_n 0, 1) (List.mem_of_getElem? (i := 57) rfl)
theorem dX7_findRanks_96 : decode cX7_findRanks 96 = .ok (.getfield 38, 3) := daX7_findRanks (96, .getfield 38, 3) (List.mem_of_getElem? (i := 58) rfl)
theorem dX7_findRanks_99 : decode cX7_findRanks 99 = .ok (.iload 4, 2) := daX7_findRanks (99, .iload 4, 2) (List.mem_of_getElem? (i := 59) rfl)
theorem dX7_findRanks_101 : decode cX7_findRanks 101 = .ok (.iaload, 1) := daX7_findRanks (101, .iaload, 1) (List.mem_of_getElem? (i := 60) rfl)
theorem dX7_findRanks_102 : decode cX7_findRanks 102 = .ok (.iconst 2, 1) := daX7_findRanks (102, .iconst 2, 1) (List.mem_of_getElem? (i := 61) rfl)
theorem dX7_findRanks_103 : decode cX7_findRanks 103 = .ok (.if_icmp .ne 7, 3) := daX7_findRanks (103, .if_icmp .ne 7, 3) (List.mem_of_getElem? (i := 62) rfl)
theorem dX7_findRanks_106 : decode cX7_findRanks 106 = .ok (.iconst 1, 1) := daX7_findRanks (106, .iconst 1, 1) (List.mem_of_getElem? (i := 63) rfl)
theorem dX7_findRanks_107 : decode cX7_findRanks 107 = .ok (.goto 4, 3) := daX7_findRanks (107, .goto 4, 3) (List.mem_of_getElem? (i := 64) rfl)
theorem dX7_findRanks_110 : decode cX7_findRanks 110 = .ok (.iconst 0, 1) := daX7_findRanks (110, .iconst 0, 1) (List.mem_of_getElem? (i := 65) rfl)
theorem dX7_findRanks_111 : decode cX7_findRanks 111 = .ok (.iadd, 1) := daX7_findRanks (111, .iadd, 1) (List.mem_of_getElem? (i := 66) rfl)
theorem dX7_findRanks_112 : decode cX7_findRanks 112 = .ok (.istore 5, 2) := daX7_findRanks (112, .istore 5, 2) (List.mem_of_getElem? (i := 67) rfl)
theorem dX7_findRanks_114 : decode cX7_findRanks 114 = .ok (.aload_n 0, 1) := daX7_findRanks (114, .aload_n 0, 1) (List.mem_of_getElem? (i := 68) rfl)
theorem dX7_findRanks_115 : decode cX7_findRanks 115 = .ok (.getfield 131, 3) := daX7_findRanks (115, .getfield 131, 3) (List.mem_of_getElem? (i := 69) rfl)
theorem dX7_findRanks_118 : decode cX7_findRanks 118 = .ok (.iload_n 2, 1) := daX7_findRanks (118, .iload_n 2, 1) (List.mem_of_getElem? (i := 70) rfl)
theorem dX7_findRanks_119 : decode cX7_findRanks 119 = .ok (.iload 5, 2) := daX7_findRanks (119, .iload 5, 2) (List.mem_of_getElem? (i := 71) rfl)
theorem dX7_findRanks_121 : decode cX7_findRanks 121 = .ok (.aload_n 0, 1) := daX7_findRanks (121, .aload_n 0, 1) (List.mem_of_getElem? (i := 72) rfl)
theorem dX7_findRanks_122 : decode cX7_findRanks 122 = .ok (.getfield 131, 3) := daX7_findRanks (122, .getfield 131, 3) (List.mem_of_getElem? (i := 73) rfl)
theorem dX7_findRanks_125 : decode cX7_findRanks 125 = .ok (.iload_n 2, 1) := daX7_findRanks (125, .iload_n 2, 1) (List.mem_of_getElem? (i := 74) rfl)
theorem dX7_findRanks_126 : decode cX7_findRanks 126 = .ok (.iaload, 1) := daX7_findRanks (126, .iaload, 1) (List.mem_of_getElem? (i := 75) rfl)
theorem dX7_findRanks_127 : decode cX7_findRanks 127 = .ok (.if_icmp .le 8, 3) := daX7_findRanks (127, .if_icmp .le 8, 3) (List.mem_of_getElem? (i := 76) rfl)
theorem dX7_findRanks_130 : decode cX7_findRanks 130 = .ok (.iload 5, 2) := daX7_findRanks (130, .iload 5, 2) (List.mem_of_getElem? (i := 77) rfl)
theorem dX7_findRanks_132 : decode cX7_findRanks 132 = .ok (.goto 9, 3) := daX7_findRanks (132, .goto 9, 3) (List.mem_of_getElem? (i := 78) rfl)
theorem dX7_findRanks_135 : decode cX7_findRanks 135 = .ok (.aload_n 0, 1) := daX7_findRanks (135, .aload_n 0, 1) (List.mem_of_getElem? (i := 79) rfl)
theorem dX7_findRanks_136 : decode cX7_findRanks 136 = .ok (.getfield 131, 3) := daX7_findRanks (136, .getfield 131, 3) (List.mem_of_getElem? (i := 80) rfl)
theorem dX7_findRanks_139 : decode cX7_findRanks 139 = .ok (.iload_n 2, 1) := daX7_findRanks (139, .iload_n 2, 1) (List.mem_of_getElem? (i := 81) rfl)
theorem dX7_findRanks_140 : decode cX7_findRanks 140 = .ok (.iaload, 1) := daX7_findRanks (140, .iaload, 1) (List.mem_of_getElem? (i := 82) rfl)
theorem dX7_findRanks_141 : decode cX7_findRanks 141 = .ok (.iastore, 1) := daX7_findRanks (141, .iastore, 1) (List.mem_of_getElem? (i := 83) rfl)
theorem dX7_findRanks_142 : decode cX7_findRanks 142 = .ok (.iinc 3 1, 3) := daX7_findRanks (142, .iinc 3 1, 3) (List.mem_of_getElem? (i := 84) rfl)
theorem dX7_findRanks_145 : decode cX7_findRanks 145 = .ok (.goto (-102), 3) := daX7_findRanks (145, .goto (-102), 3) (List.mem_of_getElem? (i := 85) rfl)
theorem dX7_findRanks_148 : decode cX7_findRanks 148 = .ok (.iinc 2 1, 3) := daX7_findRanks (148, .iinc 2 1, 3) (List.mem_of_getElem? (i := 86) rfl)
theorem dX7_findRanks_151 : decode cX7_findRanks 151 = .ok (.goto (-118), 3) := daX7_findRanks (151, .goto (-118), 3) (List.mem_of_getElem? (i := 87) rfl)
theorem dX7_findRanks_154 : decode cX7_findRanks 154 = .ok (.iinc 1 1, 3) := daX7_findRanks (154, .iinc 1 1, 3) (List.mem_of_getElem? (i := 88) rfl)
theorem dX7_findRanks_157 : decode cX7_findRanks 157 = .ok (.goto (-132), 3) := daX7_findRanks (157, .goto (-132), 3) (List.mem_of_getElem? (i := 89) rfl)
theorem dX7_findRanks_160 : decode cX7_findRanks 160 = .ok (.return_, 1) := daX7_findRanks (160, .return_, 1) (List.mem_of_getElem? (i := 90) rfl)
def rmX7_findRanks : Room := { frames := 0, cells := 0, slots := 0, locals := 0 }
theorem zdX7_findRanks : yX7_findRanks.cls = RX7 ∧ yX7_findRanks.cls ≠ "java/lang/invoke/MethodHandle" ∧ yX7_findRanks.cls ≠ "java/lang/invoke/VarHandle" ∧ (parseMethodDescriptor yX7_findRanks.desc).map (fun d => d.parameters.length) = some 0 := by decide +kernel
theorem kiX7_findRanks_X7 : ∀ w ∈ wsX70, w ∈ wsX7_findRanks := fun _ h => (List.mem_cons_of_mem _ (List.mem_append_right _ h))
theorem kfX7_findRanks_258 : Cond.fieldLink RX7 258 "ShapeJudgeModel" "shapes" "I" ∈ wsX7_findRanks := (List.mem_of_getElem? (i := 1) rfl)
theorem kfX7_findRanks_131 : Cond.fieldLink RX7 131 "ShapeJudgeModel" "ranks" "[I" ∈ wsX7_findRanks := (List.mem_of_getElem? (i := 2) rfl)
theorem kfX7_findRanks_32 : Cond.fieldLink RX7 32 "ShapeJudgeModel" "parts" "[I" ∈ wsX7_findRanks := (List.mem_of_getElem? (i := 3) rfl)
theorem kfX7_findRanks_38 : Cond.fieldLink RX7 38 "ShapeJudgeModel" "pTest" "[I" ∈ wsX7_findRanks := (List.mem_of_getElem? (i := 4) rfl)
theorem kfX7_findRanks_41 : Cond.fieldLink RX7 41 "ShapeJudgeModel" "pFirst" "[I" ∈ wsX7_findRanks := (List.mem_of_getElem? (i := 5) rfl)
def t_X7_findRanks_2  (i1 : Int32) (m2 : Mem) : Option ((Int32 × Mem) ⊕ (Mem)) :=
  (if (m2 0 7) ≤ i1 then (some (.inr m2)) else (ck (zin i1 6 = true) (bn (sto m2 41 (Int32.toNatClampNeg i1) 0) fun m4 => bn (i1 + 1) fun x5 => some (.inl (x5, m4)))))
def l_X7_findRanks_2  (n : Nat) (i1 : Int32) (m2 : Mem) : Option (Mem) := zlp n (fun a => t_X7_findRanks_2  a.1 a.2) (i1, m2)
def t_X7_findRanks_43 (i10 : Int32) (i12 : Int32) (m13 : Mem) : Option ((Int32 × Mem) ⊕ (Mem)) :=
  ck (zin i10 6 = true) ((if (m13 8 (Int32.toNatClampNeg i10)) ≤ i12 then (some (.inr m13)) else (bn (((6 : Int32) * i10) + i12) fun x15 => ck (zin x15 36 = true) ((if (m13 10 (Int32.toNatClampNeg x15)) = 1 then (ck (zin x15 36 = true) (ck (zin (m13 11 (Int32.toNatClampNeg x15)) 6 = true) (ck (zin x15 36 = true) ((((if (m13 10 (Int32.toNatClampNeg x15)) = 2 then (some 1) else (some 0)) : Option (Int32)).bind fun y20 => bn ((m13 41 (Int32.toNatClampNeg (m13 11 (Int32.toNatClampNeg x15)))) + y20) fun x21 => ck (zin i10 6 = true) ((if x21 ≤ (m13 41 (Int32.toNatClampNeg i10)) then (ck (zin i10 6 = true) (ck (zin i10 6 = true) (bn (sto m13 41 (Int32.toNatClampNeg i10) (m13 41 (Int32.toNatClampNeg i10))) fun m25 => bn (i12 + 1) fun x26 => some (.inl (x26, m25))))) else (ck (zin i10 6 = true) (bn (sto m13 41 (Int32.toNatClampNeg i10) x21) fun m28 => bn (i12 + 1) fun x29 => some (.inl (x29, m28))))))))))) else (ck (zin x15 36 = true) ((if (m13 10 (Int32.toNatClampNeg x15)) = 2 then (ck (zin x15 36 = true) (ck (zin (m13 11 (Int32.toNatClampNeg x15)) 6 = true) (ck (zin x15 36 = true) ((((if (m13 10 (Int32.toNatClampNeg x15)) = 2 then (some 1) else (some 0)) : Option (Int32)).bind fun y37 => bn ((m13 41 (Int32.toNatClampNeg (m13 11 (Int32.toNatClampNeg x15)))) + y37) fun x38 => ck (zin i10 6 = true) ((if x38 ≤ (m13 41 (Int32.toNatClampNeg i10)) then (ck (zin i10 6 = true) (ck (zin i10 6 = true) (bn (sto m13 41 (Int32.toNatClampNeg i10) (m13 41 (Int32.toNatClampNeg i10))) fun m42 => bn (i12 + 1) fun x43 => some (.inl (x43, m42))))) else (ck (zin i10 6 = true) (bn (sto m13 41 (Int32.toNatClampNeg i10) x38) fun m45 => bn (i12 + 1) fun x46 => some (.inl (x46, m45))))))))))) else (bn (i12 + 1) fun x33 => some (.inl (x33, m13)))))))))))
def l_X7_findRanks_43 (i10 : Int32) (n : Nat) (i12 : Int32) (m13 : Mem) : Option (Mem) := zlp n (fun a => t_X7_findRanks_43 i10 a.1 a.2) (i12, m13)
def t_X7_findRanks_33  (i10 : Int32) (m11 : Mem) : Option ((Int32 × Mem) ⊕ (Mem)) :=
  (if (m11 0 7) ≤ i10 then (some (.inr m11)) else (((l_X7_findRanks_43 i10 FU 0 m11).bind fun m52 => bn (i10 + 1) fun x53 => some (.inl (x53, m52)))))
def l_X7_findRanks_33  (n : Nat) (i10 : Int32) (m11 : Mem) : Option (Mem) := zlp n (fun a => t_X7_findRanks_33  a.1 a.2) (i10, m11)
def t_X7_findRanks_25  (i8 : Int32) (m9 : Mem) : Option ((Int32 × Mem) ⊕ (Mem)) :=
  (if 7 ≤ i8 then (some (.inr m9)) else (((l_X7_findRanks_33  FU 0 m9).bind fun m55 => bn (i8 + 1) fun x56 => some (.inl (x56, m55)))))
def l_X7_findRanks_25  (n : Nat) (i8 : Int32) (m9 : Mem) : Option (Mem) := zlp n (fun a => t_X7_findRanks_25  a.1 a.2) (i8, m9)
def s_X7_findRanks (m : Mem)  : Option (Mem) :=
  ((l_X7_findRanks_2  FU 0 m).bind fun m7 => ((l_X7_findRanks_25  FU 0 m7).bind fun m58 => some m58))
set_option maxRecDepth 100000 in
set_option maxHeartbeats 4000000 in
theorem w_X7_findRanks_2 {K : ZK} (C : zOK MM K cX7_findRanks 6 none RX7 wsX7_findRanks rmX7_findRanks)   {o0 : Mem} (hk : zGo MM K o0 [(0, .ref ((zw K).2.1 0))] 23 []) : ∀ (n : Nat) (i1 : Int32) (m2 : Mem), l_X7_findRanks_2  n i1 m2 = some o0 → zGo MM K m2 [(0, .ref ((zw K).2.1 0)), (1, .int i1)] 2 [] := by
  intro n
  induction n with
  | zero =>
    intro i1 m2 hf
    cases hf
  | succ n ih =>
    intro i1 m2 hf
    obtain ⟨z, hf, hz⟩ := zlp_el hf
    replace hf : t_X7_findRanks_2  i1 m2 = some z := hf
    unfold t_X7_findRanks_2 at hf
    refine z_iload_n C 1 dX7_findRanks_2 rfl rfl ?_
    refine z_aload_n C 0 dX7_findRanks_3 rfl rfl ?_
    refine z_geti C (Nat.le_of_ble_eq_true rfl) rfl rfl 7 (Nat.le_of_ble_eq_true rfl) rfl kiX7_findRanks_X7 kfX7_findRanks_258 dX7_findRanks_4 ?_
    refine z_icmp_ge (tgt := 23) C dX7_findRanks_7 (by decide) (fun c6 => ?_) (fun c6 => ?_)
    · replace hf := if_t c6 hf
      cases hf
      replace hz := zlz_r hz
      cases hz
      exact z_sub [0] rfl hk
    · replace hf := if_f c6 hf
      refine z_aload_n C 0 dX7_findRanks_10 rfl rfl ?_
      refine z_getr C (t := 41) (Nat.le_of_ble_eq_true rfl) rfl rfl 52 (Nat.le_of_ble_eq_true rfl) rfl kiX7_findRanks_X7 kfX7_findRanks_131 dX7_findRanks_11 ?_
      refine z_iload_n C 1 dX7_findRanks_14 rfl rfl ?_
      refine z_iconst C (v := 0) dX7_findRanks_15 rfl ?_
      obtain ⟨hi3, hf⟩ := ck_el hf
      refine z_iast C (k := 41) (Nat.le_of_ble_eq_true rfl) rfl hi3 dX7_findRanks_16 ?_
      refine z_nm (fun m4 e_m4 => ?_)
      replace hf := bn_to e_m4 hf
      obtain ⟨x5, e_x5⟩ : ∃ y : Int32, y = i1 + 1 := ⟨_, rfl⟩
      replace hf := bn_to e_x5 hf
      refine z_iinc C (lv2 := [(0, .ref ((zw K).2.1 0)), (1, .int x5)]) 1 [1, 0] dX7_findRanks_17 rfl rfl (Nat.le_of_ble_eq_true rfl) e_x5 rfl ?_
      refine z_goto (tgt := 2) C dX7_findRanks_20 (by decide) ?_
      cases hf
      exact z_sub [0, 1] rfl (ih x5 m4 hz)
set_option maxRecDepth 100000 in
set_option maxHeartbeats 4000000 in
theorem w_X7_findRanks_43 {K : ZK} (C : zOK MM K cX7_findRanks 6 none RX7 wsX7_findRanks rmX7_findRanks) {i8 : Int32} {i10 : Int32}  {o0 : Mem} (hk : zGo MM K o0 [(0, .ref ((zw K).2.1 0)), (1, .int i8), (2, .int i10)] 148 []) : ∀ (n : Nat) (i12 : Int32) (m13 : Mem), l_X7_findRanks_43 i10 n i12 m13 = some o0 → zGo MM K m13 [(0, .ref ((zw K).2.1 0)), (1, .int i8), (2, .int i10), (3, .int i12)] 43 [] := by
  intro n
  induction n with
  | zero =>
    intro i12 m13 hf
    cases hf
  | succ n ih =>
    intro i12 m13 hf
    obtain ⟨z, hf, hz⟩ := zlp_el hf
    replace hf : t_X7_findRanks_43 i10 i12 m13 = some z := hf
    unfold t_X7_findRanks_43 at hf
    refine z_iload_n C 3 dX7_findRanks_43 rfl rfl ?_
    refine z_aload_n C 0 dX7_findRanks_44 rfl rfl ?_
    refine z_getr C (t := 8) (Nat.le_of_ble_eq_true rfl) rfl rfl 10 (Nat.le_of_ble_eq_true rfl) rfl kiX7_findRanks_X7 kfX7_findRanks_32 dX7_findRanks_45 ?_
    refine z_iload_n C 2 dX7_findRanks_48 rfl rfl ?_
    obtain ⟨hi14, hf⟩ := ck_el hf
    refine z_iald C (k := 8) (Nat.le_of_ble_eq_true rfl) rfl hi14 dX7_findRanks_49 ?_
    refine z_icmp_ge (tgt := 148) C dX7_findRanks_50 (by decide) (fun c51 => ?_) (fun c51 => ?_)
    · replace hf := if_t c51 hf
      cases hf
      replace hz := zlz_r hz
      cases hz
      exact z_sub [0, 1, 2] rfl hk
    · replace hf := if_f c51 hf
      refine z_bipush C (v := 6) dX7_findRanks_53 rfl ?_
      refine z_iload_n C 2 dX7_findRanks_55 rfl rfl ?_
      refine z_imul C dX7_findRanks_56 ?_
      refine z_iload_n C 3 dX7_findRanks_57 rfl rfl ?_
      refine z_iadd C dX7_findRanks_58 ?_
      refine z_topi (fun x15 e_x15 => ?_)
      replace hf := bn_to e_x15 hf
      refine z_istore C (lv2 := [(0, .ref ((zw K).2.1 0)), (1, .int i8), (2, .int i10), (3, .int i12), (4, .int x15)]) [1, 2, 3, 4, 0] dX7_findRanks_59 (Nat.le_of_ble_eq_true rfl) rfl ?_
      refine z_aload_n C 0 dX7_findRanks_61 rfl rfl ?_
      refine z_getr C (t := 10) (Nat.le_of_ble_eq_true rfl) rfl rfl 12 (Nat.le_of_ble_eq_true rfl) rfl kiX7_findRanks_X7 kfX7_findRanks_38 dX7_findRanks_62 ?_
      refine z_iload C 4 dX7_findRanks_65 rfl ?_
      obtain ⟨hi16, hf⟩ := ck_el hf
      refine z_iald C (k := 10) (Nat.le_of_ble_eq_true rfl) rfl hi16 dX7_findRanks_67 ?_
      refine z_iconst C (v := 1) dX7_findRanks_68 rfl ?_
      refine z_icmp_eq (tgt := 83) C dX7_findRanks_69 (by decide) (fun c50 => ?_) (fun c50 => ?_)
      · replace hf := if_t c50 hf
        refine z_aload_n C 0 dX7_findRanks_83 rfl rfl ?_
        refine z_getr C (t := 41) (Nat.le_of_ble_eq_true rfl) rfl rfl 52 (Nat.le_of_ble_eq_true rfl) rfl kiX7_findRanks_X7 kfX7_findRanks_131 dX7_findRanks_84 ?_
        refine z_aload_n C 0 dX7_findRanks_87 rfl rfl ?_
        refine z_getr C (t := 11) (Nat.le_of_ble_eq_true rfl) rfl rfl 13 (Nat.le_of_ble_eq_true rfl) rfl kiX7_findRanks_X7 kfX7_findRanks_41 dX7_findRanks_88 ?_
        refine z_iload C 4 dX7_findRanks_91 rfl ?_
        obtain ⟨hi17, hf⟩ := ck_el hf
        refine z_iald C (k := 11) (Nat.le_of_ble_eq_true rfl) rfl hi17 dX7_findRanks_93 ?_
        obtain ⟨hi18, hf⟩ := ck_el hf
        refine z_iald C (k := 41) (Nat.le_of_ble_eq_true rfl) rfl hi18 dX7_findRanks_94 ?_
        refine z_aload_n C 0 dX7_findRanks_95 rfl rfl ?_
        refine z_getr C (t := 10) (Nat.le_of_ble_eq_true rfl) rfl rfl 12 (Nat.le_of_ble_eq_true rfl) rfl kiX7_findRanks_X7 kfX7_findRanks_38 dX7_findRanks_96 ?_
        refine z_iload C 4 dX7_findRanks_99 rfl ?_
        obtain ⟨hi19, hf⟩ := ck_el hf
        refine z_iald C (k := 10) (Nat.le_of_ble_eq_true rfl) rfl hi19 dX7_findRanks_101 ?_
        refine z_iconst C (v := 2) dX7_findRanks_102 rfl ?_
        obtain ⟨y20, hg, hf⟩ := zb_el hf
        have hj : zGo MM K m13 [(0, .ref ((zw K).2.1 0)), (1, .int i8), (2, .int i10), (3, .int i12)] 111 [.int y20, .int (m13 41 (Int32.toNatClampNeg (m13 11 (Int32.toNatClampNeg x15))))] := by
          refine z_iadd C dX7_findRanks_111 ?_
          refine z_topi (fun x21 e_x21 => ?_)
          replace hf := bn_to e_x21 hf
          refine z_istore C (lv2 := [(0, .ref ((zw K).2.1 0)), (1, .int i8), (2, .int i10), (3, .int i12), (5, .int x21)]) [1, 2, 3, 4, 0] dX7_findRanks_112 (Nat.le_of_ble_eq_true rfl) rfl ?_
          refine z_aload_n C 0 dX7_findRanks_114 rfl rfl ?_
          refine z_getr C (t := 41) (Nat.le_of_ble_eq_true rfl) rfl rfl 52 (Nat.le_of_ble_eq_true rfl) rfl kiX7_findRanks_X7 kfX7_findRanks_131 dX7_findRanks_115 ?_
          refine z_iload_n C 2 dX7_findRanks_118 rfl rfl ?_
          refine z_iload C 4 dX7_findRanks_119 rfl ?_
          refine z_aload_n C 0 dX7_findRanks_121 rfl rfl ?_
          refine z_getr C (t := 41) (Nat.le_of_ble_eq_true rfl) rfl rfl 52 (Nat.le_of_ble_eq_true rfl) rfl kiX7_findRanks_X7 kfX7_findRanks_131 dX7_findRanks_122 ?_
          refine z_iload_n C 2 dX7_findRanks_125 rfl rfl ?_
          obtain ⟨hi22, hf⟩ := ck_el hf
          refine z_iald C (k := 41) (Nat.le_of_ble_eq_true rfl) rfl hi22 dX7_findRanks_126 ?_
          refine z_icmp_le (tgt := 135) C dX7_findRanks_127 (by decide) (fun c30 => ?_) (fun c30 => ?_)
          · replace hf := if_t c30 hf
            refine z_aload_n C 0 dX7_findRanks_135 rfl rfl ?_
            refine z_getr C (t := 41) (Nat.le_of_ble_eq_true rfl) rfl rfl 52 (Nat.le_of_ble_eq_true rfl) rfl kiX7_findRanks_X7 kfX7_findRanks_131 dX7_findRanks_136 ?_
            refine z_iload_n C 2 dX7_findRanks_139 rfl rfl ?_
            obtain ⟨hi23, hf⟩ := ck_el hf
            refine z_iald C (k := 41) (Nat.le_of_ble_eq_true rfl) rfl hi23 dX7_findRanks_140 ?_
            obtain ⟨hi24, hf⟩ := ck_el hf
            refine z_iast C (k := 41) (Nat.le_of_ble_eq_true rfl) rfl hi24 dX7_findRanks_141 ?_
            refine z_nm (fun m25 e_m25 => ?_)
            replace hf := bn_to e_m25 hf
            obtain ⟨x26, e_x26⟩ : ∃ y : Int32, y = i12 + 1 := ⟨_, rfl⟩
            replace hf := bn_to e_x26 hf
            refine z_iinc C (lv2 := [(0, .ref ((zw K).2.1 0)), (1, .int i8), (2, .int i10), (3, .int x26), (5, .int x21)]) 3 [1, 2, 3, 0, 4] dX7_findRanks_142 rfl rfl (Nat.le_of_ble_eq_true rfl) e_x26 rfl ?_
            refine z_goto (tgt := 43) C dX7_findRanks_145 (by decide) ?_
            cases hf
            exact z_sub [0, 1, 2, 3] rfl (ih x26 m25 hz)
          · replace hf := if_f c30 hf
            refine z_iload C 4 dX7_findRanks_130 rfl ?_
            refine z_goto (tgt := 141) C dX7_findRanks_132 (by decide) ?_
            obtain ⟨hi27, hf⟩ := ck_el hf
            refine z_iast C (k := 41) (Nat.le_of_ble_eq_true rfl) rfl hi27 dX7_findRanks_141 ?_
            refine z_nm (fun m28 e_m28 => ?_)
            replace hf := bn_to e_m28 hf
            obtain ⟨x29, e_x29⟩ : ∃ y : Int32, y = i12 + 1 := ⟨_, rfl⟩
            replace hf := bn_to e_x29 hf
            refine z_iinc C (lv2 := [(0, .ref ((zw K).2.1 0)), (1, .int i8), (2, .int i10), (3, .int x29), (5, .int x21)]) 3 [1, 2, 3, 0, 4] dX7_findRanks_142 rfl rfl (Nat.le_of_ble_eq_true rfl) e_x29 rfl ?_
            refine z_goto (tgt := 43) C dX7_findRanks_145 (by decide) ?_
            cases hf
            exact z_sub [0, 1, 2, 3] rfl (ih x29 m28 hz)
        replace hf := hg
        clear hg
        refine z_icmp_ne (tgt := 110) C dX7_findRanks_103 (by decide) (fun c31 => ?_) (fun c31 => ?_)
        · replace hf := if_f c31 hf
          refine z_iconst C (v := 0) dX7_findRanks_110 rfl ?_
          cases hf
          exact z_sub [0, 1, 2, 3] rfl hj
        · replace hf := if_t c31 hf
          refine z_iconst C (v := 1) dX7_findRanks_106 rfl ?_
          refine z_goto (tgt := 111) C dX7_findRanks_107 (by decide) ?_
          cases hf
          exact z_sub [0, 1, 2, 3] rfl hj
      · replace hf := if_f c50 hf
        refine z_aload_n C 0 dX7_findRanks_72 rfl rfl ?_
        refine z_getr C (t := 10) (Nat.le_of_ble_eq_true rfl) rfl rfl 12 (Nat.le_of_ble_eq_true rfl) rfl kiX7_findRanks_X7 kfX7_findRanks_38 dX7_findRanks_73 ?_
        refine z_iload C 4 dX7_findRanks_76 rfl ?_
        obtain ⟨hi32, hf⟩ := ck_el hf
        refine z_iald C (k := 10) (Nat.le_of_ble_eq_true rfl) rfl hi32 dX7_findRanks_78 ?_
        refine z_iconst C (v := 2) dX7_findRanks_79 rfl ?_
        refine z_icmp_ne (tgt := 142) C dX7_findRanks_80 (by decide) (fun c49 => ?_) (fun c49 => ?_)
        · replace hf := if_f c49 hf
          obtain ⟨x33, e_x33⟩ : ∃ y : Int32, y = i12 + 1 := ⟨_, rfl⟩
          replace hf := bn_to e_x33 hf
          refine z_iinc C (lv2 := [(0, .ref ((zw K).2.1 0)), (1, .int i8), (2, .int i10), (3, .int x33), (4, .int x15)]) 3 [1, 2, 3, 0, 4] dX7_findRanks_142 rfl rfl (Nat.le_of_ble_eq_true rfl) e_x33 rfl ?_
          refine z_goto (tgt := 43) C dX7_findRanks_145 (by decide) ?_
          cases hf
          exact z_sub [0, 1, 2, 3] rfl (ih x33 m13 hz)
        · replace hf := if_t c49 hf
          refine z_aload_n C 0 dX7_findRanks_83 rfl rfl ?_
          refine z_getr C (t := 41) (Nat.le_of_ble_eq_true rfl) rfl rfl 52 (Nat.le_of_ble_eq_true rfl) rfl kiX7_findRanks_X7 kfX7_findRanks_131 dX7_findRanks_84 ?_
          refine z_aload_n C 0 dX7_findRanks_87 rfl rfl ?_
          refine z_getr C (t := 11) (Nat.le_of_ble_eq_true rfl) rfl rfl 13 (Nat.le_of_ble_eq_true rfl) rfl kiX7_findRanks_X7 kfX7_findRanks_41 dX7_findRanks_88 ?_
          refine z_iload C 4 dX7_findRanks_91 rfl ?_
          obtain ⟨hi34, hf⟩ := ck_el hf
          refine z_iald C (k := 11) (Nat.le_of_ble_eq_true rfl) rfl hi34 dX7_findRanks_93 ?_
          obtain ⟨hi35, hf⟩ := ck_el hf
          refine z_iald C (k := 41) (Nat.le_of_ble_eq_true rfl) rfl hi35 dX7_findRanks_94 ?_
          refine z_aload_n C 0 dX7_findRanks_95 rfl rfl ?_
          refine z_getr C (t := 10) (Nat.le_of_ble_eq_true rfl) rfl rfl 12 (Nat.le_of_ble_eq_true rfl) rfl kiX7_findRanks_X7 kfX7_findRanks_38 dX7_findRanks_96 ?_
          refine z_iload C 4 dX7_findRanks_99 rfl ?_
          obtain ⟨hi36, hf⟩ := ck_el hf
          refine z_iald C (k := 10) (Nat.le_of_ble_eq_true rfl) rfl hi36 dX7_findRanks_101 ?_
          refine z_iconst C (v := 2) dX7_findRanks_102 rfl ?_
          obtain ⟨y37, hg, hf⟩ := zb_el hf
          have hj : zGo MM K m13 [(0, .ref ((zw K).2.1 0)), (1, .int i8), (2, .int i10), (3, .int i12)] 111 [.int y37, .int (m13 41 (Int32.toNatClampNeg (m13 11 (Int32.toNatClampNeg x15))))] := by
            refine z_iadd C dX7_findRanks_111 ?_
            refine z_topi (fun x38 e_x38 => ?_)
            replace hf := bn_to e_x38 hf
            refine z_istore C (lv2 := [(0, .ref ((zw K).2.1 0)), (1, .int i8), (2, .int i10), (3, .int i12), (5, .int x38)]) [1, 2, 3, 4, 0] dX7_findRanks_112 (Nat.le_of_ble_eq_true rfl) rfl ?_
            refine z_aload_n C 0 dX7_findRanks_114 rfl rfl ?_
            refine z_getr C (t := 41) (Nat.le_of_ble_eq_true rfl) rfl rfl 52 (Nat.le_of_ble_eq_true rfl) rfl kiX7_findRanks_X7 kfX7_findRanks_131 dX7_findRanks_115 ?_
            refine z_iload_n C 2 dX7_findRanks_118 rfl rfl ?_
            refine z_iload C 4 dX7_findRanks_119 rfl ?_
            refine z_aload_n C 0 dX7_findRanks_121 rfl rfl ?_
            refine z_getr C (t := 41) (Nat.le_of_ble_eq_true rfl) rfl rfl 52 (Nat.le_of_ble_eq_true rfl) rfl kiX7_findRanks_X7 kfX7_findRanks_131 dX7_findRanks_122 ?_
            refine z_iload_n C 2 dX7_findRanks_125 rfl rfl ?_
            obtain ⟨hi39, hf⟩ := ck_el hf
            refine z_iald C (k := 41) (Nat.le_of_ble_eq_true rfl) rfl hi39 dX7_findRanks_126 ?_
            refine z_icmp_le (tgt := 135) C dX7_findRanks_127 (by decide) (fun c47 => ?_) (fun c47 => ?_)
            · replace hf := if_t c47 hf
              refine z_aload_n C 0 dX7_findRanks_135 rfl rfl ?_
              refine z_getr C (t := 41) (Nat.le_of_ble_eq_true rfl) rfl rfl 52 (Nat.le_of_ble_eq_true rfl) rfl kiX7_findRanks_X7 kfX7_findRanks_131 dX7_findRanks_136 ?_
              refine z_iload_n C 2 dX7_findRanks_139 rfl rfl ?_
              obtain ⟨hi40, hf⟩ := ck_el hf
              refine z_iald C (k := 41) (Nat.le_of_ble_eq_true rfl) rfl hi40 dX7_findRanks_140 ?_
              obtain ⟨hi41, hf⟩ := ck_el hf
              refine z_iast C (k := 41) (Nat.le_of_ble_eq_true rfl) rfl hi41 dX7_findRanks_141 ?_
              refine z_nm (fun m42 e_m42 => ?_)
              replace hf := bn_to e_m42 hf
              obtain ⟨x43, e_x43⟩ : ∃ y : Int32, y = i12 + 1 := ⟨_, rfl⟩
              replace hf := bn_to e_x43 hf
              refine z_iinc C (lv2 := [(0, .ref ((zw K).2.1 0)), (1, .int i8), (2, .int i10), (3, .int x43), (5, .int x38)]) 3 [1, 2, 3, 0, 4] dX7_findRanks_142 rfl rfl (Nat.le_of_ble_eq_true rfl) e_x43 rfl ?_
              refine z_goto (tgt := 43) C dX7_findRanks_145 (by decide) ?_
              cases hf
              exact z_sub [0, 1, 2, 3] rfl (ih x43 m42 hz)
            · replace hf := if_f c47 hf
              refine z_iload C 4 dX7_findRanks_130 rfl ?_
              refine z_goto (tgt := 141) C dX7_findRanks_132 (by decide) ?_
              obtain ⟨hi44, hf⟩ := ck_el hf
              refine z_iast C (k := 41) (Nat.le_of_ble_eq_true rfl) rfl hi44 dX7_findRanks_141 ?_
              refine z_nm (fun m45 e_m45 => ?_)
              replace hf := bn_to e_m45 hf
              obtain ⟨x46, e_x46⟩ : ∃ y : Int32, y = i12 + 1 := ⟨_, rfl⟩
              replace hf := bn_to e_x46 hf
              refine z_iinc C (lv2 := [(0, .ref ((zw K).2.1 0)), (1, .int i8), (2, .int i10), (3, .int x46), (5, .int x38)]) 3 [1, 2, 3, 0, 4] dX7_findRanks_142 rfl rfl (Nat.le_of_ble_eq_true rfl) e_x46 rfl ?_
              refine z_goto (tgt := 43) C dX7_findRanks_145 (by decide) ?_
              cases hf
              exact z_sub [0, 1, 2, 3] rfl (ih x46 m45 hz)
          replace hf := hg
          clear hg
          refine z_icmp_ne (tgt := 110) C dX7_findRanks_103 (by decide) (fun c48 => ?_) (fun c48 => ?_)
          · replace hf := if_f c48 hf
            refine z_iconst C (v := 0) dX7_findRanks_110 rfl ?_
            cases hf
            exact z_sub [0, 1, 2, 3] rfl hj
          · replace hf := if_t c48 hf
            refine z_iconst C (v := 1) dX7_findRanks_106 rfl ?_
            refine z_goto (tgt := 111) C dX7_findRanks_107 (by decide) ?_
            cases hf
            exact z_sub [0, 1, 2, 3] rfl hj
set_option maxRecDepth 100000 in
set_option maxHeartbeats 4000000 in
theorem w_X7_findRanks_33 {K : ZK} (C : zOK MM K cX7_findRanks 6 none RX7 wsX7_findRanks rmX7_findRanks) {i8 : Int32}  {o0 : Mem} (hk : zGo MM K o0 [(0, .ref ((zw K).2.1 0)), (1, .int i8)] 154 []) : ∀ (n : Nat) (i10 : Int32) (m11 : Mem), l_X7_findRanks_33  n i10 m11 = some o0 → zGo MM K m11 [(0, .ref ((zw K).2.1 0)), (1, .int i8), (2, .int i10)] 33 [] := by
  intro n
  induction n with
  | zero =>
    intro i10 m11 hf
    cases hf
  | succ n ih =>
    intro i10 m11 hf
    obtain ⟨z, hf, hz⟩ := zlp_el hf
    replace hf : t_X7_findRanks_33  i10 m11 = some z := hf
    unfold t_X7_findRanks_33 at hf
    refine z_iload_n C 2 dX7_findRanks_33 rfl rfl ?_
    refine z_aload_n C 0 dX7_findRanks_34 rfl rfl ?_
    refine z_geti C (Nat.le_of_ble_eq_true rfl) rfl rfl 7 (Nat.le_of_ble_eq_true rfl) rfl kiX7_findRanks_X7 kfX7_findRanks_258 dX7_findRanks_35 ?_
    refine z_icmp_ge (tgt := 154) C dX7_findRanks_38 (by decide) (fun c54 => ?_) (fun c54 => ?_)
    · replace hf := if_t c54 hf
      cases hf
      replace hz := zlz_r hz
      cases hz
      exact z_sub [0, 1] rfl hk
    · replace hf := if_f c54 hf
      refine z_iconst C (v := 0) dX7_findRanks_41 rfl ?_
      refine z_istore_n C (lv2 := [(0, .ref ((zw K).2.1 0)), (1, .int i8), (2, .int i10), (3, .int 0)]) [1, 2, 3, 0] dX7_findRanks_42 rfl (Nat.le_of_ble_eq_true rfl) rfl ?_
      obtain ⟨m52, hg, hf⟩ := zb_el hf
      refine z_sub [0, 1, 2, 3] rfl (w_X7_findRanks_43 C  ?_ _ _ _ hg)
      clear hg
      obtain ⟨x53, e_x53⟩ : ∃ y : Int32, y = i10 + 1 := ⟨_, rfl⟩
      replace hf := bn_to e_x53 hf
      refine z_iinc C (lv2 := [(0, .ref ((zw K).2.1 0)), (1, .int i8), (2, .int x53)]) 2 [1, 2, 0] dX7_findRanks_148 rfl rfl (Nat.le_of_ble_eq_true rfl) e_x53 rfl ?_
      refine z_goto (tgt := 33) C dX7_findRanks_151 (by decide) ?_
      cases hf
      exact z_sub [0, 1, 2] rfl (ih x53 m52 hz)
set_option maxRecDepth 100000 in
set_option maxHeartbeats 4000000 in
theorem w_X7_findRanks_25 {K : ZK} (C : zOK MM K cX7_findRanks 6 none RX7 wsX7_findRanks rmX7_findRanks)   {o0 : Mem} (hk : zGo MM K o0 [] 160 []) : ∀ (n : Nat) (i8 : Int32) (m9 : Mem), l_X7_findRanks_25  n i8 m9 = some o0 → zGo MM K m9 [(0, .ref ((zw K).2.1 0)), (1, .int i8)] 25 [] := by
  intro n
  induction n with
  | zero =>
    intro i8 m9 hf
    cases hf
  | succ n ih =>
    intro i8 m9 hf
    obtain ⟨z, hf, hz⟩ := zlp_el hf
    replace hf : t_X7_findRanks_25  i8 m9 = some z := hf
    unfold t_X7_findRanks_25 at hf
    refine z_iload_n C 1 dX7_findRanks_25 rfl rfl ?_
    refine z_bipush C (v := 7) dX7_findRanks_26 rfl ?_
    refine z_icmp_ge (tgt := 160) C dX7_findRanks_28 (by decide) (fun c57 => ?_) (fun c57 => ?_)
    · replace hf := if_t c57 hf
      cases hf
      replace hz := zlz_r hz
      cases hz
      exact z_sub [] rfl hk
    · replace hf := if_f c57 hf
      refine z_iconst C (v := 0) dX7_findRanks_31 rfl ?_
      refine z_istore_n C (lv2 := [(0, .ref ((zw K).2.1 0)), (1, .int i8), (2, .int 0)]) [1, 2, 0] dX7_findRanks_32 rfl (Nat.le_of_ble_eq_true rfl) rfl ?_
      obtain ⟨m55, hg, hf⟩ := zb_el hf
      refine z_sub [0, 1, 2] rfl (w_X7_findRanks_33 C  ?_ _ _ _ hg)
      clear hg
      obtain ⟨x56, e_x56⟩ : ∃ y : Int32, y = i8 + 1 := ⟨_, rfl⟩
      replace hf := bn_to e_x56 hf
      refine z_iinc C (lv2 := [(0, .ref ((zw K).2.1 0)), (1, .int x56)]) 1 [1, 0] dX7_findRanks_154 rfl rfl (Nat.le_of_ble_eq_true rfl) e_x56 rfl ?_
      refine z_goto (tgt := 25) C dX7_findRanks_157 (by decide) ?_
      cases hf
      exact z_sub [0, 1] rfl (ih x56 m55 hz)
set_option maxRecDepth 100000 in
set_option maxHeartbeats 4000000 in
theorem c_X7_findRanks (l : Launch) (w : ZW) {m : Mem}  {m9 : Mem}  (hf : s_X7_findRanks m  = some m9) : zCv MM l w yX7_findRanks wsX7_findRanks rmX7_findRanks [.ref (w.2.1 0)] m m9 := by
  refine z_met_v MM_ok (own := RX7) (by decide +kernel) rfl rfl (Nat.le_of_ble_eq_true rfl) ?_
  intro K C hKw hKl hret
  subst hKw
  subst hKl
  unfold s_X7_findRanks at hf
  show zGo MM K m [(0, .ref ((zw K).2.1 0))] 0 []
  refine z_iconst C (v := 0) dX7_findRanks_0 rfl ?_
  refine z_istore_n C (lv2 := [(0, .ref ((zw K).2.1 0)), (1, .int 0)]) [1, 0] dX7_findRanks_1 rfl (Nat.le_of_ble_eq_true rfl) rfl ?_
  obtain ⟨m7, hg, hf⟩ := zb_el hf
  refine z_sub [0, 1] rfl (w_X7_findRanks_2 C  ?_ _ _ _ hg)
  clear hg
  refine z_iconst C (v := 0) dX7_findRanks_23 rfl ?_
  refine z_istore_n C (lv2 := [(0, .ref ((zw K).2.1 0)), (1, .int 0)]) [1, 0] dX7_findRanks_24 rfl (Nat.le_of_ble_eq_true rfl) rfl ?_
  obtain ⟨m58, hg, hf⟩ := zb_el hf
  refine z_sub [0, 1] rfl (w_X7_findRanks_25 C  ?_ _ _ _ hg)
  clear hg
  have e1 := Option.some.inj hf
  subst e1
  exact hret _ _ dX7_findRanks_160
theorem dX7_isWanted_0 : decode cX7_isWanted 0 = .ok (.iconst 0, 1) := by decide +kernel
theorem dX7_isWanted_1 : decode cX7_isWanted 1 = .ok (.istore_n 3, 1) := by decide +kernel
theorem dX7_isWanted_2 : decode cX7_isWanted 2 = .ok (.iconst 0, 1) := by decide +kernel
theorem dX7_isWanted_3 : decode cX7_isWanted 3 = .ok (.istore 4, 2) := by decide +kernel
theorem dX7_isWanted_5 : decode cX7_isWanted 5 = .ok (.iload 4, 2) := by decide +kernel
theorem dX7_isWanted_7 : decode cX7_isWanted 7 = .ok (.aload_n 0, 1) := by decide +kernel
theorem dX7_isWanted_8 : decode cX7_isWanted 8 = .ok (.getfield 32, 3) := by decide +kernel
theorem dX7_isWanted_11 : decode cX7_isWanted 11 = .ok (.iload_n 1, 1) := by decide +kernel
theorem dX7_isWanted_12 : decode cX7_isWanted 12 = .ok (.iaload, 1) := by decide +kernel
theorem dX7_isWanted_13 : decode cX7_isWanted 13 = .ok (.if_icmp .ge 35, 3) := by decide +kernel
theorem dX7_isWanted_16 : decode cX7_isWanted 16 = .ok (.iload_n 3, 1) := by decide +kernel
theorem dX7_isWanted_17 : decode cX7_isWanted 17 = .ok (.ifCond .ne 19, 3) := by decide +kernel
theorem dX7_isWanted_20 : decode cX7_isWanted 20 = .ok (.aload_n 0, 1) := by decide +kernel
theorem dX7_isWanted_21 : decode cX7_isWanted 21 = .ok (.getfield 35, 3) := by decide +kernel
theorem dX7_isWanted_24 : decode cX7_isWanted 24 = .ok (.bipush 6, 2) := by decide +kernel
theorem dX7_isWanted_26 : decode cX7_isWanted 26 = .ok (.iload_n 1, 1) := by decide +kernel
theorem dX7_isWanted_27 : decode cX7_isWanted 27 = .ok (.imul, 1) := by decide +kernel
theorem dX7_isWanted_28 : decode cX7_isWanted 28 = .ok (.iload 4, 2) := by decide +kernel
theorem dX7_isWanted_30 : decode cX7_isWanted 30 = .ok (.iadd, 1) := by decide +kernel
theorem dX7_isWanted_31 : decode cX7_isWanted 31 = .ok (.iaload, 1) := by decide +kernel
theorem dX7_isWanted_32 : decode cX7_isWanted 32 = .ok (.iload_n 2, 1) := by decide +kernel
theorem dX7_isWanted_33 : decode cX7_isWanted 33 = .ok (.if_icmp .ne 7, 3) := by decide +kernel
theorem dX7_isWanted_36 : decode cX7_isWanted 36 = .ok (.iconst 1, 1) := by decide +kernel
theorem dX7_isWanted_37 : decode cX7_isWanted 37 = .ok (.goto 4, 3) := by decide +kernel
theorem dX7_isWanted_40 : decode cX7_isWanted 40 = .ok (.iconst 0, 1) := by decide +kernel
theorem dX7_isWanted_41 : decode cX7_isWanted 41 = .ok (.istore_n 3, 1) := by decide +kernel
theorem dX7_isWanted_42 : decode cX7_isWanted 42 = .ok (.iinc 4 1, 3) := by decide +kernel
theorem dX7_isWanted_45 : decode cX7_isWanted 45 = .ok (.goto (-40), 3) := by decide +kernel
theorem dX7_isWanted_48 : decode cX7_isWanted 48 = .ok (.iload_n 3, 1) := by decide +kernel
theorem dX7_isWanted_49 : decode cX7_isWanted 49 = .ok (.ireturn, 1) := by decide +kernel
def rmX7_isWanted : Room := { frames := 0, cells := 0, slots := 0, locals := 0 }
theorem zdX7_isWanted : yX7_isWanted.cls = RX7 ∧ yX7_isWanted.cls ≠ "java/lang/invoke/MethodHandle" ∧ yX7_isWanted.cls ≠ "java/lang/invoke/VarHandle" ∧ (parseMethodDescriptor yX7_isWanted.desc).map (fun d => d.parameters.length) = some 2 := by decide +kernel
theorem kiX7_isWanted_X7 : ∀ w ∈ wsX70, w ∈ wsX7_isWanted := fun _ h => (List.mem_cons_of_mem _ (List.mem_append_right _ h))
theorem kfX7_isWanted_32 : Cond.fieldLink RX7 32 "ShapeJudgeModel" "parts" "[I" ∈ wsX7_isWanted := (List.mem_of_getElem? (i := 1) rfl)
theorem kfX7_isWanted_35 : Cond.fieldLink RX7 35 "ShapeJudgeModel" "pName" "[I" ∈ wsX7_isWanted := (List.mem_of_getElem? (i := 2) rfl)
def t_X7_isWanted_5 (m : Mem) (a1 : Int32) (a2 : Int32) (i1 : Int32) (i2 : Int32) : Option ((Int32 × Int32) ⊕ (Int32)) :=
  ck (zin a1 6 = true) ((if (m 8 (Int32.toNatClampNeg a1)) ≤ i2 then (some (.inr i1)) else ((if i1 = 0 then (ck (zin (((6 : Int32) * a1) + i2) 36 = true) ((if (m 9 (Int32.toNatClampNeg (((6 : Int32) * a1) + i2))) = a2 then (bn (i2 + 1) fun x7 => some (.inl (1, x7))) else (bn (i2 + 1) fun x6 => some (.inl (0, x6)))))) else (bn (i2 + 1) fun x4 => some (.inl (1, x4)))))))
def l_X7_isWanted_5 (m : Mem) (a1 : Int32) (a2 : Int32) (n : Nat) (i1 : Int32) (i2 : Int32) : Option (Int32) := zlp n (fun a => t_X7_isWanted_5 m a1 a2 a.1 a.2) (i1, i2)
def s_X7_isWanted (m : Mem) (a1 : Int32) (a2 : Int32) : Option (Int32) :=
  ((l_X7_isWanted_5 m a1 a2 FU 0 0).bind fun y11 => ck (y11 = 0 ∨ y11 = 1) (some y11))
set_option maxRecDepth 100000 in
set_option maxHeartbeats 4000000 in
theorem w_X7_isWanted_5 {K : ZK} (C : zOK MM K cX7_isWanted 5 (some .boolean) RX7 wsX7_isWanted rmX7_isWanted) {m : Mem} {a1 : Int32} {a2 : Int32}  {o0 : Int32} (hk : zGo MM K m [(3, .int o0)] 48 []) : ∀ (n : Nat) (i1 : Int32) (i2 : Int32), l_X7_isWanted_5 m a1 a2 n i1 i2 = some o0 → zGo MM K m [(0, .ref ((zw K).2.1 0)), (1, .int a1), (2, .int a2), (3, .int i1), (4, .int i2)] 5 [] := by
  intro n
  induction n with
  | zero =>
    intro i1 i2 hf
    cases hf
  | succ n ih =>
    intro i1 i2 hf
    obtain ⟨z, hf, hz⟩ := zlp_el hf
    replace hf : t_X7_isWanted_5 m a1 a2 i1 i2 = some z := hf
    unfold t_X7_isWanted_5 at hf
    refine z_iload C 4 dX7_isWanted_5 rfl ?_
    refine z_aload_n C 0 dX7_isWanted_7 rfl rfl ?_
    refine z_getr C (t := 8) (Nat.le_of_ble_eq_true rfl) rfl rfl 10 (Nat.le_of_ble_eq_true rfl) rfl kiX7_isWanted_X7 kfX7_isWanted_32 dX7_isWanted_8 ?_
    refine z_iload_n C 1 dX7_isWanted_11 rfl rfl ?_
    obtain ⟨hi3, hf⟩ := ck_el hf
    refine z_iald C (k := 8) (Nat.le_of_ble_eq_true rfl) rfl hi3 dX7_isWanted_12 ?_
    refine z_icmp_ge (tgt := 48) C dX7_isWanted_13 (by decide) (fun c10 => ?_) (fun c10 => ?_)
    · replace hf := if_t c10 hf
      cases hf
      replace hz := zlz_r hz
      cases hz
      exact z_sub [3] rfl hk
    · replace hf := if_f c10 hf
      refine z_iload_n C 3 dX7_isWanted_16 rfl rfl ?_
      refine z_if_ne (tgt := 36) C dX7_isWanted_17 (by decide) (fun c9 => ?_) (fun c9 => ?_)
      · replace hf := if_f c9 hf
        refine z_iconst C (v := 1) dX7_isWanted_36 rfl ?_
        refine z_goto (tgt := 41) C dX7_isWanted_37 (by decide) ?_
        refine z_istore_n C (lv2 := [(0, .ref ((zw K).2.1 0)), (1, .int a1), (2, .int a2), (3, .int 1), (4, .int i2)]) [1, 2, 3, 0, 4] dX7_isWanted_41 rfl (Nat.le_of_ble_eq_true rfl) rfl ?_
        obtain ⟨x4, e_x4⟩ : ∃ y : Int32, y = i2 + 1 := ⟨_, rfl⟩
        replace hf := bn_to e_x4 hf
        refine z_iinc C (lv2 := [(0, .ref ((zw K).2.1 0)), (1, .int a1), (2, .int a2), (3, .int 1), (4, .int x4)]) 4 [1, 2, 3, 4, 0] dX7_isWanted_42 rfl rfl (Nat.le_of_ble_eq_true rfl) e_x4 rfl ?_
        refine z_goto (tgt := 5) C dX7_isWanted_45 (by decide) ?_
        cases hf
        exact z_sub [0, 1, 2, 3, 4] rfl (ih 1 x4 hz)
      · replace hf := if_t c9 hf
        refine z_aload_n C 0 dX7_isWanted_20 rfl rfl ?_
        refine z_getr C (t := 9) (Nat.le_of_ble_eq_true rfl) rfl rfl 11 (Nat.le_of_ble_eq_true rfl) rfl kiX7_isWanted_X7 kfX7_isWanted_35 dX7_isWanted_21 ?_
        refine z_bipush C (v := 6) dX7_isWanted_24 rfl ?_
        refine z_iload_n C 1 dX7_isWanted_26 rfl rfl ?_
        refine z_imul C dX7_isWanted_27 ?_
        refine z_iload C 4 dX7_isWanted_28 rfl ?_
        refine z_iadd C dX7_isWanted_30 ?_
        obtain ⟨hi5, hf⟩ := ck_el hf
        refine z_iald C (k := 9) (Nat.le_of_ble_eq_true rfl) rfl hi5 dX7_isWanted_31 ?_
        refine z_iload_n C 2 dX7_isWanted_32 rfl rfl ?_
        refine z_icmp_ne (tgt := 40) C dX7_isWanted_33 (by decide) (fun c8 => ?_) (fun c8 => ?_)
        · replace hf := if_f c8 hf
          refine z_iconst C (v := 0) dX7_isWanted_40 rfl ?_
          refine z_istore_n C (lv2 := [(0, .ref ((zw K).2.1 0)), (1, .int a1), (2, .int a2), (3, .int 0), (4, .int i2)]) [1, 2, 3, 0, 4] dX7_isWanted_41 rfl (Nat.le_of_ble_eq_true rfl) rfl ?_
          obtain ⟨x6, e_x6⟩ : ∃ y : Int32, y = i2 + 1 := ⟨_, rfl⟩
          replace hf := bn_to e_x6 hf
          refine z_iinc C (lv2 := [(0, .ref ((zw K).2.1 0)), (1, .int a1), (2, .int a2), (3, .int 0), (4, .int x6)]) 4 [1, 2, 3, 4, 0] dX7_isWanted_42 rfl rfl (Nat.le_of_ble_eq_true rfl) e_x6 rfl ?_
          refine z_goto (tgt := 5) C dX7_isWanted_45 (by decide) ?_
          cases hf
          exact z_sub [0, 1, 2, 3, 4] rfl (ih 0 x6 hz)
        · replace hf := if_t c8 hf
          refine z_iconst C (v := 1) dX7_isWanted_36 rfl ?_
          refine z_goto (tgt := 41) C dX7_isWanted_37 (by decide) ?_
          refine z_istore_n C (lv2 := [(0, .ref ((zw K).2.1 0)), (1, .int a1), (2, .int a2), (3, .int 1), (4, .int i2)]) [1, 2, 3, 0, 4] dX7_isWanted_41 rfl (Nat.le_of_ble_eq_true rfl) rfl ?_
          obtain ⟨x7, e_x7⟩ : ∃ y : Int32, y = i2 + 1 := ⟨_, rfl⟩
          replace hf := bn_to e_x7 hf
          refine z_iinc C (lv2 := [(0, .ref ((zw K).2.1 0)), (1, .int a1), (2, .int a2), (3, .int 1), (4, .int x7)]) 4 [1, 2, 3, 4, 0] dX7_isWanted_42 rfl rfl (Nat.le_of_ble_eq_true rfl) e_x7 rfl ?_
          refine z_goto (tgt := 5) C dX7_isWanted_45 (by decide) ?_
          cases hf
          exact z_sub [0, 1, 2, 3, 4] rfl (ih 1 x7 hz)
set_option maxRecDepth 100000 in
set_option maxHeartbeats 4000000 in
theorem c_X7_isWanted (l : Launch) (w : ZW) {m : Mem} {a1 : Int32} {a2 : Int32} {r9 : Int32}  (hf : s_X7_isWanted m a1 a2 = some r9) : zCi MM l w yX7_isWanted wsX7_isWanted rmX7_isWanted [.ref (w.2.1 0), .int a1, .int a2] m m r9 := by
  refine z_met_z MM_ok (own := RX7) (by decide +kernel) rfl rfl (Nat.le_of_ble_eq_true rfl) ?_
  intro K C hKw hKl hret
  subst hKw
  subst hKl
  unfold s_X7_isWanted at hf
  show zGo MM K m [(0, .ref ((zw K).2.1 0)), (1, .int a1), (2, .int a2)] 0 []
  refine z_iconst C (v := 0) dX7_isWanted_0 rfl ?_
  refine z_istore_n C (lv2 := [(0, .ref ((zw K).2.1 0)), (1, .int a1), (2, .int a2), (3, .int 0)]) [1, 2, 3, 0] dX7_isWanted_1 rfl (Nat.le_of_ble_eq_true rfl) rfl ?_
  refine z_iconst C (v := 0) dX7_isWanted_2 rfl ?_
  refine z_istore C (lv2 := [(0, .ref ((zw K).2.1 0)), (1, .int a1), (2, .int a2), (3, .int 0), (4, .int 0)]) [1, 2, 3, 4, 0] dX7_isWanted_3 (Nat.le_of_ble_eq_true rfl) rfl ?_
  obtain ⟨y11, hg, hf⟩ := zb_el hf
  refine z_sub [0, 1, 2, 3, 4] rfl (w_X7_isWanted_5 C  ?_ _ _ _ hg)
  clear hg
  refine z_iload_n C 0 dX7_isWanted_48 rfl rfl ?_
  obtain ⟨hz, hf⟩ := ck_el hf
  have e1 := Option.some.inj hf
  subst e1
  exact hret _ _ dX7_isWanted_49 hz
set_option maxRecDepth 20000 in
theorem ggX7_wantedSet_X7_isWanted : GoodIn wsX7_wantedSet wsX7_isWanted := goodIn_sub (List.forall_mem_cons.mpr ⟨(List.mem_of_getElem? (i := 7) rfl), (List.forall_mem_append.mpr ⟨(List.forall_mem_cons.mpr ⟨(List.mem_of_getElem? (i := 8) rfl), (List.forall_mem_cons.mpr ⟨(List.mem_of_getElem? (i := 9) rfl), (fun _ h => absurd h List.not_mem_nil)⟩)⟩), (fun _ h => (List.mem_cons_of_mem _ (List.mem_append_right _ h)))⟩)⟩) (by decide +kernel)
set_option maxRecDepth 20000 in
theorem gX7_wantedSet_X7_isWanted : GoodIn wsX7_wantedSet (wsV RX7 284 RX7 yX7_isWanted wsX7_isWanted) := goodIn_app (goodIn_sub (List.forall_mem_cons.mpr ⟨(List.mem_of_getElem? (i := 3) rfl), (List.forall_mem_cons.mpr ⟨(List.mem_of_getElem? (i := 4) rfl), (List.forall_mem_cons.mpr ⟨(List.mem_of_getElem? (i := 5) rfl), (List.forall_mem_cons.mpr ⟨(List.mem_of_getElem? (i := 6) rfl), (fun _ h => absurd h List.not_mem_nil)⟩)⟩)⟩)⟩) (by decide +kernel)) ggX7_wantedSet_X7_isWanted
theorem dX7_wantedSet_0 : decode cX7_wantedSet 0 = .ok (.iconst 0, 1) := by decide +kernel
theorem dX7_wantedSet_1 : decode cX7_wantedSet 1 = .ok (.istore_n 3, 1) := by decide +kernel
theorem dX7_wantedSet_2 : decode cX7_wantedSet 2 = .ok (.iconst 0, 1) := by decide +kernel
theorem dX7_wantedSet_3 : decode cX7_wantedSet 3 = .ok (.istore 4, 2) := by decide +kernel
theorem dX7_wantedSet_5 : decode cX7_wantedSet 5 = .ok (.iload 4, 2) := by decide +kernel
theorem dX7_wantedSet_7 : decode cX7_wantedSet 7 = .ok (.aload_n 0, 1) := by decide +kernel
theorem dX7_wantedSet_8 : decode cX7_wantedSet 8 = .ok (.getfield 17, 3) := by decide +kernel
theorem dX7_wantedSet_11 : decode cX7_wantedSet 11 = .ok (.iload_n 2, 1) := by decide +kernel
theorem dX7_wantedSet_12 : decode cX7_wantedSet 12 = .ok (.iaload, 1) := by decide +kernel
theorem dX7_wantedSet_13 : decode cX7_wantedSet 13 = .ok (.if_icmp .ge 39, 3) := by decide +kernel
theorem dX7_wantedSet_16 : decode cX7_wantedSet 16 = .ok (.iload_n 3, 1) := by decide +kernel
theorem dX7_wantedSet_17 : decode cX7_wantedSet 17 = .ok (.aload_n 0, 1) := by decide +kernel
theorem dX7_wantedSet_18 : decode cX7_wantedSet 18 = .ok (.iload_n 1, 1) := by decide +kernel
theorem dX7_wantedSet_19 : decode cX7_wantedSet 19 = .ok (.aload_n 0, 1) := by decide +kernel
theorem dX7_wantedSet_20 : decode cX7_wantedSet 20 = .ok (.getfield 20, 3) := by decide +kernel
theorem dX7_wantedSet_23 : decode cX7_wantedSet 23 = .ok (.iconst 5, 1) := by decide +kernel
theorem dX7_wantedSet_24 : decode cX7_wantedSet 24 = .ok (.iload_n 2, 1) := by decide +kernel
theorem dX7_wantedSet_25 : decode cX7_wantedSet 25 = .ok (.imul, 1) := by decide +kernel
theorem dX7_wantedSet_26 : decode cX7_wantedSet 26 = .ok (.iload 4, 2) := by decide +kernel
theorem dX7_wantedSet_28 : decode cX7_wantedSet 28 = .ok (.iadd, 1) := by decide +kernel
theorem dX7_wantedSet_29 : decode cX7_wantedSet 29 = .ok (.iaload, 1) := by decide +kernel
theorem dX7_wantedSet_30 : decode cX7_wantedSet 30 = .ok (.invokevirtual 284, 3) := by decide +kernel
theorem dX7_wantedSet_33 : decode cX7_wantedSet 33 = .ok (.ifCond .eq 10, 3) := by decide +kernel
theorem dX7_wantedSet_36 : decode cX7_wantedSet 36 = .ok (.iconst 1, 1) := by decide +kernel
theorem dX7_wantedSet_37 : decode cX7_wantedSet 37 = .ok (.iload 4, 2) := by decide +kernel
theorem dX7_wantedSet_39 : decode cX7_wantedSet 39 = .ok (.ishl, 1) := by decide +kernel
theorem dX7_wantedSet_40 : decode cX7_wantedSet 40 = .ok (.goto 4, 3) := by decide +kernel
theorem dX7_wantedSet_43 : decode cX7_wantedSet 43 = .ok (.iconst 0, 1) := by decide +kernel
theorem dX7_wantedSet_44 : decode cX7_wantedSet 44 = .ok (.ior, 1) := by decide +kernel
theorem dX7_wantedSet_45 : decode cX7_wantedSet 45 = .ok (.istore_n 3, 1) := by decide +kernel
theorem dX7_wantedSet_46 : decode cX7_wantedSet 46 = .ok (.iinc 4 1, 3) := by decide +kernel
theorem dX7_wantedSet_49 : decode cX7_wantedSet 49 = .ok (.goto (-44), 3) := by decide +kernel
theorem dX7_wantedSet_52 : decode cX7_wantedSet 52 = .ok (.iload_n 3, 1) := by decide +kernel
theorem dX7_wantedSet_53 : decode cX7_wantedSet 53 = .ok (.ireturn, 1) := by decide +kernel
def rmX7_wantedSet : Room := { frames := 1, cells := 0, slots := 0, locals := 24 }
theorem zdX7_wantedSet : yX7_wantedSet.cls = RX7 ∧ yX7_wantedSet.cls ≠ "java/lang/invoke/MethodHandle" ∧ yX7_wantedSet.cls ≠ "java/lang/invoke/VarHandle" ∧ (parseMethodDescriptor yX7_wantedSet.desc).map (fun d => d.parameters.length) = some 2 := by decide +kernel
theorem kiX7_wantedSet_X7 : ∀ w ∈ wsX70, w ∈ wsX7_wantedSet := fun _ h => (List.mem_cons_of_mem _ (List.mem_append_right _ h))
theorem kfX7_wantedSet_17 : Cond.fieldLink RX7 17 "ShapeJudgeModel" "many" "[I" ∈ wsX7_wantedSet := (List.mem_of_getElem? (i := 1) rfl)
theorem kfX7_wantedSet_20 : Cond.fieldLink RX7 20 "ShapeJudgeModel" "names" "[I" ∈ wsX7_wantedSet := (List.mem_of_getElem? (i := 2) rfl)
def t_X7_wantedSet_5 (m : Mem) (a1 : Int32) (a2 : Int32) (i1 : Int32) (i2 : Int32) : Option ((Int32 × Int32) ⊕ (Int32)) :=
  ck (zin a2 10 = true) ((if (m 3 (Int32.toNatClampNeg a2)) ≤ i2 then (some (.inr i1)) else (ck (zin (((5 : Int32) * a2) + i2) 50 = true) ((s_X7_isWanted m a1 (m 4 (Int32.toNatClampNeg (((5 : Int32) * a2) + i2)))).bind fun r6 => (if r6 = 0 then (bn (i1 ||| 0) fun x7 => bn (i2 + 1) fun x8 => some (.inl (x7, x8))) else (bn (i1 ||| ((1 : Int32) <<< (i2 &&& 31))) fun x9 => bn (i2 + 1) fun x10 => some (.inl (x9, x10))))))))
def l_X7_wantedSet_5 (m : Mem) (a1 : Int32) (a2 : Int32) (n : Nat) (i1 : Int32) (i2 : Int32) : Option (Int32) := zlp n (fun a => t_X7_wantedSet_5 m a1 a2 a.1 a.2) (i1, i2)
def s_X7_wantedSet (m : Mem) (a1 : Int32) (a2 : Int32) : Option (Int32) :=
  ((l_X7_wantedSet_5 m a1 a2 FU 0 0).bind fun y13 => some y13)
set_option maxRecDepth 100000 in
set_option maxHeartbeats 4000000 in
theorem w_X7_wantedSet_5 {K : ZK} (C : zOK MM K cX7_wantedSet 5 (some .int) RX7 wsX7_wantedSet rmX7_wantedSet) {m : Mem} {a1 : Int32} {a2 : Int32}  {o0 : Int32} (hk : zGo MM K m [(3, .int o0)] 52 []) : ∀ (n : Nat) (i1 : Int32) (i2 : Int32), l_X7_wantedSet_5 m a1 a2 n i1 i2 = some o0 → zGo MM K m [(0, .ref ((zw K).2.1 0)), (1, .int a1), (2, .int a2), (3, .int i1), (4, .int i2)] 5 [] := by
  intro n
  induction n with
  | zero =>
    intro i1 i2 hf
    cases hf
  | succ n ih =>
    intro i1 i2 hf
    obtain ⟨z, hf, hz⟩ := zlp_el hf
    replace hf : t_X7_wantedSet_5 m a1 a2 i1 i2 = some z := hf
    unfold t_X7_wantedSet_5 at hf
    refine z_iload C 4 dX7_wantedSet_5 rfl ?_
    refine z_aload_n C 0 dX7_wantedSet_7 rfl rfl ?_
    refine z_getr C (t := 3) (Nat.le_of_ble_eq_true rfl) rfl rfl 3 (Nat.le_of_ble_eq_true rfl) rfl kiX7_wantedSet_X7 kfX7_wantedSet_17 dX7_wantedSet_8 ?_
    refine z_iload_n C 2 dX7_wantedSet_11 rfl rfl ?_
    obtain ⟨hi3, hf⟩ := ck_el hf
    refine z_iald C (k := 3) (Nat.le_of_ble_eq_true rfl) rfl hi3 dX7_wantedSet_12 ?_
    refine z_icmp_ge (tgt := 52) C dX7_wantedSet_13 (by decide) (fun c12 => ?_) (fun c12 => ?_)
    · replace hf := if_t c12 hf
      cases hf
      replace hz := zlz_r hz
      cases hz
      exact z_sub [3] rfl hk
    · replace hf := if_f c12 hf
      refine z_iload_n C 3 dX7_wantedSet_16 rfl rfl ?_
      refine z_aload_n C 0 dX7_wantedSet_17 rfl rfl ?_
      refine z_iload_n C 1 dX7_wantedSet_18 rfl rfl ?_
      refine z_aload_n C 0 dX7_wantedSet_19 rfl rfl ?_
      refine z_getr C (t := 4) (Nat.le_of_ble_eq_true rfl) rfl rfl 4 (Nat.le_of_ble_eq_true rfl) rfl kiX7_wantedSet_X7 kfX7_wantedSet_20 dX7_wantedSet_20 ?_
      refine z_iconst C (v := 5) dX7_wantedSet_23 rfl ?_
      refine z_iload_n C 2 dX7_wantedSet_24 rfl rfl ?_
      refine z_imul C dX7_wantedSet_25 ?_
      refine z_iload C 4 dX7_wantedSet_26 rfl ?_
      refine z_iadd C dX7_wantedSet_28 ?_
      obtain ⟨hi4, hf⟩ := ck_el hf
      refine z_iald C (k := 4) (Nat.le_of_ble_eq_true rfl) rfl hi4 dX7_wantedSet_29 ?_
      obtain ⟨r6, hc5, hf⟩ := zb_el hf
      refine z_cVi C (c_X7_isWanted _ _ hc5) rfl gX7_wantedSet_X7_isWanted rfl rfl zdX7_isWanted rfl (Nat.le_of_ble_eq_true rfl) rfl rfl rfl ⟨Nat.le_of_ble_eq_true rfl, Nat.le_of_ble_eq_true rfl⟩ (Nat.le_of_ble_eq_true rfl) dX7_wantedSet_30 rfl ?_
      refine z_if_eq (tgt := 43) C dX7_wantedSet_33 (by decide) (fun c11 => ?_) (fun c11 => ?_)
      · replace hf := if_t c11 hf
        refine z_iconst C (v := 0) dX7_wantedSet_43 rfl ?_
        refine z_ior C dX7_wantedSet_44 ?_
        refine z_topi (fun x7 e_x7 => ?_)
        replace hf := bn_to e_x7 hf
        refine z_istore_n C (lv2 := [(0, .ref ((zw K).2.1 0)), (1, .int a1), (2, .int a2), (3, .int x7), (4, .int i2)]) [1, 2, 3, 0, 4] dX7_wantedSet_45 rfl (Nat.le_of_ble_eq_true rfl) rfl ?_
        obtain ⟨x8, e_x8⟩ : ∃ y : Int32, y = i2 + 1 := ⟨_, rfl⟩
        replace hf := bn_to e_x8 hf
        refine z_iinc C (lv2 := [(0, .ref ((zw K).2.1 0)), (1, .int a1), (2, .int a2), (3, .int x7), (4, .int x8)]) 4 [1, 2, 3, 4, 0] dX7_wantedSet_46 rfl rfl (Nat.le_of_ble_eq_true rfl) e_x8 rfl ?_
        refine z_goto (tgt := 5) C dX7_wantedSet_49 (by decide) ?_
        cases hf
        exact z_sub [0, 1, 2, 3, 4] rfl (ih x7 x8 hz)
      · replace hf := if_f c11 hf
        refine z_iconst C (v := 1) dX7_wantedSet_36 rfl ?_
        refine z_iload C 4 dX7_wantedSet_37 rfl ?_
        refine z_ishl C dX7_wantedSet_39 ?_
        refine z_goto (tgt := 44) C dX7_wantedSet_40 (by decide) ?_
        refine z_ior C dX7_wantedSet_44 ?_
        refine z_topi (fun x9 e_x9 => ?_)
        replace hf := bn_to e_x9 hf
        refine z_istore_n C (lv2 := [(0, .ref ((zw K).2.1 0)), (1, .int a1), (2, .int a2), (3, .int x9), (4, .int i2)]) [1, 2, 3, 0, 4] dX7_wantedSet_45 rfl (Nat.le_of_ble_eq_true rfl) rfl ?_
        obtain ⟨x10, e_x10⟩ : ∃ y : Int32, y = i2 + 1 := ⟨_, rfl⟩
        replace hf := bn_to e_x10 hf
        refine z_iinc C (lv2 := [(0, .ref ((zw K).2.1 0)), (1, .int a1), (2, .int a2), (3, .int x9), (4, .int x10)]) 4 [1, 2, 3, 4, 0] dX7_wantedSet_46 rfl rfl (Nat.le_of_ble_eq_true rfl) e_x10 rfl ?_
        refine z_goto (tgt := 5) C dX7_wantedSet_49 (by decide) ?_
        cases hf
        exact z_sub [0, 1, 2, 3, 4] rfl (ih x9 x10 hz)
set_option maxRecDepth 100000 in
set_option maxHeartbeats 4000000 in
theorem c_X7_wantedSet (l : Launch) (w : ZW) {m : Mem} {a1 : Int32} {a2 : Int32} {r9 : Int32}  (hf : s_X7_wantedSet m a1 a2 = some r9) : zCi MM l w yX7_wantedSet wsX7_wantedSet rmX7_wantedSet [.ref (w.2.1 0), .int a1, .int a2] m m r9 := by
  refine z_met_i MM_ok (own := RX7) (by decide +kernel) rfl rfl (Nat.le_of_ble_eq_true rfl) ?_
  intro K C hKw hKl hret
  subst hKw
  subst hKl
  unfold s_X7_wantedSet at hf
  show zGo MM K m [(0, .ref ((zw K).2.1 0)), (1, .int a1), (2, .int a2)] 0 []
  refine z_iconst C (v := 0) dX7_wantedSet_0 rfl ?_
  refine z_istore_n C (lv2 := [(0, .ref ((zw K).2.1 0)), (1, .int a1), (2, .int a2), (3, .int 0)]) [1, 2, 3, 0] dX7_wantedSet_1 rfl (Nat.le_of_ble_eq_true rfl) rfl ?_
  refine z_iconst C (v := 0) dX7_wantedSet_2 rfl ?_
  refine z_istore C (lv2 := [(0, .ref ((zw K).2.1 0)), (1, .int a1), (2, .int a2), (3, .int 0), (4, .int 0)]) [1, 2, 3, 4, 0] dX7_wantedSet_3 (Nat.le_of_ble_eq_true rfl) rfl ?_
  obtain ⟨y13, hg, hf⟩ := zb_el hf
  refine z_sub [0, 1, 2, 3, 4] rfl (w_X7_wantedSet_5 C  ?_ _ _ _ hg)
  clear hg
  refine z_iload_n C 0 dX7_wantedSet_52 rfl rfl ?_
  have e1 := Option.some.inj hf
  subst e1
  exact hret _ _ dX7_wantedSet_53
set_option maxRecDepth 20000 in
theorem ggX7_takes_X7_in : GoodIn wsX7_takes wsX7_in := goodIn_sub (List.forall_mem_cons.mpr ⟨(List.mem_of_getElem? (i := 14) rfl), (fun _ h => absurd h List.not_mem_nil)⟩) (by decide +kernel)
set_option maxRecDepth 20000 in
theorem gX7_takes_X7_in : GoodIn wsX7_takes (va_wsS RX7 144 yX7_in wsX7_in) := goodIn_app (goodIn_sub (List.forall_mem_cons.mpr ⟨(List.mem_of_getElem? (i := 11) rfl), (List.forall_mem_cons.mpr ⟨(List.mem_of_getElem? (i := 12) rfl), (List.forall_mem_cons.mpr ⟨(List.mem_of_getElem? (i := 13) rfl), (fun _ h => absurd h List.not_mem_nil)⟩)⟩)⟩) (by decide +kernel)) ggX7_takes_X7_in
set_option maxRecDepth 100000 in
theorem daX7_takes : ∀ q ∈ ([(0, .aload_n 0, 1), (1, .getfield 20, 3), (4, .iconst 5, 1), (5, .iload_n 2, 1), (6, .imul, 1), (7, .iload_n 3, 1), (8, .iadd, 1), (9, .iaload, 1), (10, .aload_n 0, 1), (11, .getfield 35, 3), (14, .iload_n 1, 1), (15, .iaload, 1), (16, .if_icmp .eq 5, 3), (19, .iconst 0, 1), (20, .ireturn, 1), (21, .aload_n 0, 1), (22, .getfield 23, 3), (25, .iconst 5, 1), (26, .iload_n 2, 1), (27, .imul, 1), (28, .iload_n 3, 1), (29, .iadd, 1), (30, .iaload, 1), (31, .istore 5, 2), (33, .aload_n 0, 1), (34, .getfield 38, 3), (37, .iload_n 1, 1), (38, .iaload, 1), (39, .iconst 1, 1), (40, .if_icmp .ne 46, 3), (43, .iload 4, 2), (45, .ifCond .eq 23, 3), (48, .aload_n 0, 1), (49, .getfield 122, 3), (52, .bipush 10, 2), (54, .aload_n 0, 1), (55, .getfield 41, 3), (58, .iload_n 1, 1), (59, .iaload, 1), (60, .imul, 1), (61, .iload 5, 2), (63, .iadd, 1), (64, .baload, 1), (65, .goto 20, 3), (68, .aload_n 0, 1), (69, .getfield 119, 3), (72, .bipush 10, 2), (74, .aload_n 0, 1), (75, .getfield 41, 3), (78, .iload_n 1, 1), (79, .iaload, 1), (80, .imul, 1), (81, .iload 5, 2), (83, .iadd, 1), (84, .baload, 1), (85, .ireturn, 1), (86, .aload_n 0, 1), (87, .getfield 38, 3), (90, .iload_n 1, 1), (91, .iaload, 1), (92, .iconst 2, 1), (93, .if_icmp .ne 29, 3), (96, .aload_n 0, 1), (97, .getfield 119, 3), (100, .bipush 10, 2), (102, .aload_n 0, 1), (103, .getfield 41, 3), (106, .iload_n 1, 1), (107, .iaload, 1), (108, .imul, 1), (109, .iload 5, 2), (111, .iadd, 1), (112, .baload, 1), (113, .ifCond .ne 7, 3), (116, .iconst 1, 1), (117, .goto 4, 3), (120, .iconst 0, 1), (121, .ireturn, 1), (122, .aload_n 0, 1), (123, .getfield 38, 3), (126, .iload_n 1, 1), (127, .iaload, 1), (128, .ifCond .eq 41, 3), (131, .aload_n 0, 1), (132, .getfield 7, 3), (135, .iload 5, 2), (137, .baload, 1), (138, .ifCond .eq 35, 3), (141, .aload_n 0, 1), (142, .getfield 13, 3), (145, .iload 5, 2), (147, .iaload, 1), (148, .i2l, 1), (149, .aload_n 0, 1), (150, .getfield 41, 3), (153, .iload_n 1, 1), (154, .iaload, 1), (155, .i2l, 1), (156, .aload_n 0, 1), (157, .getfield 44, 3), (160, .iload_n 1, 1), (161, .iaload, 1), (162, .i2l, 1), (163, .invokestatic 144, 3), (166, .ifCond .eq 7, 3), (169, .iconst 1, 1), (170, .goto 4, 3), (173, .iconst 0, 1), (174, .ireturn, 1)] : List (Nat × Instr × Nat)), decode cX7_takes q.1 = .ok q.2 := by decide +kernel
theorem dX7_takes_0 : decode cX7_takes 0 = .ok (.aload_n 0, 1) := daX7_takes (0, .aload_n 0, 1) (List.mem_of_getElem? (i := 0) rfl)
theorem dX7_takes_1 : decode cX7_takes 1 = .ok (.getfield 20, 3) := daX7_takes (1, .getfield 20, 3) (List.mem_of_getElem? (i := 1) rfl)
theorem dX7_takes_4 : decode cX7_takes 4 = .ok (.iconst 5, 1) := daX7_takes (4, .iconst 5, 1) (List.mem_of_getElem? (i := 2) rfl)
theorem dX7_takes_5 : decode cX7_takes 5 = .ok (.iload_n 2, 1) := daX7_takes (5, .iload_n 2, 1) (List.mem_of_getElem? (i := 3) rfl)
theorem dX7_takes_6 : decode cX7_takes 6 = .ok (.imul, 1) := daX7_takes (6, .imul, 1) (List.mem_of_getElem? (i := 4) rfl)
theorem dX7_takes_7 : decode cX7_takes 7 = .ok (.iload_n 3, 1) := daX7_takes (7, .iload_n 3, 1) (List.mem_of_getElem? (i := 5) rfl)
theorem dX7_takes_8 : decode cX7_takes 8 = .ok (.iadd, 1) := daX7_takes (8, .iadd, 1) (List.mem_of_getElem? (i := 6) rfl)
theorem dX7_takes_9 : decode cX7_takes 9 = .ok (.iaload, 1) := daX7_takes (9, .iaload, 1) (List.mem_of_getElem? (i := 7) rfl)
theorem dX7_takes_10 : decode cX7_takes 10 = .ok (.aload_n 0, 1) := daX7_takes (10, .aload_n 0, 1) (List.mem_of_getElem? (i := 8) rfl)
theorem dX7_takes_11 : decode cX7_takes 11 = .ok (.getfield 35, 3) := daX7_takes (11, .getfield 35, 3) (List.mem_of_getElem? (i := 9) rfl)
theorem dX7_takes_14 : decode cX7_takes 14 = .ok (.iload_n 1, 1) := daX7_takes (14, .iload_n 1, 1) (List.mem_of_getElem? (i := 10) rfl)
theorem dX7_takes_15 : decode cX7_takes 15 = .ok (.iaload, 1) := daX7_takes (15, .iaload, 1) (List.mem_of_getElem? (i := 11) rfl)
theorem dX7_takes_16 : decode cX7_takes 16 = .ok (.if_icmp .eq 5, 3) := daX7_takes (16, .if_icmp .eq 5, 3) (List.mem_of_getElem? (i := 12) rfl)
theorem dX7_takes_19 : decode cX7_takes 19 = .ok (.iconst 0, 1) := daX7_takes (19, .iconst 0, 1) (List.mem_of_getElem? (i := 13) rfl)
theorem dX7_takes_20 : decode cX7_takes 20 = .ok (.ireturn, 1) := daX7_takes (20, .ireturn, 1) (List.mem_of_getElem? (i := 14) rfl)
theorem dX7_takes_21 : decode cX7_takes 21 = .ok (.aload_n 0, 1) := daX7_takes (21, .aload_n 0, 1) (List.mem_of_getElem? (i := 15) rfl)
theorem dX7_takes_22 : decode cX7_takes 22 = .ok (.getfield 23, 3) := daX7_takes (22, .getfield 23, 3) (List.mem_of_getElem? (i := 16) rfl)
theorem dX7_takes_25 : decode cX7_takes 25 = .ok (.iconst 5, 1) := daX7_takes (25, .iconst 5, 1) (List.mem_of_getElem? (i := 17) rfl)
theorem dX7_takes_26 : decode cX7_takes 26 = .ok (.iload_n 2, 1) := daX7_takes (26, .iload_n 2, 1) (List.mem_of_getElem? (i := 18) rfl)
theorem dX7_takes_27 : decode cX7_takes 27 = .ok (.imul, 1) := daX7_takes (27, .imul, 1) (List.mem_of_getElem? (i := 19) rfl)
theorem dX7_takes_28 : decode cX7_takes 28 = .ok (.iload_n 3, 1) := daX7_takes (28, .iload_n 3, 1) (List.mem_of_getElem? (i := 20) rfl)
theorem dX7_takes_29 : decode cX7_takes 29 = .ok (.iadd, 1) := daX7_takes (29, .iadd, 1) (List.mem_of_getElem? (i := 21) rfl)
theorem dX7_takes_30 : decode cX7_takes 30 = .ok (.iaload, 1) := daX7_takes (30, .iaload, 1) (List.mem_of_getElem? (i := 22) rfl)
theorem dX7_takes_31 : decode cX7_takes 31 = .ok (.istore 5, 2) := daX7_takes (31, .istore 5, 2) (List.mem_of_getElem? (i := 23) rfl)
theorem dX7_takes_33 : decode cX7_takes 33 = .ok (.aload_n 0, 1) := daX7_takes (33, .aload_n 0, 1) (List.mem_of_getElem? (i := 24) rfl)
theorem dX7_takes_34 : decode cX7_takes 34 = .ok (.getfield 38, 3) := daX7_takes (34, .getfield 38, 3) (List.mem_of_getElem? (i := 25) rfl)
theorem dX7_takes_37 : decode cX7_takes 37 = .ok (.iload_n 1, 1) := daX7_takes (37, .iload_n 1, 1) (List.mem_of_getElem? (i := 26) rfl)
theorem dX7_takes_38 : decode cX7_takes 38 = .ok (.iaload, 1) := daX7_takes (38, .iaload, 1) (List.mem_of_getElem? (i := 27) rfl)
theorem dX7_takes_39 : decode cX7_takes 39 = .ok (.iconst 1, 1) := daX7_takes (39, .iconst 1, 1) (List.mem_of_getElem? (i := 28) rfl)
theorem dX7_takes_40 : decode cX7_takes 40 = .ok (.if_icmp .ne 46, 3) := daX7_takes (40, .if_icmp .ne 46, 3) (List.mem_of_getElem? (i := 29) rfl)
theorem dX7_takes_43 : decode cX7_takes 43 = .ok (.iload 4, 2) := daX7_takes (43, .iload 4, 2) (List.mem_of_getElem? (i := 30) rfl)
theorem dX7_takes_45 : decode cX7_takes 45 = .ok (.ifCond .eq 23, 3) := daX7_takes (45, .ifCond .eq 23, 3) (List.mem_of_getElem? (i := 31) rfl)
theorem dX7_takes_48 : decode cX7_takes 48 = .ok (.aload_n 0, 1) := daX7_takes (48, .aload_n 0, 1) (List.mem_of_getElem? (i := 32) rfl)
theorem dX7_takes_49 : decode cX7_takes 49 = .ok (.getfield 122, 3) := daX7_takes (49, .getfield 122, 3) (List.mem_of_getElem? (i := 33) rfl)
theorem dX7_takes_52 : decode cX7_takes 52 = .ok (.bipush 10, 2) := daX7_takes (52, .bipush 10, 2) (List.mem_of_getElem? (i := 34) rfl)
theorem dX7_takes_54 : decode cX7_takes 54 = .ok (.aload_n 0, 1) := daX7_takes (54, .aload_n 0, 1) (List.mem_of_getElem? (i := 35) rfl)
theorem dX7_takes_55 : decode cX7_takes 55 = .ok (.getfield 41, 3) := daX7_takes (55, .getfield 41, 3) (List.mem_of_getElem? (i := 36) rfl)
theorem dX7_takes_58 : decode cX7_takes 58 = .ok (.iload_n 1, 1) := daX7_takes (58, .iload_n 1, 1) (List.mem_of_getElem? (i := 37) rfl)
theorem dX7_takes_59 : decode cX7_takes 59 = .ok (.iaload, 1) := daX7_takes (59, .iaload, 1) (List.mem_of_getElem? (i := 38) rfl)
theorem dX7_takes_60 : decode cX7_takes 60 = .ok (.imul, 1) := daX7_takes (60, .imul, 1) (List.mem_of_getElem? (i := 39) rfl)
theorem dX7_takes_61 : decode cX7_takes 61 = .ok (.iload 5, 2) := daX7_takes (61, .iload 5, 2) (List.mem_of_getElem? (i := 40) rfl)
theorem dX7_takes_63 : decode cX7_takes 63 = .ok (.iadd, 1) := daX7_takes (63, .iadd, 1) (List.mem_of_getElem? (i := 41) rfl)
theorem dX7_takes_64 : decode cX7_takes 64 = .ok (.baload, 1) := daX7_takes (64, .baload, 1) (List.mem_of_getElem? (i := 42) rfl)
theorem dX7_takes_65 : decode cX7_takes 65 = .ok (.goto 20, 3) := daX7_takes (65, .goto 20, 3) (List.mem_of_getElem? (i := 43) rfl)
theorem dX7_takes_68 : decode cX7_takes 68 = .ok (.aload_n 0, 1) := daX7_takes (68, .aload_n 0, 1) (List.mem_of_getElem? (i := 44) rfl)
theorem dX7_takes_69 : decode cX7_takes 69 = .ok (.getfield 119, 3) := daX7_takes (69, .getfield 119, 3) (List.mem_of_getElem? (i := 45) rfl)
theorem dX7_takes_72 : decode cX7_takes 72 = .ok (.bipush 10, 2) := daX7_takes (72, .bipush 10, 2) (List.mem_of_getElem? (i := 46) rfl)
theorem dX7_takes_74 : decode cX7_takes 74 = .ok (.aload_n 0, 1) := daX7_takes (74, .aload_n 0, 1) (List.mem_of_getElem? (i := 47) rfl)
theorem dX7_takes_75 : decode cX7_takes 75 = .ok (.getfield 41, 3) := daX7_takes (75, .getfield 41, 3) (List.mem_of_getElem? (i := 48) rfl)
theorem dX7_takes_78 : decode cX7_takes 78 = .ok (.iload_n 1, 1) := daX7_takes (78, .iload_n 1, 1) (List.mem_of_getElem? (i := 49) rfl)
theorem dX7_takes_79 : decode cX7_takes 79 = .ok (.iaload, 1) := daX7_takes (79, .iaload, 1) (List.mem_of_getElem? (i := 50) rfl)
theorem dX7_takes_80 : decode cX7_takes 80 = .ok (.imul, 1) := daX7_takes (80, .imul, 1) (List.mem_of_getElem? (i := 51) rfl)
theorem dX7_takes_81 : decode cX7_takes 81 = .ok (.iload 5, 2) := daX7_takes (81, .iload 5, 2) (List.mem_of_getElem? (i := 52) rfl)
theorem dX7_takes_83 : decode cX7_takes 83 = .ok (.iadd, 1) := daX7_takes (83, .iadd, 1) (List.mem_of_getElem? (i := 53) rfl)
theorem dX7_takes_84 : decode cX7_takes 84 = .ok (.baload, 1) := daX7_takes (84, .baload, 1) (List.mem_of_getElem? (i := 54) rfl)
theorem dX7_takes_85 : decode cX7_takes 85 = .ok (.ireturn, 1) := daX7_takes (85, .ireturn, 1) (List.mem_of_getElem? (i := 55) rfl)
theorem dX7_takes_86 : decode cX7_takes 86 = .ok (.aload_n 0, 1) := daX7_takes (86, .aload_n 0, 1) (List.mem_of_getElem? (i := 56) rfl)
theorem dX7_takes_87 : decode cX7_takes 87 = .ok (.getfield 38, 3) := daX7_takes (87, .getfield 38, 3) (List.mem_of_getElem? (i := 57) rfl)
theorem dX7_takes_90 : decode cX7_takes 90 = .ok (.iload_n 1, 1) := daX7_takes (90, .iload_n 1, 1) (List.mem_of_getElem? (i := 58) rfl)
theorem dX7_takes_91 : decode cX7_takes 91 = .ok (.iaload, 1) := daX7_takes (91, .iaload, 1) (List.mem_of_getElem? (i := 59) rfl)
theorem dX7_takes_92 : decode cX7_takes 92 = .ok (.iconst 2, 1) := daX7_takes (92, .iconst 2, 1) (List.mem_of_getElem? (i := 60) rfl)
theorem dX7_takes_93 : decode cX7_takes 93 = .ok (.if_icmp .ne 29, 3) := daX7_takes (93, .if_icmp .ne 29, 3) (List.mem_of_getElem? (i := 61) rfl)
theorem dX7_takes_96 : decode cX7_takes 96 = .ok (.aload_n 0, 1) := daX7_takes (96, .aload_n 0, 1) (List.mem_of_getElem? (i := 62) rfl)
theorem dX7_takes_97 : decode cX7_takes 97 = .ok (.getfield 119, 3) := daX7_takes (97, .getfield 119, 3) (List.mem_of_getElem? (i := 63) rfl)
theorem dX7_takes_100 : decode cX7_takes 100 = .ok (.bipush 10, 2) := daX7_takes (100, .bipush 10, 2) (List.mem_of_getElem? (i := 64) rfl)
theorem dX7_takes_102 : decode cX7_takes 102 = .ok (.aload_n 0, 1) := daX7_takes (102, .aload_n 0, 1) (List.mem_of_getElem? (i := 65) rfl)
theorem dX7_takes_103 : decode cX7_takes 103 = .ok (.getfield 41, 3) := daX7_takes (103, .getfield 41, 3) (List.mem_of_getElem? (i := 66) rfl)
theorem dX7_takes_106 : decode cX7_takes 106 = .ok (.iload_n 1, 1) := daX7_takes (106, .iload_n 1, 1) (List.mem_of_getElem? (i := 67) rfl)
theorem dX7_takes_107 : decode cX7_takes 107 = .ok (.iaload, 1) := daX7_takes (107, .iaload, 1) (List.mem_of_getElem? (i := 68) rfl)
theorem dX7_takes_108 : decode cX7_takes 108 = .ok (.imul, 1) := daX7_takes (108, .imul, 1) (List.mem_of_getElem? (i := 69) rfl)
theorem dX7_takes_109 : decode cX7_takes 109 = .ok (.iload 5, 2) := daX7_takes (109, .iload 5, 2) (List.mem_of_getElem? (i := 70) rfl)
theorem dX7_takes_111 : decode cX7_takes 111 = .ok (.iadd, 1) := daX7_takes (111, .iadd, 1) (List.mem_of_getElem? (i := 71) rfl)
theorem dX7_takes_112 : decode cX7_takes 112 = .ok (.baload, 1) := daX7_takes (112, .baload, 1) (List.mem_of_getElem? (i := 72) rfl)
theorem dX7_takes_113 : decode cX7_takes 113 = .ok (.ifCond .ne 7, 3) := daX7_takes (113, .ifCond .ne 7, 3) (List.mem_of_getElem? (i := 73) rfl)
theorem dX7_takes_116 : decode cX7_takes 116 = .ok (.iconst 1, 1) := daX7_takes (116, .iconst 1, 1) (List.mem_of_getElem? (i := 74) rfl)
theorem dX7_takes_117 : decode cX7_takes 117 = .ok (.goto 4, 3) := daX7_takes (117, .goto 4, 3) (List.mem_of_getElem? (i := 75) rfl)
theorem dX7_takes_120 : decode cX7_takes 120 = .ok (.iconst 0, 1) := daX7_takes (120, .iconst 0, 1) (List.mem_of_getElem? (i := 76) rfl)
theorem dX7_takes_121 : decode cX7_takes 121 = .ok (.ireturn, 1) := daX7_takes (121, .ireturn, 1) (List.mem_of_getElem? (i := 77) rfl)
theorem dX7_takes_122 : decode cX7_takes 122 = .ok (.aload_n 0, 1) := daX7_takes (122, .aload_n 0, 1) (List.mem_of_getElem? (i := 78) rfl)
theorem dX7_takes_123 : decode cX7_takes 123 = .ok (.getfield 38, 3) := daX7_takes (123, .getfield 38, 3) (List.mem_of_getElem? (i := 79) rfl)
theorem dX7_takes_126 : decode cX7_takes 126 = .ok (.iload_n 1, 1) := daX7_takes (126, .iload_n 1, 1) (List.mem_of_getElem? (i := 80) rfl)
theorem dX7_takes_127 : decode cX7_takes 127 = .ok (.iaload, 1) := daX7_takes (127, .iaload, 1) (List.mem_of_getElem? (i := 81) rfl)
theorem dX7_takes_128 : decode cX7_takes 128 = .ok (.ifCond .eq 41, 3) := daX7_takes (128, .ifCond .eq 41, 3) (List.mem_of_getElem? (i := 82) rfl)
theorem dX7_takes_131 : decode cX7_takes 131 = .ok (.aload_n 0, 1) := daX7_takes (131, .aload_n 0, 1) (List.mem_of_getElem? (i := 83) rfl)
theorem dX7_takes_132 : decode cX7_takes 132 = .ok (.getfield 7, 3) := daX7_takes (132, .getfield 7, 3) (List.mem_of_getElem? (i := 84) rfl)
theorem dX7_takes_135 : decode cX7_takes 135 = .ok (.iload 5, 2) := daX7_takes (135, .iload 5, 2) (List.mem_of_getElem? (i := 85) rfl)
theorem dX7_takes_137 : decode cX7_takes 137 = .ok (.baload, 1) := daX7_takes (137, .baload, 1) (List.mem_of_getElem? (i := 86) rfl)
theorem dX7_takes_138 : decode cX7_takes 138 = .ok (.ifCond .eq 35, 3) := daX7_takes (138, .ifCond .eq 35, 3) (List.mem_of_getElem? (i := 87) rfl)
theorem dX7_takes_141 : decode cX7_takes 141 = .ok (.aload_n 0, 1) := daX7_takes (141, .aload_n 0, 1) (List.mem_of_getElem? (i := 88) rfl)
theorem dX7_takes_142 : decode cX7_takes 142 = .ok (.getfield 13, 3) := daX7_takes (142, .getfield 13, 3) (List.mem_of_getElem? (i := 89) rfl)
theorem dX7_takes_145 : decode cX7_takes 145 = .ok (.iload 5, 2) := daX7_takes (145, .iload 5, 2) (List.mem_of_getElem? (i := 90) rfl)
theorem dX7_takes_147 : decode cX7_takes 147 = .ok (.iaload, 1) := daX7_takes (147, .iaload, 1) (List.mem_of_getElem? (i := 91) rfl)
theorem dX7_takes_148 : decode cX7_takes 148 = .ok (.i2l, 1) := daX7_takes (148, .i2l, 1) (List.mem_of_getElem? (i := 92) rfl)
theorem dX7_takes_149 : decode cX7_takes 149 = .ok (.aload_n 0, 1) := daX7_takes (149, .aload_n 0, 1) (List.mem_of_getElem? (i := 93) rfl)
theorem dX7_takes_150 : decode cX7_takes 150 = .ok (.getfield 41, 3) := daX7_takes (150, .getfield 41, 3) (List.mem_of_getElem? (i := 94) rfl)
theorem dX7_takes_153 : decode cX7_takes 153 = .ok (.iload_n 1, 1) := daX7_takes (153, .iload_n 1, 1) (List.mem_of_getElem? (i := 95) rfl)
theorem dX7_takes_154 : decode cX7_takes 154 = .ok (.iaload, 1) := daX7_takes (154, .iaload, 1) (List.mem_of_getElem? (i := 96) rfl)
theorem dX7_takes_155 : decode cX7_takes 155 = .ok (.i2l, 1) := daX7_takes (155, .i2l, 1) (List.mem_of_getElem? (i := 97) rfl)
theorem dX7_takes_156 : decode cX7_takes 156 = .ok (.aload_n 0, 1) := daX7_takes (156, .aload_n 0, 1) (List.mem_of_getElem? (i := 98) rfl)
theorem dX7_takes_157 : decode cX7_takes 157 = .ok (.getfield 44, 3) := daX7_takes (157, .getfield 44, 3) (List.mem_of_getElem? (i := 99) rfl)
theorem dX7_takes_160 : decode cX7_takes 160 = .ok (.iload_n 1, 1) := daX7_takes (160, .iload_n 1, 1) (List.mem_of_getElem? (i := 100) rfl)
theorem dX7_takes_161 : decode cX7_takes 161 = .ok (.iaload, 1) := daX7_takes (161, .iaload, 1) (List.mem_of_getElem? (i := 101) rfl)
theorem dX7_takes_162 : decode cX7_takes 162 = .ok (.i2l, 1) := daX7_takes (162, .i2l, 1) (List.mem_of_getElem? (i := 102) rfl)
theorem dX7_takes_163 : decode cX7_takes 163 = .ok (.invokestatic 144, 3) := daX7_takes (163, .invokestatic 144, 3) (List.mem_of_getElem? (i := 103) rfl)
theorem dX7_takes_166 : decode cX7_takes 166 = .ok (.ifCond .eq 7, 3) := daX7_takes (166, .ifCond .eq 7, 3) (List.mem_of_getElem? (i := 104) rfl)
theorem dX7_takes_169 : decode cX7_takes 169 = .ok (.iconst 1, 1) := daX7_takes (169, .iconst 1, 1) (List.mem_of_getElem? (i := 105) rfl)
theorem dX7_takes_170 : decode cX7_takes 170 = .ok (.goto 4, 3) := daX7_takes (170, .goto 4, 3) (List.mem_of_getElem? (i := 106) rfl)
theorem dX7_takes_173 : decode cX7_takes 173 = .ok (.iconst 0, 1) := daX7_takes (173, .iconst 0, 1) (List.mem_of_getElem? (i := 107) rfl)
theorem dX7_takes_174 : decode cX7_takes 174 = .ok (.ireturn, 1) := daX7_takes (174, .ireturn, 1) (List.mem_of_getElem? (i := 108) rfl)
def rmX7_takes : Room := { frames := 1, cells := 0, slots := 0, locals := 25 }
theorem zdX7_takes : yX7_takes.cls = RX7 ∧ yX7_takes.cls ≠ "java/lang/invoke/MethodHandle" ∧ yX7_takes.cls ≠ "java/lang/invoke/VarHandle" ∧ (parseMethodDescriptor yX7_takes.desc).map (fun d => d.parameters.length) = some 4 := by decide +kernel
theorem kiX7_takes_X7 : ∀ w ∈ wsX70, w ∈ wsX7_takes := fun _ h => (List.mem_cons_of_mem _ (List.mem_append_right _ h))
theorem kfX7_takes_20 : Cond.fieldLink RX7 20 "ShapeJudgeModel" "names" "[I" ∈ wsX7_takes := (List.mem_of_getElem? (i := 1) rfl)
theorem kfX7_takes_35 : Cond.fieldLink RX7 35 "ShapeJudgeModel" "pName" "[I" ∈ wsX7_takes := (List.mem_of_getElem? (i := 2) rfl)
theorem kfX7_takes_23 : Cond.fieldLink RX7 23 "ShapeJudgeModel" "tos" "[I" ∈ wsX7_takes := (List.mem_of_getElem? (i := 3) rfl)
theorem kfX7_takes_38 : Cond.fieldLink RX7 38 "ShapeJudgeModel" "pTest" "[I" ∈ wsX7_takes := (List.mem_of_getElem? (i := 4) rfl)
theorem kfX7_takes_7 : Cond.fieldLink RX7 7 "ShapeJudgeModel" "hasValue" "[Z" ∈ wsX7_takes := (List.mem_of_getElem? (i := 8) rfl)
theorem kfX7_takes_13 : Cond.fieldLink RX7 13 "ShapeJudgeModel" "values" "[I" ∈ wsX7_takes := (List.mem_of_getElem? (i := 9) rfl)
theorem kfX7_takes_41 : Cond.fieldLink RX7 41 "ShapeJudgeModel" "pFirst" "[I" ∈ wsX7_takes := (List.mem_of_getElem? (i := 6) rfl)
theorem kfX7_takes_44 : Cond.fieldLink RX7 44 "ShapeJudgeModel" "pSecond" "[I" ∈ wsX7_takes := (List.mem_of_getElem? (i := 10) rfl)
theorem kfX7_takes_119 : Cond.fieldLink RX7 119 "ShapeJudgeModel" "fitting" "[Z" ∈ wsX7_takes := (List.mem_of_getElem? (i := 7) rfl)
theorem kfX7_takes_122 : Cond.fieldLink RX7 122 "ShapeJudgeModel" "sure" "[Z" ∈ wsX7_takes := (List.mem_of_getElem? (i := 5) rfl)
def s_X7_takes (m : Mem) (a1 : Int32) (a2 : Int32) (a3 : Int32) (a4 : Int32) : Option (Int32) :=
  ck (zin (((5 : Int32) * a2) + a3) 50 = true) (ck (zin a1 36 = true) ((if (m 4 (Int32.toNatClampNeg (((5 : Int32) * a2) + a3))) = (m 9 (Int32.toNatClampNeg a1)) then (ck (zin (((5 : Int32) * a2) + a3) 50 = true) (bn (m 5 (Int32.toNatClampNeg (((5 : Int32) * a2) + a3))) fun x4 => ck (zin a1 36 = true) ((if (m 10 (Int32.toNatClampNeg a1)) = 1 then ((if a4 = 0 then (ck (zin a1 36 = true) (ck (zin (((10 : Int32) * (m 11 (Int32.toNatClampNeg a1))) + x4) 60 = true) (ck ((m 37 (Int32.toNatClampNeg (((10 : Int32) * (m 11 (Int32.toNatClampNeg a1))) + x4))) = 0 ∨ (m 37 (Int32.toNatClampNeg (((10 : Int32) * (m 11 (Int32.toNatClampNeg a1))) + x4))) = 1) (some (m 37 (Int32.toNatClampNeg (((10 : Int32) * (m 11 (Int32.toNatClampNeg a1))) + x4))))))) else (ck (zin a1 36 = true) (ck (zin (((10 : Int32) * (m 11 (Int32.toNatClampNeg a1))) + x4) 60 = true) (ck ((m 38 (Int32.toNatClampNeg (((10 : Int32) * (m 11 (Int32.toNatClampNeg a1))) + x4))) = 0 ∨ (m 38 (Int32.toNatClampNeg (((10 : Int32) * (m 11 (Int32.toNatClampNeg a1))) + x4))) = 1) (some (m 38 (Int32.toNatClampNeg (((10 : Int32) * (m 11 (Int32.toNatClampNeg a1))) + x4))))))))) else (ck (zin a1 36 = true) ((if (m 10 (Int32.toNatClampNeg a1)) = 2 then (ck (zin a1 36 = true) (ck (zin (((10 : Int32) * (m 11 (Int32.toNatClampNeg a1))) + x4) 60 = true) ((if (m 37 (Int32.toNatClampNeg (((10 : Int32) * (m 11 (Int32.toNatClampNeg a1))) + x4))) = 0 then (some 1) else (some 0))))) else (ck (zin a1 36 = true) ((if (m 10 (Int32.toNatClampNeg a1)) = 0 then (some 1) else (ck (zin x4 10 = true) ((if (m 1 (Int32.toNatClampNeg x4)) = 0 then (some 0) else (ck (zin x4 10 = true) (ck (zin a1 36 = true) (ck (zin a1 36 = true) ((s_X7_in (m 2 (Int32.toNatClampNeg x4)).toInt64 (m 11 (Int32.toNatClampNeg a1)).toInt64 (m 12 (Int32.toNatClampNeg a1)).toInt64).bind fun r13 => (if r13 = 0 then (some 0) else (some 1))))))))))))))))))) else (some 0))))
set_option maxRecDepth 100000 in
set_option maxHeartbeats 4000000 in
theorem c_X7_takes (l : Launch) (w : ZW) {m : Mem} {a1 : Int32} {a2 : Int32} {a3 : Int32} {a4 : Int32} {r9 : Int32}  (hf : s_X7_takes m a1 a2 a3 a4 = some r9) : zCi MM l w yX7_takes wsX7_takes rmX7_takes [.ref (w.2.1 0), .int a1, .int a2, .int a3, .int a4] m m r9 := by
  refine z_met_z MM_ok (own := RX7) (by decide +kernel) rfl rfl (Nat.le_of_ble_eq_true rfl) ?_
  intro K C hKw hKl hret
  subst hKw
  subst hKl
  unfold s_X7_takes at hf
  show zGo MM K m [(0, .ref ((zw K).2.1 0)), (1, .int a1), (2, .int a2), (3, .int a3), (4, .int a4)] 0 []
  refine z_aload_n C 0 dX7_takes_0 rfl rfl ?_
  refine z_getr C (t := 4) (Nat.le_of_ble_eq_true rfl) rfl rfl 4 (Nat.le_of_ble_eq_true rfl) rfl kiX7_takes_X7 kfX7_takes_20 dX7_takes_1 ?_
  refine z_iconst C (v := 5) dX7_takes_4 rfl ?_
  refine z_iload_n C 2 dX7_takes_5 rfl rfl ?_
  refine z_imul C dX7_takes_6 ?_
  refine z_iload_n C 3 dX7_takes_7 rfl rfl ?_
  refine z_iadd C dX7_takes_8 ?_
  obtain ⟨hi1, hf⟩ := ck_el hf
  refine z_iald C (k := 4) (Nat.le_of_ble_eq_true rfl) rfl hi1 dX7_takes_9 ?_
  refine z_aload_n C 0 dX7_takes_10 rfl rfl ?_
  refine z_getr C (t := 9) (Nat.le_of_ble_eq_true rfl) rfl rfl 11 (Nat.le_of_ble_eq_true rfl) rfl kiX7_takes_X7 kfX7_takes_35 dX7_takes_11 ?_
  refine z_iload_n C 1 dX7_takes_14 rfl rfl ?_
  obtain ⟨hi2, hf⟩ := ck_el hf
  refine z_iald C (k := 9) (Nat.le_of_ble_eq_true rfl) rfl hi2 dX7_takes_15 ?_
  refine z_icmp_eq (tgt := 21) C dX7_takes_16 (by decide) (fun c27 => ?_) (fun c27 => ?_)
  · replace hf := if_t c27 hf
    refine z_aload_n C 0 dX7_takes_21 rfl rfl ?_
    refine z_getr C (t := 5) (Nat.le_of_ble_eq_true rfl) rfl rfl 5 (Nat.le_of_ble_eq_true rfl) rfl kiX7_takes_X7 kfX7_takes_23 dX7_takes_22 ?_
    refine z_iconst C (v := 5) dX7_takes_25 rfl ?_
    refine z_iload_n C 2 dX7_takes_26 rfl rfl ?_
    refine z_imul C dX7_takes_27 ?_
    refine z_iload_n C 3 dX7_takes_28 rfl rfl ?_
    refine z_iadd C dX7_takes_29 ?_
    obtain ⟨hi3, hf⟩ := ck_el hf
    refine z_iald C (k := 5) (Nat.le_of_ble_eq_true rfl) rfl hi3 dX7_takes_30 ?_
    refine z_topi (fun x4 e_x4 => ?_)
    replace hf := bn_to e_x4 hf
    refine z_istore C (lv2 := [(0, .ref ((zw K).2.1 0)), (1, .int a1), (2, .int a2), (3, .int a3), (4, .int a4), (5, .int x4)]) [1, 2, 3, 4, 5, 0] dX7_takes_31 (Nat.le_of_ble_eq_true rfl) rfl ?_
    refine z_aload_n C 0 dX7_takes_33 rfl rfl ?_
    refine z_getr C (t := 10) (Nat.le_of_ble_eq_true rfl) rfl rfl 12 (Nat.le_of_ble_eq_true rfl) rfl kiX7_takes_X7 kfX7_takes_38 dX7_takes_34 ?_
    refine z_iload_n C 1 dX7_takes_37 rfl rfl ?_
    obtain ⟨hi5, hf⟩ := ck_el hf
    refine z_iald C (k := 10) (Nat.le_of_ble_eq_true rfl) rfl hi5 dX7_takes_38 ?_
    refine z_iconst C (v := 1) dX7_takes_39 rfl ?_
    refine z_icmp_ne (tgt := 86) C dX7_takes_40 (by decide) (fun c26 => ?_) (fun c26 => ?_)
    · replace hf := if_f c26 hf
      refine z_aload_n C 0 dX7_takes_86 rfl rfl ?_
      refine z_getr C (t := 10) (Nat.le_of_ble_eq_true rfl) rfl rfl 12 (Nat.le_of_ble_eq_true rfl) rfl kiX7_takes_X7 kfX7_takes_38 dX7_takes_87 ?_
      refine z_iload_n C 1 dX7_takes_90 rfl rfl ?_
      obtain ⟨hi6, hf⟩ := ck_el hf
      refine z_iald C (k := 10) (Nat.le_of_ble_eq_true rfl) rfl hi6 dX7_takes_91 ?_
      refine z_iconst C (v := 2) dX7_takes_92 rfl ?_
      refine z_icmp_ne (tgt := 122) C dX7_takes_93 (by decide) (fun c20 => ?_) (fun c20 => ?_)
      · replace hf := if_f c20 hf
        refine z_aload_n C 0 dX7_takes_122 rfl rfl ?_
        refine z_getr C (t := 10) (Nat.le_of_ble_eq_true rfl) rfl rfl 12 (Nat.le_of_ble_eq_true rfl) rfl kiX7_takes_X7 kfX7_takes_38 dX7_takes_123 ?_
        refine z_iload_n C 1 dX7_takes_126 rfl rfl ?_
        obtain ⟨hi7, hf⟩ := ck_el hf
        refine z_iald C (k := 10) (Nat.le_of_ble_eq_true rfl) rfl hi7 dX7_takes_127 ?_
        refine z_if_eq (tgt := 169) C dX7_takes_128 (by decide) (fun c16 => ?_) (fun c16 => ?_)
        · replace hf := if_t c16 hf
          refine z_iconst C (v := 1) dX7_takes_169 rfl ?_
          refine z_goto (tgt := 174) C dX7_takes_170 (by decide) ?_
          have e1 := Option.some.inj hf
          subst e1
          exact hret _ _ dX7_takes_174 (Or.inr rfl)
        · replace hf := if_f c16 hf
          refine z_aload_n C 0 dX7_takes_131 rfl rfl ?_
          refine z_getr C (t := 1) (Nat.le_of_ble_eq_true rfl) rfl rfl 1 (Nat.le_of_ble_eq_true rfl) rfl kiX7_takes_X7 kfX7_takes_7 dX7_takes_132 ?_
          refine z_iload C 5 dX7_takes_135 rfl ?_
          obtain ⟨hi8, hf⟩ := ck_el hf
          refine z_zald C (k := 1) (Nat.le_of_ble_eq_true rfl) rfl hi8 dX7_takes_137 ?_
          refine z_if_eq (tgt := 173) C dX7_takes_138 (by decide) (fun c15 => ?_) (fun c15 => ?_)
          · replace hf := if_t c15 hf
            refine z_iconst C (v := 0) dX7_takes_173 rfl ?_
            have e1 := Option.some.inj hf
            subst e1
            exact hret _ _ dX7_takes_174 (Or.inl rfl)
          · replace hf := if_f c15 hf
            refine z_aload_n C 0 dX7_takes_141 rfl rfl ?_
            refine z_getr C (t := 2) (Nat.le_of_ble_eq_true rfl) rfl rfl 2 (Nat.le_of_ble_eq_true rfl) rfl kiX7_takes_X7 kfX7_takes_13 dX7_takes_142 ?_
            refine z_iload C 5 dX7_takes_145 rfl ?_
            obtain ⟨hi9, hf⟩ := ck_el hf
            refine z_iald C (k := 2) (Nat.le_of_ble_eq_true rfl) rfl hi9 dX7_takes_147 ?_
            refine z_i2l C dX7_takes_148 ?_
            refine z_aload_n C 0 dX7_takes_149 rfl rfl ?_
            refine z_getr C (t := 11) (Nat.le_of_ble_eq_true rfl) rfl rfl 13 (Nat.le_of_ble_eq_true rfl) rfl kiX7_takes_X7 kfX7_takes_41 dX7_takes_150 ?_
            refine z_iload_n C 1 dX7_takes_153 rfl rfl ?_
            obtain ⟨hi10, hf⟩ := ck_el hf
            refine z_iald C (k := 11) (Nat.le_of_ble_eq_true rfl) rfl hi10 dX7_takes_154 ?_
            refine z_i2l C dX7_takes_155 ?_
            refine z_aload_n C 0 dX7_takes_156 rfl rfl ?_
            refine z_getr C (t := 12) (Nat.le_of_ble_eq_true rfl) rfl rfl 14 (Nat.le_of_ble_eq_true rfl) rfl kiX7_takes_X7 kfX7_takes_44 dX7_takes_157 ?_
            refine z_iload_n C 1 dX7_takes_160 rfl rfl ?_
            obtain ⟨hi11, hf⟩ := ck_el hf
            refine z_iald C (k := 12) (Nat.le_of_ble_eq_true rfl) rfl hi11 dX7_takes_161 ?_
            refine z_i2l C dX7_takes_162 ?_
            obtain ⟨r13, hc12, hf⟩ := zb_el hf
            refine z_cSi C (c_X7_in _ _ hc12) rfl gX7_takes_X7_in rfl rfl zdX7_in.2 rfl ⟨Nat.le_of_ble_eq_true rfl, Nat.le_of_ble_eq_true rfl⟩ (Nat.le_of_ble_eq_true rfl) dX7_takes_163 rfl ?_
            refine z_if_eq (tgt := 173) C dX7_takes_166 (by decide) (fun c14 => ?_) (fun c14 => ?_)
            · replace hf := if_t c14 hf
              refine z_iconst C (v := 0) dX7_takes_173 rfl ?_
              have e1 := Option.some.inj hf
              subst e1
              exact hret _ _ dX7_takes_174 (Or.inl rfl)
            · replace hf := if_f c14 hf
              refine z_iconst C (v := 1) dX7_takes_169 rfl ?_
              refine z_goto (tgt := 174) C dX7_takes_170 (by decide) ?_
              have e1 := Option.some.inj hf
              subst e1
              exact hret _ _ dX7_takes_174 (Or.inr rfl)
      · replace hf := if_t c20 hf
        refine z_aload_n C 0 dX7_takes_96 rfl rfl ?_
        refine z_getr C (t := 37) (Nat.le_of_ble_eq_true rfl) rfl rfl 48 (Nat.le_of_ble_eq_true rfl) rfl kiX7_takes_X7 kfX7_takes_119 dX7_takes_97 ?_
        refine z_bipush C (v := 10) dX7_takes_100 rfl ?_
        refine z_aload_n C 0 dX7_takes_102 rfl rfl ?_
        refine z_getr C (t := 11) (Nat.le_of_ble_eq_true rfl) rfl rfl 13 (Nat.le_of_ble_eq_true rfl) rfl kiX7_takes_X7 kfX7_takes_41 dX7_takes_103 ?_
        refine z_iload_n C 1 dX7_takes_106 rfl rfl ?_
        obtain ⟨hi17, hf⟩ := ck_el hf
        refine z_iald C (k := 11) (Nat.le_of_ble_eq_true rfl) rfl hi17 dX7_takes_107 ?_
        refine z_imul C dX7_takes_108 ?_
        refine z_iload C 5 dX7_takes_109 rfl ?_
        refine z_iadd C dX7_takes_111 ?_
        obtain ⟨hi18, hf⟩ := ck_el hf
        refine z_zald C (k := 37) (Nat.le_of_ble_eq_true rfl) rfl hi18 dX7_takes_112 ?_
        refine z_if_ne (tgt := 120) C dX7_takes_113 (by decide) (fun c19 => ?_) (fun c19 => ?_)
        · replace hf := if_f c19 hf
          refine z_iconst C (v := 0) dX7_takes_120 rfl ?_
          have e1 := Option.some.inj hf
          subst e1
          exact hret _ _ dX7_takes_121 (Or.inl rfl)
        · replace hf := if_t c19 hf
          refine z_iconst C (v := 1) dX7_takes_116 rfl ?_
          refine z_goto (tgt := 121) C dX7_takes_117 (by decide) ?_
          have e1 := Option.some.inj hf
          subst e1
          exact hret _ _ dX7_takes_121 (Or.inr rfl)
    · replace hf := if_t c26 hf
      refine z_iload C 4 dX7_takes_43 rfl ?_
      refine z_if_eq (tgt := 68) C dX7_takes_45 (by decide) (fun c25 => ?_) (fun c25 => ?_)
      · replace hf := if_t c25 hf
        refine z_aload_n C 0 dX7_takes_68 rfl rfl ?_
        refine z_getr C (t := 37) (Nat.le_of_ble_eq_true rfl) rfl rfl 48 (Nat.le_of_ble_eq_true rfl) rfl kiX7_takes_X7 kfX7_takes_119 dX7_takes_69 ?_
        refine z_bipush C (v := 10) dX7_takes_72 rfl ?_
        refine z_aload_n C 0 dX7_takes_74 rfl rfl ?_
        refine z_getr C (t := 11) (Nat.le_of_ble_eq_true rfl) rfl rfl 13 (Nat.le_of_ble_eq_true rfl) rfl kiX7_takes_X7 kfX7_takes_41 dX7_takes_75 ?_
        refine z_iload_n C 1 dX7_takes_78 rfl rfl ?_
        obtain ⟨hi21, hf⟩ := ck_el hf
        refine z_iald C (k := 11) (Nat.le_of_ble_eq_true rfl) rfl hi21 dX7_takes_79 ?_
        refine z_imul C dX7_takes_80 ?_
        refine z_iload C 5 dX7_takes_81 rfl ?_
        refine z_iadd C dX7_takes_83 ?_
        obtain ⟨hi22, hf⟩ := ck_el hf
        refine z_zald C (k := 37) (Nat.le_of_ble_eq_true rfl) rfl hi22 dX7_takes_84 ?_
        obtain ⟨hz, hf⟩ := ck_el hf
        have e1 := Option.some.inj hf
        subst e1
        exact hret _ _ dX7_takes_85 hz
      · replace hf := if_f c25 hf
        refine z_aload_n C 0 dX7_takes_48 rfl rfl ?_
        refine z_getr C (t := 38) (Nat.le_of_ble_eq_true rfl) rfl rfl 49 (Nat.le_of_ble_eq_true rfl) rfl kiX7_takes_X7 kfX7_takes_122 dX7_takes_49 ?_
        refine z_bipush C (v := 10) dX7_takes_52 rfl ?_
        refine z_aload_n C 0 dX7_takes_54 rfl rfl ?_
        refine z_getr C (t := 11) (Nat.le_of_ble_eq_true rfl) rfl rfl 13 (Nat.le_of_ble_eq_true rfl) rfl kiX7_takes_X7 kfX7_takes_41 dX7_takes_55 ?_
        refine z_iload_n C 1 dX7_takes_58 rfl rfl ?_
        obtain ⟨hi23, hf⟩ := ck_el hf
        refine z_iald C (k := 11) (Nat.le_of_ble_eq_true rfl) rfl hi23 dX7_takes_59 ?_
        refine z_imul C dX7_takes_60 ?_
        refine z_iload C 5 dX7_takes_61 rfl ?_
        refine z_iadd C dX7_takes_63 ?_
        obtain ⟨hi24, hf⟩ := ck_el hf
        refine z_zald C (k := 38) (Nat.le_of_ble_eq_true rfl) rfl hi24 dX7_takes_64 ?_
        refine z_goto (tgt := 85) C dX7_takes_65 (by decide) ?_
        obtain ⟨hz, hf⟩ := ck_el hf
        have e1 := Option.some.inj hf
        subst e1
        exact hret _ _ dX7_takes_85 hz
  · replace hf := if_f c27 hf
    refine z_iconst C (v := 0) dX7_takes_19 rfl ?_
    have e1 := Option.some.inj hf
    subst e1
    exact hret _ _ dX7_takes_20 (Or.inl rfl)
set_option maxRecDepth 100000 in
theorem daX7_joined : ∀ q ∈ ([(0, .iconst 0, 1), (1, .istore_n 2, 1), (2, .iconst 0, 1), (3, .istore_n 3, 1), (4, .iload_n 3, 1), (5, .bipush 32, 2), (7, .if_icmp .ge 60, 3), (10, .iload_n 0, 1), (11, .iload_n 3, 1), (12, .ishr, 1), (13, .iconst 1, 1), (14, .iand, 1), (15, .iconst 1, 1), (16, .if_icmp .ne 45, 3), (19, .iconst 0, 1), (20, .istore 4, 2), (22, .iload 4, 2), (24, .bipush 32, 2), (26, .if_icmp .ge 35, 3), (29, .iload_n 1, 1), (30, .iload 4, 2), (32, .ishr, 1), (33, .iconst 1, 1), (34, .iand, 1), (35, .iconst 1, 1), (36, .if_icmp .ne 19, 3), (39, .iload_n 3, 1), (40, .iload 4, 2), (42, .iand, 1), (43, .ifCond .ne 12, 3), (46, .iload_n 2, 1), (47, .iconst 1, 1), (48, .iload_n 3, 1), (49, .iload 4, 2), (51, .ior, 1), (52, .ishl, 1), (53, .ior, 1), (54, .istore_n 2, 1), (55, .iinc 4 1, 3), (58, .goto (-36), 3), (61, .iinc 3 1, 3), (64, .goto (-60), 3), (67, .iload_n 2, 1), (68, .ireturn, 1)] : List (Nat × Instr × Nat)), decode cX7_joined q.1 = .ok q.2 := by decide +kernel
theorem dX7_joined_0 : decode cX7_joined 0 = .ok (.iconst 0, 1) := daX7_joined (0, .iconst 0, 1) (List.mem_of_getElem? (i := 0) rfl)
theorem dX7_joined_1 : decode cX7_joined 1 = .ok (.istore_n 2, 1) := daX7_joined (1, .istore_n 2, 1) (List.mem_of_getElem? (i := 1) rfl)
theorem dX7_joined_2 : decode cX7_joined 2 = .ok (.iconst 0, 1) := daX7_joined (2, .iconst 0, 1) (List.mem_of_getElem? (i := 2) rfl)
theorem dX7_joined_3 : decode cX7_joined 3 = .ok (.istore_n 3, 1) := daX7_joined (3, .istore_n 3, 1) (List.mem_of_getElem? (i := 3) rfl)
theorem dX7_joined_4 : decode cX7_joined 4 = .ok (.iload_n 3, 1) := daX7_joined (4, .iload_n 3, 1) (List.mem_of_getElem? (i := 4) rfl)
theorem dX7_joined_5 : decode cX7_joined 5 = .ok (.bipush 32, 2) := daX7_joined (5, .bipush 32, 2) (List.mem_of_getElem? (i := 5) rfl)
theorem dX7_joined_7 : decode cX7_joined 7 = .ok (.if_icmp .ge 60, 3) := daX7_joined (7, .if_icmp .ge 60, 3) (List.mem_of_getElem? (i := 6) rfl)
theorem dX7_joined_10 : decode cX7_joined 10 = .ok (.iload_n 0, 1) := daX7_joined (10, .iload_n 0, 1) (List.mem_of_getElem? (i := 7) rfl)
theorem dX7_joined_11 : decode cX7_joined 11 = .ok (.iload_n 3, 1) := daX7_joined (11, .iload_n 3, 1) (List.mem_of_getElem? (i := 8) rfl)
theorem dX7_joined_12 : decode cX7_joined 12 = .ok (.ishr, 1) := daX7_joined (12, .ishr, 1) (List.mem_of_getElem? (i := 9) rfl)
theorem dX7_joined_13 : decode cX7_joined 13 = .ok (.iconst 1, 1) := daX7_joined (13, .iconst 1, 1) (List.mem_of_getElem? (i := 10) rfl)
theorem dX7_joined_14 : decode cX7_joined 14 = .ok (.iand, 1) := daX7_joined (14, .iand, 1) (List.mem_of_getElem? (i := 11) rfl)
theorem dX7_joined_15 : decode cX7_joined 15 = .ok (.iconst 1, 1) := daX7_joined (15, .iconst 1, 1) (List.mem_of_getElem? (i := 12) rfl)
theorem dX7_joined_16 : decode cX7_joined 16 = .ok (.if_icmp .ne 45, 3) := daX7_joined (16, .if_icmp .ne 45, 3) (List.mem_of_getElem? (i := 13) rfl)
theorem dX7_joined_19 : decode cX7_joined 19 = .ok (.iconst 0, 1) := daX7_joined (19, .iconst 0, 1) (List.mem_of_getElem? (i := 14) rfl)
theorem dX7_joined_20 : decode cX7_joined 20 = .ok (.istore 4, 2) := daX7_joined (20, .istore 4, 2) (List.mem_of_getElem? (i := 15) rfl)
theorem dX7_joined_22 : decode cX7_joined 22 = .ok (.iload 4, 2) := daX7_joined (22, .iload 4, 2) (List.mem_of_getElem? (i := 16) rfl)
theorem dX7_joined_24 : decode cX7_joined 24 = .ok (.bipush 32, 2) := daX7_joined (24, .bipush 32, 2) (List.mem_of_getElem? (i := 17) rfl)
theorem dX7_joined_26 : decode cX7_joined 26 = .ok (.if_icmp .ge 35, 3) := daX7_joined (26, .if_icmp .ge 35, 3) (List.mem_of_getElem? (i := 18) rfl)
theorem dX7_joined_29 : decode cX7_joined 29 = .ok (.iload_n 1, 1) := daX7_joined (29, .iload_n 1, 1) (List.mem_of_getElem? (i := 19) rfl)
theorem dX7_joined_30 : decode cX7_joined 30 = .ok (.iload 4, 2) := daX7_joined (30, .iload 4, 2) (List.mem_of_getElem? (i := 20) rfl)
theorem dX7_joined_32 : decode cX7_joined 32 = .ok (.ishr, 1) := daX7_joined (32, .ishr, 1) (List.mem_of_getElem? (i := 21) rfl)
theorem dX7_joined_33 : decode cX7_joined 33 = .ok (.iconst 1, 1) := daX7_joined (33, .iconst 1, 1) (List.mem_of_getElem? (i := 22) rfl)
theorem dX7_joined_34 : decode cX7_joined 34 = .ok (.iand, 1) := daX7_joined (34, .iand, 1) (List.mem_of_getElem? (i := 23) rfl)
theorem dX7_joined_35 : decode cX7_joined 35 = .ok (.iconst 1, 1) := daX7_joined (35, .iconst 1, 1) (List.mem_of_getElem? (i := 24) rfl)
theorem dX7_joined_36 : decode cX7_joined 36 = .ok (.if_icmp .ne 19, 3) := daX7_joined (36, .if_icmp .ne 19, 3) (List.mem_of_getElem? (i := 25) rfl)
theorem dX7_joined_39 : decode cX7_joined 39 = .ok (.iload_n 3, 1) := daX7_joined (39, .iload_n 3, 1) (List.mem_of_getElem? (i := 26) rfl)
theorem dX7_joined_40 : decode cX7_joined 40 = .ok (.iload 4, 2) := daX7_joined (40, .iload 4, 2) (List.mem_of_getElem? (i := 27) rfl)
theorem dX7_joined_42 : decode cX7_joined 42 = .ok (.iand, 1) := daX7_joined (42, .iand, 1) (List.mem_of_getElem? (i := 28) rfl)
theorem dX7_joined_43 : decode cX7_joined 43 = .ok (.ifCond .ne 12, 3) := daX7_joined (43, .ifCond .ne 12, 3) (List.mem_of_getElem? (i := 29) rfl)
theorem dX7_joined_46 : decode cX7_joined 46 = .ok (.iload_n 2, 1) := daX7_joined (46, .iload_n 2, 1) (List.mem_of_getElem? (i := 30) rfl)
theorem dX7_joined_47 : decode cX7_joined 47 = .ok (.iconst 1, 1) := daX7_joined (47, .iconst 1, 1) (List.mem_of_getElem? (i := 31) rfl)
theorem dX7_joined_48 : decode cX7_joined 48 = .ok (.iload_n 3, 1) := daX7_joined (48, .iload_n 3, 1) (List.mem_of_getElem? (i := 32) rfl)
theorem dX7_joined_49 : decode cX7_joined 49 = .ok (.iload 4, 2) := daX7_joined (49, .iload 4, 2) (List.mem_of_getElem? (i := 33) rfl)
theorem dX7_joined_51 : decode cX7_joined 51 = .ok (.ior, 1) := daX7_joined (51, .ior, 1) (List.mem_of_getElem? (i := 34) rfl)
theorem dX7_joined_52 : decode cX7_joined 52 = .ok (.ishl, 1) := daX7_joined (52, .ishl, 1) (List.mem_of_getElem? (i := 35) rfl)
theorem dX7_joined_53 : decode cX7_joined 53 = .ok (.ior, 1) := daX7_joined (53, .ior, 1) (List.mem_of_getElem? (i := 36) rfl)
theorem dX7_joined_54 : decode cX7_joined 54 = .ok (.istore_n 2, 1) := daX7_joined (54, .istore_n 2, 1) (List.mem_of_getElem? (i := 37) rfl)
theorem dX7_joined_55 : decode cX7_joined 55 = .ok (.iinc 4 1, 3) := daX7_joined (55, .iinc 4 1, 3) (List.mem_of_getElem? (i := 38) rfl)
theorem dX7_joined_58 : decode cX7_joined 58 = .ok (.goto (-36), 3) := daX7_joined (58, .goto (-36), 3) (List.mem_of_getElem? (i := 39) rfl)
theorem dX7_joined_61 : decode cX7_joined 61 = .ok (.iinc 3 1, 3) := daX7_joined (61, .iinc 3 1, 3) (List.mem_of_getElem? (i := 40) rfl)
theorem dX7_joined_64 : decode cX7_joined 64 = .ok (.goto (-60), 3) := daX7_joined (64, .goto (-60), 3) (List.mem_of_getElem? (i := 41) rfl)
theorem dX7_joined_67 : decode cX7_joined 67 = .ok (.iload_n 2, 1) := daX7_joined (67, .iload_n 2, 1) (List.mem_of_getElem? (i := 42) rfl)
theorem dX7_joined_68 : decode cX7_joined 68 = .ok (.ireturn, 1) := daX7_joined (68, .ireturn, 1) (List.mem_of_getElem? (i := 43) rfl)
def rmX7_joined : Room := { frames := 0, cells := 0, slots := 0, locals := 0 }
theorem zdX7_joined : yX7_joined.cls = RX7 ∧ yX7_joined.cls ≠ "java/lang/invoke/MethodHandle" ∧ yX7_joined.cls ≠ "java/lang/invoke/VarHandle" ∧ (parseMethodDescriptor yX7_joined.desc).map (fun d => d.parameters.length) = some 2 := by decide +kernel
def t_X7_joined_22 (a2 : Int32) (i2 : Int32) (i4 : Int32) (i5 : Int32) : Option ((Int32 × Int32) ⊕ (Int32)) :=
  (if 32 ≤ i5 then (some (.inr i4)) else ((if ((a2 >>> (i5 &&& 31)) &&& 1) = 1 then ((if (i2 &&& i5) = 0 then (bn (i4 ||| ((1 : Int32) <<< ((i2 ||| i5) &&& 31))) fun x8 => bn (i5 + 1) fun x9 => some (.inl (x8, x9))) else (bn (i5 + 1) fun x7 => some (.inl (i4, x7))))) else (bn (i5 + 1) fun x6 => some (.inl (i4, x6))))))
def l_X7_joined_22 (a2 : Int32) (i2 : Int32) (n : Nat) (i4 : Int32) (i5 : Int32) : Option (Int32) := zlp n (fun a => t_X7_joined_22 a2 i2 a.1 a.2) (i4, i5)
def t_X7_joined_4 (a1 : Int32) (a2 : Int32) (i1 : Int32) (i2 : Int32) : Option ((Int32 × Int32) ⊕ (Int32)) :=
  (if 32 ≤ i2 then (some (.inr i1)) else ((if ((a1 >>> (i2 &&& 31)) &&& 1) = 1 then (((l_X7_joined_22 a2 i2 FU i1 0).bind fun y13 => bn (i2 + 1) fun x14 => some (.inl (y13, x14)))) else (bn (i2 + 1) fun x3 => some (.inl (i1, x3))))))
def l_X7_joined_4 (a1 : Int32) (a2 : Int32) (n : Nat) (i1 : Int32) (i2 : Int32) : Option (Int32) := zlp n (fun a => t_X7_joined_4 a1 a2 a.1 a.2) (i1, i2)
def s_X7_joined (a1 : Int32) (a2 : Int32) : Option (Int32) :=
  ((l_X7_joined_4 a1 a2 FU 0 0).bind fun y17 => some y17)
set_option maxRecDepth 100000 in
set_option maxHeartbeats 4000000 in
theorem w_X7_joined_22 {K : ZK} (C : zOK MM K cX7_joined 5 (some .int) RX7 wsX7_joined rmX7_joined) {m : Mem} {a1 : Int32} {a2 : Int32} {i2 : Int32}  {o0 : Int32} (hk : zGo MM K m [(0, .int a1), (1, .int a2), (2, .int o0), (3, .int i2)] 61 []) : ∀ (n : Nat) (i4 : Int32) (i5 : Int32), l_X7_joined_22 a2 i2 n i4 i5 = some o0 → zGo MM K m [(0, .int a1), (1, .int a2), (2, .int i4), (3, .int i2), (4, .int i5)] 22 [] := by
  intro n
  induction n with
  | zero =>
    intro i4 i5 hf
    cases hf
  | succ n ih =>
    intro i4 i5 hf
    obtain ⟨z, hf, hz⟩ := zlp_el hf
    replace hf : t_X7_joined_22 a2 i2 i4 i5 = some z := hf
    unfold t_X7_joined_22 at hf
    refine z_iload C 4 dX7_joined_22 rfl ?_
    refine z_bipush C (v := 32) dX7_joined_24 rfl ?_
    refine z_icmp_ge (tgt := 61) C dX7_joined_26 (by decide) (fun c12 => ?_) (fun c12 => ?_)
    · replace hf := if_t c12 hf
      cases hf
      replace hz := zlz_r hz
      cases hz
      exact z_sub [0, 1, 2, 3] rfl hk
    · replace hf := if_f c12 hf
      refine z_iload_n C 1 dX7_joined_29 rfl rfl ?_
      refine z_iload C 4 dX7_joined_30 rfl ?_
      refine z_ishr C dX7_joined_32 ?_
      refine z_iconst C (v := 1) dX7_joined_33 rfl ?_
      refine z_iand C dX7_joined_34 ?_
      refine z_iconst C (v := 1) dX7_joined_35 rfl ?_
      refine z_icmp_ne (tgt := 55) C dX7_joined_36 (by decide) (fun c11 => ?_) (fun c11 => ?_)
      · replace hf := if_f c11 hf
        obtain ⟨x6, e_x6⟩ : ∃ y : Int32, y = i5 + 1 := ⟨_, rfl⟩
        replace hf := bn_to e_x6 hf
        refine z_iinc C (lv2 := [(0, .int a1), (1, .int a2), (2, .int i4), (3, .int i2), (4, .int x6)]) 4 [1, 2, 3, 4, 0] dX7_joined_55 rfl rfl (Nat.le_of_ble_eq_true rfl) e_x6 rfl ?_
        refine z_goto (tgt := 22) C dX7_joined_58 (by decide) ?_
        cases hf
        exact z_sub [0, 1, 2, 3, 4] rfl (ih i4 x6 hz)
      · replace hf := if_t c11 hf
        refine z_iload_n C 3 dX7_joined_39 rfl rfl ?_
        refine z_iload C 4 dX7_joined_40 rfl ?_
        refine z_iand C dX7_joined_42 ?_
        refine z_if_ne (tgt := 55) C dX7_joined_43 (by decide) (fun c10 => ?_) (fun c10 => ?_)
        · replace hf := if_f c10 hf
          obtain ⟨x7, e_x7⟩ : ∃ y : Int32, y = i5 + 1 := ⟨_, rfl⟩
          replace hf := bn_to e_x7 hf
          refine z_iinc C (lv2 := [(0, .int a1), (1, .int a2), (2, .int i4), (3, .int i2), (4, .int x7)]) 4 [1, 2, 3, 4, 0] dX7_joined_55 rfl rfl (Nat.le_of_ble_eq_true rfl) e_x7 rfl ?_
          refine z_goto (tgt := 22) C dX7_joined_58 (by decide) ?_
          cases hf
          exact z_sub [0, 1, 2, 3, 4] rfl (ih i4 x7 hz)
        · replace hf := if_t c10 hf
          refine z_iload_n C 2 dX7_joined_46 rfl rfl ?_
          refine z_iconst C (v := 1) dX7_joined_47 rfl ?_
          refine z_iload_n C 3 dX7_joined_48 rfl rfl ?_
          refine z_iload C 4 dX7_joined_49 rfl ?_
          refine z_ior C dX7_joined_51 ?_
          refine z_ishl C dX7_joined_52 ?_
          refine z_ior C dX7_joined_53 ?_
          refine z_topi (fun x8 e_x8 => ?_)
          replace hf := bn_to e_x8 hf
          refine z_istore_n C (lv2 := [(0, .int a1), (1, .int a2), (2, .int x8), (3, .int i2), (4, .int i5)]) [1, 2, 0, 3, 4] dX7_joined_54 rfl (Nat.le_of_ble_eq_true rfl) rfl ?_
          obtain ⟨x9, e_x9⟩ : ∃ y : Int32, y = i5 + 1 := ⟨_, rfl⟩
          replace hf := bn_to e_x9 hf
          refine z_iinc C (lv2 := [(0, .int a1), (1, .int a2), (2, .int x8), (3, .int i2), (4, .int x9)]) 4 [1, 2, 3, 4, 0] dX7_joined_55 rfl rfl (Nat.le_of_ble_eq_true rfl) e_x9 rfl ?_
          refine z_goto (tgt := 22) C dX7_joined_58 (by decide) ?_
          cases hf
          exact z_sub [0, 1, 2, 3, 4] rfl (ih x8 x9 hz)
set_option maxRecDepth 100000 in
set_option maxHeartbeats 4000000 in
theorem w_X7_joined_4 {K : ZK} (C : zOK MM K cX7_joined 5 (some .int) RX7 wsX7_joined rmX7_joined) {m : Mem} {a1 : Int32} {a2 : Int32}  {o0 : Int32} (hk : zGo MM K m [(2, .int o0)] 67 []) : ∀ (n : Nat) (i1 : Int32) (i2 : Int32), l_X7_joined_4 a1 a2 n i1 i2 = some o0 → zGo MM K m [(0, .int a1), (1, .int a2), (2, .int i1), (3, .int i2)] 4 [] := by
  intro n
  induction n with
  | zero =>
    intro i1 i2 hf
    cases hf
  | succ n ih =>
    intro i1 i2 hf
    obtain ⟨z, hf, hz⟩ := zlp_el hf
    replace hf : t_X7_joined_4 a1 a2 i1 i2 = some z := hf
    unfold t_X7_joined_4 at hf
    refine z_iload_n C 3 dX7_joined_4 rfl rfl ?_
    refine z_bipush C (v := 32) dX7_joined_5 rfl ?_
    refine z_icmp_ge (tgt := 67) C dX7_joined_7 (by decide) (fun c16 => ?_) (fun c16 => ?_)
    · replace hf := if_t c16 hf
      cases hf
      replace hz := zlz_r hz
      cases hz
      exact z_sub [2] rfl hk
    · replace hf := if_f c16 hf
      refine z_iload_n C 0 dX7_joined_10 rfl rfl ?_
      refine z_iload_n C 3 dX7_joined_11 rfl rfl ?_
      refine z_ishr C dX7_joined_12 ?_
      refine z_iconst C (v := 1) dX7_joined_13 rfl ?_
      refine z_iand C dX7_joined_14 ?_
      refine z_iconst C (v := 1) dX7_joined_15 rfl ?_
      refine z_icmp_ne (tgt := 61) C dX7_joined_16 (by decide) (fun c15 => ?_) (fun c15 => ?_)
      · replace hf := if_f c15 hf
        obtain ⟨x3, e_x3⟩ : ∃ y : Int32, y = i2 + 1 := ⟨_, rfl⟩
        replace hf := bn_to e_x3 hf
        refine z_iinc C (lv2 := [(0, .int a1), (1, .int a2), (2, .int i1), (3, .int x3)]) 3 [1, 2, 3, 0] dX7_joined_61 rfl rfl (Nat.le_of_ble_eq_true rfl) e_x3 rfl ?_
        refine z_goto (tgt := 4) C dX7_joined_64 (by decide) ?_
        cases hf
        exact z_sub [0, 1, 2, 3] rfl (ih i1 x3 hz)
      · replace hf := if_t c15 hf
        refine z_iconst C (v := 0) dX7_joined_19 rfl ?_
        refine z_istore C (lv2 := [(0, .int a1), (1, .int a2), (2, .int i1), (3, .int i2), (4, .int 0)]) [1, 2, 3, 4, 0] dX7_joined_20 (Nat.le_of_ble_eq_true rfl) rfl ?_
        obtain ⟨y13, hg, hf⟩ := zb_el hf
        refine z_sub [0, 1, 2, 3, 4] rfl (w_X7_joined_22 C  ?_ _ _ _ hg)
        clear hg
        obtain ⟨x14, e_x14⟩ : ∃ y : Int32, y = i2 + 1 := ⟨_, rfl⟩
        replace hf := bn_to e_x14 hf
        refine z_iinc C (lv2 := [(0, .int a1), (1, .int a2), (2, .int y13), (3, .int x14)]) 3 [1, 2, 3, 0] dX7_joined_61 rfl rfl (Nat.le_of_ble_eq_true rfl) e_x14 rfl ?_
        refine z_goto (tgt := 4) C dX7_joined_64 (by decide) ?_
        cases hf
        exact z_sub [0, 1, 2, 3] rfl (ih y13 x14 hz)
set_option maxRecDepth 100000 in
set_option maxHeartbeats 4000000 in
theorem c_X7_joined (l : Launch) (w : ZW) {m : Mem} {a1 : Int32} {a2 : Int32} {r9 : Int32}  (hf : s_X7_joined a1 a2 = some r9) : zCi MM l w yX7_joined wsX7_joined rmX7_joined [.int a1, .int a2] m m r9 := by
  refine z_met_i MM_ok (own := RX7) (by decide +kernel) rfl rfl (Nat.le_of_ble_eq_true rfl) ?_
  intro K C hKw hKl hret
  subst hKw
  subst hKl
  unfold s_X7_joined at hf
  show zGo MM K m [(0, .int a1), (1, .int a2)] 0 []
  refine z_iconst C (v := 0) dX7_joined_0 rfl ?_
  refine z_istore_n C (lv2 := [(0, .int a1), (1, .int a2), (2, .int 0)]) [1, 2, 0] dX7_joined_1 rfl (Nat.le_of_ble_eq_true rfl) rfl ?_
  refine z_iconst C (v := 0) dX7_joined_2 rfl ?_
  refine z_istore_n C (lv2 := [(0, .int a1), (1, .int a2), (2, .int 0), (3, .int 0)]) [1, 2, 3, 0] dX7_joined_3 rfl (Nat.le_of_ble_eq_true rfl) rfl ?_
  obtain ⟨y17, hg, hf⟩ := zb_el hf
  refine z_sub [0, 1, 2, 3] rfl (w_X7_joined_4 C  ?_ _ _ _ hg)
  clear hg
  refine z_iload_n C 0 dX7_joined_67 rfl rfl ?_
  have e1 := Option.some.inj hf
  subst e1
  exact hret _ _ dX7_joined_68
