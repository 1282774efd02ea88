theorem sp_el {α β : Type} {a c : α} {b d : β} (h : some (a, b) = some (c, d)) : a = c ∧ b = d := ⟨congrArg Prod.fst (Option.some.inj h), congrArg Prod.snd (Option.some.inj h)⟩
set_option maxRecDepth 20000 in
theorem ggX6_all_X0_hasShape : GoodIn wsX6_all wsX0_hasShape := goodIn_sub (List.forall_mem_cons.mpr ⟨(List.mem_of_getElem? (i := 8) rfl), (List.forall_mem_append.mpr ⟨(List.forall_mem_cons.mpr ⟨(List.mem_of_getElem? (i := 9) rfl), (fun _ h => absurd h List.not_mem_nil)⟩), (fun _ h => (List.mem_cons_of_mem _ (List.mem_append_left _ (List.mem_append_right _ h))))⟩)⟩) (by decide +kernel)
set_option maxRecDepth 20000 in
theorem gX6_all_X0_hasShape : GoodIn wsX6_all (wsV RX6 135 RX0 yX0_hasShape wsX0_hasShape) := goodIn_app (goodIn_sub (List.forall_mem_cons.mpr ⟨(List.mem_of_getElem? (i := 4) rfl), (List.forall_mem_cons.mpr ⟨(List.mem_of_getElem? (i := 5) rfl), (List.forall_mem_cons.mpr ⟨(List.mem_of_getElem? (i := 6) rfl), (List.forall_mem_cons.mpr ⟨(List.mem_of_getElem? (i := 7) rfl), (fun _ h => absurd h List.not_mem_nil)⟩)⟩)⟩)⟩) (by decide +kernel)) ggX6_all_X0_hasShape
set_option maxRecDepth 20000 in
theorem ggX6_all_X2_readFits : GoodIn wsX6_all wsX2_readFits := goodIn_sub (List.forall_mem_cons.mpr ⟨(List.mem_of_getElem? (i := 14) rfl), (List.forall_mem_append.mpr ⟨(List.forall_mem_append.mpr ⟨(List.forall_mem_append.mpr ⟨(List.forall_mem_append.mpr ⟨(show ∀ w ∈ wsX2_readFits_r1, w ∈ wsX6_all from (List.forall_mem_cons.mpr ⟨(List.mem_of_getElem? (i := 15) rfl), (List.forall_mem_cons.mpr ⟨(List.mem_of_getElem? (i := 16) rfl), (List.forall_mem_cons.mpr ⟨(List.mem_of_getElem? (i := 17) rfl), (List.forall_mem_cons.mpr ⟨(List.mem_of_getElem? (i := 18) rfl), (List.forall_mem_cons.mpr ⟨(List.mem_of_getElem? (i := 19) rfl), (List.forall_mem_cons.mpr ⟨(List.mem_of_getElem? (i := 20) rfl), (List.forall_mem_cons.mpr ⟨(List.mem_of_getElem? (i := 5) rfl), (List.forall_mem_cons.mpr ⟨(List.mem_of_getElem? (i := 6) rfl), (List.forall_mem_cons.mpr ⟨(List.mem_of_getElem? (i := 7) rfl), (List.forall_mem_cons.mpr ⟨(List.mem_of_getElem? (i := 8) rfl), (List.forall_mem_cons.mpr ⟨(List.mem_of_getElem? (i := 9) rfl), (List.forall_mem_cons.mpr ⟨(List.mem_of_getElem? (i := 21) rfl), (List.forall_mem_cons.mpr ⟨(List.mem_of_getElem? (i := 22) rfl), (List.forall_mem_cons.mpr ⟨(List.mem_of_getElem? (i := 23) rfl), (List.forall_mem_cons.mpr ⟨(List.mem_of_getElem? (i := 13) rfl), (List.forall_mem_cons.mpr ⟨(List.mem_of_getElem? (i := 24) rfl), (List.forall_mem_cons.mpr ⟨(List.mem_of_getElem? (i := 25) rfl), (List.forall_mem_cons.mpr ⟨(List.mem_of_getElem? (i := 26) rfl), (List.forall_mem_cons.mpr ⟨(List.mem_of_getElem? (i := 27) rfl), (List.forall_mem_cons.mpr ⟨(List.mem_of_getElem? (i := 28) rfl), (List.forall_mem_cons.mpr ⟨(List.mem_of_getElem? (i := 29) rfl), (List.forall_mem_cons.mpr ⟨(List.mem_of_getElem? (i := 30) rfl), (List.forall_mem_cons.mpr ⟨(List.mem_of_getElem? (i := 31) rfl), (List.forall_mem_cons.mpr ⟨(List.mem_of_getElem? (i := 32) rfl), (fun _ h => absurd h List.not_mem_nil)⟩)⟩)⟩)⟩)⟩)⟩)⟩)⟩)⟩)⟩)⟩)⟩)⟩)⟩)⟩)⟩)⟩)⟩)⟩)⟩)⟩)⟩)⟩)⟩)), (List.forall_mem_append.mpr ⟨(show ∀ w ∈ wsX2_readFits_r2, w ∈ wsX6_all from (List.forall_mem_cons.mpr ⟨(List.mem_of_getElem? (i := 33) rfl), (List.forall_mem_cons.mpr ⟨(List.mem_of_getElem? (i := 34) rfl), (List.forall_mem_cons.mpr ⟨(List.mem_of_getElem? (i := 35) rfl), (List.forall_mem_cons.mpr ⟨(List.mem_of_getElem? (i := 36) rfl), (List.forall_mem_cons.mpr ⟨(List.mem_of_getElem? (i := 37) rfl), (List.forall_mem_cons.mpr ⟨(List.mem_of_getElem? (i := 38) rfl), (List.forall_mem_cons.mpr ⟨(List.mem_of_getElem? (i := 39) rfl), (List.forall_mem_cons.mpr ⟨(List.mem_of_getElem? (i := 40) rfl), (List.forall_mem_cons.mpr ⟨(List.mem_of_getElem? (i := 41) rfl), (List.forall_mem_cons.mpr ⟨(List.mem_of_getElem? (i := 42) rfl), (List.forall_mem_cons.mpr ⟨(List.mem_of_getElem? (i := 43) rfl), (List.forall_mem_cons.mpr ⟨(List.mem_of_getElem? (i := 44) rfl), (List.forall_mem_cons.mpr ⟨(List.mem_of_getElem? (i := 45) rfl), (List.forall_mem_cons.mpr ⟨(List.mem_of_getElem? (i := 46) rfl), (List.forall_mem_cons.mpr ⟨(List.mem_of_getElem? (i := 47) rfl), (List.forall_mem_cons.mpr ⟨(List.mem_of_getElem? (i := 48) rfl), (List.forall_mem_cons.mpr ⟨(List.mem_of_getElem? (i := 49) rfl), (List.forall_mem_cons.mpr ⟨(List.mem_of_getElem? (i := 50) rfl), (List.forall_mem_cons.mpr ⟨(List.mem_of_getElem? (i := 51) rfl), (List.forall_mem_cons.mpr ⟨(List.mem_of_getElem? (i := 52) rfl), (List.forall_mem_cons.mpr ⟨(List.mem_of_getElem? (i := 53) rfl), (List.forall_mem_cons.mpr ⟨(List.mem_of_getElem? (i := 54) rfl), (List.forall_mem_cons.mpr ⟨(List.mem_of_getElem? (i := 55) rfl), (List.forall_mem_cons.mpr ⟨(List.mem_of_getElem? (i := 56) rfl), (fun _ h => absurd h List.not_mem_nil)⟩)⟩)⟩)⟩)⟩)⟩)⟩)⟩)⟩)⟩)⟩)⟩)⟩)⟩)⟩)⟩)⟩)⟩)⟩)⟩)⟩)⟩)⟩)⟩)), (show ∀ w ∈ wsX2_readFits_r3, w ∈ wsX6_all from (List.forall_mem_cons.mpr ⟨(List.mem_of_getElem? (i := 57) rfl), (List.forall_mem_cons.mpr ⟨(List.mem_of_getElem? (i := 58) rfl), (List.forall_mem_cons.mpr ⟨(List.mem_of_getElem? (i := 59) rfl), (List.forall_mem_cons.mpr ⟨(List.mem_of_getElem? (i := 60) rfl), (List.forall_mem_cons.mpr ⟨(List.mem_of_getElem? (i := 61) rfl), (List.forall_mem_cons.mpr ⟨(List.mem_of_getElem? (i := 62) rfl), (List.forall_mem_cons.mpr ⟨(List.mem_of_getElem? (i := 63) rfl), (List.forall_mem_cons.mpr ⟨(List.mem_of_getElem? (i := 64) rfl), (List.forall_mem_cons.mpr ⟨(List.mem_of_getElem? (i := 65) rfl), (List.forall_mem_cons.mpr ⟨(List.mem_of_getElem? (i := 66) rfl), (List.forall_mem_cons.mpr ⟨(List.mem_of_getElem? (i := 67) rfl), (List.forall_mem_cons.mpr ⟨(List.mem_of_getElem? (i := 68) rfl), (List.forall_mem_cons.mpr ⟨(List.mem_of_getElem? (i := 69) rfl), (List.forall_mem_cons.mpr ⟨(List.mem_of_getElem? (i := 70) rfl), (List.forall_mem_cons.mpr ⟨(List.mem_of_getElem? (i := 71) rfl), (List.forall_mem_cons.mpr ⟨(List.mem_of_getElem? (i := 72) rfl), (List.forall_mem_cons.mpr ⟨(List.mem_of_getElem? (i := 73) rfl), (List.forall_mem_cons.mpr ⟨(List.mem_of_getElem? (i := 74) rfl), (List.forall_mem_cons.mpr ⟨(List.mem_of_getElem? (i := 75) rfl), (fun _ h => absurd h List.not_mem_nil)⟩)⟩)⟩)⟩)⟩)⟩)⟩)⟩)⟩)⟩)⟩)⟩)⟩)⟩)⟩)⟩)⟩)⟩)⟩))⟩)⟩), (fun _ h => (List.mem_cons_of_mem _ (List.mem_append_left _ (List.mem_append_left _ (List.mem_append_right _ h)))))⟩), (fun _ h => (List.mem_cons_of_mem _ (List.mem_append_right _ h)))⟩), (fun _ h => (List.mem_cons_of_mem _ (List.mem_append_left _ (List.mem_append_right _ h))))⟩)⟩) (by decide +kernel)
set_option maxRecDepth 20000 in
theorem gX6_all_X2_readFits : GoodIn wsX6_all (wsV RX6 123 RX2 yX2_readFits wsX2_readFits) := goodIn_app (goodIn_sub (List.forall_mem_cons.mpr ⟨(List.mem_of_getElem? (i := 10) rfl), (List.forall_mem_cons.mpr ⟨(List.mem_of_getElem? (i := 11) rfl), (List.forall_mem_cons.mpr ⟨(List.mem_of_getElem? (i := 12) rfl), (List.forall_mem_cons.mpr ⟨(List.mem_of_getElem? (i := 13) rfl), (fun _ h => absurd h List.not_mem_nil)⟩)⟩)⟩)⟩) (by decide +kernel)) ggX6_all_X2_readFits
theorem dX6_all_0 : decode cX6_all 0 = .ok (.aload_n 0, 1) := by decide +kernel
theorem dX6_all_1 : decode cX6_all 1 = .ok (.getfield 35, 3) := by decide +kernel
theorem dX6_all_4 : decode cX6_all 4 = .ok (.iload_n 1, 1) := by decide +kernel
theorem dX6_all_5 : decode cX6_all 5 = .ok (.invokevirtual 135, 3) := by decide +kernel
theorem dX6_all_8 : decode cX6_all 8 = .ok (.ifCond .ne 5, 3) := by decide +kernel
theorem dX6_all_11 : decode cX6_all 11 = .ok (.iconst (-1), 1) := by decide +kernel
theorem dX6_all_12 : decode cX6_all 12 = .ok (.ireturn, 1) := by decide +kernel
theorem dX6_all_13 : decode cX6_all 13 = .ok (.aload_n 0, 1) := by decide +kernel
theorem dX6_all_14 : decode cX6_all 14 = .ok (.getfield 47, 3) := by decide +kernel
theorem dX6_all_17 : decode cX6_all 17 = .ok (.invokevirtual 123, 3) := by decide +kernel
theorem dX6_all_20 : decode cX6_all 20 = .ok (.aload_n 0, 1) := by decide +kernel
theorem dX6_all_21 : decode cX6_all 21 = .ok (.getfield 47, 3) := by decide +kernel
theorem dX6_all_24 : decode cX6_all 24 = .ok (.getfield 126, 3) := by decide +kernel
theorem dX6_all_27 : decode cX6_all 27 = .ok (.iload_n 1, 1) := by decide +kernel
theorem dX6_all_28 : decode cX6_all 28 = .ok (.iaload, 1) := by decide +kernel
theorem dX6_all_29 : decode cX6_all 29 = .ok (.ireturn, 1) := by decide +kernel
def rmX6_all : Room := { frames := 6, cells := 0, slots := 0, locals := 150 }
theorem zdX6_all : yX6_all.cls = RX6 ∧ yX6_all.cls ≠ "java/lang/invoke/MethodHandle" ∧ yX6_all.cls ≠ "java/lang/invoke/VarHandle" ∧ (parseMethodDescriptor yX6_all.desc).map (fun d => d.parameters.length) = some 1 := by decide +kernel
theorem kiX6_all_X6 : ∀ w ∈ wsX60, w ∈ wsX6_all := fun _ h => (List.mem_cons_of_mem _ (List.mem_append_left _ (List.mem_append_left _ (List.mem_append_left _ (List.mem_append_right _ h)))))
theorem kfX6_all_35 : Cond.fieldLink RX6 35 "ShapeJudge" "book" "LShapeJudge$Book;" ∈ wsX6_all := (List.mem_of_getElem? (i := 1) rfl)
theorem kfX6_all_47 : Cond.fieldLink RX6 47 "ShapeJudge" "judge" "LShapeJudge$Judge;" ∈ wsX6_all := (List.mem_of_getElem? (i := 2) rfl)
theorem kiX6_all_X2 : ∀ w ∈ wsX20, w ∈ wsX6_all := fun _ h => (List.mem_cons_of_mem _ (List.mem_append_left _ (List.mem_append_left _ (List.mem_append_right _ h))))
theorem kfX6_all_126 : Cond.fieldLink RX6 126 "ShapeJudge$Judge" "fitting" "[I" ∈ wsX6_all := (List.mem_of_getElem? (i := 3) rfl)
def s_X6_all (m : Mem) (a1 : Int32) : Option (Int32 × Mem) :=
  zbk (m 0 4) fun b1 => (s_X0_hasShape m b1 a1).bind fun r3 => (if r3 = 0 then (some ((-1), m)) else ((s_X2_readFits m).bind fun m5 => ck (zin a1 6 = true) (some ((m5 40 (Int32.toNatClampNeg a1)), m5))))
set_option maxRecDepth 100000 in
set_option maxHeartbeats 4000000 in
theorem c_X6_all (l : Launch) (w : ZW) {m : Mem} {a1 : Int32} {r9 : Int32} {m9 : Mem}  (hf : s_X6_all m a1 = some (r9, m9)) : zCi MX l w yX6_all wsX6_all rmX6_all [.ref (w.2.1 0), .int a1] m m9 r9 := by
  refine z_met_i MX_ok (own := RX6) (by decide +kernel) rfl rfl (Nat.le_of_ble_eq_true rfl) ?_
  intro K C hKw hKl hret
  subst hKw
  subst hKl
  unfold s_X6_all at hf
  show zGo MX K m [(0, .ref ((zw K).2.1 0)), (1, .int a1)] 0 []
  refine z_aload_n C 0 dX6_all_0 rfl rfl ?_
  obtain ⟨b1, hb1, e_b1, hf⟩ := zbk_el hf
  refine z_getb C (b := b1) (Nat.le_of_ble_eq_true rfl) rfl rfl 4 (Nat.le_of_ble_eq_true rfl) rfl kiX6_all_X6 kfX6_all_35 (isb_lt hb1) e_b1 dX6_all_1 ?_
  refine z_iload_n C 1 dX6_all_4 rfl rfl ?_
  obtain ⟨r3, hc2, hf⟩ := zb_el hf
  refine z_cVi C (c_X0_hasShape _ _ hb1 hc2) rfl gX6_all_X0_hasShape rfl rfl zdX0_hasShape rfl (isb_k0 hb1) (isb_L0 hb1) rfl rfl ⟨Nat.le_of_ble_eq_true rfl, Nat.le_of_ble_eq_true rfl⟩ (Nat.le_of_ble_eq_true rfl) dX6_all_5 rfl ?_
  refine z_if_ne (tgt := 13) C dX6_all_8 (by decide) (fun c7 => ?_) (fun c7 => ?_)
  · replace hf := if_f c7 hf
    refine z_aload_n C 0 dX6_all_13 rfl rfl ?_
    refine z_getr C (t := 39) (Nat.le_of_ble_eq_true rfl) rfl rfl 3 (Nat.le_of_ble_eq_true rfl) rfl kiX6_all_X6 kfX6_all_47 dX6_all_14 ?_
    obtain ⟨m5, hc4, hf⟩ := zb_el hf
    refine z_cVv C (c_X2_readFits _ _ hc4) rfl gX6_all_X2_readFits rfl rfl zdX2_readFits rfl (Nat.le_of_ble_eq_true rfl) rfl rfl rfl ⟨Nat.le_of_ble_eq_true rfl, Nat.le_of_ble_eq_true rfl⟩ (Nat.le_of_ble_eq_true rfl) dX6_all_17 rfl ?_
    refine z_aload_n C 0 dX6_all_20 rfl rfl ?_
    refine z_getr C (t := 39) (Nat.le_of_ble_eq_true rfl) rfl rfl 3 (Nat.le_of_ble_eq_true rfl) rfl kiX6_all_X6 kfX6_all_47 dX6_all_21 ?_
    refine z_getr C (t := 40) (Nat.le_of_ble_eq_true rfl) rfl rfl 2 (Nat.le_of_ble_eq_true rfl) rfl kiX6_all_X2 kfX6_all_126 dX6_all_24 ?_
    refine z_iload_n C 1 dX6_all_27 rfl rfl ?_
    obtain ⟨hi6, hf⟩ := ck_el hf
    refine z_iald C (k := 40) (Nat.le_of_ble_eq_true rfl) rfl hi6 dX6_all_28 ?_
    obtain ⟨e1, e2⟩ := sp_el hf
    subst e1
    subst e2
    exact hret _ _ dX6_all_29
  · replace hf := if_t c7 hf
    refine z_iconst C (v := (-1)) dX6_all_11 (by decide) ?_
    obtain ⟨e1, e2⟩ := sp_el hf
    subst e1
    subst e2
    exact hret _ _ dX6_all_12
set_option maxRecDepth 20000 in
theorem ggX6_pairsIn_J6_bitCount_0f7a4 : GoodIn wsX6_pairsIn wsJ6_bitCount_0f7a4 := goodIn_sub (List.forall_mem_cons.mpr ⟨(List.mem_of_getElem? (i := 6) rfl), (List.forall_mem_cons.mpr ⟨(List.mem_of_getElem? (i := 7) rfl), (List.forall_mem_cons.mpr ⟨(List.mem_of_getElem? (i := 8) rfl), (List.forall_mem_cons.mpr ⟨(List.mem_of_getElem? (i := 9) rfl), (fun _ h => absurd h List.not_mem_nil)⟩)⟩)⟩)⟩) (by decide +kernel)
set_option maxRecDepth 20000 in
theorem gX6_pairsIn_J6_bitCount_0f7a4 : GoodIn wsX6_pairsIn (va_wsS RX6 142 yJ6_bitCount_0f7a4 wsJ6_bitCount_0f7a4) := goodIn_app (goodIn_sub (List.forall_mem_cons.mpr ⟨(List.mem_of_getElem? (i := 3) rfl), (List.forall_mem_cons.mpr ⟨(List.mem_of_getElem? (i := 4) rfl), (List.forall_mem_cons.mpr ⟨(List.mem_of_getElem? (i := 5) rfl), (fun _ h => absurd h List.not_mem_nil)⟩)⟩)⟩) (by decide +kernel)) ggX6_pairsIn_J6_bitCount_0f7a4
theorem dX6_pairsIn_0 : decode cX6_pairsIn 0 = .ok (.iconst 0, 1) := by decide +kernel
theorem dX6_pairsIn_1 : decode cX6_pairsIn 1 = .ok (.istore_n 2, 1) := by decide +kernel
theorem dX6_pairsIn_2 : decode cX6_pairsIn 2 = .ok (.iconst 0, 1) := by decide +kernel
theorem dX6_pairsIn_3 : decode cX6_pairsIn 3 = .ok (.istore_n 3, 1) := by decide +kernel
theorem dX6_pairsIn_4 : decode cX6_pairsIn 4 = .ok (.iload_n 3, 1) := by decide +kernel
theorem dX6_pairsIn_5 : decode cX6_pairsIn 5 = .ok (.aload_n 0, 1) := by decide +kernel
theorem dX6_pairsIn_6 : decode cX6_pairsIn 6 = .ok (.getfield 35, 3) := by decide +kernel
theorem dX6_pairsIn_9 : decode cX6_pairsIn 9 = .ok (.getfield 116, 3) := by decide +kernel
theorem dX6_pairsIn_12 : decode cX6_pairsIn 12 = .ok (.if_icmp .ge 24, 3) := by decide +kernel
theorem dX6_pairsIn_15 : decode cX6_pairsIn 15 = .ok (.iload_n 3, 1) := by decide +kernel
theorem dX6_pairsIn_16 : decode cX6_pairsIn 16 = .ok (.aload_n 1, 1) := by decide +kernel
theorem dX6_pairsIn_17 : decode cX6_pairsIn 17 = .ok (.arraylength, 1) := by decide +kernel
theorem dX6_pairsIn_18 : decode cX6_pairsIn 18 = .ok (.if_icmp .ge 18, 3) := by decide +kernel
theorem dX6_pairsIn_21 : decode cX6_pairsIn 21 = .ok (.iload_n 2, 1) := by decide +kernel
theorem dX6_pairsIn_22 : decode cX6_pairsIn 22 = .ok (.aload_n 1, 1) := by decide +kernel
theorem dX6_pairsIn_23 : decode cX6_pairsIn 23 = .ok (.iload_n 3, 1) := by decide +kernel
theorem dX6_pairsIn_24 : decode cX6_pairsIn 24 = .ok (.iaload, 1) := by decide +kernel
theorem dX6_pairsIn_25 : decode cX6_pairsIn 25 = .ok (.invokestatic 142, 3) := by decide +kernel
theorem dX6_pairsIn_28 : decode cX6_pairsIn 28 = .ok (.iadd, 1) := by decide +kernel
theorem dX6_pairsIn_29 : decode cX6_pairsIn 29 = .ok (.istore_n 2, 1) := by decide +kernel
theorem dX6_pairsIn_30 : decode cX6_pairsIn 30 = .ok (.iinc 3 1, 3) := by decide +kernel
theorem dX6_pairsIn_33 : decode cX6_pairsIn 33 = .ok (.goto (-29), 3) := by decide +kernel
theorem dX6_pairsIn_36 : decode cX6_pairsIn 36 = .ok (.iload_n 2, 1) := by decide +kernel
theorem dX6_pairsIn_37 : decode cX6_pairsIn 37 = .ok (.ireturn, 1) := by decide +kernel
def rmX6_pairsIn : Room := { frames := 1, cells := 0, slots := 0, locals := 20 }
theorem zdX6_pairsIn : yX6_pairsIn.cls = RX6 ∧ yX6_pairsIn.cls ≠ "java/lang/invoke/MethodHandle" ∧ yX6_pairsIn.cls ≠ "java/lang/invoke/VarHandle" ∧ (parseMethodDescriptor yX6_pairsIn.desc).map (fun d => d.parameters.length) = some 1 := by decide +kernel
theorem kiX6_pairsIn_X6 : ∀ w ∈ wsX60, w ∈ wsX6_pairsIn := fun _ h => (List.mem_cons_of_mem _ (List.mem_append_left _ (List.mem_append_right _ h)))
theorem kfX6_pairsIn_35 : Cond.fieldLink RX6 35 "ShapeJudge" "book" "LShapeJudge$Book;" ∈ wsX6_pairsIn := (List.mem_of_getElem? (i := 1) rfl)
theorem kiX6_pairsIn_X0 : ∀ w ∈ wsX00, w ∈ wsX6_pairsIn := fun _ h => (List.mem_cons_of_mem _ (List.mem_append_right _ h))
theorem kfX6_pairsIn_116 : Cond.fieldLink RX6 116 "ShapeJudge$Book" "shapeCount" "I" ∈ wsX6_pairsIn := (List.mem_of_getElem? (i := 2) rfl)
def t_X6_pairsIn_4 (m : Mem) (tr1 : Nat) (i1 : Int32) (i2 : Int32) : Option ((Int32 × Int32) ⊕ (Int32)) :=
  zbk (m 0 4) fun b3 => (if (m b3 0) ≤ i2 then (some (.inr i1)) else ((if 6 ≤ i2 then (some (.inr i1)) else (ck (zin i2 6 = true) ((s_J6_bitCount_0f7a4 (m tr1 (Int32.toNatClampNeg i2))).bind fun r6 => bn (i1 + r6) fun x7 => bn (i2 + 1) fun x8 => some (.inl (x7, x8)))))))
def l_X6_pairsIn_4 (m : Mem) (tr1 : Nat) (n : Nat) (i1 : Int32) (i2 : Int32) : Option (Int32) := zlp n (fun a => t_X6_pairsIn_4 m tr1 a.1 a.2) (i1, i2)
def s_X6_pairsIn (m : Mem) (tr1 : Nat) : Option (Int32) :=
  ((l_X6_pairsIn_4 m tr1 FU 0 0).bind fun y11 => some y11)
set_option maxRecDepth 100000 in
set_option maxHeartbeats 4000000 in
theorem w_X6_pairsIn_4 {K : ZK} (C : zOK MX K cX6_pairsIn 4 (some .int) RX6 wsX6_pairsIn rmX6_pairsIn) {m : Mem} {tr1 : Nat} (htr1 : istr tr1) {o0 : Int32} (hk : zGo MX K m [(2, .int o0)] 36 []) : ∀ (n : Nat) (i1 : Int32) (i2 : Int32), l_X6_pairsIn_4 m tr1 n i1 i2 = some o0 → zGo MX K m [(0, .ref ((zw K).2.1 0)), (1, .ref ((zw K).2.1 tr1)), (2, .int i1), (3, .int i2)] 4 [] := by
  intro n
  induction n with
  | zero =>
    intro i1 i2 hf
    cases hf
  | succ n ih =>
    intro i1 i2 hf
    obtain ⟨z, hf, hz⟩ := zlp_el hf
    replace hf : t_X6_pairsIn_4 m tr1 i1 i2 = some z := hf
    unfold t_X6_pairsIn_4 at hf
    refine z_iload_n C 3 dX6_pairsIn_4 rfl rfl ?_
    refine z_aload_n C 0 dX6_pairsIn_5 rfl rfl ?_
    obtain ⟨b3, hb3, e_b3, hf⟩ := zbk_el hf
    refine z_getb C (b := b3) (Nat.le_of_ble_eq_true rfl) rfl rfl 4 (Nat.le_of_ble_eq_true rfl) rfl kiX6_pairsIn_X6 kfX6_pairsIn_35 (isb_lt hb3) e_b3 dX6_pairsIn_6 ?_
    refine z_geti C (isb_k0 hb3) (isb_L0 hb3) rfl 0 (Nat.le_of_ble_eq_true rfl) rfl kiX6_pairsIn_X0 kfX6_pairsIn_116 dX6_pairsIn_9 ?_
    refine z_icmp_ge (tgt := 36) C dX6_pairsIn_12 (by decide) (fun c10 => ?_) (fun c10 => ?_)
    · replace hf := if_t c10 hf
      cases hf
      replace hz := zlz_r hz
      cases hz
      exact z_sub [2] rfl hk
    · replace hf := if_f c10 hf
      refine z_iload_n C 3 dX6_pairsIn_15 rfl rfl ?_
      refine z_aload_n C 1 dX6_pairsIn_16 rfl rfl ?_
      refine z_alen C (k := tr1) (v := 6) (istr_k htr1) (istr_L htr1) (fun _ => rfl) rfl dX6_pairsIn_17 ?_
      refine z_icmp_ge (tgt := 36) C dX6_pairsIn_18 (by decide) (fun c9 => ?_) (fun c9 => ?_)
      · replace hf := if_t c9 hf
        cases hf
        replace hz := zlz_r hz
        cases hz
        exact z_sub [2] rfl hk
      · replace hf := if_f c9 hf
        refine z_iload_n C 2 dX6_pairsIn_21 rfl rfl ?_
        refine z_aload_n C 1 dX6_pairsIn_22 rfl rfl ?_
        refine z_iload_n C 3 dX6_pairsIn_23 rfl rfl ?_
        obtain ⟨hi4, hf⟩ := ck_el hf
        refine z_iald C (k := tr1) (istr_k htr1) (istr_L htr1) hi4 dX6_pairsIn_24 ?_
        obtain ⟨r6, hc5, hf⟩ := zb_el hf
        refine z_cSi C (c_J6_bitCount_0f7a4 _ _ hc5) rfl gX6_pairsIn_J6_bitCount_0f7a4 rfl rfl zdJ6_bitCount_0f7a4.2 rfl ⟨Nat.le_of_ble_eq_true rfl, Nat.le_of_ble_eq_true rfl⟩ (Nat.le_of_ble_eq_true rfl) dX6_pairsIn_25 rfl ?_
        refine z_iadd C dX6_pairsIn_28 ?_
        refine z_topi (fun x7 e_x7 => ?_)
        replace hf := bn_to e_x7 hf
        refine z_istore_n C (lv2 := [(0, .ref ((zw K).2.1 0)), (1, .ref ((zw K).2.1 tr1)), (2, .int x7), (3, .int i2)]) [1, 2, 0, 3] dX6_pairsIn_29 rfl (Nat.le_of_ble_eq_true rfl) rfl ?_
        obtain ⟨x8, e_x8⟩ : ∃ y : Int32, y = i2 + 1 := ⟨_, rfl⟩
        replace hf := bn_to e_x8 hf
        refine z_iinc C (lv2 := [(0, .ref ((zw K).2.1 0)), (1, .ref ((zw K).2.1 tr1)), (2, .int x7), (3, .int x8)]) 3 [1, 2, 3, 0] dX6_pairsIn_30 rfl rfl (Nat.le_of_ble_eq_true rfl) e_x8 rfl ?_
        refine z_goto (tgt := 4) C dX6_pairsIn_33 (by decide) ?_
        cases hf
        exact z_sub [0, 1, 2, 3] rfl (ih x7 x8 hz)
set_option maxRecDepth 100000 in
set_option maxHeartbeats 4000000 in
theorem c_X6_pairsIn (l : Launch) (w : ZW) {m : Mem} {tr1 : Nat} {r9 : Int32} (htr1 : istr tr1) (hf : s_X6_pairsIn m tr1 = some r9) : zCi MX l w yX6_pairsIn wsX6_pairsIn rmX6_pairsIn [.ref (w.2.1 0), .ref (w.2.1 tr1)] m m r9 := by
  refine z_met_i MX_ok (own := RX6) (by decide +kernel) rfl rfl (Nat.le_of_ble_eq_true rfl) ?_
  intro K C hKw hKl hret
  subst hKw
  subst hKl
  unfold s_X6_pairsIn at hf
  show zGo MX K m [(0, .ref ((zw K).2.1 0)), (1, .ref ((zw K).2.1 tr1))] 0 []
  refine z_iconst C (v := 0) dX6_pairsIn_0 rfl ?_
  refine z_istore_n C (lv2 := [(0, .ref ((zw K).2.1 0)), (1, .ref ((zw K).2.1 tr1)), (2, .int 0)]) [1, 2, 0] dX6_pairsIn_1 rfl (Nat.le_of_ble_eq_true rfl) rfl ?_
  refine z_iconst C (v := 0) dX6_pairsIn_2 rfl ?_
  refine z_istore_n C (lv2 := [(0, .ref ((zw K).2.1 0)), (1, .ref ((zw K).2.1 tr1)), (2, .int 0), (3, .int 0)]) [1, 2, 3, 0] dX6_pairsIn_3 rfl (Nat.le_of_ble_eq_true rfl) rfl ?_
  obtain ⟨y11, hg, hf⟩ := zb_el hf
  refine z_sub [0, 1, 2, 3] rfl (w_X6_pairsIn_4 C htr1 ?_ _ _ _ hg)
  clear hg
  refine z_iload_n C 0 dX6_pairsIn_36 rfl rfl ?_
  have e1 := Option.some.inj hf
  subst e1
  exact hret _ _ dX6_pairsIn_37
set_option maxRecDepth 20000 in
theorem ggX6_count_X2_readFits : GoodIn wsX6_count wsX2_readFits := goodIn_sub (List.forall_mem_cons.mpr ⟨(List.mem_of_getElem? (i := 15) rfl), (List.forall_mem_append.mpr ⟨(List.forall_mem_append.mpr ⟨(List.forall_mem_append.mpr ⟨(List.forall_mem_append.mpr ⟨(show ∀ w ∈ wsX2_readFits_r1, w ∈ wsX6_count from (List.forall_mem_cons.mpr ⟨(List.mem_of_getElem? (i := 16) rfl), (List.forall_mem_cons.mpr ⟨(List.mem_of_getElem? (i := 17) rfl), (List.forall_mem_cons.mpr ⟨(List.mem_of_getElem? (i := 18) rfl), (List.forall_mem_cons.mpr ⟨(List.mem_of_getElem? (i := 19) rfl), (List.forall_mem_cons.mpr ⟨(List.mem_of_getElem? (i := 20) rfl), (List.forall_mem_cons.mpr ⟨(List.mem_of_getElem? (i := 21) rfl), (List.forall_mem_cons.mpr ⟨(List.mem_of_getElem? (i := 22) rfl), (List.forall_mem_cons.mpr ⟨(List.mem_of_getElem? (i := 23) rfl), (List.forall_mem_cons.mpr ⟨(List.mem_of_getElem? (i := 24) rfl), (List.forall_mem_cons.mpr ⟨(List.mem_of_getElem? (i := 25) rfl), (List.forall_mem_cons.mpr ⟨(List.mem_of_getElem? (i := 26) rfl), (List.forall_mem_cons.mpr ⟨(List.mem_of_getElem? (i := 27) rfl), (List.forall_mem_cons.mpr ⟨(List.mem_of_getElem? (i := 28) rfl), (List.forall_mem_cons.mpr ⟨(List.mem_of_getElem? (i := 29) rfl), (List.forall_mem_cons.mpr ⟨(List.mem_of_getElem? (i := 14) rfl), (List.forall_mem_cons.mpr ⟨(List.mem_of_getElem? (i := 30) rfl), (List.forall_mem_cons.mpr ⟨(List.mem_of_getElem? (i := 31) rfl), (List.forall_mem_cons.mpr ⟨(List.mem_of_getElem? (i := 32) rfl), (List.forall_mem_cons.mpr ⟨(List.mem_of_getElem? (i := 33) rfl), (List.forall_mem_cons.mpr ⟨(List.mem_of_getElem? (i := 34) rfl), (List.forall_mem_cons.mpr ⟨(List.mem_of_getElem? (i := 35) rfl), (List.forall_mem_cons.mpr ⟨(List.mem_of_getElem? (i := 36) rfl), (List.forall_mem_cons.mpr ⟨(List.mem_of_getElem? (i := 37) rfl), (List.forall_mem_cons.mpr ⟨(List.mem_of_getElem? (i := 38) rfl), (fun _ h => absurd h List.not_mem_nil)⟩)⟩)⟩)⟩)⟩)⟩)⟩)⟩)⟩)⟩)⟩)⟩)⟩)⟩)⟩)⟩)⟩)⟩)⟩)⟩)⟩)⟩)⟩)⟩)), (List.forall_mem_append.mpr ⟨(show ∀ w ∈ wsX2_readFits_r2, w ∈ wsX6_count from (List.forall_mem_cons.mpr ⟨(List.mem_of_getElem? (i := 39) rfl), (List.forall_mem_cons.mpr ⟨(List.mem_of_getElem? (i := 40) rfl), (List.forall_mem_cons.mpr ⟨(List.mem_of_getElem? (i := 41) rfl), (List.forall_mem_cons.mpr ⟨(List.mem_of_getElem? (i := 42) rfl), (List.forall_mem_cons.mpr ⟨(List.mem_of_getElem? (i := 43) rfl), (List.forall_mem_cons.mpr ⟨(List.mem_of_getElem? (i := 44) rfl), (List.forall_mem_cons.mpr ⟨(List.mem_of_getElem? (i := 45) rfl), (List.forall_mem_cons.mpr ⟨(List.mem_of_getElem? (i := 46) rfl), (List.forall_mem_cons.mpr ⟨(List.mem_of_getElem? (i := 47) rfl), (List.forall_mem_cons.mpr ⟨(List.mem_of_getElem? (i := 48) rfl), (List.forall_mem_cons.mpr ⟨(List.mem_of_getElem? (i := 49) rfl), (List.forall_mem_cons.mpr ⟨(List.mem_of_getElem? (i := 50) rfl), (List.forall_mem_cons.mpr ⟨(List.mem_of_getElem? (i := 51) rfl), (List.forall_mem_cons.mpr ⟨(List.mem_of_getElem? (i := 52) rfl), (List.forall_mem_cons.mpr ⟨(List.mem_of_getElem? (i := 53) rfl), (List.forall_mem_cons.mpr ⟨(List.mem_of_getElem? (i := 54) rfl), (List.forall_mem_cons.mpr ⟨(List.mem_of_getElem? (i := 55) rfl), (List.forall_mem_cons.mpr ⟨(List.mem_of_getElem? (i := 56) rfl), (List.forall_mem_cons.mpr ⟨(List.mem_of_getElem? (i := 57) rfl), (List.forall_mem_cons.mpr ⟨(List.mem_of_getElem? (i := 58) rfl), (List.forall_mem_cons.mpr ⟨(List.mem_of_getElem? (i := 59) rfl), (List.forall_mem_cons.mpr ⟨(List.mem_of_getElem? (i := 60) rfl), (List.forall_mem_cons.mpr ⟨(List.mem_of_getElem? (i := 61) rfl), (List.forall_mem_cons.mpr ⟨(List.mem_of_getElem? (i := 62) rfl), (fun _ h => absurd h List.not_mem_nil)⟩)⟩)⟩)⟩)⟩)⟩)⟩)⟩)⟩)⟩)⟩)⟩)⟩)⟩)⟩)⟩)⟩)⟩)⟩)⟩)⟩)⟩)⟩)⟩)), (show ∀ w ∈ wsX2_readFits_r3, w ∈ wsX6_count from (List.forall_mem_cons.mpr ⟨(List.mem_of_getElem? (i := 63) rfl), (List.forall_mem_cons.mpr ⟨(List.mem_of_getElem? (i := 64) rfl), (List.forall_mem_cons.mpr ⟨(List.mem_of_getElem? (i := 65) rfl), (List.forall_mem_cons.mpr ⟨(List.mem_of_getElem? (i := 66) rfl), (List.forall_mem_cons.mpr ⟨(List.mem_of_getElem? (i := 67) rfl), (List.forall_mem_cons.mpr ⟨(List.mem_of_getElem? (i := 68) rfl), (List.forall_mem_cons.mpr ⟨(List.mem_of_getElem? (i := 69) rfl), (List.forall_mem_cons.mpr ⟨(List.mem_of_getElem? (i := 70) rfl), (List.forall_mem_cons.mpr ⟨(List.mem_of_getElem? (i := 71) rfl), (List.forall_mem_cons.mpr ⟨(List.mem_of_getElem? (i := 72) rfl), (List.forall_mem_cons.mpr ⟨(List.mem_of_getElem? (i := 73) rfl), (List.forall_mem_cons.mpr ⟨(List.mem_of_getElem? (i := 74) rfl), (List.forall_mem_cons.mpr ⟨(List.mem_of_getElem? (i := 75) rfl), (List.forall_mem_cons.mpr ⟨(List.mem_of_getElem? (i := 76) rfl), (List.forall_mem_cons.mpr ⟨(List.mem_of_getElem? (i := 77) rfl), (List.forall_mem_cons.mpr ⟨(List.mem_of_getElem? (i := 78) rfl), (List.forall_mem_cons.mpr ⟨(List.mem_of_getElem? (i := 79) rfl), (List.forall_mem_cons.mpr ⟨(List.mem_of_getElem? (i := 80) rfl), (List.forall_mem_cons.mpr ⟨(List.mem_of_getElem? (i := 81) rfl), (fun _ h => absurd h List.not_mem_nil)⟩)⟩)⟩)⟩)⟩)⟩)⟩)⟩)⟩)⟩)⟩)⟩)⟩)⟩)⟩)⟩)⟩)⟩)⟩))⟩)⟩), (fun _ h => (List.mem_cons_of_mem _ (List.mem_append_right _ h)))⟩), (fun _ h => (List.mem_cons_of_mem _ (List.mem_append_left _ (List.mem_append_left _ (List.mem_append_left _ (List.mem_append_right _ h))))))⟩), (fun _ h => (List.mem_cons_of_mem _ (List.mem_append_left _ (List.mem_append_left _ (List.mem_append_right _ h)))))⟩)⟩) (by decide +kernel)
set_option maxRecDepth 20000 in
theorem gX6_count_X2_readFits : GoodIn wsX6_count (wsV RX6 123 RX2 yX2_readFits wsX2_readFits) := goodIn_app (goodIn_sub (List.forall_mem_cons.mpr ⟨(List.mem_of_getElem? (i := 11) rfl), (List.forall_mem_cons.mpr ⟨(List.mem_of_getElem? (i := 12) rfl), (List.forall_mem_cons.mpr ⟨(List.mem_of_getElem? (i := 13) rfl), (List.forall_mem_cons.mpr ⟨(List.mem_of_getElem? (i := 14) rfl), (fun _ h => absurd h List.not_mem_nil)⟩)⟩)⟩)⟩) (by decide +kernel)) ggX6_count_X2_readFits
set_option maxRecDepth 20000 in
theorem ggX6_count_X6_pairsIn : GoodIn wsX6_count wsX6_pairsIn := goodIn_sub (List.forall_mem_cons.mpr ⟨(List.mem_of_getElem? (i := 86) rfl), (List.forall_mem_append.mpr ⟨(List.forall_mem_append.mpr ⟨(List.forall_mem_cons.mpr ⟨(List.mem_of_getElem? (i := 4) rfl), (List.forall_mem_cons.mpr ⟨(List.mem_of_getElem? (i := 5) rfl), (List.forall_mem_cons.mpr ⟨(List.mem_of_getElem? (i := 87) rfl), (List.forall_mem_cons.mpr ⟨(List.mem_of_getElem? (i := 88) rfl), (List.forall_mem_cons.mpr ⟨(List.mem_of_getElem? (i := 89) rfl), (List.forall_mem_cons.mpr ⟨(List.mem_of_getElem? (i := 90) rfl), (List.forall_mem_cons.mpr ⟨(List.mem_of_getElem? (i := 91) rfl), (List.forall_mem_cons.mpr ⟨(List.mem_of_getElem? (i := 92) rfl), (List.forall_mem_cons.mpr ⟨(List.mem_of_getElem? (i := 93) rfl), (fun _ h => absurd h List.not_mem_nil)⟩)⟩)⟩)⟩)⟩)⟩)⟩)⟩)⟩), (fun _ h => (List.mem_cons_of_mem _ (List.mem_append_left _ (List.mem_append_left _ (List.mem_append_left _ (List.mem_append_left _ (List.mem_append_right _ h)))))))⟩), (fun _ h => (List.mem_cons_of_mem _ (List.mem_append_left _ (List.mem_append_left _ (List.mem_append_right _ h)))))⟩)⟩) (by decide +kernel)
set_option maxRecDepth 20000 in
theorem gX6_count_X6_pairsIn : GoodIn wsX6_count (wsV RX6 194 RX6 yX6_pairsIn wsX6_pairsIn) := goodIn_app (goodIn_sub (List.forall_mem_cons.mpr ⟨(List.mem_of_getElem? (i := 82) rfl), (List.forall_mem_cons.mpr ⟨(List.mem_of_getElem? (i := 83) rfl), (List.forall_mem_cons.mpr ⟨(List.mem_of_getElem? (i := 84) rfl), (List.forall_mem_cons.mpr ⟨(List.mem_of_getElem? (i := 85) rfl), (fun _ h => absurd h List.not_mem_nil)⟩)⟩)⟩)⟩) (by decide +kernel)) ggX6_count_X6_pairsIn
set_option maxRecDepth 20000 in
theorem ggX6_count_X2_readSure : GoodIn wsX6_count wsX2_readSure := goodIn_sub (List.forall_mem_cons.mpr ⟨(List.mem_of_getElem? (i := 97) rfl), (List.forall_mem_append.mpr ⟨(List.forall_mem_append.mpr ⟨(List.forall_mem_append.mpr ⟨(List.forall_mem_append.mpr ⟨(show ∀ w ∈ wsX2_readSure_r1, w ∈ wsX6_count from (List.forall_mem_cons.mpr ⟨(List.mem_of_getElem? (i := 98) rfl), (List.forall_mem_cons.mpr ⟨(List.mem_of_getElem? (i := 99) rfl), (List.forall_mem_cons.mpr ⟨(List.mem_of_getElem? (i := 100) rfl), (List.forall_mem_cons.mpr ⟨(List.mem_of_getElem? (i := 101) rfl), (List.forall_mem_cons.mpr ⟨(List.mem_of_getElem? (i := 102) rfl), (List.forall_mem_cons.mpr ⟨(List.mem_of_getElem? (i := 14) rfl), (List.forall_mem_cons.mpr ⟨(List.mem_of_getElem? (i := 103) rfl), (List.forall_mem_cons.mpr ⟨(List.mem_of_getElem? (i := 18) rfl), (List.forall_mem_cons.mpr ⟨(List.mem_of_getElem? (i := 31) rfl), (List.forall_mem_cons.mpr ⟨(List.mem_of_getElem? (i := 19) rfl), (List.forall_mem_cons.mpr ⟨(List.mem_of_getElem? (i := 20) rfl), (List.forall_mem_cons.mpr ⟨(List.mem_of_getElem? (i := 33) rfl), (List.forall_mem_cons.mpr ⟨(List.mem_of_getElem? (i := 34) rfl), (List.forall_mem_cons.mpr ⟨(List.mem_of_getElem? (i := 35) rfl), (List.forall_mem_cons.mpr ⟨(List.mem_of_getElem? (i := 36) rfl), (List.forall_mem_cons.mpr ⟨(List.mem_of_getElem? (i := 37) rfl), (List.forall_mem_cons.mpr ⟨(List.mem_of_getElem? (i := 38) rfl), (List.forall_mem_cons.mpr ⟨(List.mem_of_getElem? (i := 39) rfl), (List.forall_mem_cons.mpr ⟨(List.mem_of_getElem? (i := 40) rfl), (List.forall_mem_cons.mpr ⟨(List.mem_of_getElem? (i := 41) rfl), (List.forall_mem_cons.mpr ⟨(List.mem_of_getElem? (i := 42) rfl), (List.forall_mem_cons.mpr ⟨(List.mem_of_getElem? (i := 43) rfl), (List.forall_mem_cons.mpr ⟨(List.mem_of_getElem? (i := 44) rfl), (List.forall_mem_cons.mpr ⟨(List.mem_of_getElem? (i := 45) rfl), (fun _ h => absurd h List.not_mem_nil)⟩)⟩)⟩)⟩)⟩)⟩)⟩)⟩)⟩)⟩)⟩)⟩)⟩)⟩)⟩)⟩)⟩)⟩)⟩)⟩)⟩)⟩)⟩)⟩)), (List.forall_mem_append.mpr ⟨(show ∀ w ∈ wsX2_readSure_r2, w ∈ wsX6_count from (List.forall_mem_cons.mpr ⟨(List.mem_of_getElem? (i := 46) rfl), (List.forall_mem_cons.mpr ⟨(List.mem_of_getElem? (i := 47) rfl), (List.forall_mem_cons.mpr ⟨(List.mem_of_getElem? (i := 48) rfl), (List.forall_mem_cons.mpr ⟨(List.mem_of_getElem? (i := 49) rfl), (List.forall_mem_cons.mpr ⟨(List.mem_of_getElem? (i := 50) rfl), (List.forall_mem_cons.mpr ⟨(List.mem_of_getElem? (i := 51) rfl), (List.forall_mem_cons.mpr ⟨(List.mem_of_getElem? (i := 52) rfl), (List.forall_mem_cons.mpr ⟨(List.mem_of_getElem? (i := 53) rfl), (List.forall_mem_cons.mpr ⟨(List.mem_of_getElem? (i := 54) rfl), (List.forall_mem_cons.mpr ⟨(List.mem_of_getElem? (i := 55) rfl), (List.forall_mem_cons.mpr ⟨(List.mem_of_getElem? (i := 56) rfl), (List.forall_mem_cons.mpr ⟨(List.mem_of_getElem? (i := 57) rfl), (List.forall_mem_cons.mpr ⟨(List.mem_of_getElem? (i := 58) rfl), (List.forall_mem_cons.mpr ⟨(List.mem_of_getElem? (i := 59) rfl), (List.forall_mem_cons.mpr ⟨(List.mem_of_getElem? (i := 60) rfl), (List.forall_mem_cons.mpr ⟨(List.mem_of_getElem? (i := 61) rfl), (List.forall_mem_cons.mpr ⟨(List.mem_of_getElem? (i := 62) rfl), (List.forall_mem_cons.mpr ⟨(List.mem_of_getElem? (i := 63) rfl), (List.forall_mem_cons.mpr ⟨(List.mem_of_getElem? (i := 64) rfl), (List.forall_mem_cons.mpr ⟨(List.mem_of_getElem? (i := 65) rfl), (List.forall_mem_cons.mpr ⟨(List.mem_of_getElem? (i := 66) rfl), (List.forall_mem_cons.mpr ⟨(List.mem_of_getElem? (i := 67) rfl), (List.forall_mem_cons.mpr ⟨(List.mem_of_getElem? (i := 68) rfl), (List.forall_mem_cons.mpr ⟨(List.mem_of_getElem? (i := 69) rfl), (fun _ h => absurd h List.not_mem_nil)⟩)⟩)⟩)⟩)⟩)⟩)⟩)⟩)⟩)⟩)⟩)⟩)⟩)⟩)⟩)⟩)⟩)⟩)⟩)⟩)⟩)⟩)⟩)⟩)), (show ∀ w ∈ wsX2_readSure_r3, w ∈ wsX6_count from (List.forall_mem_cons.mpr ⟨(List.mem_of_getElem? (i := 70) rfl), (List.forall_mem_cons.mpr ⟨(List.mem_of_getElem? (i := 17) rfl), (List.forall_mem_cons.mpr ⟨(List.mem_of_getElem? (i := 71) rfl), (List.forall_mem_cons.mpr ⟨(List.mem_of_getElem? (i := 72) rfl), (List.forall_mem_cons.mpr ⟨(List.mem_of_getElem? (i := 73) rfl), (List.forall_mem_cons.mpr ⟨(List.mem_of_getElem? (i := 74) rfl), (List.forall_mem_cons.mpr ⟨(List.mem_of_getElem? (i := 75) rfl), (List.forall_mem_cons.mpr ⟨(List.mem_of_getElem? (i := 76) rfl), (List.forall_mem_cons.mpr ⟨(List.mem_of_getElem? (i := 77) rfl), (List.forall_mem_cons.mpr ⟨(List.mem_of_getElem? (i := 78) rfl), (List.forall_mem_cons.mpr ⟨(List.mem_of_getElem? (i := 79) rfl), (List.forall_mem_cons.mpr ⟨(List.mem_of_getElem? (i := 80) rfl), (List.forall_mem_cons.mpr ⟨(List.mem_of_getElem? (i := 81) rfl), (fun _ h => absurd h List.not_mem_nil)⟩)⟩)⟩)⟩)⟩)⟩)⟩)⟩)⟩)⟩)⟩)⟩)⟩))⟩)⟩), (fun _ h => (List.mem_cons_of_mem _ (List.mem_append_right _ h)))⟩), (fun _ h => (List.mem_cons_of_mem _ (List.mem_append_left _ (List.mem_append_left _ (List.mem_append_right _ h)))))⟩), (fun _ h => (List.mem_cons_of_mem _ (List.mem_append_left _ (List.mem_append_left _ (List.mem_append_left _ (List.mem_append_right _ h))))))⟩)⟩) (by decide +kernel)
set_option maxRecDepth 20000 in
theorem gX6_count_X2_readSure : GoodIn wsX6_count (wsV RX6 129 RX2 yX2_readSure wsX2_readSure) := goodIn_app (goodIn_sub (List.forall_mem_cons.mpr ⟨(List.mem_of_getElem? (i := 94) rfl), (List.forall_mem_cons.mpr ⟨(List.mem_of_getElem? (i := 95) rfl), (List.forall_mem_cons.mpr ⟨(List.mem_of_getElem? (i := 96) rfl), (List.forall_mem_cons.mpr ⟨(List.mem_of_getElem? (i := 14) rfl), (fun _ h => absurd h List.not_mem_nil)⟩)⟩)⟩)⟩) (by decide +kernel)) ggX6_count_X2_readSure
set_option maxRecDepth 100000 in
theorem daX6_count : ∀ q ∈ ([(0, .iload_n 1, 1), (1, .tableswitch 116 0 5 #[39, 47, 55, 63, 71, 90], 39), (40, .aload_n 0, 1), (41, .getfield 10, 3), (44, .getfield 55, 3), (47, .ireturn, 1), (48, .aload_n 0, 1), (49, .getfield 10, 3), (52, .getfield 81, 3), (55, .ireturn, 1), (56, .aload_n 0, 1), (57, .getfield 35, 3), (60, .getfield 116, 3), (63, .ireturn, 1), (64, .aload_n 0, 1), (65, .getfield 19, 3), (68, .getfield 96, 3), (71, .ireturn, 1), (72, .aload_n 0, 1), (73, .getfield 47, 3), (76, .invokevirtual 123, 3), (79, .aload_n 0, 1), (80, .aload_n 0, 1), (81, .getfield 47, 3), (84, .getfield 126, 3), (87, .invokevirtual 194, 3), (90, .ireturn, 1), (91, .aload_n 0, 1), (92, .getfield 47, 3), (95, .invokevirtual 123, 3), (98, .aload_n 0, 1), (99, .getfield 47, 3), (102, .invokevirtual 129, 3), (105, .aload_n 0, 1), (106, .aload_n 0, 1), (107, .getfield 47, 3), (110, .getfield 132, 3), (113, .invokevirtual 194, 3), (116, .ireturn, 1), (117, .iconst (-1), 1), (118, .ireturn, 1)] : List (Nat × Instr × Nat)), decode cX6_count q.1 = .ok q.2 := by decide +kernel
theorem dX6_count_0 : decode cX6_count 0 = .ok (.iload_n 1, 1) := daX6_count (0, .iload_n 1, 1) (List.mem_of_getElem? (i := 0) rfl)
theorem dX6_count_1 : decode cX6_count 1 = .ok (.tableswitch 116 0 5 #[39, 47, 55, 63, 71, 90], 39) := daX6_count (1, .tableswitch 116 0 5 #[39, 47, 55, 63, 71, 90], 39) (List.mem_of_getElem? (i := 1) rfl)
theorem dX6_count_40 : decode cX6_count 40 = .ok (.aload_n 0, 1) := daX6_count (40, .aload_n 0, 1) (List.mem_of_getElem? (i := 2) rfl)
theorem dX6_count_41 : decode cX6_count 41 = .ok (.getfield 10, 3) := daX6_count (41, .getfield 10, 3) (List.mem_of_getElem? (i := 3) rfl)
theorem dX6_count_44 : decode cX6_count 44 = .ok (.getfield 55, 3) := daX6_count (44, .getfield 55, 3) (List.mem_of_getElem? (i := 4) rfl)
theorem dX6_count_47 : decode cX6_count 47 = .ok (.ireturn, 1) := daX6_count (47, .ireturn, 1) (List.mem_of_getElem? (i := 5) rfl)
theorem dX6_count_48 : decode cX6_count 48 = .ok (.aload_n 0, 1) := daX6_count (48, .aload_n 0, 1) (List.mem_of_getElem? (i := 6) rfl)
theorem dX6_count_49 : decode cX6_count 49 = .ok (.getfield 10, 3) := daX6_count (49, .getfield 10, 3) (List.mem_of_getElem? (i := 7) rfl)
theorem dX6_count_52 : decode cX6_count 52 = .ok (.getfield 81, 3) := daX6_count (52, .getfield 81, 3) (List.mem_of_getElem? (i := 8) rfl)
theorem dX6_count_55 : decode cX6_count 55 = .ok (.ireturn, 1) := daX6_count (55, .ireturn, 1) (List.mem_of_getElem? (i := 9) rfl)
theorem dX6_count_56 : decode cX6_count 56 = .ok (.aload_n 0, 1) := daX6_count (56, .aload_n 0, 1) (List.mem_of_getElem? (i := 10) rfl)
theorem dX6_count_57 : decode cX6_count 57 = .ok (.getfield 35, 3) := daX6_count (57, .getfield 35, 3) (List.mem_of_getElem? (i := 11) rfl)
theorem dX6_count_60 : decode cX6_count 60 = .ok (.getfield 116, 3) := daX6_count (60, .getfield 116, 3) (List.mem_of_getElem? (i := 12) rfl)
theorem dX6_count_63 : decode cX6_count 63 = .ok (.ireturn, 1) := daX6_count (63, .ireturn, 1) (List.mem_of_getElem? (i := 13) rfl)
theorem dX6_count_64 : decode cX6_count 64 = .ok (.aload_n 0, 1) := daX6_count (64, .aload_n 0, 1) (List.mem_of_getElem? (i := 14) rfl)
theorem dX6_count_65 : decode cX6_count 65 = .ok (.getfield 19, 3) := daX6_count (65, .getfield 19, 3) (List.mem_of_getElem? (i := 15) rfl)
theorem dX6_count_68 : decode cX6_count 68 = .ok (.getfield 96, 3) := daX6_count (68, .getfield 96, 3) (List.mem_of_getElem? (i := 16) rfl)
theorem dX6_count_71 : decode cX6_count 71 = .ok (.ireturn, 1) := daX6_count (71, .ireturn, 1) (List.mem_of_getElem? (i := 17) rfl)
theorem dX6_count_72 : decode cX6_count 72 = .ok (.aload_n 0, 1) := daX6_count (72, .aload_n 0, 1) (List.mem_of_getElem? (i := 18) rfl)
theorem dX6_count_73 : decode cX6_count 73 = .ok (.getfield 47, 3) := daX6_count (73, .getfield 47, 3) (List.mem_of_getElem? (i := 19) rfl)
theorem dX6_count_76 : decode cX6_count 76 = .ok (.invokevirtual 123, 3) := daX6_count (76, .invokevirtual 123, 3) (List.mem_of_getElem? (i := 20) rfl)
theorem dX6_count_79 : decode cX6_count 79 = .ok (.aload_n 0, 1) := daX6_count (79, .aload_n 0, 1) (List.mem_of_getElem? (i := 21) rfl)
theorem dX6_count_80 : decode cX6_count 80 = .ok (.aload_n 0, 1) := daX6_count (80, .aload_n 0, 1) (List.mem_of_getElem? (i := 22) rfl)
theorem dX6_count_81 : decode cX6_count 81 = .ok (.getfield 47, 3) := daX6_count (81, .getfield 47, 3) (List.mem_of_getElem? (i := 23) rfl)
theorem dX6_count_84 : decode cX6_count 84 = .ok (.getfield 126, 3) := daX6_count (84, .getfield 126, 3) (List.mem_of_getElem? (i := 24) rfl)
theorem dX6_count_87 : decode cX6_count 87 = .ok (.invokevirtual 194, 3) := daX6_count (87, .invokevirtual 194, 3) (List.mem_of_getElem? (i := 25) rfl)
theorem dX6_count_90 : decode cX6_count 90 = .ok (.ireturn, 1) := daX6_count (90, .ireturn, 1) (List.mem_of_getElem? (i := 26) rfl)
theorem dX6_count_91 : decode cX6_count 91 = .ok (.aload_n 0, 1) := daX6_count (91, .aload_n 0, 1) (List.mem_of_getElem? (i := 27) rfl)
theorem dX6_count_92 : decode cX6_count 92 = .ok (.getfield 47, 3) := daX6_count (92, .getfield 47, 3) (List.mem_of_getElem? (i := 28) rfl)
theorem dX6_count_95 : decode cX6_count 95 = .ok (.invokevirtual 123, 3) := daX6_count (95, .invokevirtual 123, 3) (List.mem_of_getElem? (i := 29) rfl)
theorem dX6_count_98 : decode cX6_count 98 = .ok (.aload_n 0, 1) := daX6_count (98, .aload_n 0, 1) (List.mem_of_getElem? (i := 30) rfl)
theorem dX6_count_99 : decode cX6_count 99 = .ok (.getfield 47, 3) := daX6_count (99, .getfield 47, 3) (List.mem_of_getElem? (i := 31) rfl)
theorem dX6_count_102 : decode cX6_count 102 = .ok (.invokevirtual 129, 3) := daX6_count (102, .invokevirtual 129, 3) (List.mem_of_getElem? (i := 32) rfl)
theorem dX6_count_105 : decode cX6_count 105 = .ok (.aload_n 0, 1) := daX6_count (105, .aload_n 0, 1) (List.mem_of_getElem? (i := 33) rfl)
theorem dX6_count_106 : decode cX6_count 106 = .ok (.aload_n 0, 1) := daX6_count (106, .aload_n 0, 1) (List.mem_of_getElem? (i := 34) rfl)
theorem dX6_count_107 : decode cX6_count 107 = .ok (.getfield 47, 3) := daX6_count (107, .getfield 47, 3) (List.mem_of_getElem? (i := 35) rfl)
theorem dX6_count_110 : decode cX6_count 110 = .ok (.getfield 132, 3) := daX6_count (110, .getfield 132, 3) (List.mem_of_getElem? (i := 36) rfl)
theorem dX6_count_113 : decode cX6_count 113 = .ok (.invokevirtual 194, 3) := daX6_count (113, .invokevirtual 194, 3) (List.mem_of_getElem? (i := 37) rfl)
theorem dX6_count_116 : decode cX6_count 116 = .ok (.ireturn, 1) := daX6_count (116, .ireturn, 1) (List.mem_of_getElem? (i := 38) rfl)
theorem dX6_count_117 : decode cX6_count 117 = .ok (.iconst (-1), 1) := daX6_count (117, .iconst (-1), 1) (List.mem_of_getElem? (i := 39) rfl)
theorem dX6_count_118 : decode cX6_count 118 = .ok (.ireturn, 1) := daX6_count (118, .ireturn, 1) (List.mem_of_getElem? (i := 40) rfl)
def rmX6_count : Room := { frames := 6, cells := 0, slots := 0, locals := 150 }
theorem zdX6_count : yX6_count.cls = RX6 ∧ yX6_count.cls ≠ "java/lang/invoke/MethodHandle" ∧ yX6_count.cls ≠ "java/lang/invoke/VarHandle" ∧ (parseMethodDescriptor yX6_count.desc).map (fun d => d.parameters.length) = some 1 := by decide +kernel
theorem kiX6_count_X6 : ∀ w ∈ wsX60, w ∈ wsX6_count := fun _ h => (List.mem_cons_of_mem _ (List.mem_append_left _ (List.mem_append_left _ (List.mem_append_left _ (List.mem_append_left _ (List.mem_append_right _ h))))))
theorem kfX6_count_10 : Cond.fieldLink RX6 10 "ShapeJudge" "graph" "LShapeJudge$Graph;" ∈ wsX6_count := (List.mem_of_getElem? (i := 1) rfl)
theorem kiX6_count_X1 : ∀ w ∈ wsX10, w ∈ wsX6_count := fun _ h => (List.mem_cons_of_mem _ (List.mem_append_left _ (List.mem_append_left _ (List.mem_append_left _ (List.mem_append_right _ h)))))
theorem kfX6_count_55 : Cond.fieldLink RX6 55 "ShapeJudge$Graph" "nodes" "I" ∈ wsX6_count := (List.mem_of_getElem? (i := 2) rfl)
theorem kfX6_count_81 : Cond.fieldLink RX6 81 "ShapeJudge$Graph" "edges" "I" ∈ wsX6_count := (List.mem_of_getElem? (i := 3) rfl)
theorem kfX6_count_35 : Cond.fieldLink RX6 35 "ShapeJudge" "book" "LShapeJudge$Book;" ∈ wsX6_count := (List.mem_of_getElem? (i := 4) rfl)
theorem kiX6_count_X0 : ∀ w ∈ wsX00, w ∈ wsX6_count := fun _ h => (List.mem_cons_of_mem _ (List.mem_append_left _ (List.mem_append_left _ (List.mem_append_right _ h))))
theorem kfX6_count_116 : Cond.fieldLink RX6 116 "ShapeJudge$Book" "shapeCount" "I" ∈ wsX6_count := (List.mem_of_getElem? (i := 5) rfl)
theorem kfX6_count_19 : Cond.fieldLink RX6 19 "ShapeJudge" "tape" "LShapeJudge$Tape;" ∈ wsX6_count := (List.mem_of_getElem? (i := 6) rfl)
theorem kiX6_count_X3 : ∀ w ∈ wsX30, w ∈ wsX6_count := fun _ h => (List.mem_cons_of_mem _ (List.mem_append_left _ (List.mem_append_right _ h)))
theorem kfX6_count_96 : Cond.fieldLink RX6 96 "ShapeJudge$Tape" "length" "I" ∈ wsX6_count := (List.mem_of_getElem? (i := 7) rfl)
theorem kfX6_count_47 : Cond.fieldLink RX6 47 "ShapeJudge" "judge" "LShapeJudge$Judge;" ∈ wsX6_count := (List.mem_of_getElem? (i := 8) rfl)
theorem kiX6_count_X2 : ∀ w ∈ wsX20, w ∈ wsX6_count := fun _ h => (List.mem_cons_of_mem _ (List.mem_append_right _ h))
theorem kfX6_count_126 : Cond.fieldLink RX6 126 "ShapeJudge$Judge" "fitting" "[I" ∈ wsX6_count := (List.mem_of_getElem? (i := 9) rfl)
theorem kfX6_count_132 : Cond.fieldLink RX6 132 "ShapeJudge$Judge" "sure" "[I" ∈ wsX6_count := (List.mem_of_getElem? (i := 10) rfl)
def s_X6_count (m : Mem) (a1 : Int32) : Option (Int32 × Mem) :=
  (if a1 = 0 then (some ((m 1 0), m)) else ((if a1 = 1 then (some ((m 1 1), m)) else ((if a1 = 2 then (zbk (m 0 4) fun b4 => some ((m b4 0), m)) else ((if a1 = 3 then (some ((m 7 1), m)) else ((if a1 = 4 then ((s_X2_readFits m).bind fun m8 => (s_X6_pairsIn m8 40).bind fun r10 => some (r10, m8)) else ((if a1 = 5 then ((s_X2_readFits m).bind fun m13 => (s_X2_readSure m13).bind fun m15 => (s_X6_pairsIn m15 41).bind fun r17 => some (r17, m15)) else (some ((-1), m)))))))))))))
set_option maxRecDepth 100000 in
set_option maxHeartbeats 4000000 in
theorem c_X6_count (l : Launch) (w : ZW) {m : Mem} {a1 : Int32} {r9 : Int32} {m9 : Mem}  (hf : s_X6_count m a1 = some (r9, m9)) : zCi MX l w yX6_count wsX6_count rmX6_count [.ref (w.2.1 0), .int a1] m m9 r9 := by
  refine z_met_i MX_ok (own := RX6) (by decide +kernel) rfl rfl (Nat.le_of_ble_eq_true rfl) ?_
  intro K C hKw hKl hret
  subst hKw
  subst hKl
  unfold s_X6_count at hf
  show zGo MX K m [(0, .ref ((zw K).2.1 0)), (1, .int a1)] 0 []
  refine z_iload_n C 1 dX6_count_0 rfl rfl ?_
  refine zby (c := a1 = 0) (fun c1 => ?_) (fun c1 => ?_)
  · replace hf := if_t c1 hf
    refine z_tab (v := 0) (tgt := 40) (off := 39) C c1 dX6_count_1 (by decide) (by decide) rfl (by decide) ?_
    refine z_aload_n C 0 dX6_count_40 rfl rfl ?_
    refine z_getr C (t := 1) (Nat.le_of_ble_eq_true rfl) rfl rfl 0 (Nat.le_of_ble_eq_true rfl) rfl kiX6_count_X6 kfX6_count_10 dX6_count_41 ?_
    refine z_geti C (Nat.le_of_ble_eq_true rfl) rfl rfl 0 (Nat.le_of_ble_eq_true rfl) rfl kiX6_count_X1 kfX6_count_55 dX6_count_44 ?_
    obtain ⟨e1, e2⟩ := sp_el hf
    subst e1
    subst e2
    exact hret _ _ dX6_count_47
  · replace hf := if_f c1 hf
    refine zby (c := a1 = 1) (fun c2 => ?_) (fun c2 => ?_)
    · replace hf := if_t c2 hf
      refine z_tab (v := 1) (tgt := 48) (off := 47) C c2 dX6_count_1 (by decide) (by decide) rfl (by decide) ?_
      refine z_aload_n C 0 dX6_count_48 rfl rfl ?_
      refine z_getr C (t := 1) (Nat.le_of_ble_eq_true rfl) rfl rfl 0 (Nat.le_of_ble_eq_true rfl) rfl kiX6_count_X6 kfX6_count_10 dX6_count_49 ?_
      refine z_geti C (Nat.le_of_ble_eq_true rfl) rfl rfl 1 (Nat.le_of_ble_eq_true rfl) rfl kiX6_count_X1 kfX6_count_81 dX6_count_52 ?_
      obtain ⟨e1, e2⟩ := sp_el hf
      subst e1
      subst e2
      exact hret _ _ dX6_count_55
    · replace hf := if_f c2 hf
      refine zby (c := a1 = 2) (fun c3 => ?_) (fun c3 => ?_)
      · replace hf := if_t c3 hf
        refine z_tab (v := 2) (tgt := 56) (off := 55) C c3 dX6_count_1 (by decide) (by decide) rfl (by decide) ?_
        refine z_aload_n C 0 dX6_count_56 rfl rfl ?_
        obtain ⟨b4, hb4, e_b4, hf⟩ := zbk_el hf
        refine z_getb C (b := b4) (Nat.le_of_ble_eq_true rfl) rfl rfl 4 (Nat.le_of_ble_eq_true rfl) rfl kiX6_count_X6 kfX6_count_35 (isb_lt hb4) e_b4 dX6_count_57 ?_
        refine z_geti C (isb_k0 hb4) (isb_L0 hb4) rfl 0 (Nat.le_of_ble_eq_true rfl) rfl kiX6_count_X0 kfX6_count_116 dX6_count_60 ?_
        obtain ⟨e1, e2⟩ := sp_el hf
        subst e1
        subst e2
        exact hret _ _ dX6_count_63
      · replace hf := if_f c3 hf
        refine zby (c := a1 = 3) (fun c5 => ?_) (fun c5 => ?_)
        · replace hf := if_t c5 hf
          refine z_tab (v := 3) (tgt := 64) (off := 63) C c5 dX6_count_1 (by decide) (by decide) rfl (by decide) ?_
          refine z_aload_n C 0 dX6_count_64 rfl rfl ?_
          refine z_getr C (t := 7) (Nat.le_of_ble_eq_true rfl) rfl rfl 1 (Nat.le_of_ble_eq_true rfl) rfl kiX6_count_X6 kfX6_count_19 dX6_count_65 ?_
          refine z_geti C (Nat.le_of_ble_eq_true rfl) rfl rfl 1 (Nat.le_of_ble_eq_true rfl) rfl kiX6_count_X3 kfX6_count_96 dX6_count_68 ?_
          obtain ⟨e1, e2⟩ := sp_el hf
          subst e1
          subst e2
          exact hret _ _ dX6_count_71
        · replace hf := if_f c5 hf
          refine zby (c := a1 = 4) (fun c6 => ?_) (fun c6 => ?_)
          · replace hf := if_t c6 hf
            refine z_tab (v := 4) (tgt := 72) (off := 71) C c6 dX6_count_1 (by decide) (by decide) rfl (by decide) ?_
            refine z_aload_n C 0 dX6_count_72 rfl rfl ?_
            refine z_getr C (t := 39) (Nat.le_of_ble_eq_true rfl) rfl rfl 3 (Nat.le_of_ble_eq_true rfl) rfl kiX6_count_X6 kfX6_count_47 dX6_count_73 ?_
            obtain ⟨m8, hc7, hf⟩ := zb_el hf
            refine z_cVv C (c_X2_readFits _ _ hc7) rfl gX6_count_X2_readFits rfl rfl zdX2_readFits rfl (Nat.le_of_ble_eq_true rfl) rfl rfl rfl ⟨Nat.le_of_ble_eq_true rfl, Nat.le_of_ble_eq_true rfl⟩ (Nat.le_of_ble_eq_true rfl) dX6_count_76 rfl ?_
            refine z_aload_n C 0 dX6_count_79 rfl rfl ?_
            refine z_aload_n C 0 dX6_count_80 rfl rfl ?_
            refine z_getr C (t := 39) (Nat.le_of_ble_eq_true rfl) rfl rfl 3 (Nat.le_of_ble_eq_true rfl) rfl kiX6_count_X6 kfX6_count_47 dX6_count_81 ?_
            refine z_getr C (t := 40) (Nat.le_of_ble_eq_true rfl) rfl rfl 2 (Nat.le_of_ble_eq_true rfl) rfl kiX6_count_X2 kfX6_count_126 dX6_count_84 ?_
            obtain ⟨r10, hc9, hf⟩ := zb_el hf
            refine z_cVi C (c_X6_pairsIn _ _ (Or.inl rfl) hc9) rfl gX6_count_X6_pairsIn rfl rfl zdX6_pairsIn rfl (Nat.le_of_ble_eq_true rfl) rfl rfl rfl ⟨Nat.le_of_ble_eq_true rfl, Nat.le_of_ble_eq_true rfl⟩ (Nat.le_of_ble_eq_true rfl) dX6_count_87 rfl ?_
            obtain ⟨e1, e2⟩ := sp_el hf
            subst e1
            subst e2
            exact hret _ _ dX6_count_90
          · replace hf := if_f c6 hf
            refine zby (c := a1 = 5) (fun c11 => ?_) (fun c11 => ?_)
            · replace hf := if_t c11 hf
              refine z_tab (v := 5) (tgt := 91) (off := 90) C c11 dX6_count_1 (by decide) (by decide) rfl (by decide) ?_
              refine z_aload_n C 0 dX6_count_91 rfl rfl ?_
              refine z_getr C (t := 39) (Nat.le_of_ble_eq_true rfl) rfl rfl 3 (Nat.le_of_ble_eq_true rfl) rfl kiX6_count_X6 kfX6_count_47 dX6_count_92 ?_
              obtain ⟨m13, hc12, hf⟩ := zb_el hf
              refine z_cVv C (c_X2_readFits _ _ hc12) rfl gX6_count_X2_readFits rfl rfl zdX2_readFits rfl (Nat.le_of_ble_eq_true rfl) rfl rfl rfl ⟨Nat.le_of_ble_eq_true rfl, Nat.le_of_ble_eq_true rfl⟩ (Nat.le_of_ble_eq_true rfl) dX6_count_95 rfl ?_
              refine z_aload_n C 0 dX6_count_98 rfl rfl ?_
              refine z_getr C (t := 39) (Nat.le_of_ble_eq_true rfl) rfl rfl 3 (Nat.le_of_ble_eq_true rfl) rfl kiX6_count_X6 kfX6_count_47 dX6_count_99 ?_
              obtain ⟨m15, hc14, hf⟩ := zb_el hf
              refine z_cVv C (c_X2_readSure _ _ hc14) rfl gX6_count_X2_readSure rfl rfl zdX2_readSure rfl (Nat.le_of_ble_eq_true rfl) rfl rfl rfl ⟨Nat.le_of_ble_eq_true rfl, Nat.le_of_ble_eq_true rfl⟩ (Nat.le_of_ble_eq_true rfl) dX6_count_102 rfl ?_
              refine z_aload_n C 0 dX6_count_105 rfl rfl ?_
              refine z_aload_n C 0 dX6_count_106 rfl rfl ?_
              refine z_getr C (t := 39) (Nat.le_of_ble_eq_true rfl) rfl rfl 3 (Nat.le_of_ble_eq_true rfl) rfl kiX6_count_X6 kfX6_count_47 dX6_count_107 ?_
              refine z_getr C (t := 41) (Nat.le_of_ble_eq_true rfl) rfl rfl 3 (Nat.le_of_ble_eq_true rfl) rfl kiX6_count_X2 kfX6_count_132 dX6_count_110 ?_
              obtain ⟨r17, hc16, hf⟩ := zb_el hf
              refine z_cVi C (c_X6_pairsIn _ _ (Or.inr rfl) hc16) rfl gX6_count_X6_pairsIn rfl rfl zdX6_pairsIn rfl (Nat.le_of_ble_eq_true rfl) rfl rfl rfl ⟨Nat.le_of_ble_eq_true rfl, Nat.le_of_ble_eq_true rfl⟩ (Nat.le_of_ble_eq_true rfl) dX6_count_113 rfl ?_
              obtain ⟨e1, e2⟩ := sp_el hf
              subst e1
              subst e2
              exact hret _ _ dX6_count_116
            · replace hf := if_f c11 hf
              refine z_tabd (tgt := 117) C dX6_count_1 (ztab_out (n := 6) (Nat.le_of_ble_eq_true rfl) (lt_s (lt_s (lt_s (lt_s (lt_s (lt_s lt_0 c1) c2) c3) c5) c6) c11)) (by decide) ?_
              refine z_iconst C (v := (-1)) dX6_count_117 (by decide) ?_
              obtain ⟨e1, e2⟩ := sp_el hf
              subst e1
              subst e2
              exact hret _ _ dX6_count_118
set_option maxRecDepth 20000 in
theorem ggX6_cut_X1_canBeEdge : GoodIn wsX6_cut wsX1_canBeEdge := goodIn_sub (List.forall_mem_cons.mpr ⟨(List.mem_of_getElem? (i := 8) rfl), (List.forall_mem_append.mpr ⟨(List.forall_mem_cons.mpr ⟨(List.mem_of_getElem? (i := 9) rfl), (List.forall_mem_cons.mpr ⟨(List.mem_of_getElem? (i := 10) rfl), (List.forall_mem_cons.mpr ⟨(List.mem_of_getElem? (i := 11) rfl), (List.forall_mem_cons.mpr ⟨(List.mem_of_getElem? (i := 7) rfl), (List.forall_mem_cons.mpr ⟨(List.mem_of_getElem? (i := 12) rfl), (List.forall_mem_cons.mpr ⟨(List.mem_of_getElem? (i := 13) rfl), (fun _ h => absurd h List.not_mem_nil)⟩)⟩)⟩)⟩)⟩)⟩), (fun _ h => (List.mem_cons_of_mem _ (List.mem_append_left _ (List.mem_append_right _ h))))⟩)⟩) (by decide +kernel)
set_option maxRecDepth 20000 in
theorem gX6_cut_X1_canBeEdge : GoodIn wsX6_cut (wsV RX6 73 RX1 yX1_canBeEdge wsX1_canBeEdge) := goodIn_app (goodIn_sub (List.forall_mem_cons.mpr ⟨(List.mem_of_getElem? (i := 4) rfl), (List.forall_mem_cons.mpr ⟨(List.mem_of_getElem? (i := 5) rfl), (List.forall_mem_cons.mpr ⟨(List.mem_of_getElem? (i := 6) rfl), (List.forall_mem_cons.mpr ⟨(List.mem_of_getElem? (i := 7) rfl), (fun _ h => absurd h List.not_mem_nil)⟩)⟩)⟩)⟩) (by decide +kernel)) ggX6_cut_X1_canBeEdge
set_option maxRecDepth 20000 in
theorem ggX6_cut_X1_placeOf : GoodIn wsX6_cut wsX1_placeOf := goodIn_sub (List.forall_mem_cons.mpr ⟨(List.mem_of_getElem? (i := 17) rfl), (List.forall_mem_append.mpr ⟨(List.forall_mem_cons.mpr ⟨(List.mem_of_getElem? (i := 18) rfl), (List.forall_mem_cons.mpr ⟨(List.mem_of_getElem? (i := 19) rfl), (List.forall_mem_cons.mpr ⟨(List.mem_of_getElem? (i := 20) rfl), (fun _ h => absurd h List.not_mem_nil)⟩)⟩)⟩), (fun _ h => (List.mem_cons_of_mem _ (List.mem_append_left _ (List.mem_append_right _ h))))⟩)⟩) (by decide +kernel)
set_option maxRecDepth 20000 in
theorem gX6_cut_X1_placeOf : GoodIn wsX6_cut (wsV RX6 77 RX1 yX1_placeOf wsX1_placeOf) := goodIn_app (goodIn_sub (List.forall_mem_cons.mpr ⟨(List.mem_of_getElem? (i := 14) rfl), (List.forall_mem_cons.mpr ⟨(List.mem_of_getElem? (i := 15) rfl), (List.forall_mem_cons.mpr ⟨(List.mem_of_getElem? (i := 16) rfl), (List.forall_mem_cons.mpr ⟨(List.mem_of_getElem? (i := 7) rfl), (fun _ h => absurd h List.not_mem_nil)⟩)⟩)⟩)⟩) (by decide +kernel)) ggX6_cut_X1_placeOf
set_option maxRecDepth 20000 in
theorem ggX6_cut_X2_forget : GoodIn wsX6_cut wsX2_forget := goodIn_sub (List.forall_mem_cons.mpr ⟨(List.mem_of_getElem? (i := 25) rfl), (List.forall_mem_append.mpr ⟨(List.forall_mem_cons.mpr ⟨(List.mem_of_getElem? (i := 26) rfl), (List.forall_mem_cons.mpr ⟨(List.mem_of_getElem? (i := 27) rfl), (fun _ h => absurd h List.not_mem_nil)⟩)⟩), (fun _ h => (List.mem_cons_of_mem _ (List.mem_append_right _ h)))⟩)⟩) (by decide +kernel)
set_option maxRecDepth 20000 in
theorem gX6_cut_X2_forget : GoodIn wsX6_cut (wsV RX6 58 RX2 yX2_forget wsX2_forget) := goodIn_app (goodIn_sub (List.forall_mem_cons.mpr ⟨(List.mem_of_getElem? (i := 21) rfl), (List.forall_mem_cons.mpr ⟨(List.mem_of_getElem? (i := 22) rfl), (List.forall_mem_cons.mpr ⟨(List.mem_of_getElem? (i := 23) rfl), (List.forall_mem_cons.mpr ⟨(List.mem_of_getElem? (i := 24) rfl), (fun _ h => absurd h List.not_mem_nil)⟩)⟩)⟩)⟩) (by decide +kernel)) ggX6_cut_X2_forget
set_option maxRecDepth 20000 in
theorem ggX6_cut_X1_removeEdge : GoodIn wsX6_cut wsX1_removeEdge := goodIn_sub (List.forall_mem_cons.mpr ⟨(List.mem_of_getElem? (i := 31) rfl), (List.forall_mem_append.mpr ⟨(List.forall_mem_cons.mpr ⟨(List.mem_of_getElem? (i := 18) rfl), (List.forall_mem_cons.mpr ⟨(List.mem_of_getElem? (i := 19) rfl), (List.forall_mem_cons.mpr ⟨(List.mem_of_getElem? (i := 20) rfl), (List.forall_mem_cons.mpr ⟨(List.mem_of_getElem? (i := 32) rfl), (fun _ h => absurd h List.not_mem_nil)⟩)⟩)⟩)⟩), (fun _ h => (List.mem_cons_of_mem _ (List.mem_append_left _ (List.mem_append_right _ h))))⟩)⟩) (by decide +kernel)
set_option maxRecDepth 20000 in
theorem gX6_cut_X1_removeEdge : GoodIn wsX6_cut (wsV RX6 92 RX1 yX1_removeEdge wsX1_removeEdge) := goodIn_app (goodIn_sub (List.forall_mem_cons.mpr ⟨(List.mem_of_getElem? (i := 28) rfl), (List.forall_mem_cons.mpr ⟨(List.mem_of_getElem? (i := 29) rfl), (List.forall_mem_cons.mpr ⟨(List.mem_of_getElem? (i := 30) rfl), (List.forall_mem_cons.mpr ⟨(List.mem_of_getElem? (i := 7) rfl), (fun _ h => absurd h List.not_mem_nil)⟩)⟩)⟩)⟩) (by decide +kernel)) ggX6_cut_X1_removeEdge
theorem dX6_cut_0 : decode cX6_cut 0 = .ok (.aload_n 0, 1) := by decide +kernel
theorem dX6_cut_1 : decode cX6_cut 1 = .ok (.getfield 10, 3) := by decide +kernel
theorem dX6_cut_4 : decode cX6_cut 4 = .ok (.iload_n 1, 1) := by decide +kernel
theorem dX6_cut_5 : decode cX6_cut 5 = .ok (.iload_n 2, 1) := by decide +kernel
theorem dX6_cut_6 : decode cX6_cut 6 = .ok (.iload_n 3, 1) := by decide +kernel
theorem dX6_cut_7 : decode cX6_cut 7 = .ok (.invokevirtual 73, 3) := by decide +kernel
theorem dX6_cut_10 : decode cX6_cut 10 = .ok (.ifCond .ne 5, 3) := by decide +kernel
theorem dX6_cut_13 : decode cX6_cut 13 = .ok (.iconst (-1), 1) := by decide +kernel
theorem dX6_cut_14 : decode cX6_cut 14 = .ok (.ireturn, 1) := by decide +kernel
theorem dX6_cut_15 : decode cX6_cut 15 = .ok (.aload_n 0, 1) := by decide +kernel
theorem dX6_cut_16 : decode cX6_cut 16 = .ok (.getfield 10, 3) := by decide +kernel
theorem dX6_cut_19 : decode cX6_cut 19 = .ok (.iload_n 1, 1) := by decide +kernel
theorem dX6_cut_20 : decode cX6_cut 20 = .ok (.iload_n 2, 1) := by decide +kernel
theorem dX6_cut_21 : decode cX6_cut 21 = .ok (.iload_n 3, 1) := by decide +kernel
theorem dX6_cut_22 : decode cX6_cut 22 = .ok (.invokevirtual 77, 3) := by decide +kernel
theorem dX6_cut_25 : decode cX6_cut 25 = .ok (.istore 4, 2) := by decide +kernel
theorem dX6_cut_27 : decode cX6_cut 27 = .ok (.iload 4, 2) := by decide +kernel
theorem dX6_cut_29 : decode cX6_cut 29 = .ok (.ifCond .ge 6, 3) := by decide +kernel
theorem dX6_cut_32 : decode cX6_cut 32 = .ok (.bipush (-2), 2) := by decide +kernel
theorem dX6_cut_34 : decode cX6_cut 34 = .ok (.ireturn, 1) := by decide +kernel
theorem dX6_cut_35 : decode cX6_cut 35 = .ok (.aload_n 0, 1) := by decide +kernel
theorem dX6_cut_36 : decode cX6_cut 36 = .ok (.getfield 47, 3) := by decide +kernel
theorem dX6_cut_39 : decode cX6_cut 39 = .ok (.invokevirtual 58, 3) := by decide +kernel
theorem dX6_cut_42 : decode cX6_cut 42 = .ok (.aload_n 0, 1) := by decide +kernel
theorem dX6_cut_43 : decode cX6_cut 43 = .ok (.getfield 10, 3) := by decide +kernel
theorem dX6_cut_46 : decode cX6_cut 46 = .ok (.iload_n 1, 1) := by decide +kernel
theorem dX6_cut_47 : decode cX6_cut 47 = .ok (.iload 4, 2) := by decide +kernel
theorem dX6_cut_49 : decode cX6_cut 49 = .ok (.invokevirtual 92, 3) := by decide +kernel
theorem dX6_cut_52 : decode cX6_cut 52 = .ok (.aload_n 0, 1) := by decide +kernel
theorem dX6_cut_53 : decode cX6_cut 53 = .ok (.getfield 10, 3) := by decide +kernel
theorem dX6_cut_56 : decode cX6_cut 56 = .ok (.getfield 81, 3) := by decide +kernel
theorem dX6_cut_59 : decode cX6_cut 59 = .ok (.ireturn, 1) := by decide +kernel
def rmX6_cut : Room := { frames := 2, cells := 0, slots := 0, locals := 44 }
theorem zdX6_cut : yX6_cut.cls = RX6 ∧ yX6_cut.cls ≠ "java/lang/invoke/MethodHandle" ∧ yX6_cut.cls ≠ "java/lang/invoke/VarHandle" ∧ (parseMethodDescriptor yX6_cut.desc).map (fun d => d.parameters.length) = some 3 := by decide +kernel
theorem kiX6_cut_X6 : ∀ w ∈ wsX60, w ∈ wsX6_cut := fun _ h => (List.mem_cons_of_mem _ (List.mem_append_left _ (List.mem_append_left _ (List.mem_append_right _ h))))
theorem kfX6_cut_10 : Cond.fieldLink RX6 10 "ShapeJudge" "graph" "LShapeJudge$Graph;" ∈ wsX6_cut := (List.mem_of_getElem? (i := 1) rfl)
theorem kfX6_cut_47 : Cond.fieldLink RX6 47 "ShapeJudge" "judge" "LShapeJudge$Judge;" ∈ wsX6_cut := (List.mem_of_getElem? (i := 2) rfl)
theorem kiX6_cut_X1 : ∀ w ∈ wsX10, w ∈ wsX6_cut := fun _ h => (List.mem_cons_of_mem _ (List.mem_append_left _ (List.mem_append_right _ h)))
theorem kfX6_cut_81 : Cond.fieldLink RX6 81 "ShapeJudge$Graph" "edges" "I" ∈ wsX6_cut := (List.mem_of_getElem? (i := 3) rfl)
def s_X6_cut (m : Mem) (a1 : Int32) (a2 : Int32) (a3 : Int32) : Option (Int32 × Mem) :=
  (s_X1_canBeEdge m a1 a2 a3).bind fun r2 => (if r2 = 0 then (some ((-1), m)) else ((s_X1_placeOf m a1 a2 a3).bind fun r4 => (if 0 ≤ r4 then ((s_X2_forget m).bind fun m6 => (s_X1_removeEdge m6 a1 r4).bind fun m8 => some ((m8 1 1), m8)) else (some ((-2), m)))))
set_option maxRecDepth 100000 in
set_option maxHeartbeats 4000000 in
theorem c_X6_cut (l : Launch) (w : ZW) {m : Mem} {a1 : Int32} {a2 : Int32} {a3 : Int32} {r9 : Int32} {m9 : Mem}  (hf : s_X6_cut m a1 a2 a3 = some (r9, m9)) : zCi MX l w yX6_cut wsX6_cut rmX6_cut [.ref (w.2.1 0), .int a1, .int a2, .int a3] m m9 r9 := by
  refine z_met_i MX_ok (own := RX6) (by decide +kernel) rfl rfl (Nat.le_of_ble_eq_true rfl) ?_
  intro K C hKw hKl hret
  subst hKw
  subst hKl
  unfold s_X6_cut at hf
  show zGo MX K m [(0, .ref ((zw K).2.1 0)), (1, .int a1), (2, .int a2), (3, .int a3)] 0 []
  refine z_aload_n C 0 dX6_cut_0 rfl rfl ?_
  refine z_getr C (t := 1) (Nat.le_of_ble_eq_true rfl) rfl rfl 0 (Nat.le_of_ble_eq_true rfl) rfl kiX6_cut_X6 kfX6_cut_10 dX6_cut_1 ?_
  refine z_iload_n C 1 dX6_cut_4 rfl rfl ?_
  refine z_iload_n C 2 dX6_cut_5 rfl rfl ?_
  refine z_iload_n C 3 dX6_cut_6 rfl rfl ?_
  obtain ⟨r2, hc1, hf⟩ := zb_el hf
  refine z_cVi C (c_X1_canBeEdge _ _ hc1) rfl gX6_cut_X1_canBeEdge rfl rfl zdX1_canBeEdge rfl (Nat.le_of_ble_eq_true rfl) rfl rfl rfl ⟨Nat.le_of_ble_eq_true rfl, Nat.le_of_ble_eq_true rfl⟩ (Nat.le_of_ble_eq_true rfl) dX6_cut_7 rfl ?_
  refine z_if_ne (tgt := 15) C dX6_cut_10 (by decide) (fun c10 => ?_) (fun c10 => ?_)
  · replace hf := if_f c10 hf
    refine z_aload_n C 0 dX6_cut_15 rfl rfl ?_
    refine z_getr C (t := 1) (Nat.le_of_ble_eq_true rfl) rfl rfl 0 (Nat.le_of_ble_eq_true rfl) rfl kiX6_cut_X6 kfX6_cut_10 dX6_cut_16 ?_
    refine z_iload_n C 1 dX6_cut_19 rfl rfl ?_
    refine z_iload_n C 2 dX6_cut_20 rfl rfl ?_
    refine z_iload_n C 3 dX6_cut_21 rfl rfl ?_
    obtain ⟨r4, hc3, hf⟩ := zb_el hf
    refine z_cVi C (c_X1_placeOf _ _ hc3) rfl gX6_cut_X1_placeOf rfl rfl zdX1_placeOf rfl (Nat.le_of_ble_eq_true rfl) rfl rfl rfl ⟨Nat.le_of_ble_eq_true rfl, Nat.le_of_ble_eq_true rfl⟩ (Nat.le_of_ble_eq_true rfl) dX6_cut_22 rfl ?_
    refine z_istore C (lv2 := [(0, .ref ((zw K).2.1 0)), (1, .int a1), (2, .int a2), (3, .int a3), (4, .int r4)]) [1, 2, 3, 4, 0] dX6_cut_25 (Nat.le_of_ble_eq_true rfl) rfl ?_
    refine z_iload C 4 dX6_cut_27 rfl ?_
    refine z_if_ge (tgt := 35) C dX6_cut_29 (by decide) (fun c9 => ?_) (fun c9 => ?_)
    · replace hf := if_t c9 hf
      refine z_aload_n C 0 dX6_cut_35 rfl rfl ?_
      refine z_getr C (t := 39) (Nat.le_of_ble_eq_true rfl) rfl rfl 3 (Nat.le_of_ble_eq_true rfl) rfl kiX6_cut_X6 kfX6_cut_47 dX6_cut_36 ?_
      obtain ⟨m6, hc5, hf⟩ := zb_el hf
      refine z_cVv C (c_X2_forget _ _ hc5) rfl gX6_cut_X2_forget rfl rfl zdX2_forget rfl (Nat.le_of_ble_eq_true rfl) rfl rfl rfl ⟨Nat.le_of_ble_eq_true rfl, Nat.le_of_ble_eq_true rfl⟩ (Nat.le_of_ble_eq_true rfl) dX6_cut_39 rfl ?_
      refine z_aload_n C 0 dX6_cut_42 rfl rfl ?_
      refine z_getr C (t := 1) (Nat.le_of_ble_eq_true rfl) rfl rfl 0 (Nat.le_of_ble_eq_true rfl) rfl kiX6_cut_X6 kfX6_cut_10 dX6_cut_43 ?_
      refine z_iload_n C 1 dX6_cut_46 rfl rfl ?_
      refine z_iload C 4 dX6_cut_47 rfl ?_
      obtain ⟨m8, hc7, hf⟩ := zb_el hf
      refine z_cVv C (c_X1_removeEdge _ _ hc7) rfl gX6_cut_X1_removeEdge rfl rfl zdX1_removeEdge rfl (Nat.le_of_ble_eq_true rfl) rfl rfl rfl ⟨Nat.le_of_ble_eq_true rfl, Nat.le_of_ble_eq_true rfl⟩ (Nat.le_of_ble_eq_true rfl) dX6_cut_49 rfl ?_
      refine z_aload_n C 0 dX6_cut_52 rfl rfl ?_
      refine z_getr C (t := 1) (Nat.le_of_ble_eq_true rfl) rfl rfl 0 (Nat.le_of_ble_eq_true rfl) rfl kiX6_cut_X6 kfX6_cut_10 dX6_cut_53 ?_
      refine z_geti C (Nat.le_of_ble_eq_true rfl) rfl rfl 1 (Nat.le_of_ble_eq_true rfl) rfl kiX6_cut_X1 kfX6_cut_81 dX6_cut_56 ?_
      obtain ⟨e1, e2⟩ := sp_el hf
      subst e1
      subst e2
      exact hret _ _ dX6_cut_59
    · replace hf := if_f c9 hf
      refine z_bipush C (v := (-2)) dX6_cut_32 (by decide) ?_
      obtain ⟨e1, e2⟩ := sp_el hf
      subst e1
      subst e2
      exact hret _ _ dX6_cut_34
  · replace hf := if_t c10 hf
    refine z_iconst C (v := (-1)) dX6_cut_13 (by decide) ?_
    obtain ⟨e1, e2⟩ := sp_el hf
    subst e1
    subst e2
    exact hret _ _ dX6_cut_14
set_option maxRecDepth 20000 in
theorem ggX6_isPair_X1_hasNode : GoodIn wsX6_isPair wsX1_hasNode := goodIn_sub (List.forall_mem_cons.mpr ⟨(List.mem_of_getElem? (i := 7) rfl), (List.forall_mem_append.mpr ⟨(List.forall_mem_cons.mpr ⟨(List.mem_of_getElem? (i := 8) rfl), (fun _ h => absurd h List.not_mem_nil)⟩), (fun _ h => (List.mem_cons_of_mem _ (List.mem_append_left _ (List.mem_append_right _ h))))⟩)⟩) (by decide +kernel)
set_option maxRecDepth 20000 in
theorem gX6_isPair_X1_hasNode : GoodIn wsX6_isPair (wsV RX6 65 RX1 yX1_hasNode wsX1_hasNode) := goodIn_app (goodIn_sub (List.forall_mem_cons.mpr ⟨(List.mem_of_getElem? (i := 3) rfl), (List.forall_mem_cons.mpr ⟨(List.mem_of_getElem? (i := 4) rfl), (List.forall_mem_cons.mpr ⟨(List.mem_of_getElem? (i := 5) rfl), (List.forall_mem_cons.mpr ⟨(List.mem_of_getElem? (i := 6) rfl), (fun _ h => absurd h List.not_mem_nil)⟩)⟩)⟩)⟩) (by decide +kernel)) ggX6_isPair_X1_hasNode
set_option maxRecDepth 20000 in
theorem ggX6_isPair_X0_hasShape : GoodIn wsX6_isPair wsX0_hasShape := goodIn_sub (List.forall_mem_cons.mpr ⟨(List.mem_of_getElem? (i := 13) rfl), (List.forall_mem_append.mpr ⟨(List.forall_mem_cons.mpr ⟨(List.mem_of_getElem? (i := 14) rfl), (fun _ h => absurd h List.not_mem_nil)⟩), (fun _ h => (List.mem_cons_of_mem _ (List.mem_append_right _ h)))⟩)⟩) (by decide +kernel)
set_option maxRecDepth 20000 in
theorem gX6_isPair_X0_hasShape : GoodIn wsX6_isPair (wsV RX6 135 RX0 yX0_hasShape wsX0_hasShape) := goodIn_app (goodIn_sub (List.forall_mem_cons.mpr ⟨(List.mem_of_getElem? (i := 9) rfl), (List.forall_mem_cons.mpr ⟨(List.mem_of_getElem? (i := 10) rfl), (List.forall_mem_cons.mpr ⟨(List.mem_of_getElem? (i := 11) rfl), (List.forall_mem_cons.mpr ⟨(List.mem_of_getElem? (i := 12) rfl), (fun _ h => absurd h List.not_mem_nil)⟩)⟩)⟩)⟩) (by decide +kernel)) ggX6_isPair_X0_hasShape
theorem dX6_isPair_0 : decode cX6_isPair 0 = .ok (.aload_n 0, 1) := by decide +kernel
theorem dX6_isPair_1 : decode cX6_isPair 1 = .ok (.getfield 10, 3) := by decide +kernel
theorem dX6_isPair_4 : decode cX6_isPair 4 = .ok (.iload_n 1, 1) := by decide +kernel
theorem dX6_isPair_5 : decode cX6_isPair 5 = .ok (.invokevirtual 65, 3) := by decide +kernel
theorem dX6_isPair_8 : decode cX6_isPair 8 = .ok (.ifCond .eq 18, 3) := by decide +kernel
theorem dX6_isPair_11 : decode cX6_isPair 11 = .ok (.aload_n 0, 1) := by decide +kernel
theorem dX6_isPair_12 : decode cX6_isPair 12 = .ok (.getfield 35, 3) := by decide +kernel
theorem dX6_isPair_15 : decode cX6_isPair 15 = .ok (.iload_n 2, 1) := by decide +kernel
theorem dX6_isPair_16 : decode cX6_isPair 16 = .ok (.invokevirtual 135, 3) := by decide +kernel
theorem dX6_isPair_19 : decode cX6_isPair 19 = .ok (.ifCond .eq 7, 3) := by decide +kernel
theorem dX6_isPair_22 : decode cX6_isPair 22 = .ok (.iconst 1, 1) := by decide +kernel
theorem dX6_isPair_23 : decode cX6_isPair 23 = .ok (.goto 4, 3) := by decide +kernel
theorem dX6_isPair_26 : decode cX6_isPair 26 = .ok (.iconst 0, 1) := by decide +kernel
theorem dX6_isPair_27 : decode cX6_isPair 27 = .ok (.ireturn, 1) := by decide +kernel
def rmX6_isPair : Room := { frames := 1, cells := 0, slots := 0, locals := 21 }
theorem zdX6_isPair : yX6_isPair.cls = RX6 ∧ yX6_isPair.cls ≠ "java/lang/invoke/MethodHandle" ∧ yX6_isPair.cls ≠ "java/lang/invoke/VarHandle" ∧ (parseMethodDescriptor yX6_isPair.desc).map (fun d => d.parameters.length) = some 2 := by decide +kernel
theorem kiX6_isPair_X6 : ∀ w ∈ wsX60, w ∈ wsX6_isPair := fun _ h => (List.mem_cons_of_mem _ (List.mem_append_left _ (List.mem_append_left _ (List.mem_append_right _ h))))
theorem kfX6_isPair_10 : Cond.fieldLink RX6 10 "ShapeJudge" "graph" "LShapeJudge$Graph;" ∈ wsX6_isPair := (List.mem_of_getElem? (i := 1) rfl)
theorem kfX6_isPair_35 : Cond.fieldLink RX6 35 "ShapeJudge" "book" "LShapeJudge$Book;" ∈ wsX6_isPair := (List.mem_of_getElem? (i := 2) rfl)
def s_X6_isPair (m : Mem) (a1 : Int32) (a2 : Int32) : Option (Int32) :=
  (s_X1_hasNode m a1).bind fun r2 => (if r2 = 0 then (some 0) else (zbk (m 0 4) fun b3 => (s_X0_hasShape m b3 a2).bind fun r5 => (if r5 = 0 then (some 0) else (some 1))))
set_option maxRecDepth 100000 in
set_option maxHeartbeats 4000000 in
theorem c_X6_isPair (l : Launch) (w : ZW) {m : Mem} {a1 : Int32} {a2 : Int32} {r9 : Int32}  (hf : s_X6_isPair m a1 a2 = some r9) : zCi MX l w yX6_isPair wsX6_isPair rmX6_isPair [.ref (w.2.1 0), .int a1, .int a2] m m r9 := by
  refine z_met_z MX_ok (own := RX6) (by decide +kernel) rfl rfl (Nat.le_of_ble_eq_true rfl) ?_
  intro K C hKw hKl hret
  subst hKw
  subst hKl
  unfold s_X6_isPair at hf
  show zGo MX K m [(0, .ref ((zw K).2.1 0)), (1, .int a1), (2, .int a2)] 0 []
  refine z_aload_n C 0 dX6_isPair_0 rfl rfl ?_
  refine z_getr C (t := 1) (Nat.le_of_ble_eq_true rfl) rfl rfl 0 (Nat.le_of_ble_eq_true rfl) rfl kiX6_isPair_X6 kfX6_isPair_10 dX6_isPair_1 ?_
  refine z_iload_n C 1 dX6_isPair_4 rfl rfl ?_
  obtain ⟨r2, hc1, hf⟩ := zb_el hf
  refine z_cVi C (c_X1_hasNode _ _ hc1) rfl gX6_isPair_X1_hasNode rfl rfl zdX1_hasNode rfl (Nat.le_of_ble_eq_true rfl) rfl rfl rfl ⟨Nat.le_of_ble_eq_true rfl, Nat.le_of_ble_eq_true rfl⟩ (Nat.le_of_ble_eq_true rfl) dX6_isPair_5 rfl ?_
  refine z_if_eq (tgt := 26) C dX6_isPair_8 (by decide) (fun c7 => ?_) (fun c7 => ?_)
  · replace hf := if_t c7 hf
    refine z_iconst C (v := 0) dX6_isPair_26 rfl ?_
    have e1 := Option.some.inj hf
    subst e1
    exact hret _ _ dX6_isPair_27 (Or.inl rfl)
  · replace hf := if_f c7 hf
    refine z_aload_n C 0 dX6_isPair_11 rfl rfl ?_
    obtain ⟨b3, hb3, e_b3, hf⟩ := zbk_el hf
    refine z_getb C (b := b3) (Nat.le_of_ble_eq_true rfl) rfl rfl 4 (Nat.le_of_ble_eq_true rfl) rfl kiX6_isPair_X6 kfX6_isPair_35 (isb_lt hb3) e_b3 dX6_isPair_12 ?_
    refine z_iload_n C 2 dX6_isPair_15 rfl rfl ?_
    obtain ⟨r5, hc4, hf⟩ := zb_el hf
    refine z_cVi C (c_X0_hasShape _ _ hb3 hc4) rfl gX6_isPair_X0_hasShape rfl rfl zdX0_hasShape rfl (isb_k0 hb3) (isb_L0 hb3) rfl rfl ⟨Nat.le_of_ble_eq_true rfl, Nat.le_of_ble_eq_true rfl⟩ (Nat.le_of_ble_eq_true rfl) dX6_isPair_16 rfl ?_
    refine z_if_eq (tgt := 26) C dX6_isPair_19 (by decide) (fun c6 => ?_) (fun c6 => ?_)
    · replace hf := if_t c6 hf
      refine z_iconst C (v := 0) dX6_isPair_26 rfl ?_
      have e1 := Option.some.inj hf
      subst e1
      exact hret _ _ dX6_isPair_27 (Or.inl rfl)
    · replace hf := if_f c6 hf
      refine z_iconst C (v := 1) dX6_isPair_22 rfl ?_
      refine z_goto (tgt := 27) C dX6_isPair_23 (by decide) ?_
      have e1 := Option.some.inj hf
      subst e1
      exact hret _ _ dX6_isPair_27 (Or.inr rfl)
set_option maxRecDepth 20000 in
theorem ggX6_dealt_X6_isPair : GoodIn wsX6_dealt wsX6_isPair := goodIn_sub (List.forall_mem_cons.mpr ⟨(List.mem_of_getElem? (i := 8) rfl), (List.forall_mem_append.mpr ⟨(List.forall_mem_append.mpr ⟨(List.forall_mem_append.mpr ⟨(List.forall_mem_cons.mpr ⟨(List.mem_of_getElem? (i := 1) rfl), (List.forall_mem_cons.mpr ⟨(List.mem_of_getElem? (i := 9) rfl), (List.forall_mem_cons.mpr ⟨(List.mem_of_getElem? (i := 10) rfl), (List.forall_mem_cons.mpr ⟨(List.mem_of_getElem? (i := 11) rfl), (List.forall_mem_cons.mpr ⟨(List.mem_of_getElem? (i := 12) rfl), (List.forall_mem_cons.mpr ⟨(List.mem_of_getElem? (i := 13) rfl), (List.forall_mem_cons.mpr ⟨(List.mem_of_getElem? (i := 14) rfl), (List.forall_mem_cons.mpr ⟨(List.mem_of_getElem? (i := 15) rfl), (List.forall_mem_cons.mpr ⟨(List.mem_of_getElem? (i := 16) rfl), (List.forall_mem_cons.mpr ⟨(List.mem_of_getElem? (i := 17) rfl), (List.forall_mem_cons.mpr ⟨(List.mem_of_getElem? (i := 18) rfl), (List.forall_mem_cons.mpr ⟨(List.mem_of_getElem? (i := 19) rfl), (List.forall_mem_cons.mpr ⟨(List.mem_of_getElem? (i := 20) rfl), (List.forall_mem_cons.mpr ⟨(List.mem_of_getElem? (i := 21) rfl), (fun _ h => absurd h List.not_mem_nil)⟩)⟩)⟩)⟩)⟩)⟩)⟩)⟩)⟩)⟩)⟩)⟩)⟩)⟩), (fun _ h => (List.mem_cons_of_mem _ (List.mem_append_left _ (List.mem_append_left _ (List.mem_append_left _ (List.mem_append_right _ h))))))⟩), (fun _ h => (List.mem_cons_of_mem _ (List.mem_append_left _ (List.mem_append_right _ h))))⟩), (fun _ h => (List.mem_cons_of_mem _ (List.mem_append_right _ h)))⟩)⟩) (by decide +kernel)
set_option maxRecDepth 20000 in
theorem gX6_dealt_X6_isPair : GoodIn wsX6_dealt (wsV RX6 119 RX6 yX6_isPair wsX6_isPair) := goodIn_app (goodIn_sub (List.forall_mem_cons.mpr ⟨(List.mem_of_getElem? (i := 4) rfl), (List.forall_mem_cons.mpr ⟨(List.mem_of_getElem? (i := 5) rfl), (List.forall_mem_cons.mpr ⟨(List.mem_of_getElem? (i := 6) rfl), (List.forall_mem_cons.mpr ⟨(List.mem_of_getElem? (i := 7) rfl), (fun _ h => absurd h List.not_mem_nil)⟩)⟩)⟩)⟩) (by decide +kernel)) ggX6_dealt_X6_isPair
set_option maxRecDepth 20000 in
theorem ggX6_dealt_X1_hasEdge : GoodIn wsX6_dealt wsX1_hasEdge := goodIn_sub (List.forall_mem_cons.mpr ⟨(List.mem_of_getElem? (i := 25) rfl), (List.forall_mem_append.mpr ⟨(List.forall_mem_cons.mpr ⟨(List.mem_of_getElem? (i := 26) rfl), (fun _ h => absurd h List.not_mem_nil)⟩), (fun _ h => (List.mem_cons_of_mem _ (List.mem_append_left _ (List.mem_append_right _ h))))⟩)⟩) (by decide +kernel)
set_option maxRecDepth 20000 in
theorem gX6_dealt_X1_hasEdge : GoodIn wsX6_dealt (wsV RX6 148 RX1 yX1_hasEdge wsX1_hasEdge) := goodIn_app (goodIn_sub (List.forall_mem_cons.mpr ⟨(List.mem_of_getElem? (i := 22) rfl), (List.forall_mem_cons.mpr ⟨(List.mem_of_getElem? (i := 23) rfl), (List.forall_mem_cons.mpr ⟨(List.mem_of_getElem? (i := 24) rfl), (List.forall_mem_cons.mpr ⟨(List.mem_of_getElem? (i := 13) rfl), (fun _ h => absurd h List.not_mem_nil)⟩)⟩)⟩)⟩) (by decide +kernel)) ggX6_dealt_X1_hasEdge
set_option maxRecDepth 20000 in
theorem ggX6_dealt_X2_readFits : GoodIn wsX6_dealt wsX2_readFits := goodIn_sub (List.forall_mem_cons.mpr ⟨(List.mem_of_getElem? (i := 31) rfl), (List.forall_mem_append.mpr ⟨(List.forall_mem_append.mpr ⟨(List.forall_mem_append.mpr ⟨(List.forall_mem_append.mpr ⟨(show ∀ w ∈ wsX2_readFits_r1, w ∈ wsX6_dealt from (List.forall_mem_cons.mpr ⟨(List.mem_of_getElem? (i := 32) rfl), (List.forall_mem_cons.mpr ⟨(List.mem_of_getElem? (i := 33) rfl), (List.forall_mem_cons.mpr ⟨(List.mem_of_getElem? (i := 34) rfl), (List.forall_mem_cons.mpr ⟨(List.mem_of_getElem? (i := 35) rfl), (List.forall_mem_cons.mpr ⟨(List.mem_of_getElem? (i := 36) rfl), (List.forall_mem_cons.mpr ⟨(List.mem_of_getElem? (i := 37) rfl), (List.forall_mem_cons.mpr ⟨(List.mem_of_getElem? (i := 17) rfl), (List.forall_mem_cons.mpr ⟨(List.mem_of_getElem? (i := 18) rfl), (List.forall_mem_cons.mpr ⟨(List.mem_of_getElem? (i := 19) rfl), (List.forall_mem_cons.mpr ⟨(List.mem_of_getElem? (i := 20) rfl), (List.forall_mem_cons.mpr ⟨(List.mem_of_getElem? (i := 21) rfl), (List.forall_mem_cons.mpr ⟨(List.mem_of_getElem? (i := 38) rfl), (List.forall_mem_cons.mpr ⟨(List.mem_of_getElem? (i := 39) rfl), (List.forall_mem_cons.mpr ⟨(List.mem_of_getElem? (i := 40) rfl), (List.forall_mem_cons.mpr ⟨(List.mem_of_getElem? (i := 30) rfl), (List.forall_mem_cons.mpr ⟨(List.mem_of_getElem? (i := 41) rfl), (List.forall_mem_cons.mpr ⟨(List.mem_of_getElem? (i := 42) rfl), (List.forall_mem_cons.mpr ⟨(List.mem_of_getElem? (i := 43) rfl), (List.forall_mem_cons.mpr ⟨(List.mem_of_getElem? (i := 44) rfl), (List.forall_mem_cons.mpr ⟨(List.mem_of_getElem? (i := 45) rfl), (List.forall_mem_cons.mpr ⟨(List.mem_of_getElem? (i := 46) rfl), (List.forall_mem_cons.mpr ⟨(List.mem_of_getElem? (i := 47) rfl), (List.forall_mem_cons.mpr ⟨(List.mem_of_getElem? (i := 48) rfl), (List.forall_mem_cons.mpr ⟨(List.mem_of_getElem? (i := 49) rfl), (fun _ h => absurd h List.not_mem_nil)⟩)⟩)⟩)⟩)⟩)⟩)⟩)⟩)⟩)⟩)⟩)⟩)⟩)⟩)⟩)⟩)⟩)⟩)⟩)⟩)⟩)⟩)⟩)⟩)), (List.forall_mem_append.mpr ⟨(show ∀ w ∈ wsX2_readFits_r2, w ∈ wsX6_dealt from (List.forall_mem_cons.mpr ⟨(List.mem_of_getElem? (i := 50) rfl), (List.forall_mem_cons.mpr ⟨(List.mem_of_getElem? (i := 51) rfl), (List.forall_mem_cons.mpr ⟨(List.mem_of_getElem? (i := 52) rfl), (List.forall_mem_cons.mpr ⟨(List.mem_of_getElem? (i := 53) rfl), (List.forall_mem_cons.mpr ⟨(List.mem_of_getElem? (i := 54) rfl), (List.forall_mem_cons.mpr ⟨(List.mem_of_getElem? (i := 55) rfl), (List.forall_mem_cons.mpr ⟨(List.mem_of_getElem? (i := 56) rfl), (List.forall_mem_cons.mpr ⟨(List.mem_of_getElem? (i := 57) rfl), (List.forall_mem_cons.mpr ⟨(List.mem_of_getElem? (i := 58) rfl), (List.forall_mem_cons.mpr ⟨(List.mem_of_getElem? (i := 59) rfl), (List.forall_mem_cons.mpr ⟨(List.mem_of_getElem? (i := 60) rfl), (List.forall_mem_cons.mpr ⟨(List.mem_of_getElem? (i := 61) rfl), (List.forall_mem_cons.mpr ⟨(List.mem_of_getElem? (i := 62) rfl), (List.forall_mem_cons.mpr ⟨(List.mem_of_getElem? (i := 63) rfl), (List.forall_mem_cons.mpr ⟨(List.mem_of_getElem? (i := 64) rfl), (List.forall_mem_cons.mpr ⟨(List.mem_of_getElem? (i := 65) rfl), (List.forall_mem_cons.mpr ⟨(List.mem_of_getElem? (i := 66) rfl), (List.forall_mem_cons.mpr ⟨(List.mem_of_getElem? (i := 67) rfl), (List.forall_mem_cons.mpr ⟨(List.mem_of_getElem? (i := 68) rfl), (List.forall_mem_cons.mpr ⟨(List.mem_of_getElem? (i := 69) rfl), (List.forall_mem_cons.mpr ⟨(List.mem_of_getElem? (i := 70) rfl), (List.forall_mem_cons.mpr ⟨(List.mem_of_getElem? (i := 71) rfl), (List.forall_mem_cons.mpr ⟨(List.mem_of_getElem? (i := 72) rfl), (List.forall_mem_cons.mpr ⟨(List.mem_of_getElem? (i := 73) rfl), (fun _ h => absurd h List.not_mem_nil)⟩)⟩)⟩)⟩)⟩)⟩)⟩)⟩)⟩)⟩)⟩)⟩)⟩)⟩)⟩)⟩)⟩)⟩)⟩)⟩)⟩)⟩)⟩)⟩)), (show ∀ w ∈ wsX2_readFits_r3, w ∈ wsX6_dealt from (List.forall_mem_cons.mpr ⟨(List.mem_of_getElem? (i := 74) rfl), (List.forall_mem_cons.mpr ⟨(List.mem_of_getElem? (i := 75) rfl), (List.forall_mem_cons.mpr ⟨(List.mem_of_getElem? (i := 76) rfl), (List.forall_mem_cons.mpr ⟨(List.mem_of_getElem? (i := 77) rfl), (List.forall_mem_cons.mpr ⟨(List.mem_of_getElem? (i := 78) rfl), (List.forall_mem_cons.mpr ⟨(List.mem_of_getElem? (i := 79) rfl), (List.forall_mem_cons.mpr ⟨(List.mem_of_getElem? (i := 80) rfl), (List.forall_mem_cons.mpr ⟨(List.mem_of_getElem? (i := 81) rfl), (List.forall_mem_cons.mpr ⟨(List.mem_of_getElem? (i := 82) rfl), (List.forall_mem_cons.mpr ⟨(List.mem_of_getElem? (i := 83) rfl), (List.forall_mem_cons.mpr ⟨(List.mem_of_getElem? (i := 84) rfl), (List.forall_mem_cons.mpr ⟨(List.mem_of_getElem? (i := 85) rfl), (List.forall_mem_cons.mpr ⟨(List.mem_of_getElem? (i := 86) rfl), (List.forall_mem_cons.mpr ⟨(List.mem_of_getElem? (i := 87) rfl), (List.forall_mem_cons.mpr ⟨(List.mem_of_getElem? (i := 88) rfl), (List.forall_mem_cons.mpr ⟨(List.mem_of_getElem? (i := 89) rfl), (List.forall_mem_cons.mpr ⟨(List.mem_of_getElem? (i := 90) rfl), (List.forall_mem_cons.mpr ⟨(List.mem_of_getElem? (i := 91) rfl), (List.forall_mem_cons.mpr ⟨(List.mem_of_getElem? (i := 92) rfl), (fun _ h => absurd h List.not_mem_nil)⟩)⟩)⟩)⟩)⟩)⟩)⟩)⟩)⟩)⟩)⟩)⟩)⟩)⟩)⟩)⟩)⟩)⟩)⟩))⟩)⟩), (fun _ h => (List.mem_cons_of_mem _ (List.mem_append_left _ (List.mem_append_left _ (List.mem_append_right _ h)))))⟩), (fun _ h => (List.mem_cons_of_mem _ (List.mem_append_left _ (List.mem_append_right _ h))))⟩), (fun _ h => (List.mem_cons_of_mem _ (List.mem_append_right _ h)))⟩)⟩) (by decide +kernel)
set_option maxRecDepth 20000 in
theorem gX6_dealt_X2_readFits : GoodIn wsX6_dealt (wsV RX6 123 RX2 yX2_readFits wsX2_readFits) := goodIn_app (goodIn_sub (List.forall_mem_cons.mpr ⟨(List.mem_of_getElem? (i := 27) rfl), (List.forall_mem_cons.mpr ⟨(List.mem_of_getElem? (i := 28) rfl), (List.forall_mem_cons.mpr ⟨(List.mem_of_getElem? (i := 29) rfl), (List.forall_mem_cons.mpr ⟨(List.mem_of_getElem? (i := 30) rfl), (fun _ h => absurd h List.not_mem_nil)⟩)⟩)⟩)⟩) (by decide +kernel)) ggX6_dealt_X2_readFits
set_option maxRecDepth 20000 in
theorem ggX6_dealt_X2_wantedEdges : GoodIn wsX6_dealt wsX2_wantedEdges := goodIn_sub (List.forall_mem_cons.mpr ⟨(List.mem_of_getElem? (i := 52) rfl), (List.forall_mem_append.mpr ⟨(List.forall_mem_append.mpr ⟨(List.forall_mem_append.mpr ⟨(List.forall_mem_cons.mpr ⟨(List.mem_of_getElem? (i := 35) rfl), (List.forall_mem_cons.mpr ⟨(List.mem_of_getElem? (i := 53) rfl), (List.forall_mem_cons.mpr ⟨(List.mem_of_getElem? (i := 34) rfl), (List.forall_mem_cons.mpr ⟨(List.mem_of_getElem? (i := 54) rfl), (List.forall_mem_cons.mpr ⟨(List.mem_of_getElem? (i := 55) rfl), (List.forall_mem_cons.mpr ⟨(List.mem_of_getElem? (i := 56) rfl), (List.forall_mem_cons.mpr ⟨(List.mem_of_getElem? (i := 57) rfl), (List.forall_mem_cons.mpr ⟨(List.mem_of_getElem? (i := 58) rfl), (List.forall_mem_cons.mpr ⟨(List.mem_of_getElem? (i := 30) rfl), (List.forall_mem_cons.mpr ⟨(List.mem_of_getElem? (i := 59) rfl), (List.forall_mem_cons.mpr ⟨(List.mem_of_getElem? (i := 60) rfl), (List.forall_mem_cons.mpr ⟨(List.mem_of_getElem? (i := 61) rfl), (fun _ h => absurd h List.not_mem_nil)⟩)⟩)⟩)⟩)⟩)⟩)⟩)⟩)⟩)⟩)⟩)⟩), (fun _ h => (List.mem_cons_of_mem _ (List.mem_append_left _ (List.mem_append_left _ (List.mem_append_right _ h)))))⟩), (fun _ h => (List.mem_cons_of_mem _ (List.mem_append_left _ (List.mem_append_right _ h))))⟩), (fun _ h => (List.mem_cons_of_mem _ (List.mem_append_right _ h)))⟩)⟩) (by decide +kernel)
set_option maxRecDepth 20000 in
theorem gX6_dealt_X2_wantedEdges : GoodIn wsX6_dealt (wsV RX6 138 RX2 yX2_wantedEdges wsX2_wantedEdges) := goodIn_app (goodIn_sub (List.forall_mem_cons.mpr ⟨(List.mem_of_getElem? (i := 93) rfl), (List.forall_mem_cons.mpr ⟨(List.mem_of_getElem? (i := 50) rfl), (List.forall_mem_cons.mpr ⟨(List.mem_of_getElem? (i := 51) rfl), (List.forall_mem_cons.mpr ⟨(List.mem_of_getElem? (i := 30) rfl), (fun _ h => absurd h List.not_mem_nil)⟩)⟩)⟩)⟩) (by decide +kernel)) ggX6_dealt_X2_wantedEdges
set_option maxRecDepth 20000 in
theorem ggX6_dealt_X2_leastPartOf : GoodIn wsX6_dealt wsX2_leastPartOf := goodIn_sub (List.forall_mem_cons.mpr ⟨(List.mem_of_getElem? (i := 97) rfl), (List.forall_mem_append.mpr ⟨(List.forall_mem_append.mpr ⟨(List.forall_mem_append.mpr ⟨(List.forall_mem_append.mpr ⟨(show ∀ w ∈ wsX2_leastPartOf_r1, w ∈ wsX6_dealt from (List.forall_mem_cons.mpr ⟨(List.mem_of_getElem? (i := 73) rfl), (List.forall_mem_cons.mpr ⟨(List.mem_of_getElem? (i := 49) rfl), (List.forall_mem_cons.mpr ⟨(List.mem_of_getElem? (i := 50) rfl), (List.forall_mem_cons.mpr ⟨(List.mem_of_getElem? (i := 51) rfl), (List.forall_mem_cons.mpr ⟨(List.mem_of_getElem? (i := 30) rfl), (List.forall_mem_cons.mpr ⟨(List.mem_of_getElem? (i := 52) rfl), (List.forall_mem_cons.mpr ⟨(List.mem_of_getElem? (i := 35) rfl), (List.forall_mem_cons.mpr ⟨(List.mem_of_getElem? (i := 53) rfl), (List.forall_mem_cons.mpr ⟨(List.mem_of_getElem? (i := 34) rfl), (List.forall_mem_cons.mpr ⟨(List.mem_of_getElem? (i := 54) rfl), (List.forall_mem_cons.mpr ⟨(List.mem_of_getElem? (i := 55) rfl), (List.forall_mem_cons.mpr ⟨(List.mem_of_getElem? (i := 56) rfl), (List.forall_mem_cons.mpr ⟨(List.mem_of_getElem? (i := 57) rfl), (List.forall_mem_cons.mpr ⟨(List.mem_of_getElem? (i := 58) rfl), (List.forall_mem_cons.mpr ⟨(List.mem_of_getElem? (i := 59) rfl), (List.forall_mem_cons.mpr ⟨(List.mem_of_getElem? (i := 60) rfl), (List.forall_mem_cons.mpr ⟨(List.mem_of_getElem? (i := 61) rfl), (List.forall_mem_cons.mpr ⟨(List.mem_of_getElem? (i := 98) rfl), (List.forall_mem_cons.mpr ⟨(List.mem_of_getElem? (i := 99) rfl), (List.forall_mem_cons.mpr ⟨(List.mem_of_getElem? (i := 100) rfl), (List.forall_mem_cons.mpr ⟨(List.mem_of_getElem? (i := 101) rfl), (List.forall_mem_cons.mpr ⟨(List.mem_of_getElem? (i := 102) rfl), (List.forall_mem_cons.mpr ⟨(List.mem_of_getElem? (i := 33) rfl), (List.forall_mem_cons.mpr ⟨(List.mem_of_getElem? (i := 44) rfl), (fun _ h => absurd h List.not_mem_nil)⟩)⟩)⟩)⟩)⟩)⟩)⟩)⟩)⟩)⟩)⟩)⟩)⟩)⟩)⟩)⟩)⟩)⟩)⟩)⟩)⟩)⟩)⟩)⟩)), (List.forall_mem_append.mpr ⟨(show ∀ w ∈ wsX2_leastPartOf_r2, w ∈ wsX6_dealt from (List.forall_mem_cons.mpr ⟨(List.mem_of_getElem? (i := 45) rfl), (List.forall_mem_cons.mpr ⟨(List.mem_of_getElem? (i := 46) rfl), (List.forall_mem_cons.mpr ⟨(List.mem_of_getElem? (i := 47) rfl), (List.forall_mem_cons.mpr ⟨(List.mem_of_getElem? (i := 48) rfl), (List.forall_mem_cons.mpr ⟨(List.mem_of_getElem? (i := 62) rfl), (List.forall_mem_cons.mpr ⟨(List.mem_of_getElem? (i := 63) rfl), (List.forall_mem_cons.mpr ⟨(List.mem_of_getElem? (i := 64) rfl), (List.forall_mem_cons.mpr ⟨(List.mem_of_getElem? (i := 65) rfl), (List.forall_mem_cons.mpr ⟨(List.mem_of_getElem? (i := 66) rfl), (List.forall_mem_cons.mpr ⟨(List.mem_of_getElem? (i := 67) rfl), (List.forall_mem_cons.mpr ⟨(List.mem_of_getElem? (i := 68) rfl), (List.forall_mem_cons.mpr ⟨(List.mem_of_getElem? (i := 69) rfl), (List.forall_mem_cons.mpr ⟨(List.mem_of_getElem? (i := 70) rfl), (List.forall_mem_cons.mpr ⟨(List.mem_of_getElem? (i := 71) rfl), (List.forall_mem_cons.mpr ⟨(List.mem_of_getElem? (i := 72) rfl), (List.forall_mem_cons.mpr ⟨(List.mem_of_getElem? (i := 74) rfl), (List.forall_mem_cons.mpr ⟨(List.mem_of_getElem? (i := 75) rfl), (List.forall_mem_cons.mpr ⟨(List.mem_of_getElem? (i := 76) rfl), (List.forall_mem_cons.mpr ⟨(List.mem_of_getElem? (i := 77) rfl), (List.forall_mem_cons.mpr ⟨(List.mem_of_getElem? (i := 78) rfl), (List.forall_mem_cons.mpr ⟨(List.mem_of_getElem? (i := 79) rfl), (List.forall_mem_cons.mpr ⟨(List.mem_of_getElem? (i := 80) rfl), (List.forall_mem_cons.mpr ⟨(List.mem_of_getElem? (i := 81) rfl), (List.forall_mem_cons.mpr ⟨(List.mem_of_getElem? (i := 82) rfl), (fun _ h => absurd h List.not_mem_nil)⟩)⟩)⟩)⟩)⟩)⟩)⟩)⟩)⟩)⟩)⟩)⟩)⟩)⟩)⟩)⟩)⟩)⟩)⟩)⟩)⟩)⟩)⟩)⟩)), (show ∀ w ∈ wsX2_leastPartOf_r3, w ∈ wsX6_dealt from (List.forall_mem_cons.mpr ⟨(List.mem_of_getElem? (i := 83) rfl), (List.forall_mem_cons.mpr ⟨(List.mem_of_getElem? (i := 84) rfl), (List.forall_mem_cons.mpr ⟨(List.mem_of_getElem? (i := 85) rfl), (List.forall_mem_cons.mpr ⟨(List.mem_of_getElem? (i := 86) rfl), (List.forall_mem_cons.mpr ⟨(List.mem_of_getElem? (i := 87) rfl), (List.forall_mem_cons.mpr ⟨(List.mem_of_getElem? (i := 88) rfl), (List.forall_mem_cons.mpr ⟨(List.mem_of_getElem? (i := 89) rfl), (List.forall_mem_cons.mpr ⟨(List.mem_of_getElem? (i := 90) rfl), (List.forall_mem_cons.mpr ⟨(List.mem_of_getElem? (i := 91) rfl), (List.forall_mem_cons.mpr ⟨(List.mem_of_getElem? (i := 92) rfl), (fun _ h => absurd h List.not_mem_nil)⟩)⟩)⟩)⟩)⟩)⟩)⟩)⟩)⟩)⟩))⟩)⟩), (fun _ h => (List.mem_cons_of_mem _ (List.mem_append_left _ (List.mem_append_left _ (List.mem_append_right _ h)))))⟩), (fun _ h => (List.mem_cons_of_mem _ (List.mem_append_left _ (List.mem_append_right _ h))))⟩), (fun _ h => (List.mem_cons_of_mem _ (List.mem_append_right _ h)))⟩)⟩) (by decide +kernel)
set_option maxRecDepth 20000 in
theorem gX6_dealt_X2_leastPartOf : GoodIn wsX6_dealt (wsV RX6 151 RX2 yX2_leastPartOf wsX2_leastPartOf) := goodIn_app (goodIn_sub (List.forall_mem_cons.mpr ⟨(List.mem_of_getElem? (i := 94) rfl), (List.forall_mem_cons.mpr ⟨(List.mem_of_getElem? (i := 95) rfl), (List.forall_mem_cons.mpr ⟨(List.mem_of_getElem? (i := 96) rfl), (List.forall_mem_cons.mpr ⟨(List.mem_of_getElem? (i := 30) rfl), (fun _ h => absurd h List.not_mem_nil)⟩)⟩)⟩)⟩) (by decide +kernel)) ggX6_dealt_X2_leastPartOf
set_option maxRecDepth 100000 in
theorem daX6_dealt : ∀ q ∈ ([(0, .aload_n 0, 1), (1, .iload_n 1, 1), (2, .iload_n 2, 1), (3, .invokevirtual 119, 3), (6, .ifCond .eq 15, 3), (9, .aload_n 0, 1), (10, .getfield 10, 3), (13, .iload_n 1, 1), (14, .iload_n 3, 1), (15, .invokevirtual 148, 3), (18, .ifCond .ne 5, 3), (21, .iconst (-1), 1), (22, .ireturn, 1), (23, .aload_n 0, 1), (24, .getfield 47, 3), (27, .invokevirtual 123, 3), (30, .aload_n 0, 1), (31, .getfield 47, 3), (34, .getfield 126, 3), (37, .iload_n 2, 1), (38, .iaload, 1), (39, .iload_n 1, 1), (40, .ishr, 1), (41, .iconst 1, 1), (42, .iand, 1), (43, .ifCond .ne 6, 3), (46, .bipush (-2), 2), (48, .ireturn, 1), (49, .aload_n 0, 1), (50, .getfield 47, 3), (53, .iload_n 1, 1), (54, .iload_n 2, 1), (55, .invokevirtual 138, 3), (58, .iload_n 3, 1), (59, .ishr, 1), (60, .iconst 1, 1), (61, .iand, 1), (62, .ifCond .ne 6, 3), (65, .bipush (-4), 2), (67, .ireturn, 1), (68, .aload_n 0, 1), (69, .getfield 47, 3), (72, .iload_n 1, 1), (73, .iload_n 2, 1), (74, .iload_n 3, 1), (75, .invokevirtual 151, 3), (78, .ireturn, 1)] : List (Nat × Instr × Nat)), decode cX6_dealt q.1 = .ok q.2 := by decide +kernel
theorem dX6_dealt_0 : decode cX6_dealt 0 = .ok (.aload_n 0, 1) := daX6_dealt (0, .aload_n 0, 1) (List.mem_of_getElem? (i := 0) rfl)
theorem dX6_dealt_1 : decode cX6_dealt 1 = .ok (.iload_n 1, 1) := daX6_dealt (1, .iload_n 1, 1) (List.mem_of_getElem? (i := 1) rfl)
theorem dX6_dealt_2 : decode cX6_dealt 2 = .ok (.iload_n 2, 1) := daX6_dealt (2, .iload_n 2, 1) (List.mem_of_getElem? (i := 2) rfl)
theorem dX6_dealt_3 : decode cX6_dealt 3 = .ok (.invokevirtual 119, 3) := daX6_dealt (3, .invokevirtual 119, 3) (List.mem_of_getElem? (i := 3) rfl)
theorem dX6_dealt_6 : decode cX6_dealt 6 = .ok (.ifCond .eq 15, 3) := daX6_dealt (6, .ifCond .eq 15, 3) (List.mem_of_getElem? (i := 4) rfl)
theorem dX6_dealt_9 : decode cX6_dealt 9 = .ok (.aload_n 0, 1) := daX6_dealt (9, .aload_n 0, 1) (List.mem_of_getElem? (i := 5) rfl)
theorem dX6_dealt_10 : decode cX6_dealt 10 = .ok (.getfield 10, 3) := daX6_dealt (10, .getfield 10, 3) (List.mem_of_getElem? (i := 6) rfl)
theorem dX6_dealt_13 : decode cX6_dealt 13 = .ok (.iload_n 1, 1) := daX6_dealt (13, .iload_n 1, 1) (List.mem_of_getElem? (i := 7) rfl)
theorem dX6_dealt_14 : decode cX6_dealt 14 = .ok (.iload_n 3, 1) := daX6_dealt (14, .iload_n 3, 1) (List.mem_of_getElem? (i := 8) rfl)
theorem dX6_dealt_15 : decode cX6_dealt 15 = .ok (.invokevirtual 148, 3) := daX6_dealt (15, .invokevirtual 148, 3) (List.mem_of_getElem? (i := 9) rfl)
theorem dX6_dealt_18 : decode cX6_dealt 18 = .ok (.ifCond .ne 5, 3) := daX6_dealt (18, .ifCond .ne 5, 3) (List.mem_of_getElem? (i := 10) rfl)
theorem dX6_dealt_21 : decode cX6_dealt 21 = .ok (.iconst (-1), 1) := daX6_dealt (21, .iconst (-1), 1) (List.mem_of_getElem? (i := 11) rfl)
theorem dX6_dealt_22 : decode cX6_dealt 22 = .ok (.ireturn, 1) := daX6_dealt (22, .ireturn, 1) (List.mem_of_getElem? (i := 12) rfl)
theorem dX6_dealt_23 : decode cX6_dealt 23 = .ok (.aload_n 0, 1) := daX6_dealt (23, .aload_n 0, 1) (List.mem_of_getElem? (i := 13) rfl)
theorem dX6_dealt_24 : decode cX6_dealt 24 = .ok (.getfield 47, 3) := daX6_dealt (24, .getfield 47, 3) (List.mem_of_getElem? (i := 14) rfl)
theorem dX6_dealt_27 : decode cX6_dealt 27 = .ok (.invokevirtual 123, 3) := daX6_dealt (27, .invokevirtual 123, 3) (List.mem_of_getElem? (i := 15) rfl)
theorem dX6_dealt_30 : decode cX6_dealt 30 = .ok (.aload_n 0, 1) := daX6_dealt (30, .aload_n 0, 1) (List.mem_of_getElem? (i := 16) rfl)
theorem dX6_dealt_31 : decode cX6_dealt 31 = .ok (.getfield 47, 3) := daX6_dealt (31, .getfield 47, 3) (List.mem_of_getElem? (i := 17) rfl)
theorem dX6_dealt_34 : decode cX6_dealt 34 = .ok (.getfield 126, 3) := daX6_dealt (34, .getfield 126, 3) (List.mem_of_getElem? (i := 18) rfl)
theorem dX6_dealt_37 : decode cX6_dealt 37 = .ok (.iload_n 2, 1) := daX6_dealt (37, .iload_n 2, 1) (List.mem_of_getElem? (i := 19) rfl)
theorem dX6_dealt_38 : decode cX6_dealt 38 = .ok (.iaload, 1) := daX6_dealt (38, .iaload, 1) (List.mem_of_getElem? (i := 20) rfl)
theorem dX6_dealt_39 : decode cX6_dealt 39 = .ok (.iload_n 1, 1) := daX6_dealt (39, .iload_n 1, 1) (List.mem_of_getElem? (i := 21) rfl)
theorem dX6_dealt_40 : decode cX6_dealt 40 = .ok (.ishr, 1) := daX6_dealt (40, .ishr, 1) (List.mem_of_getElem? (i := 22) rfl)
theorem dX6_dealt_41 : decode cX6_dealt 41 = .ok (.iconst 1, 1) := daX6_dealt (41, .iconst 1, 1) (List.mem_of_getElem? (i := 23) rfl)
theorem dX6_dealt_42 : decode cX6_dealt 42 = .ok (.iand, 1) := daX6_dealt (42, .iand, 1) (List.mem_of_getElem? (i := 24) rfl)
theorem dX6_dealt_43 : decode cX6_dealt 43 = .ok (.ifCond .ne 6, 3) := daX6_dealt (43, .ifCond .ne 6, 3) (List.mem_of_getElem? (i := 25) rfl)
theorem dX6_dealt_46 : decode cX6_dealt 46 = .ok (.bipush (-2), 2) := daX6_dealt (46, .bipush (-2), 2) (List.mem_of_getElem? (i := 26) rfl)
theorem dX6_dealt_48 : decode cX6_dealt 48 = .ok (.ireturn, 1) := daX6_dealt (48, .ireturn, 1) (List.mem_of_getElem? (i := 27) rfl)
theorem dX6_dealt_49 : decode cX6_dealt 49 = .ok (.aload_n 0, 1) := daX6_dealt (49, .aload_n 0, 1) (List.mem_of_getElem? (i := 28) rfl)
theorem dX6_dealt_50 : decode cX6_dealt 50 = .ok (.getfield 47, 3) := daX6_dealt (50, .getfield 47, 3) (List.mem_of_getElem? (i := 29) rfl)
theorem dX6_dealt_53 : decode cX6_dealt 53 = .ok (.iload_n 1, 1) := daX6_dealt (53, .iload_n 1, 1) (List.mem_of_getElem? (i := 30) rfl)
theorem dX6_dealt_54 : decode cX6_dealt 54 = .ok (.iload_n 2, 1) := daX6_dealt (54, .iload_n 2, 1) (List.mem_of_getElem? (i := 31) rfl)
theorem dX6_dealt_55 : decode cX6_dealt 55 = .ok (.invokevirtual 138, 3) := daX6_dealt (55, .invokevirtual 138, 3) (List.mem_of_getElem? (i := 32) rfl)
theorem dX6_dealt_58 : decode cX6_dealt 58 = .ok (.iload_n 3, 1) := daX6_dealt (58, .iload_n 3, 1) (List.mem_of_getElem? (i := 33) rfl)
theorem dX6_dealt_59 : decode cX6_dealt 59 = .ok (.ishr, 1) := daX6_dealt (59, .ishr, 1) (List.mem_of_getElem? (i := 34) rfl)
theorem dX6_dealt_60 : decode cX6_dealt 60 = .ok (.iconst 1, 1) := daX6_dealt (60, .iconst 1, 1) (List.mem_of_getElem? (i := 35) rfl)
theorem dX6_dealt_61 : decode cX6_dealt 61 = .ok (.iand, 1) := daX6_dealt (61, .iand, 1) (List.mem_of_getElem? (i := 36) rfl)
theorem dX6_dealt_62 : decode cX6_dealt 62 = .ok (.ifCond .ne 6, 3) := daX6_dealt (62, .ifCond .ne 6, 3) (List.mem_of_getElem? (i := 37) rfl)
theorem dX6_dealt_65 : decode cX6_dealt 65 = .ok (.bipush (-4), 2) := daX6_dealt (65, .bipush (-4), 2) (List.mem_of_getElem? (i := 38) rfl)
theorem dX6_dealt_67 : decode cX6_dealt 67 = .ok (.ireturn, 1) := daX6_dealt (67, .ireturn, 1) (List.mem_of_getElem? (i := 39) rfl)
theorem dX6_dealt_68 : decode cX6_dealt 68 = .ok (.aload_n 0, 1) := daX6_dealt (68, .aload_n 0, 1) (List.mem_of_getElem? (i := 40) rfl)
theorem dX6_dealt_69 : decode cX6_dealt 69 = .ok (.getfield 47, 3) := daX6_dealt (69, .getfield 47, 3) (List.mem_of_getElem? (i := 41) rfl)
theorem dX6_dealt_72 : decode cX6_dealt 72 = .ok (.iload_n 1, 1) := daX6_dealt (72, .iload_n 1, 1) (List.mem_of_getElem? (i := 42) rfl)
theorem dX6_dealt_73 : decode cX6_dealt 73 = .ok (.iload_n 2, 1) := daX6_dealt (73, .iload_n 2, 1) (List.mem_of_getElem? (i := 43) rfl)
theorem dX6_dealt_74 : decode cX6_dealt 74 = .ok (.iload_n 3, 1) := daX6_dealt (74, .iload_n 3, 1) (List.mem_of_getElem? (i := 44) rfl)
theorem dX6_dealt_75 : decode cX6_dealt 75 = .ok (.invokevirtual 151, 3) := daX6_dealt (75, .invokevirtual 151, 3) (List.mem_of_getElem? (i := 45) rfl)
theorem dX6_dealt_78 : decode cX6_dealt 78 = .ok (.ireturn, 1) := daX6_dealt (78, .ireturn, 1) (List.mem_of_getElem? (i := 46) rfl)
def rmX6_dealt : Room := { frames := 6, cells := 0, slots := 0, locals := 153 }
theorem zdX6_dealt : yX6_dealt.cls = RX6 ∧ yX6_dealt.cls ≠ "java/lang/invoke/MethodHandle" ∧ yX6_dealt.cls ≠ "java/lang/invoke/VarHandle" ∧ (parseMethodDescriptor yX6_dealt.desc).map (fun d => d.parameters.length) = some 3 := by decide +kernel
theorem kiX6_dealt_X6 : ∀ w ∈ wsX60, w ∈ wsX6_dealt := fun _ h => (List.mem_cons_of_mem _ (List.mem_append_left _ (List.mem_append_left _ (List.mem_append_left _ (List.mem_append_right _ h)))))
theorem kfX6_dealt_10 : Cond.fieldLink RX6 10 "ShapeJudge" "graph" "LShapeJudge$Graph;" ∈ wsX6_dealt := (List.mem_of_getElem? (i := 1) rfl)
theorem kfX6_dealt_47 : Cond.fieldLink RX6 47 "ShapeJudge" "judge" "LShapeJudge$Judge;" ∈ wsX6_dealt := (List.mem_of_getElem? (i := 2) rfl)
theorem kiX6_dealt_X2 : ∀ w ∈ wsX20, w ∈ wsX6_dealt := fun _ h => (List.mem_cons_of_mem _ (List.mem_append_left _ (List.mem_append_left _ (List.mem_append_right _ h))))
theorem kfX6_dealt_126 : Cond.fieldLink RX6 126 "ShapeJudge$Judge" "fitting" "[I" ∈ wsX6_dealt := (List.mem_of_getElem? (i := 3) rfl)
def s_X6_dealt (m : Mem) (a1 : Int32) (a2 : Int32) (a3 : Int32) : Option (Int32 × Mem) :=
  (s_X6_isPair m a1 a2).bind fun r2 => (if r2 = 0 then (some ((-1), m)) else ((s_X1_hasEdge m a1 a3).bind fun r4 => (if r4 = 0 then (some ((-1), m)) else ((s_X2_readFits m).bind fun m6 => ck (zin a2 6 = true) ((if (((m6 40 (Int32.toNatClampNeg a2)) >>> (a1 &&& 31)) &&& 1) = 0 then (some ((-2), m6)) else ((s_X2_wantedEdges m6 a1 a2).bind fun r9 => (if ((r9 >>> (a3 &&& 31)) &&& 1) = 0 then (some ((-4), m6)) else (zb2 (s_X2_leastPartOf m6 a1 a2 a3) fun r11 m12 => some (r11, m12))))))))))
set_option maxRecDepth 100000 in
set_option maxHeartbeats 4000000 in
theorem c_X6_dealt (l : Launch) (w : ZW) {m : Mem} {a1 : Int32} {a2 : Int32} {a3 : Int32} {r9 : Int32} {m9 : Mem}  (hf : s_X6_dealt m a1 a2 a3 = some (r9, m9)) : zCi MX l w yX6_dealt wsX6_dealt rmX6_dealt [.ref (w.2.1 0), .int a1, .int a2, .int a3] m m9 r9 := by
  refine z_met_i MX_ok (own := RX6) (by decide +kernel) rfl rfl (Nat.le_of_ble_eq_true rfl) ?_
  intro K C hKw hKl hret
  subst hKw
  subst hKl
  unfold s_X6_dealt at hf
  show zGo MX K m [(0, .ref ((zw K).2.1 0)), (1, .int a1), (2, .int a2), (3, .int a3)] 0 []
  refine z_aload_n C 0 dX6_dealt_0 rfl rfl ?_
  refine z_iload_n C 1 dX6_dealt_1 rfl rfl ?_
  refine z_iload_n C 2 dX6_dealt_2 rfl rfl ?_
  obtain ⟨r2, hc1, hf⟩ := zb_el hf
  refine z_cVi C (c_X6_isPair _ _ hc1) rfl gX6_dealt_X6_isPair rfl rfl zdX6_isPair rfl (Nat.le_of_ble_eq_true rfl) rfl rfl rfl ⟨Nat.le_of_ble_eq_true rfl, Nat.le_of_ble_eq_true rfl⟩ (Nat.le_of_ble_eq_true rfl) dX6_dealt_3 rfl ?_
  refine z_if_eq (tgt := 21) C dX6_dealt_6 (by decide) (fun c16 => ?_) (fun c16 => ?_)
  · replace hf := if_t c16 hf
    refine z_iconst C (v := (-1)) dX6_dealt_21 (by decide) ?_
    obtain ⟨e1, e2⟩ := sp_el hf
    subst e1
    subst e2
    exact hret _ _ dX6_dealt_22
  · replace hf := if_f c16 hf
    refine z_aload_n C 0 dX6_dealt_9 rfl rfl ?_
    refine z_getr C (t := 1) (Nat.le_of_ble_eq_true rfl) rfl rfl 0 (Nat.le_of_ble_eq_true rfl) rfl kiX6_dealt_X6 kfX6_dealt_10 dX6_dealt_10 ?_
    refine z_iload_n C 1 dX6_dealt_13 rfl rfl ?_
    refine z_iload_n C 3 dX6_dealt_14 rfl rfl ?_
    obtain ⟨r4, hc3, hf⟩ := zb_el hf
    refine z_cVi C (c_X1_hasEdge _ _ hc3) rfl gX6_dealt_X1_hasEdge rfl rfl zdX1_hasEdge rfl (Nat.le_of_ble_eq_true rfl) rfl rfl rfl ⟨Nat.le_of_ble_eq_true rfl, Nat.le_of_ble_eq_true rfl⟩ (Nat.le_of_ble_eq_true rfl) dX6_dealt_15 rfl ?_
    refine z_if_ne (tgt := 23) C dX6_dealt_18 (by decide) (fun c15 => ?_) (fun c15 => ?_)
    · replace hf := if_f c15 hf
      refine z_aload_n C 0 dX6_dealt_23 rfl rfl ?_
      refine z_getr C (t := 39) (Nat.le_of_ble_eq_true rfl) rfl rfl 3 (Nat.le_of_ble_eq_true rfl) rfl kiX6_dealt_X6 kfX6_dealt_47 dX6_dealt_24 ?_
      obtain ⟨m6, hc5, hf⟩ := zb_el hf
      refine z_cVv C (c_X2_readFits _ _ hc5) rfl gX6_dealt_X2_readFits rfl rfl zdX2_readFits rfl (Nat.le_of_ble_eq_true rfl) rfl rfl rfl ⟨Nat.le_of_ble_eq_true rfl, Nat.le_of_ble_eq_true rfl⟩ (Nat.le_of_ble_eq_true rfl) dX6_dealt_27 rfl ?_
      refine z_aload_n C 0 dX6_dealt_30 rfl rfl ?_
      refine z_getr C (t := 39) (Nat.le_of_ble_eq_true rfl) rfl rfl 3 (Nat.le_of_ble_eq_true rfl) rfl kiX6_dealt_X6 kfX6_dealt_47 dX6_dealt_31 ?_
      refine z_getr C (t := 40) (Nat.le_of_ble_eq_true rfl) rfl rfl 2 (Nat.le_of_ble_eq_true rfl) rfl kiX6_dealt_X2 kfX6_dealt_126 dX6_dealt_34 ?_
      refine z_iload_n C 2 dX6_dealt_37 rfl rfl ?_
      obtain ⟨hi7, hf⟩ := ck_el hf
      refine z_iald C (k := 40) (Nat.le_of_ble_eq_true rfl) rfl hi7 dX6_dealt_38 ?_
      refine z_iload_n C 1 dX6_dealt_39 rfl rfl ?_
      refine z_ishr C dX6_dealt_40 ?_
      refine z_iconst C (v := 1) dX6_dealt_41 rfl ?_
      refine z_iand C dX6_dealt_42 ?_
      refine z_if_ne (tgt := 49) C dX6_dealt_43 (by decide) (fun c14 => ?_) (fun c14 => ?_)
      · replace hf := if_f c14 hf
        refine z_aload_n C 0 dX6_dealt_49 rfl rfl ?_
        refine z_getr C (t := 39) (Nat.le_of_ble_eq_true rfl) rfl rfl 3 (Nat.le_of_ble_eq_true rfl) rfl kiX6_dealt_X6 kfX6_dealt_47 dX6_dealt_50 ?_
        refine z_iload_n C 1 dX6_dealt_53 rfl rfl ?_
        refine z_iload_n C 2 dX6_dealt_54 rfl rfl ?_
        obtain ⟨r9, hc8, hf⟩ := zb_el hf
        refine z_cVi C (c_X2_wantedEdges _ _ hc8) rfl gX6_dealt_X2_wantedEdges rfl rfl zdX2_wantedEdges rfl (Nat.le_of_ble_eq_true rfl) rfl rfl rfl ⟨Nat.le_of_ble_eq_true rfl, Nat.le_of_ble_eq_true rfl⟩ (Nat.le_of_ble_eq_true rfl) dX6_dealt_55 rfl ?_
        refine z_iload_n C 3 dX6_dealt_58 rfl rfl ?_
        refine z_ishr C dX6_dealt_59 ?_
        refine z_iconst C (v := 1) dX6_dealt_60 rfl ?_
        refine z_iand C dX6_dealt_61 ?_
        refine z_if_ne (tgt := 68) C dX6_dealt_62 (by decide) (fun c13 => ?_) (fun c13 => ?_)
        · replace hf := if_f c13 hf
          refine z_aload_n C 0 dX6_dealt_68 rfl rfl ?_
          refine z_getr C (t := 39) (Nat.le_of_ble_eq_true rfl) rfl rfl 3 (Nat.le_of_ble_eq_true rfl) rfl kiX6_dealt_X6 kfX6_dealt_47 dX6_dealt_69 ?_
          refine z_iload_n C 1 dX6_dealt_72 rfl rfl ?_
          refine z_iload_n C 2 dX6_dealt_73 rfl rfl ?_
          refine z_iload_n C 3 dX6_dealt_74 rfl rfl ?_
          obtain ⟨r11, m12, hc10, hf⟩ := zb2_el hf
          refine z_cVi C (c_X2_leastPartOf _ _ hc10) rfl gX6_dealt_X2_leastPartOf rfl rfl zdX2_leastPartOf rfl (Nat.le_of_ble_eq_true rfl) rfl rfl rfl ⟨Nat.le_of_ble_eq_true rfl, Nat.le_of_ble_eq_true rfl⟩ (Nat.le_of_ble_eq_true rfl) dX6_dealt_75 rfl ?_
          obtain ⟨e1, e2⟩ := sp_el hf
          subst e1
          subst e2
          exact hret _ _ dX6_dealt_78
        · replace hf := if_t c13 hf
          refine z_bipush C (v := (-4)) dX6_dealt_65 (by decide) ?_
          obtain ⟨e1, e2⟩ := sp_el hf
          subst e1
          subst e2
          exact hret _ _ dX6_dealt_67
      · replace hf := if_t c14 hf
        refine z_bipush C (v := (-2)) dX6_dealt_46 (by decide) ?_
        obtain ⟨e1, e2⟩ := sp_el hf
        subst e1
        subst e2
        exact hret _ _ dX6_dealt_48
    · replace hf := if_t c15 hf
      refine z_iconst C (v := (-1)) dX6_dealt_21 (by decide) ?_
      obtain ⟨e1, e2⟩ := sp_el hf
      subst e1
      subst e2
      exact hret _ _ dX6_dealt_22
set_option maxRecDepth 20000 in
theorem ggX6_depends_X0_hasShape : GoodIn wsX6_depends wsX0_hasShape := goodIn_sub (List.forall_mem_cons.mpr ⟨(List.mem_of_getElem? (i := 7) rfl), (List.forall_mem_append.mpr ⟨(List.forall_mem_cons.mpr ⟨(List.mem_of_getElem? (i := 8) rfl), (fun _ h => absurd h List.not_mem_nil)⟩), (fun _ h => (List.mem_cons_of_mem _ (List.mem_append_right _ h)))⟩)⟩) (by decide +kernel)
set_option maxRecDepth 20000 in
theorem gX6_depends_X0_hasShape : GoodIn wsX6_depends (wsV RX6 135 RX0 yX0_hasShape wsX0_hasShape) := goodIn_app (goodIn_sub (List.forall_mem_cons.mpr ⟨(List.mem_of_getElem? (i := 3) rfl), (List.forall_mem_cons.mpr ⟨(List.mem_of_getElem? (i := 4) rfl), (List.forall_mem_cons.mpr ⟨(List.mem_of_getElem? (i := 5) rfl), (List.forall_mem_cons.mpr ⟨(List.mem_of_getElem? (i := 6) rfl), (fun _ h => absurd h List.not_mem_nil)⟩)⟩)⟩)⟩) (by decide +kernel)) ggX6_depends_X0_hasShape
theorem dX6_depends_0 : decode cX6_depends 0 = .ok (.aload_n 0, 1) := by decide +kernel
theorem dX6_depends_1 : decode cX6_depends 1 = .ok (.getfield 35, 3) := by decide +kernel
theorem dX6_depends_4 : decode cX6_depends 4 = .ok (.iload_n 1, 1) := by decide +kernel
theorem dX6_depends_5 : decode cX6_depends 5 = .ok (.invokevirtual 135, 3) := by decide +kernel
theorem dX6_depends_8 : decode cX6_depends 8 = .ok (.ifCond .eq 14, 3) := by decide +kernel
theorem dX6_depends_11 : decode cX6_depends 11 = .ok (.aload_n 0, 1) := by decide +kernel
theorem dX6_depends_12 : decode cX6_depends 12 = .ok (.getfield 35, 3) := by decide +kernel
theorem dX6_depends_15 : decode cX6_depends 15 = .ok (.iload_n 2, 1) := by decide +kernel
theorem dX6_depends_16 : decode cX6_depends 16 = .ok (.invokevirtual 135, 3) := by decide +kernel
theorem dX6_depends_19 : decode cX6_depends 19 = .ok (.ifCond .ne 5, 3) := by decide +kernel
theorem dX6_depends_22 : decode cX6_depends 22 = .ok (.iconst (-1), 1) := by decide +kernel
theorem dX6_depends_23 : decode cX6_depends 23 = .ok (.ireturn, 1) := by decide +kernel
theorem dX6_depends_24 : decode cX6_depends 24 = .ok (.aload_n 0, 1) := by decide +kernel
theorem dX6_depends_25 : decode cX6_depends 25 = .ok (.getfield 35, 3) := by decide +kernel
theorem dX6_depends_28 : decode cX6_depends 28 = .ok (.getfield 157, 3) := by decide +kernel
theorem dX6_depends_31 : decode cX6_depends 31 = .ok (.iload_n 1, 1) := by decide +kernel
theorem dX6_depends_32 : decode cX6_depends 32 = .ok (.iaload, 1) := by decide +kernel
theorem dX6_depends_33 : decode cX6_depends 33 = .ok (.iload_n 2, 1) := by decide +kernel
theorem dX6_depends_34 : decode cX6_depends 34 = .ok (.ishr, 1) := by decide +kernel
theorem dX6_depends_35 : decode cX6_depends 35 = .ok (.iconst 1, 1) := by decide +kernel
theorem dX6_depends_36 : decode cX6_depends 36 = .ok (.iand, 1) := by decide +kernel
theorem dX6_depends_37 : decode cX6_depends 37 = .ok (.ireturn, 1) := by decide +kernel
def rmX6_depends : Room := { frames := 1, cells := 0, slots := 0, locals := 21 }
theorem zdX6_depends : yX6_depends.cls = RX6 ∧ yX6_depends.cls ≠ "java/lang/invoke/MethodHandle" ∧ yX6_depends.cls ≠ "java/lang/invoke/VarHandle" ∧ (parseMethodDescriptor yX6_depends.desc).map (fun d => d.parameters.length) = some 2 := by decide +kernel
theorem kiX6_depends_X6 : ∀ w ∈ wsX60, w ∈ wsX6_depends := fun _ h => (List.mem_cons_of_mem _ (List.mem_append_left _ (List.mem_append_right _ h)))
theorem kfX6_depends_35 : Cond.fieldLink RX6 35 "ShapeJudge" "book" "LShapeJudge$Book;" ∈ wsX6_depends := (List.mem_of_getElem? (i := 1) rfl)
theorem kiX6_depends_X0 : ∀ w ∈ wsX00, w ∈ wsX6_depends := fun _ h => (List.mem_cons_of_mem _ (List.mem_append_right _ h))
theorem kfX6_depends_157 : Cond.fieldLink RX6 157 "ShapeJudge$Book" "reach" "[I" ∈ wsX6_depends := (List.mem_of_getElem? (i := 2) rfl)
def s_X6_depends (m : Mem) (a1 : Int32) (a2 : Int32) : Option (Int32) :=
  zbk (m 0 4) fun b1 => (s_X0_hasShape m b1 a1).bind fun r3 => (if r3 = 0 then (some (-1)) else (zbk (m 0 4) fun b4 => (s_X0_hasShape m b4 a2).bind fun r6 => (if r6 = 0 then (some (-1)) else (zbk (m 0 4) fun b7 => ck (zin a1 6 = true) (some (((m (b7 + 5) (Int32.toNatClampNeg a1)) >>> (a2 &&& 31)) &&& 1))))))
set_option maxRecDepth 100000 in
set_option maxHeartbeats 4000000 in
theorem c_X6_depends (l : Launch) (w : ZW) {m : Mem} {a1 : Int32} {a2 : Int32} {r9 : Int32}  (hf : s_X6_depends m a1 a2 = some r9) : zCi MX l w yX6_depends wsX6_depends rmX6_depends [.ref (w.2.1 0), .int a1, .int a2] m m r9 := by
  refine z_met_i MX_ok (own := RX6) (by decide +kernel) rfl rfl (Nat.le_of_ble_eq_true rfl) ?_
  intro K C hKw hKl hret
  subst hKw
  subst hKl
  unfold s_X6_depends at hf
  show zGo MX K m [(0, .ref ((zw K).2.1 0)), (1, .int a1), (2, .int a2)] 0 []
  refine z_aload_n C 0 dX6_depends_0 rfl rfl ?_
  obtain ⟨b1, hb1, e_b1, hf⟩ := zbk_el hf
  refine z_getb C (b := b1) (Nat.le_of_ble_eq_true rfl) rfl rfl 4 (Nat.le_of_ble_eq_true rfl) rfl kiX6_depends_X6 kfX6_depends_35 (isb_lt hb1) e_b1 dX6_depends_1 ?_
  refine z_iload_n C 1 dX6_depends_4 rfl rfl ?_
  obtain ⟨r3, hc2, hf⟩ := zb_el hf
  refine z_cVi C (c_X0_hasShape _ _ hb1 hc2) rfl gX6_depends_X0_hasShape rfl rfl zdX0_hasShape rfl (isb_k0 hb1) (isb_L0 hb1) rfl rfl ⟨Nat.le_of_ble_eq_true rfl, Nat.le_of_ble_eq_true rfl⟩ (Nat.le_of_ble_eq_true rfl) dX6_depends_5 rfl ?_
  refine z_if_eq (tgt := 22) C dX6_depends_8 (by decide) (fun c10 => ?_) (fun c10 => ?_)
  · replace hf := if_t c10 hf
    refine z_iconst C (v := (-1)) dX6_depends_22 (by decide) ?_
    have e1 := Option.some.inj hf
    subst e1
    exact hret _ _ dX6_depends_23
  · replace hf := if_f c10 hf
    refine z_aload_n C 0 dX6_depends_11 rfl rfl ?_
    obtain ⟨b4, hb4, e_b4, hf⟩ := zbk_el hf
    refine z_getb C (b := b4) (Nat.le_of_ble_eq_true rfl) rfl rfl 4 (Nat.le_of_ble_eq_true rfl) rfl kiX6_depends_X6 kfX6_depends_35 (isb_lt hb4) e_b4 dX6_depends_12 ?_
    refine z_iload_n C 2 dX6_depends_15 rfl rfl ?_
    obtain ⟨r6, hc5, hf⟩ := zb_el hf
    refine z_cVi C (c_X0_hasShape _ _ hb4 hc5) rfl gX6_depends_X0_hasShape rfl rfl zdX0_hasShape rfl (isb_k0 hb4) (isb_L0 hb4) rfl rfl ⟨Nat.le_of_ble_eq_true rfl, Nat.le_of_ble_eq_true rfl⟩ (Nat.le_of_ble_eq_true rfl) dX6_depends_16 rfl ?_
    refine z_if_ne (tgt := 24) C dX6_depends_19 (by decide) (fun c9 => ?_) (fun c9 => ?_)
    · replace hf := if_f c9 hf
      refine z_aload_n C 0 dX6_depends_24 rfl rfl ?_
      obtain ⟨b7, hb7, e_b7, hf⟩ := zbk_el hf
      refine z_getb C (b := b7) (Nat.le_of_ble_eq_true rfl) rfl rfl 4 (Nat.le_of_ble_eq_true rfl) rfl kiX6_depends_X6 kfX6_depends_35 (isb_lt hb7) e_b7 dX6_depends_25 ?_
      refine z_getr C (t := b7 + 5) (isb_k0 hb7) (isb_L0 hb7) rfl 7 (Nat.le_of_ble_eq_true rfl) rfl kiX6_depends_X0 kfX6_depends_157 dX6_depends_28 ?_
      refine z_iload_n C 1 dX6_depends_31 rfl rfl ?_
      obtain ⟨hi8, hf⟩ := ck_el hf
      refine z_iald C (k := (b7 + 5)) (isb_k5 hb7) (isb_L5 hb7) hi8 dX6_depends_32 ?_
      refine z_iload_n C 2 dX6_depends_33 rfl rfl ?_
      refine z_ishr C dX6_depends_34 ?_
      refine z_iconst C (v := 1) dX6_depends_35 rfl ?_
      refine z_iand C dX6_depends_36 ?_
      have e1 := Option.some.inj hf
      subst e1
      exact hret _ _ dX6_depends_37
    · replace hf := if_t c9 hf
      refine z_iconst C (v := (-1)) dX6_depends_22 (by decide) ?_
      have e1 := Option.some.inj hf
      subst e1
      exact hret _ _ dX6_depends_23
set_option maxRecDepth 20000 in
theorem ggX6_edge_X1_canBeEdge : GoodIn wsX6_edge wsX1_canBeEdge := goodIn_sub (List.forall_mem_cons.mpr ⟨(List.mem_of_getElem? (i := 9) rfl), (List.forall_mem_append.mpr ⟨(List.forall_mem_cons.mpr ⟨(List.mem_of_getElem? (i := 10) rfl), (List.forall_mem_cons.mpr ⟨(List.mem_of_getElem? (i := 11) rfl), (List.forall_mem_cons.mpr ⟨(List.mem_of_getElem? (i := 12) rfl), (List.forall_mem_cons.mpr ⟨(List.mem_of_getElem? (i := 8) rfl), (List.forall_mem_cons.mpr ⟨(List.mem_of_getElem? (i := 13) rfl), (List.forall_mem_cons.mpr ⟨(List.mem_of_getElem? (i := 14) rfl), (fun _ h => absurd h List.not_mem_nil)⟩)⟩)⟩)⟩)⟩)⟩), (fun _ h => (List.mem_cons_of_mem _ (List.mem_append_left _ (List.mem_append_right _ h))))⟩)⟩) (by decide +kernel)
set_option maxRecDepth 20000 in
theorem gX6_edge_X1_canBeEdge : GoodIn wsX6_edge (wsV RX6 73 RX1 yX1_canBeEdge wsX1_canBeEdge) := goodIn_app (goodIn_sub (List.forall_mem_cons.mpr ⟨(List.mem_of_getElem? (i := 5) rfl), (List.forall_mem_cons.mpr ⟨(List.mem_of_getElem? (i := 6) rfl), (List.forall_mem_cons.mpr ⟨(List.mem_of_getElem? (i := 7) rfl), (List.forall_mem_cons.mpr ⟨(List.mem_of_getElem? (i := 8) rfl), (fun _ h => absurd h List.not_mem_nil)⟩)⟩)⟩)⟩) (by decide +kernel)) ggX6_edge_X1_canBeEdge
set_option maxRecDepth 20000 in
theorem ggX6_edge_X1_placeOf : GoodIn wsX6_edge wsX1_placeOf := goodIn_sub (List.forall_mem_cons.mpr ⟨(List.mem_of_getElem? (i := 18) rfl), (List.forall_mem_append.mpr ⟨(List.forall_mem_cons.mpr ⟨(List.mem_of_getElem? (i := 19) rfl), (List.forall_mem_cons.mpr ⟨(List.mem_of_getElem? (i := 20) rfl), (List.forall_mem_cons.mpr ⟨(List.mem_of_getElem? (i := 21) rfl), (fun _ h => absurd h List.not_mem_nil)⟩)⟩)⟩), (fun _ h => (List.mem_cons_of_mem _ (List.mem_append_left _ (List.mem_append_right _ h))))⟩)⟩) (by decide +kernel)
set_option maxRecDepth 20000 in
theorem gX6_edge_X1_placeOf : GoodIn wsX6_edge (wsV RX6 77 RX1 yX1_placeOf wsX1_placeOf) := goodIn_app (goodIn_sub (List.forall_mem_cons.mpr ⟨(List.mem_of_getElem? (i := 15) rfl), (List.forall_mem_cons.mpr ⟨(List.mem_of_getElem? (i := 16) rfl), (List.forall_mem_cons.mpr ⟨(List.mem_of_getElem? (i := 17) rfl), (List.forall_mem_cons.mpr ⟨(List.mem_of_getElem? (i := 8) rfl), (fun _ h => absurd h List.not_mem_nil)⟩)⟩)⟩)⟩) (by decide +kernel)) ggX6_edge_X1_placeOf
set_option maxRecDepth 20000 in
theorem ggX6_edge_X2_forget : GoodIn wsX6_edge wsX2_forget := goodIn_sub (List.forall_mem_cons.mpr ⟨(List.mem_of_getElem? (i := 26) rfl), (List.forall_mem_append.mpr ⟨(List.forall_mem_cons.mpr ⟨(List.mem_of_getElem? (i := 27) rfl), (List.forall_mem_cons.mpr ⟨(List.mem_of_getElem? (i := 28) rfl), (fun _ h => absurd h List.not_mem_nil)⟩)⟩), (fun _ h => (List.mem_cons_of_mem _ (List.mem_append_right _ h)))⟩)⟩) (by decide +kernel)
set_option maxRecDepth 20000 in
theorem gX6_edge_X2_forget : GoodIn wsX6_edge (wsV RX6 58 RX2 yX2_forget wsX2_forget) := goodIn_app (goodIn_sub (List.forall_mem_cons.mpr ⟨(List.mem_of_getElem? (i := 22) rfl), (List.forall_mem_cons.mpr ⟨(List.mem_of_getElem? (i := 23) rfl), (List.forall_mem_cons.mpr ⟨(List.mem_of_getElem? (i := 24) rfl), (List.forall_mem_cons.mpr ⟨(List.mem_of_getElem? (i := 25) rfl), (fun _ h => absurd h List.not_mem_nil)⟩)⟩)⟩)⟩) (by decide +kernel)) ggX6_edge_X2_forget
set_option maxRecDepth 20000 in
theorem ggX6_edge_X1_addEdge : GoodIn wsX6_edge wsX1_addEdge := goodIn_sub (List.forall_mem_cons.mpr ⟨(List.mem_of_getElem? (i := 32) rfl), (List.forall_mem_append.mpr ⟨(List.forall_mem_cons.mpr ⟨(List.mem_of_getElem? (i := 19) rfl), (List.forall_mem_cons.mpr ⟨(List.mem_of_getElem? (i := 20) rfl), (List.forall_mem_cons.mpr ⟨(List.mem_of_getElem? (i := 21) rfl), (List.forall_mem_cons.mpr ⟨(List.mem_of_getElem? (i := 33) rfl), (List.forall_mem_cons.mpr ⟨(List.mem_of_getElem? (i := 34) rfl), (List.forall_mem_cons.mpr ⟨(List.mem_of_getElem? (i := 35) rfl), (List.forall_mem_cons.mpr ⟨(List.mem_of_getElem? (i := 36) rfl), (List.forall_mem_cons.mpr ⟨(List.mem_of_getElem? (i := 8) rfl), (List.forall_mem_cons.mpr ⟨(List.mem_of_getElem? (i := 37) rfl), (fun _ h => absurd h List.not_mem_nil)⟩)⟩)⟩)⟩)⟩)⟩)⟩)⟩)⟩), (fun _ h => (List.mem_cons_of_mem _ (List.mem_append_left _ (List.mem_append_right _ h))))⟩)⟩) (by decide +kernel)
set_option maxRecDepth 20000 in
theorem gX6_edge_X1_addEdge : GoodIn wsX6_edge (wsV RX6 88 RX1 yX1_addEdge wsX1_addEdge) := goodIn_app (goodIn_sub (List.forall_mem_cons.mpr ⟨(List.mem_of_getElem? (i := 29) rfl), (List.forall_mem_cons.mpr ⟨(List.mem_of_getElem? (i := 30) rfl), (List.forall_mem_cons.mpr ⟨(List.mem_of_getElem? (i := 31) rfl), (List.forall_mem_cons.mpr ⟨(List.mem_of_getElem? (i := 8) rfl), (fun _ h => absurd h List.not_mem_nil)⟩)⟩)⟩)⟩) (by decide +kernel)) ggX6_edge_X1_addEdge
set_option maxRecDepth 100000 in
theorem daX6_edge : ∀ q ∈ ([(0, .aload_n 0, 1), (1, .getfield 10, 3), (4, .iload_n 1, 1), (5, .iload_n 2, 1), (6, .iload_n 3, 1), (7, .invokevirtual 73, 3), (10, .ifCond .ne 5, 3), (13, .iconst (-1), 1), (14, .ireturn, 1), (15, .aload_n 0, 1), (16, .getfield 10, 3), (19, .iload_n 1, 1), (20, .iload_n 2, 1), (21, .iload_n 3, 1), (22, .invokevirtual 77, 3), (25, .ifCond .lt 6, 3), (28, .bipush (-2), 2), (30, .ireturn, 1), (31, .aload_n 0, 1), (32, .getfield 10, 3), (35, .getfield 81, 3), (38, .bipush 40, 2), (40, .if_icmp .ge 16, 3), (43, .aload_n 0, 1), (44, .getfield 10, 3), (47, .getfield 84, 3), (50, .iload_n 1, 1), (51, .iaload, 1), (52, .iconst 5, 1), (53, .if_icmp .lt 6, 3), (56, .bipush (-3), 2), (58, .ireturn, 1), (59, .aload_n 0, 1), (60, .getfield 47, 3), (63, .invokevirtual 58, 3), (66, .aload_n 0, 1), (67, .getfield 10, 3), (70, .iload_n 1, 1), (71, .iload_n 2, 1), (72, .iload_n 3, 1), (73, .invokevirtual 88, 3), (76, .aload_n 0, 1), (77, .getfield 10, 3), (80, .getfield 81, 3), (83, .ireturn, 1)] : List (Nat × Instr × Nat)), decode cX6_edge q.1 = .ok q.2 := by decide +kernel
theorem dX6_edge_0 : decode cX6_edge 0 = .ok (.aload_n 0, 1) := daX6_edge (0, .aload_n 0, 1) (List.mem_of_getElem? (i := 0) rfl)
theorem dX6_edge_1 : decode cX6_edge 1 = .ok (.getfield 10, 3) := daX6_edge (1, .getfield 10, 3) (List.mem_of_getElem? (i := 1) rfl)
theorem dX6_edge_4 : decode cX6_edge 4 = .ok (.iload_n 1, 1) := daX6_edge (4, .iload_n 1, 1) (List.mem_of_getElem? (i := 2) rfl)
theorem dX6_edge_5 : decode cX6_edge 5 = .ok (.iload_n 2, 1) := daX6_edge (5, .iload_n 2, 1) (List.mem_of_getElem? (i := 3) rfl)
theorem dX6_edge_6 : decode cX6_edge 6 = .ok (.iload_n 3, 1) := daX6_edge (6, .iload_n 3, 1) (List.mem_of_getElem? (i := 4) rfl)
theorem dX6_edge_7 : decode cX6_edge 7 = .ok (.invokevirtual 73, 3) := daX6_edge (7, .invokevirtual 73, 3) (List.mem_of_getElem? (i := 5) rfl)
theorem dX6_edge_10 : decode cX6_edge 10 = .ok (.ifCond .ne 5, 3) := daX6_edge (10, .ifCond .ne 5, 3) (List.mem_of_getElem? (i := 6) rfl)
theorem dX6_edge_13 : decode cX6_edge 13 = .ok (.iconst (-1), 1) := daX6_edge (13, .iconst (-1), 1) (List.mem_of_getElem? (i := 7) rfl)
theorem dX6_edge_14 : decode cX6_edge 14 = .ok (.ireturn, 1) := daX6_edge (14, .ireturn, 1) (List.mem_of_getElem? (i := 8) rfl)
theorem dX6_edge_15 : decode cX6_edge 15 = .ok (.aload_n 0, 1) := daX6_edge (15, .aload_n 0, 1) (List.mem_of_getElem? (i := 9) rfl)
theorem dX6_edge_16 : decode cX6_edge 16 = .ok (.getfield 10, 3) := daX6_edge (16, .getfield 10, 3) (List.mem_of_getElem? (i := 10) rfl)
theorem dX6_edge_19 : decode cX6_edge 19 = .ok (.iload_n 1, 1) := daX6_edge (19, .iload_n 1, 1) (List.mem_of_getElem? (i := 11) rfl)
theorem dX6_edge_20 : decode cX6_edge 20 = .ok (.iload_n 2, 1) := daX6_edge (20, .iload_n 2, 1) (List.mem_of_getElem? (i := 12) rfl)
theorem dX6_edge_21 : decode cX6_edge 21 = .ok (.iload_n 3, 1) := daX6_edge (21, .iload_n 3, 1) (List.mem_of_getElem? (i := 13) rfl)
theorem dX6_edge_22 : decode cX6_edge 22 = .ok (.invokevirtual 77, 3) := daX6_edge (22, .invokevirtual 77, 3) (List.mem_of_getElem? (i := 14) rfl)
theorem dX6_edge_25 : decode cX6_edge 25 = .ok (.ifCond .lt 6, 3) := daX6_edge (25, .ifCond .lt 6, 3) (List.mem_of_getElem? (i := 15) rfl)
theorem dX6_edge_28 : decode cX6_edge 28 = .ok (.bipush (-2), 2) := daX6_edge (28, .bipush (-2), 2) (List.mem_of_getElem? (i := 16) rfl)
theorem dX6_edge_30 : decode cX6_edge 30 = .ok (.ireturn, 1) := daX6_edge (30, .ireturn, 1) (List.mem_of_getElem? (i := 17) rfl)
theorem dX6_edge_31 : decode cX6_edge 31 = .ok (.aload_n 0, 1) := daX6_edge (31, .aload_n 0, 1) (List.mem_of_getElem? (i := 18) rfl)
theorem dX6_edge_32 : decode cX6_edge 32 = .ok (.getfield 10, 3) := daX6_edge (32, .getfield 10, 3) (List.mem_of_getElem? (i := 19) rfl)
theorem dX6_edge_35 : decode cX6_edge 35 = .ok (.getfield 81, 3) := daX6_edge (35, .getfield 81, 3) (List.mem_of_getElem? (i := 20) rfl)
theorem dX6_edge_38 : decode cX6_edge 38 = .ok (.bipush 40, 2) := daX6_edge (38, .bipush 40, 2) (List.mem_of_getElem? (i := 21) rfl)
theorem dX6_edge_40 : decode cX6_edge 40 = .ok (.if_icmp .ge 16, 3) := daX6_edge (40, .if_icmp .ge 16, 3) (List.mem_of_getElem? (i := 22) rfl)
theorem dX6_edge_43 : decode cX6_edge 43 = .ok (.aload_n 0, 1) := daX6_edge (43, .aload_n 0, 1) (List.mem_of_getElem? (i := 23) rfl)
theorem dX6_edge_44 : decode cX6_edge 44 = .ok (.getfield 10, 3) := daX6_edge (44, .getfield 10, 3) (List.mem_of_getElem? (i := 24) rfl)
theorem dX6_edge_47 : decode cX6_edge 47 = .ok (.getfield 84, 3) := daX6_edge (47, .getfield 84, 3) (List.mem_of_getElem? (i := 25) rfl)
theorem dX6_edge_50 : decode cX6_edge 50 = .ok (.iload_n 1, 1) := daX6_edge (50, .iload_n 1, 1) (List.mem_of_getElem? (i := 26) rfl)
theorem dX6_edge_51 : decode cX6_edge 51 = .ok (.iaload, 1) := daX6_edge (51, .iaload, 1) (List.mem_of_getElem? (i := 27) rfl)
theorem dX6_edge_52 : decode cX6_edge 52 = .ok (.iconst 5, 1) := daX6_edge (52, .iconst 5, 1) (List.mem_of_getElem? (i := 28) rfl)
theorem dX6_edge_53 : decode cX6_edge 53 = .ok (.if_icmp .lt 6, 3) := daX6_edge (53, .if_icmp .lt 6, 3) (List.mem_of_getElem? (i := 29) rfl)
theorem dX6_edge_56 : decode cX6_edge 56 = .ok (.bipush (-3), 2) := daX6_edge (56, .bipush (-3), 2) (List.mem_of_getElem? (i := 30) rfl)
theorem dX6_edge_58 : decode cX6_edge 58 = .ok (.ireturn, 1) := daX6_edge (58, .ireturn, 1) (List.mem_of_getElem? (i := 31) rfl)
theorem dX6_edge_59 : decode cX6_edge 59 = .ok (.aload_n 0, 1) := daX6_edge (59, .aload_n 0, 1) (List.mem_of_getElem? (i := 32) rfl)
theorem dX6_edge_60 : decode cX6_edge 60 = .ok (.getfield 47, 3) := daX6_edge (60, .getfield 47, 3) (List.mem_of_getElem? (i := 33) rfl)
theorem dX6_edge_63 : decode cX6_edge 63 = .ok (.invokevirtual 58, 3) := daX6_edge (63, .invokevirtual 58, 3) (List.mem_of_getElem? (i := 34) rfl)
theorem dX6_edge_66 : decode cX6_edge 66 = .ok (.aload_n 0, 1) := daX6_edge (66, .aload_n 0, 1) (List.mem_of_getElem? (i := 35) rfl)
theorem dX6_edge_67 : decode cX6_edge 67 = .ok (.getfield 10, 3) := daX6_edge (67, .getfield 10, 3) (List.mem_of_getElem? (i := 36) rfl)
theorem dX6_edge_70 : decode cX6_edge 70 = .ok (.iload_n 1, 1) := daX6_edge (70, .iload_n 1, 1) (List.mem_of_getElem? (i := 37) rfl)
theorem dX6_edge_71 : decode cX6_edge 71 = .ok (.iload_n 2, 1) := daX6_edge (71, .iload_n 2, 1) (List.mem_of_getElem? (i := 38) rfl)
theorem dX6_edge_72 : decode cX6_edge 72 = .ok (.iload_n 3, 1) := daX6_edge (72, .iload_n 3, 1) (List.mem_of_getElem? (i := 39) rfl)
theorem dX6_edge_73 : decode cX6_edge 73 = .ok (.invokevirtual 88, 3) := daX6_edge (73, .invokevirtual 88, 3) (List.mem_of_getElem? (i := 40) rfl)
theorem dX6_edge_76 : decode cX6_edge 76 = .ok (.aload_n 0, 1) := daX6_edge (76, .aload_n 0, 1) (List.mem_of_getElem? (i := 41) rfl)
theorem dX6_edge_77 : decode cX6_edge 77 = .ok (.getfield 10, 3) := daX6_edge (77, .getfield 10, 3) (List.mem_of_getElem? (i := 42) rfl)
theorem dX6_edge_80 : decode cX6_edge 80 = .ok (.getfield 81, 3) := daX6_edge (80, .getfield 81, 3) (List.mem_of_getElem? (i := 43) rfl)
theorem dX6_edge_83 : decode cX6_edge 83 = .ok (.ireturn, 1) := daX6_edge (83, .ireturn, 1) (List.mem_of_getElem? (i := 44) rfl)
def rmX6_edge : Room := { frames := 2, cells := 0, slots := 0, locals := 48 }
theorem zdX6_edge : yX6_edge.cls = RX6 ∧ yX6_edge.cls ≠ "java/lang/invoke/MethodHandle" ∧ yX6_edge.cls ≠ "java/lang/invoke/VarHandle" ∧ (parseMethodDescriptor yX6_edge.desc).map (fun d => d.parameters.length) = some 3 := by decide +kernel
theorem kiX6_edge_X6 : ∀ w ∈ wsX60, w ∈ wsX6_edge := fun _ h => (List.mem_cons_of_mem _ (List.mem_append_left _ (List.mem_append_left _ (List.mem_append_right _ h))))
theorem kfX6_edge_10 : Cond.fieldLink RX6 10 "ShapeJudge" "graph" "LShapeJudge$Graph;" ∈ wsX6_edge := (List.mem_of_getElem? (i := 1) rfl)
theorem kiX6_edge_X1 : ∀ w ∈ wsX10, w ∈ wsX6_edge := fun _ h => (List.mem_cons_of_mem _ (List.mem_append_left _ (List.mem_append_right _ h)))
theorem kfX6_edge_81 : Cond.fieldLink RX6 81 "ShapeJudge$Graph" "edges" "I" ∈ wsX6_edge := (List.mem_of_getElem? (i := 2) rfl)
theorem kfX6_edge_84 : Cond.fieldLink RX6 84 "ShapeJudge$Graph" "degrees" "[I" ∈ wsX6_edge := (List.mem_of_getElem? (i := 3) rfl)
theorem kfX6_edge_47 : Cond.fieldLink RX6 47 "ShapeJudge" "judge" "LShapeJudge$Judge;" ∈ wsX6_edge := (List.mem_of_getElem? (i := 4) rfl)
def s_X6_edge (m : Mem) (a1 : Int32) (a2 : Int32) (a3 : Int32) : Option (Int32 × Mem) :=
  (s_X1_canBeEdge m a1 a2 a3).bind fun r2 => (if r2 = 0 then (some ((-1), m)) else ((s_X1_placeOf m a1 a2 a3).bind fun r4 => (if r4 < 0 then ((if 40 ≤ (m 1 1) then (some ((-3), m)) else (ck (zin a1 10 = true) ((if (m 4 (Int32.toNatClampNeg a1)) < 5 then ((s_X2_forget m).bind fun m7 => (s_X1_addEdge m7 a1 a2 a3).bind fun m9 => some ((m9 1 1), m9)) else (some ((-3), m))))))) else (some ((-2), m)))))
set_option maxRecDepth 100000 in
set_option maxHeartbeats 4000000 in
theorem c_X6_edge (l : Launch) (w : ZW) {m : Mem} {a1 : Int32} {a2 : Int32} {a3 : Int32} {r9 : Int32} {m9 : Mem}  (hf : s_X6_edge m a1 a2 a3 = some (r9, m9)) : zCi MX l w yX6_edge wsX6_edge rmX6_edge [.ref (w.2.1 0), .int a1, .int a2, .int a3] m m9 r9 := by
  refine z_met_i MX_ok (own := RX6) (by decide +kernel) rfl rfl (Nat.le_of_ble_eq_true rfl) ?_
  intro K C hKw hKl hret
  subst hKw
  subst hKl
  unfold s_X6_edge at hf
  show zGo MX K m [(0, .ref ((zw K).2.1 0)), (1, .int a1), (2, .int a2), (3, .int a3)] 0 []
  refine z_aload_n C 0 dX6_edge_0 rfl rfl ?_
  refine z_getr C (t := 1) (Nat.le_of_ble_eq_true rfl) rfl rfl 0 (Nat.le_of_ble_eq_true rfl) rfl kiX6_edge_X6 kfX6_edge_10 dX6_edge_1 ?_
  refine z_iload_n C 1 dX6_edge_4 rfl rfl ?_
  refine z_iload_n C 2 dX6_edge_5 rfl rfl ?_
  refine z_iload_n C 3 dX6_edge_6 rfl rfl ?_
  obtain ⟨r2, hc1, hf⟩ := zb_el hf
  refine z_cVi C (c_X1_canBeEdge _ _ hc1) rfl gX6_edge_X1_canBeEdge rfl rfl zdX1_canBeEdge rfl (Nat.le_of_ble_eq_true rfl) rfl rfl rfl ⟨Nat.le_of_ble_eq_true rfl, Nat.le_of_ble_eq_true rfl⟩ (Nat.le_of_ble_eq_true rfl) dX6_edge_7 rfl ?_
  refine z_if_ne (tgt := 15) C dX6_edge_10 (by decide) (fun c13 => ?_) (fun c13 => ?_)
  · replace hf := if_f c13 hf
    refine z_aload_n C 0 dX6_edge_15 rfl rfl ?_
    refine z_getr C (t := 1) (Nat.le_of_ble_eq_true rfl) rfl rfl 0 (Nat.le_of_ble_eq_true rfl) rfl kiX6_edge_X6 kfX6_edge_10 dX6_edge_16 ?_
    refine z_iload_n C 1 dX6_edge_19 rfl rfl ?_
    refine z_iload_n C 2 dX6_edge_20 rfl rfl ?_
    refine z_iload_n C 3 dX6_edge_21 rfl rfl ?_
    obtain ⟨r4, hc3, hf⟩ := zb_el hf
    refine z_cVi C (c_X1_placeOf _ _ hc3) rfl gX6_edge_X1_placeOf rfl rfl zdX1_placeOf rfl (Nat.le_of_ble_eq_true rfl) rfl rfl rfl ⟨Nat.le_of_ble_eq_true rfl, Nat.le_of_ble_eq_true rfl⟩ (Nat.le_of_ble_eq_true rfl) dX6_edge_22 rfl ?_
    refine z_if_lt (tgt := 31) C dX6_edge_25 (by decide) (fun c12 => ?_) (fun c12 => ?_)
    · replace hf := if_t c12 hf
      refine z_aload_n C 0 dX6_edge_31 rfl rfl ?_
      refine z_getr C (t := 1) (Nat.le_of_ble_eq_true rfl) rfl rfl 0 (Nat.le_of_ble_eq_true rfl) rfl kiX6_edge_X6 kfX6_edge_10 dX6_edge_32 ?_
      refine z_geti C (Nat.le_of_ble_eq_true rfl) rfl rfl 1 (Nat.le_of_ble_eq_true rfl) rfl kiX6_edge_X1 kfX6_edge_81 dX6_edge_35 ?_
      refine z_bipush C (v := 40) dX6_edge_38 rfl ?_
      refine z_icmp_ge (tgt := 56) C dX6_edge_40 (by decide) (fun c11 => ?_) (fun c11 => ?_)
      · replace hf := if_t c11 hf
        refine z_bipush C (v := (-3)) dX6_edge_56 (by decide) ?_
        obtain ⟨e1, e2⟩ := sp_el hf
        subst e1
        subst e2
        exact hret _ _ dX6_edge_58
      · replace hf := if_f c11 hf
        refine z_aload_n C 0 dX6_edge_43 rfl rfl ?_
        refine z_getr C (t := 1) (Nat.le_of_ble_eq_true rfl) rfl rfl 0 (Nat.le_of_ble_eq_true rfl) rfl kiX6_edge_X6 kfX6_edge_10 dX6_edge_44 ?_
        refine z_getr C (t := 4) (Nat.le_of_ble_eq_true rfl) rfl rfl 4 (Nat.le_of_ble_eq_true rfl) rfl kiX6_edge_X1 kfX6_edge_84 dX6_edge_47 ?_
        refine z_iload_n C 1 dX6_edge_50 rfl rfl ?_
        obtain ⟨hi5, hf⟩ := ck_el hf
        refine z_iald C (k := 4) (Nat.le_of_ble_eq_true rfl) rfl hi5 dX6_edge_51 ?_
        refine z_iconst C (v := 5) dX6_edge_52 rfl ?_
        refine z_icmp_lt (tgt := 59) C dX6_edge_53 (by decide) (fun c10 => ?_) (fun c10 => ?_)
        · replace hf := if_t c10 hf
          refine z_aload_n C 0 dX6_edge_59 rfl rfl ?_
          refine z_getr C (t := 39) (Nat.le_of_ble_eq_true rfl) rfl rfl 3 (Nat.le_of_ble_eq_true rfl) rfl kiX6_edge_X6 kfX6_edge_47 dX6_edge_60 ?_
          obtain ⟨m7, hc6, hf⟩ := zb_el hf
          refine z_cVv C (c_X2_forget _ _ hc6) rfl gX6_edge_X2_forget rfl rfl zdX2_forget rfl (Nat.le_of_ble_eq_true rfl) rfl rfl rfl ⟨Nat.le_of_ble_eq_true rfl, Nat.le_of_ble_eq_true rfl⟩ (Nat.le_of_ble_eq_true rfl) dX6_edge_63 rfl ?_
          refine z_aload_n C 0 dX6_edge_66 rfl rfl ?_
          refine z_getr C (t := 1) (Nat.le_of_ble_eq_true rfl) rfl rfl 0 (Nat.le_of_ble_eq_true rfl) rfl kiX6_edge_X6 kfX6_edge_10 dX6_edge_67 ?_
          refine z_iload_n C 1 dX6_edge_70 rfl rfl ?_
          refine z_iload_n C 2 dX6_edge_71 rfl rfl ?_
          refine z_iload_n C 3 dX6_edge_72 rfl rfl ?_
          obtain ⟨m9, hc8, hf⟩ := zb_el hf
          refine z_cVv C (c_X1_addEdge _ _ hc8) rfl gX6_edge_X1_addEdge rfl rfl zdX1_addEdge rfl (Nat.le_of_ble_eq_true rfl) rfl rfl rfl ⟨Nat.le_of_ble_eq_true rfl, Nat.le_of_ble_eq_true rfl⟩ (Nat.le_of_ble_eq_true rfl) dX6_edge_73 rfl ?_
          refine z_aload_n C 0 dX6_edge_76 rfl rfl ?_
          refine z_getr C (t := 1) (Nat.le_of_ble_eq_true rfl) rfl rfl 0 (Nat.le_of_ble_eq_true rfl) rfl kiX6_edge_X6 kfX6_edge_10 dX6_edge_77 ?_
          refine z_geti C (Nat.le_of_ble_eq_true rfl) rfl rfl 1 (Nat.le_of_ble_eq_true rfl) rfl kiX6_edge_X1 kfX6_edge_81 dX6_edge_80 ?_
          obtain ⟨e1, e2⟩ := sp_el hf
          subst e1
          subst e2
          exact hret _ _ dX6_edge_83
        · replace hf := if_f c10 hf
          refine z_bipush C (v := (-3)) dX6_edge_56 (by decide) ?_
          obtain ⟨e1, e2⟩ := sp_el hf
          subst e1
          subst e2
          exact hret _ _ dX6_edge_58
    · replace hf := if_f c12 hf
      refine z_bipush C (v := (-2)) dX6_edge_28 (by decide) ?_
      obtain ⟨e1, e2⟩ := sp_el hf
      subst e1
      subst e2
      exact hret _ _ dX6_edge_30
  · replace hf := if_t c13 hf
    refine z_iconst C (v := (-1)) dX6_edge_13 (by decide) ?_
    obtain ⟨e1, e2⟩ := sp_el hf
    subst e1
    subst e2
    exact hret _ _ dX6_edge_14
theorem dX6_end_0 : decode cX6_end 0 = .ok (.iload_n 1, 1) := by decide +kernel
theorem dX6_end_1 : decode cX6_end 1 = .ok (.ifCond .lt 14, 3) := by decide +kernel
theorem dX6_end_4 : decode cX6_end 4 = .ok (.iload_n 1, 1) := by decide +kernel
theorem dX6_end_5 : decode cX6_end 5 = .ok (.aload_n 0, 1) := by decide +kernel
theorem dX6_end_6 : decode cX6_end 6 = .ok (.getfield 19, 3) := by decide +kernel
theorem dX6_end_9 : decode cX6_end 9 = .ok (.getfield 96, 3) := by decide +kernel
theorem dX6_end_12 : decode cX6_end 12 = .ok (.if_icmp .le 5, 3) := by decide +kernel
theorem dX6_end_15 : decode cX6_end 15 = .ok (.iconst (-1), 1) := by decide +kernel
theorem dX6_end_16 : decode cX6_end 16 = .ok (.ireturn, 1) := by decide +kernel
theorem dX6_end_17 : decode cX6_end 17 = .ok (.aload_n 0, 1) := by decide +kernel
theorem dX6_end_18 : decode cX6_end 18 = .ok (.getfield 19, 3) := by decide +kernel
theorem dX6_end_21 : decode cX6_end 21 = .ok (.getfield 96, 3) := by decide +kernel
theorem dX6_end_24 : decode cX6_end 24 = .ok (.istore_n 2, 1) := by decide +kernel
theorem dX6_end_25 : decode cX6_end 25 = .ok (.aload_n 0, 1) := by decide +kernel
theorem dX6_end_26 : decode cX6_end 26 = .ok (.getfield 19, 3) := by decide +kernel
theorem dX6_end_29 : decode cX6_end 29 = .ok (.iload_n 1, 1) := by decide +kernel
theorem dX6_end_30 : decode cX6_end 30 = .ok (.putfield 96, 3) := by decide +kernel
theorem dX6_end_33 : decode cX6_end 33 = .ok (.iload_n 2, 1) := by decide +kernel
theorem dX6_end_34 : decode cX6_end 34 = .ok (.ireturn, 1) := by decide +kernel
def rmX6_end : Room := { frames := 0, cells := 0, slots := 0, locals := 0 }
theorem zdX6_end : yX6_end.cls = RX6 ∧ yX6_end.cls ≠ "java/lang/invoke/MethodHandle" ∧ yX6_end.cls ≠ "java/lang/invoke/VarHandle" ∧ (parseMethodDescriptor yX6_end.desc).map (fun d => d.parameters.length) = some 1 := by decide +kernel
theorem kiX6_end_X6 : ∀ w ∈ wsX60, w ∈ wsX6_end := fun _ h => (List.mem_cons_of_mem _ (List.mem_append_left _ (List.mem_append_right _ h)))
theorem kfX6_end_19 : Cond.fieldLink RX6 19 "ShapeJudge" "tape" "LShapeJudge$Tape;" ∈ wsX6_end := (List.mem_of_getElem? (i := 1) rfl)
theorem kiX6_end_X3 : ∀ w ∈ wsX30, w ∈ wsX6_end := fun _ h => (List.mem_cons_of_mem _ (List.mem_append_right _ h))
theorem kfX6_end_96 : Cond.fieldLink RX6 96 "ShapeJudge$Tape" "length" "I" ∈ wsX6_end := (List.mem_of_getElem? (i := 2) rfl)
def s_X6_end (m : Mem) (a1 : Int32) : Option (Int32 × Mem) :=
  (if a1 < 0 then (some ((-1), m)) else ((if a1 ≤ (m 7 1) then (bn (m 7 1) fun x1 => bn (sto m 7 1 a1) fun m2 => some (x1, m2)) else (some ((-1), m)))))
set_option maxRecDepth 100000 in
set_option maxHeartbeats 4000000 in
theorem c_X6_end (l : Launch) (w : ZW) {m : Mem} {a1 : Int32} {r9 : Int32} {m9 : Mem}  (hf : s_X6_end m a1 = some (r9, m9)) : zCi MX l w yX6_end wsX6_end rmX6_end [.ref (w.2.1 0), .int a1] m m9 r9 := by
  refine z_met_i MX_ok (own := RX6) (by decide +kernel) rfl rfl (Nat.le_of_ble_eq_true rfl) ?_
  intro K C hKw hKl hret
  subst hKw
  subst hKl
  unfold s_X6_end at hf
  show zGo MX K m [(0, .ref ((zw K).2.1 0)), (1, .int a1)] 0 []
  refine z_iload_n C 1 dX6_end_0 rfl rfl ?_
  refine z_if_lt (tgt := 15) C dX6_end_1 (by decide) (fun c4 => ?_) (fun c4 => ?_)
  · replace hf := if_t c4 hf
    refine z_iconst C (v := (-1)) dX6_end_15 (by decide) ?_
    obtain ⟨e1, e2⟩ := sp_el hf
    subst e1
    subst e2
    exact hret _ _ dX6_end_16
  · replace hf := if_f c4 hf
    refine z_iload_n C 1 dX6_end_4 rfl rfl ?_
    refine z_aload_n C 0 dX6_end_5 rfl rfl ?_
    refine z_getr C (t := 7) (Nat.le_of_ble_eq_true rfl) rfl rfl 1 (Nat.le_of_ble_eq_true rfl) rfl kiX6_end_X6 kfX6_end_19 dX6_end_6 ?_
    refine z_geti C (Nat.le_of_ble_eq_true rfl) rfl rfl 1 (Nat.le_of_ble_eq_true rfl) rfl kiX6_end_X3 kfX6_end_96 dX6_end_9 ?_
    refine z_icmp_le (tgt := 17) C dX6_end_12 (by decide) (fun c3 => ?_) (fun c3 => ?_)
    · replace hf := if_t c3 hf
      refine z_aload_n C 0 dX6_end_17 rfl rfl ?_
      refine z_getr C (t := 7) (Nat.le_of_ble_eq_true rfl) rfl rfl 1 (Nat.le_of_ble_eq_true rfl) rfl kiX6_end_X6 kfX6_end_19 dX6_end_18 ?_
      refine z_geti C (Nat.le_of_ble_eq_true rfl) rfl rfl 1 (Nat.le_of_ble_eq_true rfl) rfl kiX6_end_X3 kfX6_end_96 dX6_end_21 ?_
      refine z_topi (fun x1 e_x1 => ?_)
      replace hf := bn_to e_x1 hf
      refine z_istore_n C (lv2 := [(0, .ref ((zw K).2.1 0)), (1, .int a1), (2, .int x1)]) [1, 2, 0] dX6_end_24 rfl (Nat.le_of_ble_eq_true rfl) rfl ?_
      refine z_aload_n C 0 dX6_end_25 rfl rfl ?_
      refine z_getr C (t := 7) (Nat.le_of_ble_eq_true rfl) rfl rfl 1 (Nat.le_of_ble_eq_true rfl) rfl kiX6_end_X6 kfX6_end_19 dX6_end_26 ?_
      refine z_iload_n C 1 dX6_end_29 rfl rfl ?_
      refine z_puti C (Nat.le_of_ble_eq_true rfl) rfl rfl 1 (Nat.le_of_ble_eq_true rfl) rfl kiX6_end_X3 kfX6_end_96 tyX3 tyX3_ok nmX3 rfl rfl dX6_end_30 ?_
      refine z_nm (fun m2 e_m2 => ?_)
      replace hf := bn_to e_m2 hf
      refine z_iload_n C 2 dX6_end_33 rfl rfl ?_
      obtain ⟨e1, e2⟩ := sp_el hf
      subst e1
      subst e2
      exact hret _ _ dX6_end_34
    · replace hf := if_f c3 hf
      refine z_iconst C (v := (-1)) dX6_end_15 (by decide) ?_
      obtain ⟨e1, e2⟩ := sp_el hf
      subst e1
      subst e2
      exact hret _ _ dX6_end_16
theorem dX6_fault_0 : decode cX6_fault 0 = .ok (.aload_n 0, 1) := by decide +kernel
theorem dX6_fault_1 : decode cX6_fault 1 = .ok (.getfield 51, 3) := by decide +kernel
theorem dX6_fault_4 : decode cX6_fault 4 = .ok (.ireturn, 1) := by decide +kernel
def rmX6_fault : Room := { frames := 0, cells := 0, slots := 0, locals := 0 }
theorem zdX6_fault : yX6_fault.cls = RX6 ∧ yX6_fault.cls ≠ "java/lang/invoke/MethodHandle" ∧ yX6_fault.cls ≠ "java/lang/invoke/VarHandle" ∧ (parseMethodDescriptor yX6_fault.desc).map (fun d => d.parameters.length) = some 0 := by decide +kernel
theorem kiX6_fault_X6 : ∀ w ∈ wsX60, w ∈ wsX6_fault := fun _ h => (List.mem_cons_of_mem _ (List.mem_append_right _ h))
theorem kfX6_fault_51 : Cond.fieldLink RX6 51 "ShapeJudge" "latestFault" "I" ∈ wsX6_fault := (List.mem_of_getElem? (i := 1) rfl)
def s_X6_fault (m : Mem)  : Option (Int32) :=
  some (m 0 6)
set_option maxRecDepth 100000 in
set_option maxHeartbeats 4000000 in
theorem c_X6_fault (l : Launch) (w : ZW) {m : Mem}  {r9 : Int32}  (hf : s_X6_fault m  = some r9) : zCi MX l w yX6_fault wsX6_fault rmX6_fault [.ref (w.2.1 0)] m m r9 := by
  refine z_met_i MX_ok (own := RX6) (by decide +kernel) rfl rfl (Nat.le_of_ble_eq_true rfl) ?_
  intro K C hKw hKl hret
  subst hKw
  subst hKl
  unfold s_X6_fault at hf
  show zGo MX K m [(0, .ref ((zw K).2.1 0))] 0 []
  refine z_aload_n C 0 dX6_fault_0 rfl rfl ?_
  refine z_geti C (Nat.le_of_ble_eq_true rfl) rfl rfl 6 (Nat.le_of_ble_eq_true rfl) rfl kiX6_fault_X6 kfX6_fault_51 dX6_fault_1 ?_
  have e1 := Option.some.inj hf
  subst e1
  exact hret _ _ dX6_fault_4
set_option maxRecDepth 20000 in
theorem ggX6_feed_X3_append : GoodIn wsX6_feed wsX3_append := goodIn_sub (List.forall_mem_cons.mpr ⟨(List.mem_of_getElem? (i := 7) rfl), (List.forall_mem_append.mpr ⟨(List.forall_mem_cons.mpr ⟨(List.mem_of_getElem? (i := 8) rfl), (List.forall_mem_cons.mpr ⟨(List.mem_of_getElem? (i := 9) rfl), (fun _ h => absurd h List.not_mem_nil)⟩)⟩), (fun _ h => (List.mem_cons_of_mem _ (List.mem_append_right _ h)))⟩)⟩) (by decide +kernel)
set_option maxRecDepth 20000 in
theorem gX6_feed_X3_append : GoodIn wsX6_feed (wsV RX6 99 RX3 yX3_append wsX3_append) := goodIn_app (goodIn_sub (List.forall_mem_cons.mpr ⟨(List.mem_of_getElem? (i := 3) rfl), (List.forall_mem_cons.mpr ⟨(List.mem_of_getElem? (i := 4) rfl), (List.forall_mem_cons.mpr ⟨(List.mem_of_getElem? (i := 5) rfl), (List.forall_mem_cons.mpr ⟨(List.mem_of_getElem? (i := 6) rfl), (fun _ h => absurd h List.not_mem_nil)⟩)⟩)⟩)⟩) (by decide +kernel)) ggX6_feed_X3_append
theorem dX6_feed_0 : decode cX6_feed 0 = .ok (.aload_n 0, 1) := by decide +kernel
theorem dX6_feed_1 : decode cX6_feed 1 = .ok (.getfield 19, 3) := by decide +kernel
theorem dX6_feed_4 : decode cX6_feed 4 = .ok (.getfield 96, 3) := by decide +kernel
theorem dX6_feed_7 : decode cX6_feed 7 = .ok (.bipush 20, 2) := by decide +kernel
theorem dX6_feed_9 : decode cX6_feed 9 = .ok (.iadd, 1) := by decide +kernel
theorem dX6_feed_10 : decode cX6_feed 10 = .ok (.sipush 400, 3) := by decide +kernel
theorem dX6_feed_13 : decode cX6_feed 13 = .ok (.if_icmp .le 6, 3) := by decide +kernel
theorem dX6_feed_16 : decode cX6_feed 16 = .ok (.bipush (-3), 2) := by decide +kernel
theorem dX6_feed_18 : decode cX6_feed 18 = .ok (.ireturn, 1) := by decide +kernel
theorem dX6_feed_19 : decode cX6_feed 19 = .ok (.aload_n 0, 1) := by decide +kernel
theorem dX6_feed_20 : decode cX6_feed 20 = .ok (.getfield 19, 3) := by decide +kernel
theorem dX6_feed_23 : decode cX6_feed 23 = .ok (.iload_n 1, 1) := by decide +kernel
theorem dX6_feed_24 : decode cX6_feed 24 = .ok (.invokevirtual 99, 3) := by decide +kernel
theorem dX6_feed_27 : decode cX6_feed 27 = .ok (.aload_n 0, 1) := by decide +kernel
theorem dX6_feed_28 : decode cX6_feed 28 = .ok (.getfield 19, 3) := by decide +kernel
theorem dX6_feed_31 : decode cX6_feed 31 = .ok (.iload_n 2, 1) := by decide +kernel
theorem dX6_feed_32 : decode cX6_feed 32 = .ok (.invokevirtual 99, 3) := by decide +kernel
theorem dX6_feed_35 : decode cX6_feed 35 = .ok (.aload_n 0, 1) := by decide +kernel
theorem dX6_feed_36 : decode cX6_feed 36 = .ok (.getfield 19, 3) := by decide +kernel
theorem dX6_feed_39 : decode cX6_feed 39 = .ok (.iload_n 3, 1) := by decide +kernel
theorem dX6_feed_40 : decode cX6_feed 40 = .ok (.invokevirtual 99, 3) := by decide +kernel
theorem dX6_feed_43 : decode cX6_feed 43 = .ok (.aload_n 0, 1) := by decide +kernel
theorem dX6_feed_44 : decode cX6_feed 44 = .ok (.getfield 19, 3) := by decide +kernel
theorem dX6_feed_47 : decode cX6_feed 47 = .ok (.iload 4, 2) := by decide +kernel
theorem dX6_feed_49 : decode cX6_feed 49 = .ok (.invokevirtual 99, 3) := by decide +kernel
theorem dX6_feed_52 : decode cX6_feed 52 = .ok (.aload_n 0, 1) := by decide +kernel
theorem dX6_feed_53 : decode cX6_feed 53 = .ok (.getfield 19, 3) := by decide +kernel
theorem dX6_feed_56 : decode cX6_feed 56 = .ok (.iload 5, 2) := by decide +kernel
theorem dX6_feed_58 : decode cX6_feed 58 = .ok (.invokevirtual 99, 3) := by decide +kernel
theorem dX6_feed_61 : decode cX6_feed 61 = .ok (.aload_n 0, 1) := by decide +kernel
theorem dX6_feed_62 : decode cX6_feed 62 = .ok (.getfield 19, 3) := by decide +kernel
theorem dX6_feed_65 : decode cX6_feed 65 = .ok (.getfield 96, 3) := by decide +kernel
theorem dX6_feed_68 : decode cX6_feed 68 = .ok (.ireturn, 1) := by decide +kernel
def rmX6_feed : Room := { frames := 1, cells := 0, slots := 0, locals := 22 }
theorem zdX6_feed : yX6_feed.cls = RX6 ∧ yX6_feed.cls ≠ "java/lang/invoke/MethodHandle" ∧ yX6_feed.cls ≠ "java/lang/invoke/VarHandle" ∧ (parseMethodDescriptor yX6_feed.desc).map (fun d => d.parameters.length) = some 5 := by decide +kernel
theorem kiX6_feed_X6 : ∀ w ∈ wsX60, w ∈ wsX6_feed := fun _ h => (List.mem_cons_of_mem _ (List.mem_append_left _ (List.mem_append_right _ h)))
theorem kfX6_feed_19 : Cond.fieldLink RX6 19 "ShapeJudge" "tape" "LShapeJudge$Tape;" ∈ wsX6_feed := (List.mem_of_getElem? (i := 1) rfl)
theorem kiX6_feed_X3 : ∀ w ∈ wsX30, w ∈ wsX6_feed := fun _ h => (List.mem_cons_of_mem _ (List.mem_append_right _ h))
theorem kfX6_feed_96 : Cond.fieldLink RX6 96 "ShapeJudge$Tape" "length" "I" ∈ wsX6_feed := (List.mem_of_getElem? (i := 2) rfl)
def s_X6_feed (m : Mem) (a1 : Int32) (a2 : Int32) (a3 : Int32) (a4 : Int32) (a5 : Int32) : Option (Int32 × Mem) :=
  (if ((m 7 1) + 20) ≤ 400 then ((s_X3_append m a1).bind fun m2 => (s_X3_append m2 a2).bind fun m4 => (s_X3_append m4 a3).bind fun m6 => (s_X3_append m6 a4).bind fun m8 => (s_X3_append m8 a5).bind fun m10 => some ((m10 7 1), m10)) else (some ((-3), m)))
set_option maxRecDepth 100000 in
set_option maxHeartbeats 4000000 in
theorem c_X6_feed (l : Launch) (w : ZW) {m : Mem} {a1 : Int32} {a2 : Int32} {a3 : Int32} {a4 : Int32} {a5 : Int32} {r9 : Int32} {m9 : Mem}  (hf : s_X6_feed m a1 a2 a3 a4 a5 = some (r9, m9)) : zCi MX l w yX6_feed wsX6_feed rmX6_feed [.ref (w.2.1 0), .int a1, .int a2, .int a3, .int a4, .int a5] m m9 r9 := by
  refine z_met_i MX_ok (own := RX6) (by decide +kernel) rfl rfl (Nat.le_of_ble_eq_true rfl) ?_
  intro K C hKw hKl hret
  subst hKw
  subst hKl
  unfold s_X6_feed at hf
  show zGo MX K m [(0, .ref ((zw K).2.1 0)), (1, .int a1), (2, .int a2), (3, .int a3), (4, .int a4), (5, .int a5)] 0 []
  refine z_aload_n C 0 dX6_feed_0 rfl rfl ?_
  refine z_getr C (t := 7) (Nat.le_of_ble_eq_true rfl) rfl rfl 1 (Nat.le_of_ble_eq_true rfl) rfl kiX6_feed_X6 kfX6_feed_19 dX6_feed_1 ?_
  refine z_geti C (Nat.le_of_ble_eq_true rfl) rfl rfl 1 (Nat.le_of_ble_eq_true rfl) rfl kiX6_feed_X3 kfX6_feed_96 dX6_feed_4 ?_
  refine z_bipush C (v := 20) dX6_feed_7 rfl ?_
  refine z_iadd C dX6_feed_9 ?_
  refine z_sipush C (v := 400) dX6_feed_10 rfl ?_
  refine z_icmp_le (tgt := 19) C dX6_feed_13 (by decide) (fun c11 => ?_) (fun c11 => ?_)
  · replace hf := if_t c11 hf
    refine z_aload_n C 0 dX6_feed_19 rfl rfl ?_
    refine z_getr C (t := 7) (Nat.le_of_ble_eq_true rfl) rfl rfl 1 (Nat.le_of_ble_eq_true rfl) rfl kiX6_feed_X6 kfX6_feed_19 dX6_feed_20 ?_
    refine z_iload_n C 1 dX6_feed_23 rfl rfl ?_
    obtain ⟨m2, hc1, hf⟩ := zb_el hf
    refine z_cVv C (c_X3_append _ _ hc1) rfl gX6_feed_X3_append rfl rfl zdX3_append rfl (Nat.le_of_ble_eq_true rfl) rfl rfl rfl ⟨Nat.le_of_ble_eq_true rfl, Nat.le_of_ble_eq_true rfl⟩ (Nat.le_of_ble_eq_true rfl) dX6_feed_24 rfl ?_
    refine z_aload_n C 0 dX6_feed_27 rfl rfl ?_
    refine z_getr C (t := 7) (Nat.le_of_ble_eq_true rfl) rfl rfl 1 (Nat.le_of_ble_eq_true rfl) rfl kiX6_feed_X6 kfX6_feed_19 dX6_feed_28 ?_
    refine z_iload_n C 2 dX6_feed_31 rfl rfl ?_
    obtain ⟨m4, hc3, hf⟩ := zb_el hf
    refine z_cVv C (c_X3_append _ _ hc3) rfl gX6_feed_X3_append rfl rfl zdX3_append rfl (Nat.le_of_ble_eq_true rfl) rfl rfl rfl ⟨Nat.le_of_ble_eq_true rfl, Nat.le_of_ble_eq_true rfl⟩ (Nat.le_of_ble_eq_true rfl) dX6_feed_32 rfl ?_
    refine z_aload_n C 0 dX6_feed_35 rfl rfl ?_
    refine z_getr C (t := 7) (Nat.le_of_ble_eq_true rfl) rfl rfl 1 (Nat.le_of_ble_eq_true rfl) rfl kiX6_feed_X6 kfX6_feed_19 dX6_feed_36 ?_
    refine z_iload_n C 3 dX6_feed_39 rfl rfl ?_
    obtain ⟨m6, hc5, hf⟩ := zb_el hf
    refine z_cVv C (c_X3_append _ _ hc5) rfl gX6_feed_X3_append rfl rfl zdX3_append rfl (Nat.le_of_ble_eq_true rfl) rfl rfl rfl ⟨Nat.le_of_ble_eq_true rfl, Nat.le_of_ble_eq_true rfl⟩ (Nat.le_of_ble_eq_true rfl) dX6_feed_40 rfl ?_
    refine z_aload_n C 0 dX6_feed_43 rfl rfl ?_
    refine z_getr C (t := 7) (Nat.le_of_ble_eq_true rfl) rfl rfl 1 (Nat.le_of_ble_eq_true rfl) rfl kiX6_feed_X6 kfX6_feed_19 dX6_feed_44 ?_
    refine z_iload C 4 dX6_feed_47 rfl ?_
    obtain ⟨m8, hc7, hf⟩ := zb_el hf
    refine z_cVv C (c_X3_append _ _ hc7) rfl gX6_feed_X3_append rfl rfl zdX3_append rfl (Nat.le_of_ble_eq_true rfl) rfl rfl rfl ⟨Nat.le_of_ble_eq_true rfl, Nat.le_of_ble_eq_true rfl⟩ (Nat.le_of_ble_eq_true rfl) dX6_feed_49 rfl ?_
    refine z_aload_n C 0 dX6_feed_52 rfl rfl ?_
    refine z_getr C (t := 7) (Nat.le_of_ble_eq_true rfl) rfl rfl 1 (Nat.le_of_ble_eq_true rfl) rfl kiX6_feed_X6 kfX6_feed_19 dX6_feed_53 ?_
    refine z_iload C 5 dX6_feed_56 rfl ?_
    obtain ⟨m10, hc9, hf⟩ := zb_el hf
    refine z_cVv C (c_X3_append _ _ hc9) rfl gX6_feed_X3_append rfl rfl zdX3_append rfl (Nat.le_of_ble_eq_true rfl) rfl rfl rfl ⟨Nat.le_of_ble_eq_true rfl, Nat.le_of_ble_eq_true rfl⟩ (Nat.le_of_ble_eq_true rfl) dX6_feed_58 rfl ?_
    refine z_aload_n C 0 dX6_feed_61 rfl rfl ?_
    refine z_getr C (t := 7) (Nat.le_of_ble_eq_true rfl) rfl rfl 1 (Nat.le_of_ble_eq_true rfl) rfl kiX6_feed_X6 kfX6_feed_19 dX6_feed_62 ?_
    refine z_geti C (Nat.le_of_ble_eq_true rfl) rfl rfl 1 (Nat.le_of_ble_eq_true rfl) rfl kiX6_feed_X3 kfX6_feed_96 dX6_feed_65 ?_
    obtain ⟨e1, e2⟩ := sp_el hf
    subst e1
    subst e2
    exact hret _ _ dX6_feed_68
  · replace hf := if_f c11 hf
    refine z_bipush C (v := (-3)) dX6_feed_16 (by decide) ?_
    obtain ⟨e1, e2⟩ := sp_el hf
    subst e1
    subst e2
    exact hret _ _ dX6_feed_18
set_option maxRecDepth 20000 in
theorem ggX6_fits_X6_isPair : GoodIn wsX6_fits wsX6_isPair := goodIn_sub (List.forall_mem_cons.mpr ⟨(List.mem_of_getElem? (i := 7) rfl), (List.forall_mem_append.mpr ⟨(List.forall_mem_append.mpr ⟨(List.forall_mem_append.mpr ⟨(List.forall_mem_cons.mpr ⟨(List.mem_of_getElem? (i := 8) rfl), (List.forall_mem_cons.mpr ⟨(List.mem_of_getElem? (i := 9) rfl), (List.forall_mem_cons.mpr ⟨(List.mem_of_getElem? (i := 10) rfl), (List.forall_mem_cons.mpr ⟨(List.mem_of_getElem? (i := 11) rfl), (List.forall_mem_cons.mpr ⟨(List.mem_of_getElem? (i := 12) rfl), (List.forall_mem_cons.mpr ⟨(List.mem_of_getElem? (i := 13) rfl), (List.forall_mem_cons.mpr ⟨(List.mem_of_getElem? (i := 14) rfl), (List.forall_mem_cons.mpr ⟨(List.mem_of_getElem? (i := 15) rfl), (List.forall_mem_cons.mpr ⟨(List.mem_of_getElem? (i := 16) rfl), (List.forall_mem_cons.mpr ⟨(List.mem_of_getElem? (i := 17) rfl), (List.forall_mem_cons.mpr ⟨(List.mem_of_getElem? (i := 18) rfl), (List.forall_mem_cons.mpr ⟨(List.mem_of_getElem? (i := 19) rfl), (List.forall_mem_cons.mpr ⟨(List.mem_of_getElem? (i := 20) rfl), (List.forall_mem_cons.mpr ⟨(List.mem_of_getElem? (i := 21) rfl), (fun _ h => absurd h List.not_mem_nil)⟩)⟩)⟩)⟩)⟩)⟩)⟩)⟩)⟩)⟩)⟩)⟩)⟩)⟩), (fun _ h => (List.mem_cons_of_mem _ (List.mem_append_left _ (List.mem_append_left _ (List.mem_append_left _ (List.mem_append_right _ h))))))⟩), (fun _ h => (List.mem_cons_of_mem _ (List.mem_append_left _ (List.mem_append_right _ h))))⟩), (fun _ h => (List.mem_cons_of_mem _ (List.mem_append_right _ h)))⟩)⟩) (by decide +kernel)
set_option maxRecDepth 20000 in
theorem gX6_fits_X6_isPair : GoodIn wsX6_fits (wsV RX6 119 RX6 yX6_isPair wsX6_isPair) := goodIn_app (goodIn_sub (List.forall_mem_cons.mpr ⟨(List.mem_of_getElem? (i := 3) rfl), (List.forall_mem_cons.mpr ⟨(List.mem_of_getElem? (i := 4) rfl), (List.forall_mem_cons.mpr ⟨(List.mem_of_getElem? (i := 5) rfl), (List.forall_mem_cons.mpr ⟨(List.mem_of_getElem? (i := 6) rfl), (fun _ h => absurd h List.not_mem_nil)⟩)⟩)⟩)⟩) (by decide +kernel)) ggX6_fits_X6_isPair
set_option maxRecDepth 20000 in
theorem ggX6_fits_X2_readFits : GoodIn wsX6_fits wsX2_readFits := goodIn_sub (List.forall_mem_cons.mpr ⟨(List.mem_of_getElem? (i := 26) rfl), (List.forall_mem_append.mpr ⟨(List.forall_mem_append.mpr ⟨(List.forall_mem_append.mpr ⟨(List.forall_mem_append.mpr ⟨(show ∀ w ∈ wsX2_readFits_r1, w ∈ wsX6_fits from (List.forall_mem_cons.mpr ⟨(List.mem_of_getElem? (i := 27) rfl), (List.forall_mem_cons.mpr ⟨(List.mem_of_getElem? (i := 28) rfl), (List.forall_mem_cons.mpr ⟨(List.mem_of_getElem? (i := 29) rfl), (List.forall_mem_cons.mpr ⟨(List.mem_of_getElem? (i := 30) rfl), (List.forall_mem_cons.mpr ⟨(List.mem_of_getElem? (i := 31) rfl), (List.forall_mem_cons.mpr ⟨(List.mem_of_getElem? (i := 32) rfl), (List.forall_mem_cons.mpr ⟨(List.mem_of_getElem? (i := 17) rfl), (List.forall_mem_cons.mpr ⟨(List.mem_of_getElem? (i := 18) rfl), (List.forall_mem_cons.mpr ⟨(List.mem_of_getElem? (i := 19) rfl), (List.forall_mem_cons.mpr ⟨(List.mem_of_getElem? (i := 20) rfl), (List.forall_mem_cons.mpr ⟨(List.mem_of_getElem? (i := 21) rfl), (List.forall_mem_cons.mpr ⟨(List.mem_of_getElem? (i := 33) rfl), (List.forall_mem_cons.mpr ⟨(List.mem_of_getElem? (i := 34) rfl), (List.forall_mem_cons.mpr ⟨(List.mem_of_getElem? (i := 35) rfl), (List.forall_mem_cons.mpr ⟨(List.mem_of_getElem? (i := 25) rfl), (List.forall_mem_cons.mpr ⟨(List.mem_of_getElem? (i := 36) rfl), (List.forall_mem_cons.mpr ⟨(List.mem_of_getElem? (i := 37) rfl), (List.forall_mem_cons.mpr ⟨(List.mem_of_getElem? (i := 38) rfl), (List.forall_mem_cons.mpr ⟨(List.mem_of_getElem? (i := 39) rfl), (List.forall_mem_cons.mpr ⟨(List.mem_of_getElem? (i := 40) rfl), (List.forall_mem_cons.mpr ⟨(List.mem_of_getElem? (i := 41) rfl), (List.forall_mem_cons.mpr ⟨(List.mem_of_getElem? (i := 42) rfl), (List.forall_mem_cons.mpr ⟨(List.mem_of_getElem? (i := 43) rfl), (List.forall_mem_cons.mpr ⟨(List.mem_of_getElem? (i := 44) rfl), (fun _ h => absurd h List.not_mem_nil)⟩)⟩)⟩)⟩)⟩)⟩)⟩)⟩)⟩)⟩)⟩)⟩)⟩)⟩)⟩)⟩)⟩)⟩)⟩)⟩)⟩)⟩)⟩)⟩)), (List.forall_mem_append.mpr ⟨(show ∀ w ∈ wsX2_readFits_r2, w ∈ wsX6_fits from (List.forall_mem_cons.mpr ⟨(List.mem_of_getElem? (i := 45) rfl), (List.forall_mem_cons.mpr ⟨(List.mem_of_getElem? (i := 46) rfl), (List.forall_mem_cons.mpr ⟨(List.mem_of_getElem? (i := 47) rfl), (List.forall_mem_cons.mpr ⟨(List.mem_of_getElem? (i := 48) rfl), (List.forall_mem_cons.mpr ⟨(List.mem_of_getElem? (i := 49) rfl), (List.forall_mem_cons.mpr ⟨(List.mem_of_getElem? (i := 50) rfl), (List.forall_mem_cons.mpr ⟨(List.mem_of_getElem? (i := 51) rfl), (List.forall_mem_cons.mpr ⟨(List.mem_of_getElem? (i := 52) rfl), (List.forall_mem_cons.mpr ⟨(List.mem_of_getElem? (i := 53) rfl), (List.forall_mem_cons.mpr ⟨(List.mem_of_getElem? (i := 54) rfl), (List.forall_mem_cons.mpr ⟨(List.mem_of_getElem? (i := 55) rfl), (List.forall_mem_cons.mpr ⟨(List.mem_of_getElem? (i := 56) rfl), (List.forall_mem_cons.mpr ⟨(List.mem_of_getElem? (i := 57) rfl), (List.forall_mem_cons.mpr ⟨(List.mem_of_getElem? (i := 58) rfl), (List.forall_mem_cons.mpr ⟨(List.mem_of_getElem? (i := 59) rfl), (List.forall_mem_cons.mpr ⟨(List.mem_of_getElem? (i := 60) rfl), (List.forall_mem_cons.mpr ⟨(List.mem_of_getElem? (i := 61) rfl), (List.forall_mem_cons.mpr ⟨(List.mem_of_getElem? (i := 62) rfl), (List.forall_mem_cons.mpr ⟨(List.mem_of_getElem? (i := 63) rfl), (List.forall_mem_cons.mpr ⟨(List.mem_of_getElem? (i := 64) rfl), (List.forall_mem_cons.mpr ⟨(List.mem_of_getElem? (i := 65) rfl), (List.forall_mem_cons.mpr ⟨(List.mem_of_getElem? (i := 66) rfl), (List.forall_mem_cons.mpr ⟨(List.mem_of_getElem? (i := 67) rfl), (List.forall_mem_cons.mpr ⟨(List.mem_of_getElem? (i := 68) rfl), (fun _ h => absurd h List.not_mem_nil)⟩)⟩)⟩)⟩)⟩)⟩)⟩)⟩)⟩)⟩)⟩)⟩)⟩)⟩)⟩)⟩)⟩)⟩)⟩)⟩)⟩)⟩)⟩)⟩)), (show ∀ w ∈ wsX2_readFits_r3, w ∈ wsX6_fits from (List.forall_mem_cons.mpr ⟨(List.mem_of_getElem? (i := 69) rfl), (List.forall_mem_cons.mpr ⟨(List.mem_of_getElem? (i := 70) rfl), (List.forall_mem_cons.mpr ⟨(List.mem_of_getElem? (i := 71) rfl), (List.forall_mem_cons.mpr ⟨(List.mem_of_getElem? (i := 72) rfl), (List.forall_mem_cons.mpr ⟨(List.mem_of_getElem? (i := 73) rfl), (List.forall_mem_cons.mpr ⟨(List.mem_of_getElem? (i := 74) rfl), (List.forall_mem_cons.mpr ⟨(List.mem_of_getElem? (i := 75) rfl), (List.forall_mem_cons.mpr ⟨(List.mem_of_getElem? (i := 76) rfl), (List.forall_mem_cons.mpr ⟨(List.mem_of_getElem? (i := 77) rfl), (List.forall_mem_cons.mpr ⟨(List.mem_of_getElem? (i := 78) rfl), (List.forall_mem_cons.mpr ⟨(List.mem_of_getElem? (i := 79) rfl), (List.forall_mem_cons.mpr ⟨(List.mem_of_getElem? (i := 80) rfl), (List.forall_mem_cons.mpr ⟨(List.mem_of_getElem? (i := 81) rfl), (List.forall_mem_cons.mpr ⟨(List.mem_of_getElem? (i := 82) rfl), (List.forall_mem_cons.mpr ⟨(List.mem_of_getElem? (i := 83) rfl), (List.forall_mem_cons.mpr ⟨(List.mem_of_getElem? (i := 84) rfl), (List.forall_mem_cons.mpr ⟨(List.mem_of_getElem? (i := 85) rfl), (List.forall_mem_cons.mpr ⟨(List.mem_of_getElem? (i := 86) rfl), (List.forall_mem_cons.mpr ⟨(List.mem_of_getElem? (i := 87) rfl), (fun _ h => absurd h List.not_mem_nil)⟩)⟩)⟩)⟩)⟩)⟩)⟩)⟩)⟩)⟩)⟩)⟩)⟩)⟩)⟩)⟩)⟩)⟩)⟩))⟩)⟩), (fun _ h => (List.mem_cons_of_mem _ (List.mem_append_left _ (List.mem_append_left _ (List.mem_append_right _ h)))))⟩), (fun _ h => (List.mem_cons_of_mem _ (List.mem_append_left _ (List.mem_append_right _ h))))⟩), (fun _ h => (List.mem_cons_of_mem _ (List.mem_append_right _ h)))⟩)⟩) (by decide +kernel)
set_option maxRecDepth 20000 in
theorem gX6_fits_X2_readFits : GoodIn wsX6_fits (wsV RX6 123 RX2 yX2_readFits wsX2_readFits) := goodIn_app (goodIn_sub (List.forall_mem_cons.mpr ⟨(List.mem_of_getElem? (i := 22) rfl), (List.forall_mem_cons.mpr ⟨(List.mem_of_getElem? (i := 23) rfl), (List.forall_mem_cons.mpr ⟨(List.mem_of_getElem? (i := 24) rfl), (List.forall_mem_cons.mpr ⟨(List.mem_of_getElem? (i := 25) rfl), (fun _ h => absurd h List.not_mem_nil)⟩)⟩)⟩)⟩) (by decide +kernel)) ggX6_fits_X2_readFits
theorem dX6_fits_0 : decode cX6_fits 0 = .ok (.aload_n 0, 1) := by decide +kernel
theorem dX6_fits_1 : decode cX6_fits 1 = .ok (.iload_n 1, 1) := by decide +kernel
theorem dX6_fits_2 : decode cX6_fits 2 = .ok (.iload_n 2, 1) := by decide +kernel
theorem dX6_fits_3 : decode cX6_fits 3 = .ok (.invokevirtual 119, 3) := by decide +kernel
theorem dX6_fits_6 : decode cX6_fits 6 = .ok (.ifCond .ne 5, 3) := by decide +kernel
theorem dX6_fits_9 : decode cX6_fits 9 = .ok (.iconst (-1), 1) := by decide +kernel
theorem dX6_fits_10 : decode cX6_fits 10 = .ok (.ireturn, 1) := by decide +kernel
theorem dX6_fits_11 : decode cX6_fits 11 = .ok (.aload_n 0, 1) := by decide +kernel
theorem dX6_fits_12 : decode cX6_fits 12 = .ok (.getfield 47, 3) := by decide +kernel
theorem dX6_fits_15 : decode cX6_fits 15 = .ok (.invokevirtual 123, 3) := by decide +kernel
theorem dX6_fits_18 : decode cX6_fits 18 = .ok (.aload_n 0, 1) := by decide +kernel
theorem dX6_fits_19 : decode cX6_fits 19 = .ok (.getfield 47, 3) := by decide +kernel
theorem dX6_fits_22 : decode cX6_fits 22 = .ok (.getfield 126, 3) := by decide +kernel
theorem dX6_fits_25 : decode cX6_fits 25 = .ok (.iload_n 2, 1) := by decide +kernel
theorem dX6_fits_26 : decode cX6_fits 26 = .ok (.iaload, 1) := by decide +kernel
theorem dX6_fits_27 : decode cX6_fits 27 = .ok (.iload_n 1, 1) := by decide +kernel
theorem dX6_fits_28 : decode cX6_fits 28 = .ok (.ishr, 1) := by decide +kernel
theorem dX6_fits_29 : decode cX6_fits 29 = .ok (.iconst 1, 1) := by decide +kernel
theorem dX6_fits_30 : decode cX6_fits 30 = .ok (.iand, 1) := by decide +kernel
theorem dX6_fits_31 : decode cX6_fits 31 = .ok (.ireturn, 1) := by decide +kernel
def rmX6_fits : Room := { frames := 6, cells := 0, slots := 0, locals := 150 }
theorem zdX6_fits : yX6_fits.cls = RX6 ∧ yX6_fits.cls ≠ "java/lang/invoke/MethodHandle" ∧ yX6_fits.cls ≠ "java/lang/invoke/VarHandle" ∧ (parseMethodDescriptor yX6_fits.desc).map (fun d => d.parameters.length) = some 2 := by decide +kernel
theorem kiX6_fits_X6 : ∀ w ∈ wsX60, w ∈ wsX6_fits := fun _ h => (List.mem_cons_of_mem _ (List.mem_append_left _ (List.mem_append_left _ (List.mem_append_left _ (List.mem_append_right _ h)))))
theorem kfX6_fits_47 : Cond.fieldLink RX6 47 "ShapeJudge" "judge" "LShapeJudge$Judge;" ∈ wsX6_fits := (List.mem_of_getElem? (i := 1) rfl)
theorem kiX6_fits_X2 : ∀ w ∈ wsX20, w ∈ wsX6_fits := fun _ h => (List.mem_cons_of_mem _ (List.mem_append_left _ (List.mem_append_left _ (List.mem_append_right _ h))))
theorem kfX6_fits_126 : Cond.fieldLink RX6 126 "ShapeJudge$Judge" "fitting" "[I" ∈ wsX6_fits := (List.mem_of_getElem? (i := 2) rfl)
def s_X6_fits (m : Mem) (a1 : Int32) (a2 : Int32) : Option (Int32 × Mem) :=
  (s_X6_isPair m a1 a2).bind fun r2 => (if r2 = 0 then (some ((-1), m)) else ((s_X2_readFits m).bind fun m4 => ck (zin a2 6 = true) (some ((((m4 40 (Int32.toNatClampNeg a2)) >>> (a1 &&& 31)) &&& 1), m4))))
set_option maxRecDepth 100000 in
set_option maxHeartbeats 4000000 in
theorem c_X6_fits (l : Launch) (w : ZW) {m : Mem} {a1 : Int32} {a2 : Int32} {r9 : Int32} {m9 : Mem}  (hf : s_X6_fits m a1 a2 = some (r9, m9)) : zCi MX l w yX6_fits wsX6_fits rmX6_fits [.ref (w.2.1 0), .int a1, .int a2] m m9 r9 := by
  refine z_met_i MX_ok (own := RX6) (by decide +kernel) rfl rfl (Nat.le_of_ble_eq_true rfl) ?_
  intro K C hKw hKl hret
  subst hKw
  subst hKl
  unfold s_X6_fits at hf
  show zGo MX K m [(0, .ref ((zw K).2.1 0)), (1, .int a1), (2, .int a2)] 0 []
  refine z_aload_n C 0 dX6_fits_0 rfl rfl ?_
  refine z_iload_n C 1 dX6_fits_1 rfl rfl ?_
  refine z_iload_n C 2 dX6_fits_2 rfl rfl ?_
  obtain ⟨r2, hc1, hf⟩ := zb_el hf
  refine z_cVi C (c_X6_isPair _ _ hc1) rfl gX6_fits_X6_isPair rfl rfl zdX6_isPair rfl (Nat.le_of_ble_eq_true rfl) rfl rfl rfl ⟨Nat.le_of_ble_eq_true rfl, Nat.le_of_ble_eq_true rfl⟩ (Nat.le_of_ble_eq_true rfl) dX6_fits_3 rfl ?_
  refine z_if_ne (tgt := 11) C dX6_fits_6 (by decide) (fun c6 => ?_) (fun c6 => ?_)
  · replace hf := if_f c6 hf
    refine z_aload_n C 0 dX6_fits_11 rfl rfl ?_
    refine z_getr C (t := 39) (Nat.le_of_ble_eq_true rfl) rfl rfl 3 (Nat.le_of_ble_eq_true rfl) rfl kiX6_fits_X6 kfX6_fits_47 dX6_fits_12 ?_
    obtain ⟨m4, hc3, hf⟩ := zb_el hf
    refine z_cVv C (c_X2_readFits _ _ hc3) rfl gX6_fits_X2_readFits rfl rfl zdX2_readFits rfl (Nat.le_of_ble_eq_true rfl) rfl rfl rfl ⟨Nat.le_of_ble_eq_true rfl, Nat.le_of_ble_eq_true rfl⟩ (Nat.le_of_ble_eq_true rfl) dX6_fits_15 rfl ?_
    refine z_aload_n C 0 dX6_fits_18 rfl rfl ?_
    refine z_getr C (t := 39) (Nat.le_of_ble_eq_true rfl) rfl rfl 3 (Nat.le_of_ble_eq_true rfl) rfl kiX6_fits_X6 kfX6_fits_47 dX6_fits_19 ?_
    refine z_getr C (t := 40) (Nat.le_of_ble_eq_true rfl) rfl rfl 2 (Nat.le_of_ble_eq_true rfl) rfl kiX6_fits_X2 kfX6_fits_126 dX6_fits_22 ?_
    refine z_iload_n C 2 dX6_fits_25 rfl rfl ?_
    obtain ⟨hi5, hf⟩ := ck_el hf
    refine z_iald C (k := 40) (Nat.le_of_ble_eq_true rfl) rfl hi5 dX6_fits_26 ?_
    refine z_iload_n C 1 dX6_fits_27 rfl rfl ?_
    refine z_ishr C dX6_fits_28 ?_
    refine z_iconst C (v := 1) dX6_fits_29 rfl ?_
    refine z_iand C dX6_fits_30 ?_
    obtain ⟨e1, e2⟩ := sp_el hf
    subst e1
    subst e2
    exact hret _ _ dX6_fits_31
  · replace hf := if_t c6 hf
    refine z_iconst C (v := (-1)) dX6_fits_9 (by decide) ?_
    obtain ⟨e1, e2⟩ := sp_el hf
    subst e1
    subst e2
    exact hret _ _ dX6_fits_10
set_option maxRecDepth 20000 in
theorem ggX6_from_X1_hasNode : GoodIn wsX6_from wsX1_hasNode := goodIn_sub (List.forall_mem_cons.mpr ⟨(List.mem_of_getElem? (i := 8) rfl), (List.forall_mem_append.mpr ⟨(List.forall_mem_cons.mpr ⟨(List.mem_of_getElem? (i := 9) rfl), (fun _ h => absurd h List.not_mem_nil)⟩), (fun _ h => (List.mem_cons_of_mem _ (List.mem_append_right _ h)))⟩)⟩) (by decide +kernel)
set_option maxRecDepth 20000 in
theorem gX6_from_X1_hasNode : GoodIn wsX6_from (wsV RX6 65 RX1 yX1_hasNode wsX1_hasNode) := goodIn_app (goodIn_sub (List.forall_mem_cons.mpr ⟨(List.mem_of_getElem? (i := 4) rfl), (List.forall_mem_cons.mpr ⟨(List.mem_of_getElem? (i := 5) rfl), (List.forall_mem_cons.mpr ⟨(List.mem_of_getElem? (i := 6) rfl), (List.forall_mem_cons.mpr ⟨(List.mem_of_getElem? (i := 7) rfl), (fun _ h => absurd h List.not_mem_nil)⟩)⟩)⟩)⟩) (by decide +kernel)) ggX6_from_X1_hasNode
set_option maxRecDepth 20000 in
theorem ggX6_from_X1_hasEdge : GoodIn wsX6_from wsX1_hasEdge := goodIn_sub (List.forall_mem_cons.mpr ⟨(List.mem_of_getElem? (i := 13) rfl), (List.forall_mem_append.mpr ⟨(List.forall_mem_cons.mpr ⟨(List.mem_of_getElem? (i := 14) rfl), (fun _ h => absurd h List.not_mem_nil)⟩), (fun _ h => (List.mem_cons_of_mem _ (List.mem_append_right _ h)))⟩)⟩) (by decide +kernel)
set_option maxRecDepth 20000 in
theorem gX6_from_X1_hasEdge : GoodIn wsX6_from (wsV RX6 148 RX1 yX1_hasEdge wsX1_hasEdge) := goodIn_app (goodIn_sub (List.forall_mem_cons.mpr ⟨(List.mem_of_getElem? (i := 10) rfl), (List.forall_mem_cons.mpr ⟨(List.mem_of_getElem? (i := 11) rfl), (List.forall_mem_cons.mpr ⟨(List.mem_of_getElem? (i := 12) rfl), (List.forall_mem_cons.mpr ⟨(List.mem_of_getElem? (i := 7) rfl), (fun _ h => absurd h List.not_mem_nil)⟩)⟩)⟩)⟩) (by decide +kernel)) ggX6_from_X1_hasEdge
theorem dX6_from_0 : decode cX6_from 0 = .ok (.aload_n 0, 1) := by decide +kernel
theorem dX6_from_1 : decode cX6_from 1 = .ok (.getfield 10, 3) := by decide +kernel
theorem dX6_from_4 : decode cX6_from 4 = .ok (.iload_n 1, 1) := by decide +kernel
theorem dX6_from_5 : decode cX6_from 5 = .ok (.invokevirtual 65, 3) := by decide +kernel
theorem dX6_from_8 : decode cX6_from 8 = .ok (.ifCond .eq 15, 3) := by decide +kernel
theorem dX6_from_11 : decode cX6_from 11 = .ok (.aload_n 0, 1) := by decide +kernel
theorem dX6_from_12 : decode cX6_from 12 = .ok (.getfield 10, 3) := by decide +kernel
theorem dX6_from_15 : decode cX6_from 15 = .ok (.iload_n 1, 1) := by decide +kernel
theorem dX6_from_16 : decode cX6_from 16 = .ok (.iload_n 2, 1) := by decide +kernel
theorem dX6_from_17 : decode cX6_from 17 = .ok (.invokevirtual 148, 3) := by decide +kernel
theorem dX6_from_20 : decode cX6_from 20 = .ok (.ifCond .ne 5, 3) := by decide +kernel
theorem dX6_from_23 : decode cX6_from 23 = .ok (.iconst (-1), 1) := by decide +kernel
theorem dX6_from_24 : decode cX6_from 24 = .ok (.ireturn, 1) := by decide +kernel
theorem dX6_from_25 : decode cX6_from 25 = .ok (.iload_n 1, 1) := by decide +kernel
theorem dX6_from_26 : decode cX6_from 26 = .ok (.iconst 5, 1) := by decide +kernel
theorem dX6_from_27 : decode cX6_from 27 = .ok (.imul, 1) := by decide +kernel
theorem dX6_from_28 : decode cX6_from 28 = .ok (.iload_n 2, 1) := by decide +kernel
theorem dX6_from_29 : decode cX6_from 29 = .ok (.iadd, 1) := by decide +kernel
theorem dX6_from_30 : decode cX6_from 30 = .ok (.istore 4, 2) := by decide +kernel
theorem dX6_from_32 : decode cX6_from 32 = .ok (.iload_n 3, 1) := by decide +kernel
theorem dX6_from_33 : decode cX6_from 33 = .ok (.lookupswitch 49 #[(0, 27), (1, 38)], 27) := by decide +kernel
theorem dX6_from_60 : decode cX6_from 60 = .ok (.aload_n 0, 1) := by decide +kernel
theorem dX6_from_61 : decode cX6_from 61 = .ok (.getfield 10, 3) := by decide +kernel
theorem dX6_from_64 : decode cX6_from 64 = .ok (.getfield 185, 3) := by decide +kernel
theorem dX6_from_67 : decode cX6_from 67 = .ok (.iload 4, 2) := by decide +kernel
theorem dX6_from_69 : decode cX6_from 69 = .ok (.iaload, 1) := by decide +kernel
theorem dX6_from_70 : decode cX6_from 70 = .ok (.ireturn, 1) := by decide +kernel
theorem dX6_from_71 : decode cX6_from 71 = .ok (.aload_n 0, 1) := by decide +kernel
theorem dX6_from_72 : decode cX6_from 72 = .ok (.getfield 10, 3) := by decide +kernel
theorem dX6_from_75 : decode cX6_from 75 = .ok (.getfield 188, 3) := by decide +kernel
theorem dX6_from_78 : decode cX6_from 78 = .ok (.iload 4, 2) := by decide +kernel
theorem dX6_from_80 : decode cX6_from 80 = .ok (.iaload, 1) := by decide +kernel
theorem dX6_from_81 : decode cX6_from 81 = .ok (.ireturn, 1) := by decide +kernel
theorem dX6_from_82 : decode cX6_from 82 = .ok (.iconst (-1), 1) := by decide +kernel
theorem dX6_from_83 : decode cX6_from 83 = .ok (.ireturn, 1) := by decide +kernel
def rmX6_from : Room := { frames := 1, cells := 0, slots := 0, locals := 22 }
theorem zdX6_from : yX6_from.cls = RX6 ∧ yX6_from.cls ≠ "java/lang/invoke/MethodHandle" ∧ yX6_from.cls ≠ "java/lang/invoke/VarHandle" ∧ (parseMethodDescriptor yX6_from.desc).map (fun d => d.parameters.length) = some 3 := by decide +kernel
theorem kiX6_from_X6 : ∀ w ∈ wsX60, w ∈ wsX6_from := fun _ h => (List.mem_cons_of_mem _ (List.mem_append_left _ (List.mem_append_right _ h)))
theorem kfX6_from_10 : Cond.fieldLink RX6 10 "ShapeJudge" "graph" "LShapeJudge$Graph;" ∈ wsX6_from := (List.mem_of_getElem? (i := 1) rfl)
theorem kiX6_from_X1 : ∀ w ∈ wsX10, w ∈ wsX6_from := fun _ h => (List.mem_cons_of_mem _ (List.mem_append_right _ h))
theorem kfX6_from_185 : Cond.fieldLink RX6 185 "ShapeJudge$Graph" "edgeName" "[I" ∈ wsX6_from := (List.mem_of_getElem? (i := 2) rfl)
theorem kfX6_from_188 : Cond.fieldLink RX6 188 "ShapeJudge$Graph" "edgeTo" "[I" ∈ wsX6_from := (List.mem_of_getElem? (i := 3) rfl)
def s_X6_from (m : Mem) (a1 : Int32) (a2 : Int32) (a3 : Int32) : Option (Int32) :=
  (s_X1_hasNode m a1).bind fun r2 => (if r2 = 0 then (some (-1)) else ((s_X1_hasEdge m a1 a2).bind fun r4 => (if r4 = 0 then (some (-1)) else (bn ((a1 * 5) + a2) fun x5 => (if a3 = 0 then (ck (zin x5 50 = true) (some (m 5 (Int32.toNatClampNeg x5)))) else ((if a3 = 1 then (ck (zin x5 50 = true) (some (m 6 (Int32.toNatClampNeg x5)))) else (some (-1)))))))))
set_option maxRecDepth 100000 in
set_option maxHeartbeats 4000000 in
theorem c_X6_from (l : Launch) (w : ZW) {m : Mem} {a1 : Int32} {a2 : Int32} {a3 : Int32} {r9 : Int32}  (hf : s_X6_from m a1 a2 a3 = some r9) : zCi MX l w yX6_from wsX6_from rmX6_from [.ref (w.2.1 0), .int a1, .int a2, .int a3] m m r9 := by
  refine z_met_i MX_ok (own := RX6) (by decide +kernel) rfl rfl (Nat.le_of_ble_eq_true rfl) ?_
  intro K C hKw hKl hret
  subst hKw
  subst hKl
  unfold s_X6_from at hf
  show zGo MX K m [(0, .ref ((zw K).2.1 0)), (1, .int a1), (2, .int a2), (3, .int a3)] 0 []
  refine z_aload_n C 0 dX6_from_0 rfl rfl ?_
  refine z_getr C (t := 1) (Nat.le_of_ble_eq_true rfl) rfl rfl 0 (Nat.le_of_ble_eq_true rfl) rfl kiX6_from_X6 kfX6_from_10 dX6_from_1 ?_
  refine z_iload_n C 1 dX6_from_4 rfl rfl ?_
  obtain ⟨r2, hc1, hf⟩ := zb_el hf
  refine z_cVi C (c_X1_hasNode _ _ hc1) rfl gX6_from_X1_hasNode rfl rfl zdX1_hasNode rfl (Nat.le_of_ble_eq_true rfl) rfl rfl rfl ⟨Nat.le_of_ble_eq_true rfl, Nat.le_of_ble_eq_true rfl⟩ (Nat.le_of_ble_eq_true rfl) dX6_from_5 rfl ?_
  refine z_if_eq (tgt := 23) C dX6_from_8 (by decide) (fun c11 => ?_) (fun c11 => ?_)
  · replace hf := if_t c11 hf
    refine z_iconst C (v := (-1)) dX6_from_23 (by decide) ?_
    have e1 := Option.some.inj hf
    subst e1
    exact hret _ _ dX6_from_24
  · replace hf := if_f c11 hf
    refine z_aload_n C 0 dX6_from_11 rfl rfl ?_
    refine z_getr C (t := 1) (Nat.le_of_ble_eq_true rfl) rfl rfl 0 (Nat.le_of_ble_eq_true rfl) rfl kiX6_from_X6 kfX6_from_10 dX6_from_12 ?_
    refine z_iload_n C 1 dX6_from_15 rfl rfl ?_
    refine z_iload_n C 2 dX6_from_16 rfl rfl ?_
    obtain ⟨r4, hc3, hf⟩ := zb_el hf
    refine z_cVi C (c_X1_hasEdge _ _ hc3) rfl gX6_from_X1_hasEdge rfl rfl zdX1_hasEdge rfl (Nat.le_of_ble_eq_true rfl) rfl rfl rfl ⟨Nat.le_of_ble_eq_true rfl, Nat.le_of_ble_eq_true rfl⟩ (Nat.le_of_ble_eq_true rfl) dX6_from_17 rfl ?_
    refine z_if_ne (tgt := 25) C dX6_from_20 (by decide) (fun c10 => ?_) (fun c10 => ?_)
    · replace hf := if_f c10 hf
      refine z_iload_n C 1 dX6_from_25 rfl rfl ?_
      refine z_iconst C (v := 5) dX6_from_26 rfl ?_
      refine z_imul C dX6_from_27 ?_
      refine z_iload_n C 2 dX6_from_28 rfl rfl ?_
      refine z_iadd C dX6_from_29 ?_
      refine z_topi (fun x5 e_x5 => ?_)
      replace hf := bn_to e_x5 hf
      refine z_istore C (lv2 := [(0, .ref ((zw K).2.1 0)), (1, .int a1), (2, .int a2), (3, .int a3), (4, .int x5)]) [1, 2, 3, 4, 0] dX6_from_30 (Nat.le_of_ble_eq_true rfl) rfl ?_
      refine z_iload_n C 3 dX6_from_32 rfl rfl ?_
      refine zby (c := a3 = 0) (fun c6 => ?_) (fun c6 => ?_)
      · replace hf := if_t c6 hf
        refine z_lkv (v := 0) (tgt := 60) (off := 27) C c6 dX6_from_33 (by decide) (by decide) (by decide) ?_
        refine z_aload_n C 0 dX6_from_60 rfl rfl ?_
        refine z_getr C (t := 1) (Nat.le_of_ble_eq_true rfl) rfl rfl 0 (Nat.le_of_ble_eq_true rfl) rfl kiX6_from_X6 kfX6_from_10 dX6_from_61 ?_
        refine z_getr C (t := 5) (Nat.le_of_ble_eq_true rfl) rfl rfl 5 (Nat.le_of_ble_eq_true rfl) rfl kiX6_from_X1 kfX6_from_185 dX6_from_64 ?_
        refine z_iload C 4 dX6_from_67 rfl ?_
        obtain ⟨hi7, hf⟩ := ck_el hf
        refine z_iald C (k := 5) (Nat.le_of_ble_eq_true rfl) rfl hi7 dX6_from_69 ?_
        have e1 := Option.some.inj hf
        subst e1
        exact hret _ _ dX6_from_70
      · replace hf := if_f c6 hf
        refine zby (c := a3 = 1) (fun c8 => ?_) (fun c8 => ?_)
        · replace hf := if_t c8 hf
          refine z_lkv (v := 1) (tgt := 71) (off := 38) C c8 dX6_from_33 (by decide) (by decide) (by decide) ?_
          refine z_aload_n C 0 dX6_from_71 rfl rfl ?_
          refine z_getr C (t := 1) (Nat.le_of_ble_eq_true rfl) rfl rfl 0 (Nat.le_of_ble_eq_true rfl) rfl kiX6_from_X6 kfX6_from_10 dX6_from_72 ?_
          refine z_getr C (t := 6) (Nat.le_of_ble_eq_true rfl) rfl rfl 6 (Nat.le_of_ble_eq_true rfl) rfl kiX6_from_X1 kfX6_from_188 dX6_from_75 ?_
          refine z_iload C 4 dX6_from_78 rfl ?_
          obtain ⟨hi9, hf⟩ := ck_el hf
          refine z_iald C (k := 6) (Nat.le_of_ble_eq_true rfl) rfl hi9 dX6_from_80 ?_
          have e1 := Option.some.inj hf
          subst e1
          exact hret _ _ dX6_from_81
        · replace hf := if_f c8 hf
          refine z_lk (tgt := 82) (off := 49) C dX6_from_33 (by decide) (zlk_out (by simp only [List.forall_mem_cons]; exact ⟨zne_k (v := 0) (by decide) c6, zne_k (v := 1) (by decide) c8, fun _ h => by cases h⟩)) (by decide) ?_
          refine z_iconst C (v := (-1)) dX6_from_82 (by decide) ?_
          have e1 := Option.some.inj hf
          subst e1
          exact hret _ _ dX6_from_83
    · replace hf := if_t c10 hf
      refine z_iconst C (v := (-1)) dX6_from_23 (by decide) ?_
      have e1 := Option.some.inj hf
      subst e1
      exact hret _ _ dX6_from_24
set_option maxRecDepth 20000 in
theorem ggX6_node_X2_forget : GoodIn wsX6_node wsX2_forget := goodIn_sub (List.forall_mem_cons.mpr ⟨(List.mem_of_getElem? (i := 8) rfl), (List.forall_mem_append.mpr ⟨(List.forall_mem_cons.mpr ⟨(List.mem_of_getElem? (i := 9) rfl), (List.forall_mem_cons.mpr ⟨(List.mem_of_getElem? (i := 10) rfl), (fun _ h => absurd h List.not_mem_nil)⟩)⟩), (fun _ h => (List.mem_cons_of_mem _ (List.mem_append_right _ h)))⟩)⟩) (by decide +kernel)
set_option maxRecDepth 20000 in
theorem gX6_node_X2_forget : GoodIn wsX6_node (wsV RX6 58 RX2 yX2_forget wsX2_forget) := goodIn_app (goodIn_sub (List.forall_mem_cons.mpr ⟨(List.mem_of_getElem? (i := 4) rfl), (List.forall_mem_cons.mpr ⟨(List.mem_of_getElem? (i := 5) rfl), (List.forall_mem_cons.mpr ⟨(List.mem_of_getElem? (i := 6) rfl), (List.forall_mem_cons.mpr ⟨(List.mem_of_getElem? (i := 7) rfl), (fun _ h => absurd h List.not_mem_nil)⟩)⟩)⟩)⟩) (by decide +kernel)) ggX6_node_X2_forget
set_option maxRecDepth 20000 in
theorem ggX6_node_X1_addNode : GoodIn wsX6_node wsX1_addNode := goodIn_sub (List.forall_mem_cons.mpr ⟨(List.mem_of_getElem? (i := 15) rfl), (List.forall_mem_append.mpr ⟨(List.forall_mem_cons.mpr ⟨(List.mem_of_getElem? (i := 16) rfl), (List.forall_mem_cons.mpr ⟨(List.mem_of_getElem? (i := 17) rfl), (List.forall_mem_cons.mpr ⟨(List.mem_of_getElem? (i := 18) rfl), (List.forall_mem_cons.mpr ⟨(List.mem_of_getElem? (i := 19) rfl), (List.forall_mem_cons.mpr ⟨(List.mem_of_getElem? (i := 20) rfl), (List.forall_mem_cons.mpr ⟨(List.mem_of_getElem? (i := 14) rfl), (List.forall_mem_cons.mpr ⟨(List.mem_of_getElem? (i := 21) rfl), (List.forall_mem_cons.mpr ⟨(List.mem_of_getElem? (i := 22) rfl), (List.forall_mem_cons.mpr ⟨(List.mem_of_getElem? (i := 23) rfl), (fun _ h => absurd h List.not_mem_nil)⟩)⟩)⟩)⟩)⟩)⟩)⟩)⟩)⟩), (fun _ h => (List.mem_cons_of_mem _ (List.mem_append_left _ (List.mem_append_right _ h))))⟩)⟩) (by decide +kernel)
set_option maxRecDepth 20000 in
theorem gX6_node_X1_addNode : GoodIn wsX6_node (wsV RX6 61 RX1 yX1_addNode wsX1_addNode) := goodIn_app (goodIn_sub (List.forall_mem_cons.mpr ⟨(List.mem_of_getElem? (i := 11) rfl), (List.forall_mem_cons.mpr ⟨(List.mem_of_getElem? (i := 12) rfl), (List.forall_mem_cons.mpr ⟨(List.mem_of_getElem? (i := 13) rfl), (List.forall_mem_cons.mpr ⟨(List.mem_of_getElem? (i := 14) rfl), (fun _ h => absurd h List.not_mem_nil)⟩)⟩)⟩)⟩) (by decide +kernel)) ggX6_node_X1_addNode
theorem dX6_node_0 : decode cX6_node 0 = .ok (.aload_n 0, 1) := by decide +kernel
theorem dX6_node_1 : decode cX6_node 1 = .ok (.getfield 10, 3) := by decide +kernel
theorem dX6_node_4 : decode cX6_node 4 = .ok (.getfield 55, 3) := by decide +kernel
theorem dX6_node_7 : decode cX6_node 7 = .ok (.bipush 10, 2) := by decide +kernel
theorem dX6_node_9 : decode cX6_node 9 = .ok (.if_icmp .lt 6, 3) := by decide +kernel
theorem dX6_node_12 : decode cX6_node 12 = .ok (.bipush (-3), 2) := by decide +kernel
theorem dX6_node_14 : decode cX6_node 14 = .ok (.ireturn, 1) := by decide +kernel
theorem dX6_node_15 : decode cX6_node 15 = .ok (.aload_n 0, 1) := by decide +kernel
theorem dX6_node_16 : decode cX6_node 16 = .ok (.getfield 47, 3) := by decide +kernel
theorem dX6_node_19 : decode cX6_node 19 = .ok (.invokevirtual 58, 3) := by decide +kernel
theorem dX6_node_22 : decode cX6_node 22 = .ok (.aload_n 0, 1) := by decide +kernel
theorem dX6_node_23 : decode cX6_node 23 = .ok (.getfield 10, 3) := by decide +kernel
theorem dX6_node_26 : decode cX6_node 26 = .ok (.iload_n 1, 1) := by decide +kernel
theorem dX6_node_27 : decode cX6_node 27 = .ok (.iload_n 2, 1) := by decide +kernel
theorem dX6_node_28 : decode cX6_node 28 = .ok (.invokevirtual 61, 3) := by decide +kernel
theorem dX6_node_31 : decode cX6_node 31 = .ok (.ireturn, 1) := by decide +kernel
def rmX6_node : Room := { frames := 2, cells := 0, slots := 0, locals := 46 }
theorem zdX6_node : yX6_node.cls = RX6 ∧ yX6_node.cls ≠ "java/lang/invoke/MethodHandle" ∧ yX6_node.cls ≠ "java/lang/invoke/VarHandle" ∧ (parseMethodDescriptor yX6_node.desc).map (fun d => d.parameters.length) = some 2 := by decide +kernel
theorem kiX6_node_X6 : ∀ w ∈ wsX60, w ∈ wsX6_node := fun _ h => (List.mem_cons_of_mem _ (List.mem_append_left _ (List.mem_append_left _ (List.mem_append_right _ h))))
theorem kfX6_node_10 : Cond.fieldLink RX6 10 "ShapeJudge" "graph" "LShapeJudge$Graph;" ∈ wsX6_node := (List.mem_of_getElem? (i := 1) rfl)
theorem kiX6_node_X1 : ∀ w ∈ wsX10, w ∈ wsX6_node := fun _ h => (List.mem_cons_of_mem _ (List.mem_append_left _ (List.mem_append_right _ h)))
theorem kfX6_node_55 : Cond.fieldLink RX6 55 "ShapeJudge$Graph" "nodes" "I" ∈ wsX6_node := (List.mem_of_getElem? (i := 2) rfl)
theorem kfX6_node_47 : Cond.fieldLink RX6 47 "ShapeJudge" "judge" "LShapeJudge$Judge;" ∈ wsX6_node := (List.mem_of_getElem? (i := 3) rfl)
def s_X6_node (m : Mem) (a1 : Int32) (a2 : Int32) : Option (Int32 × Mem) :=
  (if (m 1 0) < 10 then ((s_X2_forget m).bind fun m2 => zb2 (s_X1_addNode m2 a1 a2) fun r4 m5 => some (r4, m5)) else (some ((-3), m)))
set_option maxRecDepth 100000 in
set_option maxHeartbeats 4000000 in
theorem c_X6_node (l : Launch) (w : ZW) {m : Mem} {a1 : Int32} {a2 : Int32} {r9 : Int32} {m9 : Mem}  (hf : s_X6_node m a1 a2 = some (r9, m9)) : zCi MX l w yX6_node wsX6_node rmX6_node [.ref (w.2.1 0), .int a1, .int a2] m m9 r9 := by
  refine z_met_i MX_ok (own := RX6) (by decide +kernel) rfl rfl (Nat.le_of_ble_eq_true rfl) ?_
  intro K C hKw hKl hret
  subst hKw
  subst hKl
  unfold s_X6_node at hf
  show zGo MX K m [(0, .ref ((zw K).2.1 0)), (1, .int a1), (2, .int a2)] 0 []
  refine z_aload_n C 0 dX6_node_0 rfl rfl ?_
  refine z_getr C (t := 1) (Nat.le_of_ble_eq_true rfl) rfl rfl 0 (Nat.le_of_ble_eq_true rfl) rfl kiX6_node_X6 kfX6_node_10 dX6_node_1 ?_
  refine z_geti C (Nat.le_of_ble_eq_true rfl) rfl rfl 0 (Nat.le_of_ble_eq_true rfl) rfl kiX6_node_X1 kfX6_node_55 dX6_node_4 ?_
  refine z_bipush C (v := 10) dX6_node_7 rfl ?_
  refine z_icmp_lt (tgt := 15) C dX6_node_9 (by decide) (fun c6 => ?_) (fun c6 => ?_)
  · replace hf := if_t c6 hf
    refine z_aload_n C 0 dX6_node_15 rfl rfl ?_
    refine z_getr C (t := 39) (Nat.le_of_ble_eq_true rfl) rfl rfl 3 (Nat.le_of_ble_eq_true rfl) rfl kiX6_node_X6 kfX6_node_47 dX6_node_16 ?_
    obtain ⟨m2, hc1, hf⟩ := zb_el hf
    refine z_cVv C (c_X2_forget _ _ hc1) rfl gX6_node_X2_forget rfl rfl zdX2_forget rfl (Nat.le_of_ble_eq_true rfl) rfl rfl rfl ⟨Nat.le_of_ble_eq_true rfl, Nat.le_of_ble_eq_true rfl⟩ (Nat.le_of_ble_eq_true rfl) dX6_node_19 rfl ?_
    refine z_aload_n C 0 dX6_node_22 rfl rfl ?_
    refine z_getr C (t := 1) (Nat.le_of_ble_eq_true rfl) rfl rfl 0 (Nat.le_of_ble_eq_true rfl) rfl kiX6_node_X6 kfX6_node_10 dX6_node_23 ?_
    refine z_iload_n C 1 dX6_node_26 rfl rfl ?_
    refine z_iload_n C 2 dX6_node_27 rfl rfl ?_
    obtain ⟨r4, m5, hc3, hf⟩ := zb2_el hf
    refine z_cVi C (c_X1_addNode _ _ hc3) rfl gX6_node_X1_addNode rfl rfl zdX1_addNode rfl (Nat.le_of_ble_eq_true rfl) rfl rfl rfl ⟨Nat.le_of_ble_eq_true rfl, Nat.le_of_ble_eq_true rfl⟩ (Nat.le_of_ble_eq_true rfl) dX6_node_28 rfl ?_
    obtain ⟨e1, e2⟩ := sp_el hf
    subst e1
    subst e2
    exact hret _ _ dX6_node_31
  · replace hf := if_f c6 hf
    refine z_bipush C (v := (-3)) dX6_node_12 (by decide) ?_
    obtain ⟨e1, e2⟩ := sp_el hf
    subst e1
    subst e2
    exact hret _ _ dX6_node_14
set_option maxRecDepth 20000 in
theorem ggX6_part_X0_hasPart : GoodIn wsX6_part wsX0_hasPart := goodIn_sub (List.forall_mem_cons.mpr ⟨(List.mem_of_getElem? (i := 10) rfl), (List.forall_mem_append.mpr ⟨(List.forall_mem_cons.mpr ⟨(List.mem_of_getElem? (i := 11) rfl), (List.forall_mem_cons.mpr ⟨(List.mem_of_getElem? (i := 12) rfl), (List.forall_mem_cons.mpr ⟨(List.mem_of_getElem? (i := 13) rfl), (List.forall_mem_cons.mpr ⟨(List.mem_of_getElem? (i := 14) rfl), (List.forall_mem_cons.mpr ⟨(List.mem_of_getElem? (i := 9) rfl), (List.forall_mem_cons.mpr ⟨(List.mem_of_getElem? (i := 15) rfl), (List.forall_mem_cons.mpr ⟨(List.mem_of_getElem? (i := 16) rfl), (fun _ h => absurd h List.not_mem_nil)⟩)⟩)⟩)⟩)⟩)⟩)⟩), (fun _ h => (List.mem_cons_of_mem _ (List.mem_append_right _ h)))⟩)⟩) (by decide +kernel)
set_option maxRecDepth 20000 in
theorem gX6_part_X0_hasPart : GoodIn wsX6_part (wsV RX6 160 RX0 yX0_hasPart wsX0_hasPart) := goodIn_app (goodIn_sub (List.forall_mem_cons.mpr ⟨(List.mem_of_getElem? (i := 6) rfl), (List.forall_mem_cons.mpr ⟨(List.mem_of_getElem? (i := 7) rfl), (List.forall_mem_cons.mpr ⟨(List.mem_of_getElem? (i := 8) rfl), (List.forall_mem_cons.mpr ⟨(List.mem_of_getElem? (i := 9) rfl), (fun _ h => absurd h List.not_mem_nil)⟩)⟩)⟩)⟩) (by decide +kernel)) ggX6_part_X0_hasPart
set_option maxRecDepth 100000 in
theorem daX6_part : ∀ q ∈ ([(0, .aload_n 0, 1), (1, .getfield 35, 3), (4, .iload_n 1, 1), (5, .iload_n 2, 1), (6, .invokevirtual 160, 3), (9, .ifCond .ne 5, 3), (12, .iconst (-1), 1), (13, .ireturn, 1), (14, .iload_n 1, 1), (15, .bipush 6, 2), (17, .imul, 1), (18, .iload_n 2, 1), (19, .iadd, 1), (20, .istore 4, 2), (22, .iload_n 3, 1), (23, .tableswitch 73 0 3 #[29, 40, 51, 62], 29), (52, .aload_n 0, 1), (53, .getfield 35, 3), (56, .getfield 163, 3), (59, .iload 4, 2), (61, .iaload, 1), (62, .ireturn, 1), (63, .aload_n 0, 1), (64, .getfield 35, 3), (67, .getfield 166, 3), (70, .iload 4, 2), (72, .iaload, 1), (73, .ireturn, 1), (74, .aload_n 0, 1), (75, .getfield 35, 3), (78, .getfield 169, 3), (81, .iload 4, 2), (83, .iaload, 1), (84, .ireturn, 1), (85, .aload_n 0, 1), (86, .getfield 35, 3), (89, .getfield 172, 3), (92, .iload 4, 2), (94, .iaload, 1), (95, .ireturn, 1), (96, .iconst (-1), 1), (97, .ireturn, 1)] : List (Nat × Instr × Nat)), decode cX6_part q.1 = .ok q.2 := by decide +kernel
theorem dX6_part_0 : decode cX6_part 0 = .ok (.aload_n 0, 1) := daX6_part (0, .aload_n 0, 1) (List.mem_of_getElem? (i := 0) rfl)
theorem dX6_part_1 : decode cX6_part 1 = .ok (.getfield 35, 3) := daX6_part (1, .getfield 35, 3) (List.mem_of_getElem? (i := 1) rfl)
theorem dX6_part_4 : decode cX6_part 4 = .ok (.iload_n 1, 1) := daX6_part (4, .iload_n 1, 1) (List.mem_of_getElem? (i := 2) rfl)
theorem dX6_part_5 : decode cX6_part 5 = .ok (.iload_n 2, 1) := daX6_part (5, .iload_n 2, 1) (List.mem_of_getElem? (i := 3) rfl)
theorem dX6_part_6 : decode cX6_part 6 = .ok (.invokevirtual 160, 3) := daX6_part (6, .invokevirtual 160, 3) (List.mem_of_getElem? (i := 4) rfl)
theorem dX6_part_9 : decode cX6_part 9 = .ok (.ifCond .ne 5, 3) := daX6_part (9, .ifCond .ne 5, 3) (List.mem_of_getElem? (i := 5) rfl)
theorem dX6_part_12 : decode cX6_part 12 = .ok (.iconst (-1), 1) := daX6_part (12, .iconst (-1), 1) (List.mem_of_getElem? (i := 6) rfl)
theorem dX6_part_13 : decode cX6_part 13 = .ok (.ireturn, 1) := daX6_part (13, .ireturn, 1) (List.mem_of_getElem? (i := 7) rfl)
theorem dX6_part_14 : decode cX6_part 14 = .ok (.iload_n 1, 1) := daX6_part (14, .iload_n 1, 1) (List.mem_of_getElem? (i := 8) rfl)
theorem dX6_part_15 : decode cX6_part 15 = .ok (.bipush 6, 2) := daX6_part (15, .bipush 6, 2) (List.mem_of_getElem? (i := 9) rfl)
theorem dX6_part_17 : decode cX6_part 17 = .ok (.imul, 1) := daX6_part (17, .imul, 1) (List.mem_of_getElem? (i := 10) rfl)
theorem dX6_part_18 : decode cX6_part 18 = .ok (.iload_n 2, 1) := daX6_part (18, .iload_n 2, 1) (List.mem_of_getElem? (i := 11) rfl)
theorem dX6_part_19 : decode cX6_part 19 = .ok (.iadd, 1) := daX6_part (19, .iadd, 1) (List.mem_of_getElem? (i := 12) rfl)
theorem dX6_part_20 : decode cX6_part 20 = .ok (.istore 4, 2) := daX6_part (20, .istore 4, 2) (List.mem_of_getElem? (i := 13) rfl)
theorem dX6_part_22 : decode cX6_part 22 = .ok (.iload_n 3, 1) := daX6_part (22, .iload_n 3, 1) (List.mem_of_getElem? (i := 14) rfl)
theorem dX6_part_23 : decode cX6_part 23 = .ok (.tableswitch 73 0 3 #[29, 40, 51, 62], 29) := daX6_part (23, .tableswitch 73 0 3 #[29, 40, 51, 62], 29) (List.mem_of_getElem? (i := 15) rfl)
theorem dX6_part_52 : decode cX6_part 52 = .ok (.aload_n 0, 1) := daX6_part (52, .aload_n 0, 1) (List.mem_of_getElem? (i := 16) rfl)
theorem dX6_part_53 : decode cX6_part 53 = .ok (.getfield 35, 3) := daX6_part (53, .getfield 35, 3) (List.mem_of_getElem? (i := 17) rfl)
theorem dX6_part_56 : decode cX6_part 56 = .ok (.getfield 163, 3) := daX6_part (56, .getfield 163, 3) (List.mem_of_getElem? (i := 18) rfl)
theorem dX6_part_59 : decode cX6_part 59 = .ok (.iload 4, 2) := daX6_part (59, .iload 4, 2) (List.mem_of_getElem? (i := 19) rfl)
theorem dX6_part_61 : decode cX6_part 61 = .ok (.iaload, 1) := daX6_part (61, .iaload, 1) (List.mem_of_getElem? (i := 20) rfl)
theorem dX6_part_62 : decode cX6_part 62 = .ok (.ireturn, 1) := daX6_part (62, .ireturn, 1) (List.mem_of_getElem? (i := 21) rfl)
theorem dX6_part_63 : decode cX6_part 63 = .ok (.aload_n 0, 1) := daX6_part (63, .aload_n 0, 1) (List.mem_of_getElem? (i := 22) rfl)
theorem dX6_part_64 : decode cX6_part 64 = .ok (.getfield 35, 3) := daX6_part (64, .getfield 35, 3) (List.mem_of_getElem? (i := 23) rfl)
theorem dX6_part_67 : decode cX6_part 67 = .ok (.getfield 166, 3) := daX6_part (67, .getfield 166, 3) (List.mem_of_getElem? (i := 24) rfl)
theorem dX6_part_70 : decode cX6_part 70 = .ok (.iload 4, 2) := daX6_part (70, .iload 4, 2) (List.mem_of_getElem? (i := 25) rfl)
theorem dX6_part_72 : decode cX6_part 72 = .ok (.iaload, 1) := daX6_part (72, .iaload, 1) (List.mem_of_getElem? (i := 26) rfl)
theorem dX6_part_73 : decode cX6_part 73 = .ok (.ireturn, 1) := daX6_part (73, .ireturn, 1) (List.mem_of_getElem? (i := 27) rfl)
theorem dX6_part_74 : decode cX6_part 74 = .ok (.aload_n 0, 1) := daX6_part (74, .aload_n 0, 1) (List.mem_of_getElem? (i := 28) rfl)
theorem dX6_part_75 : decode cX6_part 75 = .ok (.getfield 35, 3) := daX6_part (75, .getfield 35, 3) (List.mem_of_getElem? (i := 29) rfl)
theorem dX6_part_78 : decode cX6_part 78 = .ok (.getfield 169, 3) := daX6_part (78, .getfield 169, 3) (List.mem_of_getElem? (i := 30) rfl)
theorem dX6_part_81 : decode cX6_part 81 = .ok (.iload 4, 2) := daX6_part (81, .iload 4, 2) (List.mem_of_getElem? (i := 31) rfl)
theorem dX6_part_83 : decode cX6_part 83 = .ok (.iaload, 1) := daX6_part (83, .iaload, 1) (List.mem_of_getElem? (i := 32) rfl)
theorem dX6_part_84 : decode cX6_part 84 = .ok (.ireturn, 1) := daX6_part (84, .ireturn, 1) (List.mem_of_getElem? (i := 33) rfl)
theorem dX6_part_85 : decode cX6_part 85 = .ok (.aload_n 0, 1) := daX6_part (85, .aload_n 0, 1) (List.mem_of_getElem? (i := 34) rfl)
theorem dX6_part_86 : decode cX6_part 86 = .ok (.getfield 35, 3) := daX6_part (86, .getfield 35, 3) (List.mem_of_getElem? (i := 35) rfl)
theorem dX6_part_89 : decode cX6_part 89 = .ok (.getfield 172, 3) := daX6_part (89, .getfield 172, 3) (List.mem_of_getElem? (i := 36) rfl)
theorem dX6_part_92 : decode cX6_part 92 = .ok (.iload 4, 2) := daX6_part (92, .iload 4, 2) (List.mem_of_getElem? (i := 37) rfl)
theorem dX6_part_94 : decode cX6_part 94 = .ok (.iaload, 1) := daX6_part (94, .iaload, 1) (List.mem_of_getElem? (i := 38) rfl)
theorem dX6_part_95 : decode cX6_part 95 = .ok (.ireturn, 1) := daX6_part (95, .ireturn, 1) (List.mem_of_getElem? (i := 39) rfl)
theorem dX6_part_96 : decode cX6_part 96 = .ok (.iconst (-1), 1) := daX6_part (96, .iconst (-1), 1) (List.mem_of_getElem? (i := 40) rfl)
theorem dX6_part_97 : decode cX6_part 97 = .ok (.ireturn, 1) := daX6_part (97, .ireturn, 1) (List.mem_of_getElem? (i := 41) rfl)
def rmX6_part : Room := { frames := 2, cells := 0, slots := 0, locals := 43 }
theorem zdX6_part : yX6_part.cls = RX6 ∧ yX6_part.cls ≠ "java/lang/invoke/MethodHandle" ∧ yX6_part.cls ≠ "java/lang/invoke/VarHandle" ∧ (parseMethodDescriptor yX6_part.desc).map (fun d => d.parameters.length) = some 3 := by decide +kernel
theorem kiX6_part_X6 : ∀ w ∈ wsX60, w ∈ wsX6_part := fun _ h => (List.mem_cons_of_mem _ (List.mem_append_left _ (List.mem_append_right _ h)))
theorem kfX6_part_35 : Cond.fieldLink RX6 35 "ShapeJudge" "book" "LShapeJudge$Book;" ∈ wsX6_part := (List.mem_of_getElem? (i := 1) rfl)
theorem kiX6_part_X0 : ∀ w ∈ wsX00, w ∈ wsX6_part := fun _ h => (List.mem_cons_of_mem _ (List.mem_append_right _ h))
theorem kfX6_part_163 : Cond.fieldLink RX6 163 "ShapeJudge$Book" "partName" "[I" ∈ wsX6_part := (List.mem_of_getElem? (i := 2) rfl)
theorem kfX6_part_166 : Cond.fieldLink RX6 166 "ShapeJudge$Book" "partTest" "[I" ∈ wsX6_part := (List.mem_of_getElem? (i := 3) rfl)
theorem kfX6_part_169 : Cond.fieldLink RX6 169 "ShapeJudge$Book" "partFirst" "[I" ∈ wsX6_part := (List.mem_of_getElem? (i := 4) rfl)
theorem kfX6_part_172 : Cond.fieldLink RX6 172 "ShapeJudge$Book" "partSecond" "[I" ∈ wsX6_part := (List.mem_of_getElem? (i := 5) rfl)
def s_X6_part (m : Mem) (a1 : Int32) (a2 : Int32) (a3 : Int32) : Option (Int32) :=
  zbk (m 0 4) fun b1 => (s_X0_hasPart m b1 a1 a2).bind fun r3 => (if r3 = 0 then (some (-1)) else (bn ((a1 * 6) + a2) fun x4 => (if a3 = 0 then (zbk (m 0 4) fun b6 => ck (zin x4 36 = true) (some (m (b6 + 9) (Int32.toNatClampNeg x4)))) else ((if a3 = 1 then (zbk (m 0 4) fun b9 => ck (zin x4 36 = true) (some (m (b9 + 10) (Int32.toNatClampNeg x4)))) else ((if a3 = 2 then (zbk (m 0 4) fun b12 => ck (zin x4 36 = true) (some (m (b12 + 11) (Int32.toNatClampNeg x4)))) else ((if a3 = 3 then (zbk (m 0 4) fun b15 => ck (zin x4 36 = true) (some (m (b15 + 12) (Int32.toNatClampNeg x4)))) else (some (-1)))))))))))
set_option maxRecDepth 100000 in
set_option maxHeartbeats 4000000 in
theorem c_X6_part (l : Launch) (w : ZW) {m : Mem} {a1 : Int32} {a2 : Int32} {a3 : Int32} {r9 : Int32}  (hf : s_X6_part m a1 a2 a3 = some r9) : zCi MX l w yX6_part wsX6_part rmX6_part [.ref (w.2.1 0), .int a1, .int a2, .int a3] m m r9 := by
  refine z_met_i MX_ok (own := RX6) (by decide +kernel) rfl rfl (Nat.le_of_ble_eq_true rfl) ?_
  intro K C hKw hKl hret
  subst hKw
  subst hKl
  unfold s_X6_part at hf
  show zGo MX K m [(0, .ref ((zw K).2.1 0)), (1, .int a1), (2, .int a2), (3, .int a3)] 0 []
  refine z_aload_n C 0 dX6_part_0 rfl rfl ?_
  obtain ⟨b1, hb1, e_b1, hf⟩ := zbk_el hf
  refine z_getb C (b := b1) (Nat.le_of_ble_eq_true rfl) rfl rfl 4 (Nat.le_of_ble_eq_true rfl) rfl kiX6_part_X6 kfX6_part_35 (isb_lt hb1) e_b1 dX6_part_1 ?_
  refine z_iload_n C 1 dX6_part_4 rfl rfl ?_
  refine z_iload_n C 2 dX6_part_5 rfl rfl ?_
  obtain ⟨r3, hc2, hf⟩ := zb_el hf
  refine z_cVi C (c_X0_hasPart _ _ hb1 hc2) rfl gX6_part_X0_hasPart rfl rfl zdX0_hasPart rfl (isb_k0 hb1) (isb_L0 hb1) rfl rfl ⟨Nat.le_of_ble_eq_true rfl, Nat.le_of_ble_eq_true rfl⟩ (Nat.le_of_ble_eq_true rfl) dX6_part_6 rfl ?_
  refine z_if_ne (tgt := 14) C dX6_part_9 (by decide) (fun c17 => ?_) (fun c17 => ?_)
  · replace hf := if_f c17 hf
    refine z_iload_n C 1 dX6_part_14 rfl rfl ?_
    refine z_bipush C (v := 6) dX6_part_15 rfl ?_
    refine z_imul C dX6_part_17 ?_
    refine z_iload_n C 2 dX6_part_18 rfl rfl ?_
    refine z_iadd C dX6_part_19 ?_
    refine z_topi (fun x4 e_x4 => ?_)
    replace hf := bn_to e_x4 hf
    refine z_istore C (lv2 := [(0, .ref ((zw K).2.1 0)), (1, .int a1), (2, .int a2), (3, .int a3), (4, .int x4)]) [1, 2, 3, 4, 0] dX6_part_20 (Nat.le_of_ble_eq_true rfl) rfl ?_
    refine z_iload_n C 3 dX6_part_22 rfl rfl ?_
    refine zby (c := a3 = 0) (fun c5 => ?_) (fun c5 => ?_)
    · replace hf := if_t c5 hf
      refine z_tab (v := 0) (tgt := 52) (off := 29) C c5 dX6_part_23 (by decide) (by decide) rfl (by decide) ?_
      refine z_aload_n C 0 dX6_part_52 rfl rfl ?_
      obtain ⟨b6, hb6, e_b6, hf⟩ := zbk_el hf
      refine z_getb C (b := b6) (Nat.le_of_ble_eq_true rfl) rfl rfl 4 (Nat.le_of_ble_eq_true rfl) rfl kiX6_part_X6 kfX6_part_35 (isb_lt hb6) e_b6 dX6_part_53 ?_
      refine z_getr C (t := b6 + 9) (isb_k0 hb6) (isb_L0 hb6) rfl 11 (Nat.le_of_ble_eq_true rfl) rfl kiX6_part_X0 kfX6_part_163 dX6_part_56 ?_
      refine z_iload C 4 dX6_part_59 rfl ?_
      obtain ⟨hi7, hf⟩ := ck_el hf
      refine z_iald C (k := (b6 + 9)) (isb_k9 hb6) (isb_L9 hb6) hi7 dX6_part_61 ?_
      have e1 := Option.some.inj hf
      subst e1
      exact hret _ _ dX6_part_62
    · replace hf := if_f c5 hf
      refine zby (c := a3 = 1) (fun c8 => ?_) (fun c8 => ?_)
      · replace hf := if_t c8 hf
        refine z_tab (v := 1) (tgt := 63) (off := 40) C c8 dX6_part_23 (by decide) (by decide) rfl (by decide) ?_
        refine z_aload_n C 0 dX6_part_63 rfl rfl ?_
        obtain ⟨b9, hb9, e_b9, hf⟩ := zbk_el hf
        refine z_getb C (b := b9) (Nat.le_of_ble_eq_true rfl) rfl rfl 4 (Nat.le_of_ble_eq_true rfl) rfl kiX6_part_X6 kfX6_part_35 (isb_lt hb9) e_b9 dX6_part_64 ?_
        refine z_getr C (t := b9 + 10) (isb_k0 hb9) (isb_L0 hb9) rfl 12 (Nat.le_of_ble_eq_true rfl) rfl kiX6_part_X0 kfX6_part_166 dX6_part_67 ?_
        refine z_iload C 4 dX6_part_70 rfl ?_
        obtain ⟨hi10, hf⟩ := ck_el hf
        refine z_iald C (k := (b9 + 10)) (isb_k10 hb9) (isb_L10 hb9) hi10 dX6_part_72 ?_
        have e1 := Option.some.inj hf
        subst e1
        exact hret _ _ dX6_part_73
      · replace hf := if_f c8 hf
        refine zby (c := a3 = 2) (fun c11 => ?_) (fun c11 => ?_)
        · replace hf := if_t c11 hf
          refine z_tab (v := 2) (tgt := 74) (off := 51) C c11 dX6_part_23 (by decide) (by decide) rfl (by decide) ?_
          refine z_aload_n C 0 dX6_part_74 rfl rfl ?_
          obtain ⟨b12, hb12, e_b12, hf⟩ := zbk_el hf
          refine z_getb C (b := b12) (Nat.le_of_ble_eq_true rfl) rfl rfl 4 (Nat.le_of_ble_eq_true rfl) rfl kiX6_part_X6 kfX6_part_35 (isb_lt hb12) e_b12 dX6_part_75 ?_
          refine z_getr C (t := b12 + 11) (isb_k0 hb12) (isb_L0 hb12) rfl 13 (Nat.le_of_ble_eq_true rfl) rfl kiX6_part_X0 kfX6_part_169 dX6_part_78 ?_
          refine z_iload C 4 dX6_part_81 rfl ?_
          obtain ⟨hi13, hf⟩ := ck_el hf
          refine z_iald C (k := (b12 + 11)) (isb_k11 hb12) (isb_L11 hb12) hi13 dX6_part_83 ?_
          have e1 := Option.some.inj hf
          subst e1
          exact hret _ _ dX6_part_84
        · replace hf := if_f c11 hf
          refine zby (c := a3 = 3) (fun c14 => ?_) (fun c14 => ?_)
          · replace hf := if_t c14 hf
            refine z_tab (v := 3) (tgt := 85) (off := 62) C c14 dX6_part_23 (by decide) (by decide) rfl (by decide) ?_
            refine z_aload_n C 0 dX6_part_85 rfl rfl ?_
            obtain ⟨b15, hb15, e_b15, hf⟩ := zbk_el hf
            refine z_getb C (b := b15) (Nat.le_of_ble_eq_true rfl) rfl rfl 4 (Nat.le_of_ble_eq_true rfl) rfl kiX6_part_X6 kfX6_part_35 (isb_lt hb15) e_b15 dX6_part_86 ?_
            refine z_getr C (t := b15 + 12) (isb_k0 hb15) (isb_L0 hb15) rfl 14 (Nat.le_of_ble_eq_true rfl) rfl kiX6_part_X0 kfX6_part_172 dX6_part_89 ?_
            refine z_iload C 4 dX6_part_92 rfl ?_
            obtain ⟨hi16, hf⟩ := ck_el hf
            refine z_iald C (k := (b15 + 12)) (isb_k12 hb15) (isb_L12 hb15) hi16 dX6_part_94 ?_
            have e1 := Option.some.inj hf
            subst e1
            exact hret _ _ dX6_part_95
          · replace hf := if_f c14 hf
            refine z_tabd (tgt := 96) C dX6_part_23 (ztab_out (n := 4) (Nat.le_of_ble_eq_true rfl) (lt_s (lt_s (lt_s (lt_s lt_0 c5) c8) c11) c14)) (by decide) ?_
            refine z_iconst C (v := (-1)) dX6_part_96 (by decide) ?_
            have e1 := Option.some.inj hf
            subst e1
            exact hret _ _ dX6_part_97
  · replace hf := if_t c17 hf
    refine z_iconst C (v := (-1)) dX6_part_12 (by decide) ?_
    have e1 := Option.some.inj hf
    subst e1
    exact hret _ _ dX6_part_13
set_option maxRecDepth 20000 in
theorem ggX6_reset_X1_clear : GoodIn wsX6_reset wsX1_clear := goodIn_sub (List.forall_mem_cons.mpr ⟨(List.mem_of_getElem? (i := 9) rfl), (List.forall_mem_append.mpr ⟨(List.forall_mem_cons.mpr ⟨(List.mem_of_getElem? (i := 10) rfl), (List.forall_mem_cons.mpr ⟨(List.mem_of_getElem? (i := 11) rfl), (fun _ h => absurd h List.not_mem_nil)⟩)⟩), (fun _ h => (List.mem_cons_of_mem _ (List.mem_append_left _ (List.mem_append_right _ h))))⟩)⟩) (by decide +kernel)
set_option maxRecDepth 20000 in
theorem gX6_reset_X1_clear : GoodIn wsX6_reset (wsV RX6 191 RX1 yX1_clear wsX1_clear) := goodIn_app (goodIn_sub (List.forall_mem_cons.mpr ⟨(List.mem_of_getElem? (i := 5) rfl), (List.forall_mem_cons.mpr ⟨(List.mem_of_getElem? (i := 6) rfl), (List.forall_mem_cons.mpr ⟨(List.mem_of_getElem? (i := 7) rfl), (List.forall_mem_cons.mpr ⟨(List.mem_of_getElem? (i := 8) rfl), (fun _ h => absurd h List.not_mem_nil)⟩)⟩)⟩)⟩) (by decide +kernel)) ggX6_reset_X1_clear
set_option maxRecDepth 20000 in
theorem ggX6_reset_X2_forget : GoodIn wsX6_reset wsX2_forget := goodIn_sub (List.forall_mem_cons.mpr ⟨(List.mem_of_getElem? (i := 16) rfl), (List.forall_mem_append.mpr ⟨(List.forall_mem_cons.mpr ⟨(List.mem_of_getElem? (i := 17) rfl), (List.forall_mem_cons.mpr ⟨(List.mem_of_getElem? (i := 18) rfl), (fun _ h => absurd h List.not_mem_nil)⟩)⟩), (fun _ h => (List.mem_cons_of_mem _ (List.mem_append_right _ h)))⟩)⟩) (by decide +kernel)
set_option maxRecDepth 20000 in
theorem gX6_reset_X2_forget : GoodIn wsX6_reset (wsV RX6 58 RX2 yX2_forget wsX2_forget) := goodIn_app (goodIn_sub (List.forall_mem_cons.mpr ⟨(List.mem_of_getElem? (i := 12) rfl), (List.forall_mem_cons.mpr ⟨(List.mem_of_getElem? (i := 13) rfl), (List.forall_mem_cons.mpr ⟨(List.mem_of_getElem? (i := 14) rfl), (List.forall_mem_cons.mpr ⟨(List.mem_of_getElem? (i := 15) rfl), (fun _ h => absurd h List.not_mem_nil)⟩)⟩)⟩)⟩) (by decide +kernel)) ggX6_reset_X2_forget
theorem dX6_reset_0 : decode cX6_reset 0 = .ok (.aload_n 0, 1) := by decide +kernel
theorem dX6_reset_1 : decode cX6_reset 1 = .ok (.getfield 10, 3) := by decide +kernel
theorem dX6_reset_4 : decode cX6_reset 4 = .ok (.getfield 55, 3) := by decide +kernel
theorem dX6_reset_7 : decode cX6_reset 7 = .ok (.istore_n 1, 1) := by decide +kernel
theorem dX6_reset_8 : decode cX6_reset 8 = .ok (.aload_n 0, 1) := by decide +kernel
theorem dX6_reset_9 : decode cX6_reset 9 = .ok (.getfield 10, 3) := by decide +kernel
theorem dX6_reset_12 : decode cX6_reset 12 = .ok (.invokevirtual 191, 3) := by decide +kernel
theorem dX6_reset_15 : decode cX6_reset 15 = .ok (.aload_n 0, 1) := by decide +kernel
theorem dX6_reset_16 : decode cX6_reset 16 = .ok (.getfield 47, 3) := by decide +kernel
theorem dX6_reset_19 : decode cX6_reset 19 = .ok (.invokevirtual 58, 3) := by decide +kernel
theorem dX6_reset_22 : decode cX6_reset 22 = .ok (.aload_n 0, 1) := by decide +kernel
theorem dX6_reset_23 : decode cX6_reset 23 = .ok (.iconst 0, 1) := by decide +kernel
theorem dX6_reset_24 : decode cX6_reset 24 = .ok (.putfield 51, 3) := by decide +kernel
theorem dX6_reset_27 : decode cX6_reset 27 = .ok (.iload_n 1, 1) := by decide +kernel
theorem dX6_reset_28 : decode cX6_reset 28 = .ok (.ireturn, 1) := by decide +kernel
def rmX6_reset : Room := { frames := 1, cells := 0, slots := 0, locals := 20 }
theorem zdX6_reset : yX6_reset.cls = RX6 ∧ yX6_reset.cls ≠ "java/lang/invoke/MethodHandle" ∧ yX6_reset.cls ≠ "java/lang/invoke/VarHandle" ∧ (parseMethodDescriptor yX6_reset.desc).map (fun d => d.parameters.length) = some 0 := by decide +kernel
theorem kiX6_reset_X6 : ∀ w ∈ wsX60, w ∈ wsX6_reset := fun _ h => (List.mem_cons_of_mem _ (List.mem_append_left _ (List.mem_append_left _ (List.mem_append_right _ h))))
theorem kfX6_reset_10 : Cond.fieldLink RX6 10 "ShapeJudge" "graph" "LShapeJudge$Graph;" ∈ wsX6_reset := (List.mem_of_getElem? (i := 1) rfl)
theorem kiX6_reset_X1 : ∀ w ∈ wsX10, w ∈ wsX6_reset := fun _ h => (List.mem_cons_of_mem _ (List.mem_append_left _ (List.mem_append_right _ h)))
theorem kfX6_reset_55 : Cond.fieldLink RX6 55 "ShapeJudge$Graph" "nodes" "I" ∈ wsX6_reset := (List.mem_of_getElem? (i := 2) rfl)
theorem kfX6_reset_47 : Cond.fieldLink RX6 47 "ShapeJudge" "judge" "LShapeJudge$Judge;" ∈ wsX6_reset := (List.mem_of_getElem? (i := 3) rfl)
theorem kfX6_reset_51 : Cond.fieldLink RX6 51 "ShapeJudge" "latestFault" "I" ∈ wsX6_reset := (List.mem_of_getElem? (i := 4) rfl)
def s_X6_reset (m : Mem)  : Option (Int32 × Mem) :=
  bn (m 1 0) fun x1 => (s_X1_clear m).bind fun m3 => (s_X2_forget m3).bind fun m5 => bn (sto m5 0 6 0) fun m6 => some (x1, m6)
set_option maxRecDepth 100000 in
set_option maxHeartbeats 4000000 in
theorem c_X6_reset (l : Launch) (w : ZW) {m : Mem}  {r9 : Int32} {m9 : Mem}  (hf : s_X6_reset m  = some (r9, m9)) : zCi MX l w yX6_reset wsX6_reset rmX6_reset [.ref (w.2.1 0)] m m9 r9 := by
  refine z_met_i MX_ok (own := RX6) (by decide +kernel) rfl rfl (Nat.le_of_ble_eq_true rfl) ?_
  intro K C hKw hKl hret
  subst hKw
  subst hKl
  unfold s_X6_reset at hf
  show zGo MX K m [(0, .ref ((zw K).2.1 0))] 0 []
  refine z_aload_n C 0 dX6_reset_0 rfl rfl ?_
  refine z_getr C (t := 1) (Nat.le_of_ble_eq_true rfl) rfl rfl 0 (Nat.le_of_ble_eq_true rfl) rfl kiX6_reset_X6 kfX6_reset_10 dX6_reset_1 ?_
  refine z_geti C (Nat.le_of_ble_eq_true rfl) rfl rfl 0 (Nat.le_of_ble_eq_true rfl) rfl kiX6_reset_X1 kfX6_reset_55 dX6_reset_4 ?_
  refine z_topi (fun x1 e_x1 => ?_)
  replace hf := bn_to e_x1 hf
  refine z_istore_n C (lv2 := [(0, .ref ((zw K).2.1 0)), (1, .int x1)]) [1, 0] dX6_reset_7 rfl (Nat.le_of_ble_eq_true rfl) rfl ?_
  refine z_aload_n C 0 dX6_reset_8 rfl rfl ?_
  refine z_getr C (t := 1) (Nat.le_of_ble_eq_true rfl) rfl rfl 0 (Nat.le_of_ble_eq_true rfl) rfl kiX6_reset_X6 kfX6_reset_10 dX6_reset_9 ?_
  obtain ⟨m3, hc2, hf⟩ := zb_el hf
  refine z_cVv C (c_X1_clear _ _ hc2) rfl gX6_reset_X1_clear rfl rfl zdX1_clear rfl (Nat.le_of_ble_eq_true rfl) rfl rfl rfl ⟨Nat.le_of_ble_eq_true rfl, Nat.le_of_ble_eq_true rfl⟩ (Nat.le_of_ble_eq_true rfl) dX6_reset_12 rfl ?_
  refine z_aload_n C 0 dX6_reset_15 rfl rfl ?_
  refine z_getr C (t := 39) (Nat.le_of_ble_eq_true rfl) rfl rfl 3 (Nat.le_of_ble_eq_true rfl) rfl kiX6_reset_X6 kfX6_reset_47 dX6_reset_16 ?_
  obtain ⟨m5, hc4, hf⟩ := zb_el hf
  refine z_cVv C (c_X2_forget _ _ hc4) rfl gX6_reset_X2_forget rfl rfl zdX2_forget rfl (Nat.le_of_ble_eq_true rfl) rfl rfl rfl ⟨Nat.le_of_ble_eq_true rfl, Nat.le_of_ble_eq_true rfl⟩ (Nat.le_of_ble_eq_true rfl) dX6_reset_19 rfl ?_
  refine z_aload_n C 0 dX6_reset_22 rfl rfl ?_
  refine z_iconst C (v := 0) dX6_reset_23 rfl ?_
  refine z_puti C (Nat.le_of_ble_eq_true rfl) rfl rfl 6 (Nat.le_of_ble_eq_true rfl) rfl kiX6_reset_X6 kfX6_reset_51 tyX6 tyX6_ok nmX6 rfl rfl dX6_reset_24 ?_
  refine z_nm (fun m6 e_m6 => ?_)
  replace hf := bn_to e_m6 hf
  refine z_iload_n C 1 dX6_reset_27 rfl rfl ?_
  obtain ⟨e1, e2⟩ := sp_el hf
  subst e1
  subst e2
  exact hret _ _ dX6_reset_28
set_option maxRecDepth 20000 in
theorem ggX6_shapes_X4_readText : GoodIn wsX6_shapes wsX4_readText := goodIn_sub (List.forall_mem_cons.mpr ⟨(List.mem_of_getElem? (i := 15) rfl), (List.forall_mem_append.mpr ⟨(List.forall_mem_append.mpr ⟨(List.forall_mem_append.mpr ⟨(List.forall_mem_append.mpr ⟨(List.forall_mem_append.mpr ⟨(show ∀ w ∈ wsX4_readText_r1, w ∈ wsX6_shapes from (List.forall_mem_cons.mpr ⟨(List.mem_of_getElem? (i := 16) rfl), (List.forall_mem_cons.mpr ⟨(List.mem_of_getElem? (i := 17) rfl), (List.forall_mem_cons.mpr ⟨(List.mem_of_getElem? (i := 18) rfl), (List.forall_mem_cons.mpr ⟨(List.mem_of_getElem? (i := 19) rfl), (List.forall_mem_cons.mpr ⟨(List.mem_of_getElem? (i := 20) rfl), (List.forall_mem_cons.mpr ⟨(List.mem_of_getElem? (i := 21) rfl), (List.forall_mem_cons.mpr ⟨(List.mem_of_getElem? (i := 22) rfl), (List.forall_mem_cons.mpr ⟨(List.mem_of_getElem? (i := 23) rfl), (List.forall_mem_cons.mpr ⟨(List.mem_of_getElem? (i := 24) rfl), (List.forall_mem_cons.mpr ⟨(List.mem_of_getElem? (i := 25) rfl), (List.forall_mem_cons.mpr ⟨(List.mem_of_getElem? (i := 26) rfl), (List.forall_mem_cons.mpr ⟨(List.mem_of_getElem? (i := 27) rfl), (List.forall_mem_cons.mpr ⟨(List.mem_of_getElem? (i := 28) rfl), (List.forall_mem_cons.mpr ⟨(List.mem_of_getElem? (i := 29) rfl), (List.forall_mem_cons.mpr ⟨(List.mem_of_getElem? (i := 30) rfl), (List.forall_mem_cons.mpr ⟨(List.mem_of_getElem? (i := 31) rfl), (List.forall_mem_cons.mpr ⟨(List.mem_of_getElem? (i := 32) rfl), (List.forall_mem_cons.mpr ⟨(List.mem_of_getElem? (i := 33) rfl), (List.forall_mem_cons.mpr ⟨(List.mem_of_getElem? (i := 34) rfl), (List.forall_mem_cons.mpr ⟨(List.mem_of_getElem? (i := 35) rfl), (List.forall_mem_cons.mpr ⟨(List.mem_of_getElem? (i := 36) rfl), (List.forall_mem_cons.mpr ⟨(List.mem_of_getElem? (i := 37) rfl), (List.forall_mem_cons.mpr ⟨(List.mem_of_getElem? (i := 38) rfl), (List.forall_mem_cons.mpr ⟨(List.mem_of_getElem? (i := 39) rfl), (fun _ h => absurd h List.not_mem_nil)⟩)⟩)⟩)⟩)⟩)⟩)⟩)⟩)⟩)⟩)⟩)⟩)⟩)⟩)⟩)⟩)⟩)⟩)⟩)⟩)⟩)⟩)⟩)⟩)), (List.forall_mem_append.mpr ⟨(show ∀ w ∈ wsX4_readText_r2, w ∈ wsX6_shapes from (List.forall_mem_cons.mpr ⟨(List.mem_of_getElem? (i := 40) rfl), (List.forall_mem_cons.mpr ⟨(List.mem_of_getElem? (i := 41) rfl), (List.forall_mem_cons.mpr ⟨(List.mem_of_getElem? (i := 42) rfl), (List.forall_mem_cons.mpr ⟨(List.mem_of_getElem? (i := 43) rfl), (List.forall_mem_cons.mpr ⟨(List.mem_of_getElem? (i := 44) rfl), (List.forall_mem_cons.mpr ⟨(List.mem_of_getElem? (i := 45) rfl), (List.forall_mem_cons.mpr ⟨(List.mem_of_getElem? (i := 46) rfl), (List.forall_mem_cons.mpr ⟨(List.mem_of_getElem? (i := 47) rfl), (List.forall_mem_cons.mpr ⟨(List.mem_of_getElem? (i := 48) rfl), (List.forall_mem_cons.mpr ⟨(List.mem_of_getElem? (i := 49) rfl), (List.forall_mem_cons.mpr ⟨(List.mem_of_getElem? (i := 50) rfl), (List.forall_mem_cons.mpr ⟨(List.mem_of_getElem? (i := 51) rfl), (List.forall_mem_cons.mpr ⟨(List.mem_of_getElem? (i := 52) rfl), (List.forall_mem_cons.mpr ⟨(List.mem_of_getElem? (i := 53) rfl), (List.forall_mem_cons.mpr ⟨(List.mem_of_getElem? (i := 54) rfl), (List.forall_mem_cons.mpr ⟨(List.mem_of_getElem? (i := 55) rfl), (List.forall_mem_cons.mpr ⟨(List.mem_of_getElem? (i := 56) rfl), (List.forall_mem_cons.mpr ⟨(List.mem_of_getElem? (i := 57) rfl), (List.forall_mem_cons.mpr ⟨(List.mem_of_getElem? (i := 58) rfl), (List.forall_mem_cons.mpr ⟨(List.mem_of_getElem? (i := 59) rfl), (List.forall_mem_cons.mpr ⟨(List.mem_of_getElem? (i := 60) rfl), (List.forall_mem_cons.mpr ⟨(List.mem_of_getElem? (i := 61) rfl), (List.forall_mem_cons.mpr ⟨(List.mem_of_getElem? (i := 62) rfl), (List.forall_mem_cons.mpr ⟨(List.mem_of_getElem? (i := 63) rfl), (fun _ h => absurd h List.not_mem_nil)⟩)⟩)⟩)⟩)⟩)⟩)⟩)⟩)⟩)⟩)⟩)⟩)⟩)⟩)⟩)⟩)⟩)⟩)⟩)⟩)⟩)⟩)⟩)⟩)), (List.forall_mem_append.mpr ⟨(show ∀ w ∈ wsX4_readText_r3, w ∈ wsX6_shapes from (List.forall_mem_cons.mpr ⟨(List.mem_of_getElem? (i := 64) rfl), (List.forall_mem_cons.mpr ⟨(List.mem_of_getElem? (i := 65) rfl), (List.forall_mem_cons.mpr ⟨(List.mem_of_getElem? (i := 66) rfl), (List.forall_mem_cons.mpr ⟨(List.mem_of_getElem? (i := 67) rfl), (List.forall_mem_cons.mpr ⟨(List.mem_of_getElem? (i := 68) rfl), (List.forall_mem_cons.mpr ⟨(List.mem_of_getElem? (i := 69) rfl), (List.forall_mem_cons.mpr ⟨(List.mem_of_getElem? (i := 70) rfl), (List.forall_mem_cons.mpr ⟨(List.mem_of_getElem? (i := 71) rfl), (List.forall_mem_cons.mpr ⟨(List.mem_of_getElem? (i := 72) rfl), (List.forall_mem_cons.mpr ⟨(List.mem_of_getElem? (i := 73) rfl), (List.forall_mem_cons.mpr ⟨(List.mem_of_getElem? (i := 74) rfl), (List.forall_mem_cons.mpr ⟨(List.mem_of_getElem? (i := 75) rfl), (List.forall_mem_cons.mpr ⟨(List.mem_of_getElem? (i := 76) rfl), (List.forall_mem_cons.mpr ⟨(List.mem_of_getElem? (i := 77) rfl), (List.forall_mem_cons.mpr ⟨(List.mem_of_getElem? (i := 78) rfl), (List.forall_mem_cons.mpr ⟨(List.mem_of_getElem? (i := 79) rfl), (List.forall_mem_cons.mpr ⟨(List.mem_of_getElem? (i := 80) rfl), (List.forall_mem_cons.mpr ⟨(List.mem_of_getElem? (i := 81) rfl), (List.forall_mem_cons.mpr ⟨(List.mem_of_getElem? (i := 82) rfl), (List.forall_mem_cons.mpr ⟨(List.mem_of_getElem? (i := 83) rfl), (List.forall_mem_cons.mpr ⟨(List.mem_of_getElem? (i := 84) rfl), (List.forall_mem_cons.mpr ⟨(List.mem_of_getElem? (i := 85) rfl), (List.forall_mem_cons.mpr ⟨(List.mem_of_getElem? (i := 86) rfl), (List.forall_mem_cons.mpr ⟨(List.mem_of_getElem? (i := 87) rfl), (fun _ h => absurd h List.not_mem_nil)⟩)⟩)⟩)⟩)⟩)⟩)⟩)⟩)⟩)⟩)⟩)⟩)⟩)⟩)⟩)⟩)⟩)⟩)⟩)⟩)⟩)⟩)⟩)⟩)), (List.forall_mem_append.mpr ⟨(show ∀ w ∈ wsX4_readText_r4, w ∈ wsX6_shapes from (List.forall_mem_cons.mpr ⟨(List.mem_of_getElem? (i := 88) rfl), (List.forall_mem_cons.mpr ⟨(List.mem_of_getElem? (i := 89) rfl), (List.forall_mem_cons.mpr ⟨(List.mem_of_getElem? (i := 90) rfl), (List.forall_mem_cons.mpr ⟨(List.mem_of_getElem? (i := 91) rfl), (List.forall_mem_cons.mpr ⟨(List.mem_of_getElem? (i := 92) rfl), (List.forall_mem_cons.mpr ⟨(List.mem_of_getElem? (i := 93) rfl), (List.forall_mem_cons.mpr ⟨(List.mem_of_getElem? (i := 94) rfl), (List.forall_mem_cons.mpr ⟨(List.mem_of_getElem? (i := 95) rfl), (List.forall_mem_cons.mpr ⟨(List.mem_of_getElem? (i := 96) rfl), (List.forall_mem_cons.mpr ⟨(List.mem_of_getElem? (i := 97) rfl), (List.forall_mem_cons.mpr ⟨(List.mem_of_getElem? (i := 98) rfl), (List.forall_mem_cons.mpr ⟨(List.mem_of_getElem? (i := 99) rfl), (List.forall_mem_cons.mpr ⟨(List.mem_of_getElem? (i := 100) rfl), (List.forall_mem_cons.mpr ⟨(List.mem_of_getElem? (i := 101) rfl), (List.forall_mem_cons.mpr ⟨(List.mem_of_getElem? (i := 102) rfl), (List.forall_mem_cons.mpr ⟨(List.mem_of_getElem? (i := 103) rfl), (List.forall_mem_cons.mpr ⟨(List.mem_of_getElem? (i := 104) rfl), (List.forall_mem_cons.mpr ⟨(List.mem_of_getElem? (i := 105) rfl), (List.forall_mem_cons.mpr ⟨(List.mem_of_getElem? (i := 106) rfl), (List.forall_mem_cons.mpr ⟨(List.mem_of_getElem? (i := 107) rfl), (List.forall_mem_cons.mpr ⟨(List.mem_of_getElem? (i := 108) rfl), (List.forall_mem_cons.mpr ⟨(List.mem_of_getElem? (i := 109) rfl), (List.forall_mem_cons.mpr ⟨(List.mem_of_getElem? (i := 110) rfl), (List.forall_mem_cons.mpr ⟨(List.mem_of_getElem? (i := 111) rfl), (fun _ h => absurd h List.not_mem_nil)⟩)⟩)⟩)⟩)⟩)⟩)⟩)⟩)⟩)⟩)⟩)⟩)⟩)⟩)⟩)⟩)⟩)⟩)⟩)⟩)⟩)⟩)⟩)⟩)), (List.forall_mem_append.mpr ⟨(show ∀ w ∈ wsX4_readText_r5, w ∈ wsX6_shapes from (List.forall_mem_cons.mpr ⟨(List.mem_of_getElem? (i := 112) rfl), (List.forall_mem_cons.mpr ⟨(List.mem_of_getElem? (i := 113) rfl), (List.forall_mem_cons.mpr ⟨(List.mem_of_getElem? (i := 114) rfl), (List.forall_mem_cons.mpr ⟨(List.mem_of_getElem? (i := 115) rfl), (List.forall_mem_cons.mpr ⟨(List.mem_of_getElem? (i := 116) rfl), (List.forall_mem_cons.mpr ⟨(List.mem_of_getElem? (i := 117) rfl), (List.forall_mem_cons.mpr ⟨(List.mem_of_getElem? (i := 118) rfl), (List.forall_mem_cons.mpr ⟨(List.mem_of_getElem? (i := 119) rfl), (List.forall_mem_cons.mpr ⟨(List.mem_of_getElem? (i := 120) rfl), (List.forall_mem_cons.mpr ⟨(List.mem_of_getElem? (i := 121) rfl), (List.forall_mem_cons.mpr ⟨(List.mem_of_getElem? (i := 122) rfl), (List.forall_mem_cons.mpr ⟨(List.mem_of_getElem? (i := 123) rfl), (List.forall_mem_cons.mpr ⟨(List.mem_of_getElem? (i := 124) rfl), (List.forall_mem_cons.mpr ⟨(List.mem_of_getElem? (i := 125) rfl), (List.forall_mem_cons.mpr ⟨(List.mem_of_getElem? (i := 14) rfl), (List.forall_mem_cons.mpr ⟨(List.mem_of_getElem? (i := 126) rfl), (List.forall_mem_cons.mpr ⟨(List.mem_of_getElem? (i := 127) rfl), (List.forall_mem_cons.mpr ⟨(List.mem_of_getElem? (i := 128) rfl), (List.forall_mem_cons.mpr ⟨(List.mem_of_getElem? (i := 129) rfl), (List.forall_mem_cons.mpr ⟨(List.mem_of_getElem? (i := 130) rfl), (List.forall_mem_cons.mpr ⟨(List.mem_of_getElem? (i := 131) rfl), (List.forall_mem_cons.mpr ⟨(List.mem_of_getElem? (i := 132) rfl), (List.forall_mem_cons.mpr ⟨(List.mem_of_getElem? (i := 133) rfl), (List.forall_mem_cons.mpr ⟨(List.mem_of_getElem? (i := 134) rfl), (fun _ h => absurd h List.not_mem_nil)⟩)⟩)⟩)⟩)⟩)⟩)⟩)⟩)⟩)⟩)⟩)⟩)⟩)⟩)⟩)⟩)⟩)⟩)⟩)⟩)⟩)⟩)⟩)⟩)), (List.forall_mem_append.mpr ⟨(show ∀ w ∈ wsX4_readText_r6, w ∈ wsX6_shapes from (List.forall_mem_cons.mpr ⟨(List.mem_of_getElem? (i := 135) rfl), (List.forall_mem_cons.mpr ⟨(List.mem_of_getElem? (i := 136) rfl), (List.forall_mem_cons.mpr ⟨(List.mem_of_getElem? (i := 137) rfl), (List.forall_mem_cons.mpr ⟨(List.mem_of_getElem? (i := 138) rfl), (List.forall_mem_cons.mpr ⟨(List.mem_of_getElem? (i := 139) rfl), (List.forall_mem_cons.mpr ⟨(List.mem_of_getElem? (i := 140) rfl), (List.forall_mem_cons.mpr ⟨(List.mem_of_getElem? (i := 141) rfl), (List.forall_mem_cons.mpr ⟨(List.mem_of_getElem? (i := 142) rfl), (List.forall_mem_cons.mpr ⟨(List.mem_of_getElem? (i := 143) rfl), (List.forall_mem_cons.mpr ⟨(List.mem_of_getElem? (i := 144) rfl), (List.forall_mem_cons.mpr ⟨(List.mem_of_getElem? (i := 145) rfl), (List.forall_mem_cons.mpr ⟨(List.mem_of_getElem? (i := 146) rfl), (List.forall_mem_cons.mpr ⟨(List.mem_of_getElem? (i := 147) rfl), (List.forall_mem_cons.mpr ⟨(List.mem_of_getElem? (i := 148) rfl), (List.forall_mem_cons.mpr ⟨(List.mem_of_getElem? (i := 149) rfl), (List.forall_mem_cons.mpr ⟨(List.mem_of_getElem? (i := 150) rfl), (List.forall_mem_cons.mpr ⟨(List.mem_of_getElem? (i := 151) rfl), (List.forall_mem_cons.mpr ⟨(List.mem_of_getElem? (i := 152) rfl), (List.forall_mem_cons.mpr ⟨(List.mem_of_getElem? (i := 153) rfl), (List.forall_mem_cons.mpr ⟨(List.mem_of_getElem? (i := 154) rfl), (List.forall_mem_cons.mpr ⟨(List.mem_of_getElem? (i := 155) rfl), (List.forall_mem_cons.mpr ⟨(List.mem_of_getElem? (i := 156) rfl), (List.forall_mem_cons.mpr ⟨(List.mem_of_getElem? (i := 157) rfl), (List.forall_mem_cons.mpr ⟨(List.mem_of_getElem? (i := 158) rfl), (fun _ h => absurd h List.not_mem_nil)⟩)⟩)⟩)⟩)⟩)⟩)⟩)⟩)⟩)⟩)⟩)⟩)⟩)⟩)⟩)⟩)⟩)⟩)⟩)⟩)⟩)⟩)⟩)⟩)), (List.forall_mem_append.mpr ⟨(show ∀ w ∈ wsX4_readText_r7, w ∈ wsX6_shapes from (List.forall_mem_cons.mpr ⟨(List.mem_of_getElem? (i := 159) rfl), (List.forall_mem_cons.mpr ⟨(List.mem_of_getElem? (i := 160) rfl), (List.forall_mem_cons.mpr ⟨(List.mem_of_getElem? (i := 161) rfl), (List.forall_mem_cons.mpr ⟨(List.mem_of_getElem? (i := 162) rfl), (List.forall_mem_cons.mpr ⟨(List.mem_of_getElem? (i := 163) rfl), (List.forall_mem_cons.mpr ⟨(List.mem_of_getElem? (i := 164) rfl), (List.forall_mem_cons.mpr ⟨(List.mem_of_getElem? (i := 165) rfl), (List.forall_mem_cons.mpr ⟨(List.mem_of_getElem? (i := 166) rfl), (List.forall_mem_cons.mpr ⟨(List.mem_of_getElem? (i := 167) rfl), (List.forall_mem_cons.mpr ⟨(List.mem_of_getElem? (i := 168) rfl), (List.forall_mem_cons.mpr ⟨(List.mem_of_getElem? (i := 169) rfl), (List.forall_mem_cons.mpr ⟨(List.mem_of_getElem? (i := 170) rfl), (List.forall_mem_cons.mpr ⟨(List.mem_of_getElem? (i := 171) rfl), (List.forall_mem_cons.mpr ⟨(List.mem_of_getElem? (i := 172) rfl), (List.forall_mem_cons.mpr ⟨(List.mem_of_getElem? (i := 173) rfl), (List.forall_mem_cons.mpr ⟨(List.mem_of_getElem? (i := 174) rfl), (List.forall_mem_cons.mpr ⟨(List.mem_of_getElem? (i := 175) rfl), (List.forall_mem_cons.mpr ⟨(List.mem_of_getElem? (i := 176) rfl), (List.forall_mem_cons.mpr ⟨(List.mem_of_getElem? (i := 177) rfl), (List.forall_mem_cons.mpr ⟨(List.mem_of_getElem? (i := 178) rfl), (List.forall_mem_cons.mpr ⟨(List.mem_of_getElem? (i := 179) rfl), (List.forall_mem_cons.mpr ⟨(List.mem_of_getElem? (i := 180) rfl), (List.forall_mem_cons.mpr ⟨(List.mem_of_getElem? (i := 181) rfl), (List.forall_mem_cons.mpr ⟨(List.mem_of_getElem? (i := 182) rfl), (fun _ h => absurd h List.not_mem_nil)⟩)⟩)⟩)⟩)⟩)⟩)⟩)⟩)⟩)⟩)⟩)⟩)⟩)⟩)⟩)⟩)⟩)⟩)⟩)⟩)⟩)⟩)⟩)⟩)), (List.forall_mem_append.mpr ⟨(show ∀ w ∈ wsX4_readText_r8, w ∈ wsX6_shapes from (List.forall_mem_cons.mpr ⟨(List.mem_of_getElem? (i := 183) rfl), (List.forall_mem_cons.mpr ⟨(List.mem_of_getElem? (i := 184) rfl), (List.forall_mem_cons.mpr ⟨(List.mem_of_getElem? (i := 185) rfl), (List.forall_mem_cons.mpr ⟨(List.mem_of_getElem? (i := 186) rfl), (List.forall_mem_cons.mpr ⟨(List.mem_of_getElem? (i := 187) rfl), (List.forall_mem_cons.mpr ⟨(List.mem_of_getElem? (i := 188) rfl), (List.forall_mem_cons.mpr ⟨(List.mem_of_getElem? (i := 189) rfl), (List.forall_mem_cons.mpr ⟨(List.mem_of_getElem? (i := 190) rfl), (List.forall_mem_cons.mpr ⟨(List.mem_of_getElem? (i := 191) rfl), (List.forall_mem_cons.mpr ⟨(List.mem_of_getElem? (i := 192) rfl), (List.forall_mem_cons.mpr ⟨(List.mem_of_getElem? (i := 193) rfl), (List.forall_mem_cons.mpr ⟨(List.mem_of_getElem? (i := 194) rfl), (List.forall_mem_cons.mpr ⟨(List.mem_of_getElem? (i := 195) rfl), (List.forall_mem_cons.mpr ⟨(List.mem_of_getElem? (i := 196) rfl), (List.forall_mem_cons.mpr ⟨(List.mem_of_getElem? (i := 197) rfl), (List.forall_mem_cons.mpr ⟨(List.mem_of_getElem? (i := 198) rfl), (List.forall_mem_cons.mpr ⟨(List.mem_of_getElem? (i := 199) rfl), (List.forall_mem_cons.mpr ⟨(List.mem_of_getElem? (i := 200) rfl), (List.forall_mem_cons.mpr ⟨(List.mem_of_getElem? (i := 201) rfl), (List.forall_mem_cons.mpr ⟨(List.mem_of_getElem? (i := 202) rfl), (List.forall_mem_cons.mpr ⟨(List.mem_of_getElem? (i := 203) rfl), (List.forall_mem_cons.mpr ⟨(List.mem_of_getElem? (i := 204) rfl), (List.forall_mem_cons.mpr ⟨(List.mem_of_getElem? (i := 205) rfl), (List.forall_mem_cons.mpr ⟨(List.mem_of_getElem? (i := 206) rfl), (fun _ h => absurd h List.not_mem_nil)⟩)⟩)⟩)⟩)⟩)⟩)⟩)⟩)⟩)⟩)⟩)⟩)⟩)⟩)⟩)⟩)⟩)⟩)⟩)⟩)⟩)⟩)⟩)⟩)), (List.forall_mem_append.mpr ⟨(show ∀ w ∈ wsX4_readText_r9, w ∈ wsX6_shapes from (List.forall_mem_cons.mpr ⟨(List.mem_of_getElem? (i := 207) rfl), (List.forall_mem_cons.mpr ⟨(List.mem_of_getElem? (i := 208) rfl), (List.forall_mem_cons.mpr ⟨(List.mem_of_getElem? (i := 209) rfl), (List.forall_mem_cons.mpr ⟨(List.mem_of_getElem? (i := 210) rfl), (List.forall_mem_cons.mpr ⟨(List.mem_of_getElem? (i := 211) rfl), (List.forall_mem_cons.mpr ⟨(List.mem_of_getElem? (i := 212) rfl), (List.forall_mem_cons.mpr ⟨(List.mem_of_getElem? (i := 213) rfl), (List.forall_mem_cons.mpr ⟨(List.mem_of_getElem? (i := 214) rfl), (List.forall_mem_cons.mpr ⟨(List.mem_of_getElem? (i := 215) rfl), (List.forall_mem_cons.mpr ⟨(List.mem_of_getElem? (i := 216) rfl), (List.forall_mem_cons.mpr ⟨(List.mem_of_getElem? (i := 217) rfl), (List.forall_mem_cons.mpr ⟨(List.mem_of_getElem? (i := 218) rfl), (List.forall_mem_cons.mpr ⟨(List.mem_of_getElem? (i := 219) rfl), (List.forall_mem_cons.mpr ⟨(List.mem_of_getElem? (i := 220) rfl), (List.forall_mem_cons.mpr ⟨(List.mem_of_getElem? (i := 221) rfl), (List.forall_mem_cons.mpr ⟨(List.mem_of_getElem? (i := 222) rfl), (List.forall_mem_cons.mpr ⟨(List.mem_of_getElem? (i := 223) rfl), (List.forall_mem_cons.mpr ⟨(List.mem_of_getElem? (i := 224) rfl), (List.forall_mem_cons.mpr ⟨(List.mem_of_getElem? (i := 225) rfl), (List.forall_mem_cons.mpr ⟨(List.mem_of_getElem? (i := 226) rfl), (List.forall_mem_cons.mpr ⟨(List.mem_of_getElem? (i := 227) rfl), (List.forall_mem_cons.mpr ⟨(List.mem_of_getElem? (i := 228) rfl), (List.forall_mem_cons.mpr ⟨(List.mem_of_getElem? (i := 229) rfl), (List.forall_mem_cons.mpr ⟨(List.mem_of_getElem? (i := 230) rfl), (fun _ h => absurd h List.not_mem_nil)⟩)⟩)⟩)⟩)⟩)⟩)⟩)⟩)⟩)⟩)⟩)⟩)⟩)⟩)⟩)⟩)⟩)⟩)⟩)⟩)⟩)⟩)⟩)⟩)), (List.forall_mem_append.mpr ⟨(show ∀ w ∈ wsX4_readText_r10, w ∈ wsX6_shapes from (List.forall_mem_cons.mpr ⟨(List.mem_of_getElem? (i := 231) rfl), (List.forall_mem_cons.mpr ⟨(List.mem_of_getElem? (i := 232) rfl), (List.forall_mem_cons.mpr ⟨(List.mem_of_getElem? (i := 233) rfl), (List.forall_mem_cons.mpr ⟨(List.mem_of_getElem? (i := 234) rfl), (List.forall_mem_cons.mpr ⟨(List.mem_of_getElem? (i := 235) rfl), (List.forall_mem_cons.mpr ⟨(List.mem_of_getElem? (i := 236) rfl), (List.forall_mem_cons.mpr ⟨(List.mem_of_getElem? (i := 237) rfl), (List.forall_mem_cons.mpr ⟨(List.mem_of_getElem? (i := 238) rfl), (List.forall_mem_cons.mpr ⟨(List.mem_of_getElem? (i := 239) rfl), (List.forall_mem_cons.mpr ⟨(List.mem_of_getElem? (i := 240) rfl), (List.forall_mem_cons.mpr ⟨(List.mem_of_getElem? (i := 241) rfl), (List.forall_mem_cons.mpr ⟨(List.mem_of_getElem? (i := 242) rfl), (List.forall_mem_cons.mpr ⟨(List.mem_of_getElem? (i := 243) rfl), (List.forall_mem_cons.mpr ⟨(List.mem_of_getElem? (i := 244) rfl), (List.forall_mem_cons.mpr ⟨(List.mem_of_getElem? (i := 245) rfl), (List.forall_mem_cons.mpr ⟨(List.mem_of_getElem? (i := 246) rfl), (List.forall_mem_cons.mpr ⟨(List.mem_of_getElem? (i := 247) rfl), (List.forall_mem_cons.mpr ⟨(List.mem_of_getElem? (i := 248) rfl), (List.forall_mem_cons.mpr ⟨(List.mem_of_getElem? (i := 249) rfl), (List.forall_mem_cons.mpr ⟨(List.mem_of_getElem? (i := 250) rfl), (List.forall_mem_cons.mpr ⟨(List.mem_of_getElem? (i := 251) rfl), (List.forall_mem_cons.mpr ⟨(List.mem_of_getElem? (i := 252) rfl), (List.forall_mem_cons.mpr ⟨(List.mem_of_getElem? (i := 253) rfl), (List.forall_mem_cons.mpr ⟨(List.mem_of_getElem? (i := 254) rfl), (fun _ h => absurd h List.not_mem_nil)⟩)⟩)⟩)⟩)⟩)⟩)⟩)⟩)⟩)⟩)⟩)⟩)⟩)⟩)⟩)⟩)⟩)⟩)⟩)⟩)⟩)⟩)⟩)⟩)), (List.forall_mem_append.mpr ⟨(show ∀ w ∈ wsX4_readText_r11, w ∈ wsX6_shapes from (List.forall_mem_cons.mpr ⟨(List.mem_of_getElem? (i := 255) rfl), (List.forall_mem_cons.mpr ⟨(List.mem_of_getElem? (i := 256) rfl), (List.forall_mem_cons.mpr ⟨(List.mem_of_getElem? (i := 257) rfl), (List.forall_mem_cons.mpr ⟨(List.mem_of_getElem? (i := 258) rfl), (List.forall_mem_cons.mpr ⟨(List.mem_of_getElem? (i := 259) rfl), (List.forall_mem_cons.mpr ⟨(List.mem_of_getElem? (i := 260) rfl), (List.forall_mem_cons.mpr ⟨(List.mem_of_getElem? (i := 261) rfl), (List.forall_mem_cons.mpr ⟨(List.mem_of_getElem? (i := 262) rfl), (List.forall_mem_cons.mpr ⟨(List.mem_of_getElem? (i := 263) rfl), (List.forall_mem_cons.mpr ⟨(List.mem_of_getElem? (i := 264) rfl), (List.forall_mem_cons.mpr ⟨(List.mem_of_getElem? (i := 265) rfl), (List.forall_mem_cons.mpr ⟨(List.mem_of_getElem? (i := 266) rfl), (List.forall_mem_cons.mpr ⟨(List.mem_of_getElem? (i := 267) rfl), (List.forall_mem_cons.mpr ⟨(List.mem_of_getElem? (i := 268) rfl), (List.forall_mem_cons.mpr ⟨(List.mem_of_getElem? (i := 269) rfl), (List.forall_mem_cons.mpr ⟨(List.mem_of_getElem? (i := 270) rfl), (List.forall_mem_cons.mpr ⟨(List.mem_of_getElem? (i := 271) rfl), (List.forall_mem_cons.mpr ⟨(List.mem_of_getElem? (i := 272) rfl), (List.forall_mem_cons.mpr ⟨(List.mem_of_getElem? (i := 273) rfl), (List.forall_mem_cons.mpr ⟨(List.mem_of_getElem? (i := 274) rfl), (List.forall_mem_cons.mpr ⟨(List.mem_of_getElem? (i := 275) rfl), (List.forall_mem_cons.mpr ⟨(List.mem_of_getElem? (i := 276) rfl), (List.forall_mem_cons.mpr ⟨(List.mem_of_getElem? (i := 277) rfl), (List.forall_mem_cons.mpr ⟨(List.mem_of_getElem? (i := 278) rfl), (fun _ h => absurd h List.not_mem_nil)⟩)⟩)⟩)⟩)⟩)⟩)⟩)⟩)⟩)⟩)⟩)⟩)⟩)⟩)⟩)⟩)⟩)⟩)⟩)⟩)⟩)⟩)⟩)⟩)), (show ∀ w ∈ wsX4_readText_r12, w ∈ wsX6_shapes from (List.forall_mem_cons.mpr ⟨(List.mem_of_getElem? (i := 279) rfl), (List.forall_mem_cons.mpr ⟨(List.mem_of_getElem? (i := 280) rfl), (List.forall_mem_cons.mpr ⟨(List.mem_of_getElem? (i := 281) rfl), (List.forall_mem_cons.mpr ⟨(List.mem_of_getElem? (i := 282) rfl), (List.forall_mem_cons.mpr ⟨(List.mem_of_getElem? (i := 283) rfl), (fun _ h => absurd h List.not_mem_nil)⟩)⟩)⟩)⟩)⟩))⟩)⟩)⟩)⟩)⟩)⟩)⟩)⟩)⟩)⟩)⟩), (fun _ h => (List.mem_cons_of_mem _ (List.mem_append_left _ (List.mem_append_left _ (List.mem_append_left _ (List.mem_append_right _ h))))))⟩), (fun _ h => (List.mem_cons_of_mem _ (List.mem_append_left _ (List.mem_append_right _ h))))⟩), (fun _ h => (List.mem_cons_of_mem _ (List.mem_append_left _ (List.mem_append_left _ (List.mem_append_right _ h)))))⟩), (fun _ h => (List.mem_cons_of_mem _ (List.mem_append_left _ (List.mem_append_left _ (List.mem_append_left _ (List.mem_append_left _ (List.mem_append_right _ h)))))))⟩)⟩) (by decide +kernel)
set_option maxRecDepth 20000 in
theorem gX6_shapes_X4_readText : GoodIn wsX6_shapes (wsV RX6 103 RX4 yX4_readText wsX4_readText) := goodIn_app (goodIn_sub (List.forall_mem_cons.mpr ⟨(List.mem_of_getElem? (i := 11) rfl), (List.forall_mem_cons.mpr ⟨(List.mem_of_getElem? (i := 12) rfl), (List.forall_mem_cons.mpr ⟨(List.mem_of_getElem? (i := 13) rfl), (List.forall_mem_cons.mpr ⟨(List.mem_of_getElem? (i := 14) rfl), (fun _ h => absurd h List.not_mem_nil)⟩)⟩)⟩)⟩) (by decide +kernel)) ggX6_shapes_X4_readText
set_option maxRecDepth 20000 in
theorem ggX6_shapes_X2_follow : GoodIn wsX6_shapes wsX2_follow := goodIn_sub (List.forall_mem_cons.mpr ⟨(List.mem_of_getElem? (i := 288) rfl), (List.forall_mem_append.mpr ⟨(List.forall_mem_cons.mpr ⟨(List.mem_of_getElem? (i := 289) rfl), (List.forall_mem_cons.mpr ⟨(List.mem_of_getElem? (i := 290) rfl), (List.forall_mem_cons.mpr ⟨(List.mem_of_getElem? (i := 291) rfl), (List.forall_mem_cons.mpr ⟨(List.mem_of_getElem? (i := 292) rfl), (List.forall_mem_cons.mpr ⟨(List.mem_of_getElem? (i := 287) rfl), (List.forall_mem_cons.mpr ⟨(List.mem_of_getElem? (i := 293) rfl), (List.forall_mem_cons.mpr ⟨(List.mem_of_getElem? (i := 294) rfl), (List.forall_mem_cons.mpr ⟨(List.mem_of_getElem? (i := 295) rfl), (fun _ h => absurd h List.not_mem_nil)⟩)⟩)⟩)⟩)⟩)⟩)⟩)⟩), (fun _ h => (List.mem_cons_of_mem _ (List.mem_append_right _ h)))⟩)⟩) (by decide +kernel)
set_option maxRecDepth 20000 in
theorem gX6_shapes_X2_follow : GoodIn wsX6_shapes (wsV RX6 113 RX2 yX2_follow wsX2_follow) := goodIn_app (goodIn_sub (List.forall_mem_cons.mpr ⟨(List.mem_of_getElem? (i := 284) rfl), (List.forall_mem_cons.mpr ⟨(List.mem_of_getElem? (i := 285) rfl), (List.forall_mem_cons.mpr ⟨(List.mem_of_getElem? (i := 286) rfl), (List.forall_mem_cons.mpr ⟨(List.mem_of_getElem? (i := 287) rfl), (fun _ h => absurd h List.not_mem_nil)⟩)⟩)⟩)⟩) (by decide +kernel)) ggX6_shapes_X2_follow
set_option maxRecDepth 100000 in
theorem daX6_shapes : ∀ q ∈ ([(0, .aload_n 0, 1), (1, .getfield 28, 3), (4, .aload_n 0, 1), (5, .getfield 39, 3), (8, .invokevirtual 103, 3), (11, .aload_n 0, 1), (12, .getfield 19, 3), (15, .iconst 0, 1), (16, .putfield 96, 3), (19, .aload_n 0, 1), (20, .aload_n 0, 1), (21, .getfield 28, 3), (24, .getfield 107, 3), (27, .putfield 51, 3), (30, .aload_n 0, 1), (31, .getfield 51, 3), (34, .ifCond .eq 14, 3), (37, .bipush (-10), 2), (39, .aload_n 0, 1), (40, .getfield 28, 3), (43, .getfield 110, 3), (46, .isub, 1), (47, .ireturn, 1), (48, .aload_n 0, 1), (49, .getfield 35, 3), (52, .astore_n 1, 1), (53, .aload_n 0, 1), (54, .aload_n 0, 1), (55, .getfield 39, 3), (58, .putfield 35, 3), (61, .aload_n 0, 1), (62, .aload_n 1, 1), (63, .putfield 39, 3), (66, .aload_n 0, 1), (67, .getfield 47, 3), (70, .aload_n 0, 1), (71, .getfield 35, 3), (74, .invokevirtual 113, 3), (77, .aload_n 0, 1), (78, .getfield 35, 3), (81, .getfield 116, 3), (84, .ireturn, 1)] : List (Nat × Instr × Nat)), decode cX6_shapes q.1 = .ok q.2 := by decide +kernel
theorem dX6_shapes_0 : decode cX6_shapes 0 = .ok (.aload_n 0, 1) := daX6_shapes (0, .aload_n 0, 1) (List.mem_of_getElem? (i := 0) rfl)
theorem dX6_shapes_1 : decode cX6_shapes 1 = .ok (.getfield 28, 3) := daX6_shapes (1, .getfield 28, 3) (List.mem_of_getElem? (i := 1) rfl)
theorem dX6_shapes_4 : decode cX6_shapes 4 = .ok (.aload_n 0, 1) := daX6_shapes (4, .aload_n 0, 1) (List.mem_of_getElem? (i := 2) rfl)
theorem dX6_shapes_5 : decode cX6_shapes 5 = .ok (.getfield 39, 3) := daX6_shapes (5, .getfield 39, 3) (List.mem_of_getElem? (i := 3) rfl)
theorem dX6_shapes_8 : decode cX6_shapes 8 = .ok (.invokevirtual 103, 3) := daX6_shapes (8, .invokevirtual 103, 3) (List.mem_of_getElem? (i := 4) rfl)
theorem dX6_shapes_11 : decode cX6_shapes 11 = .ok (.aload_n 0, 1) := daX6_shapes (11, .aload_n 0, 1) (List.mem_of_getElem? (i := 5) rfl)
theorem dX6_shapes_12 : decode cX6_shapes 12 = .ok (.getfield 19, 3) := daX6_shapes (12, .getfield 19, 3) (List.mem_of_getElem? (i := 6) rfl)
theorem dX6_shapes_15 : decode cX6_shapes 15 = .ok (.iconst 0, 1) := daX6_shapes (15, .iconst 0, 1) (List.mem_of_getElem? (i := 7) rfl)
theorem dX6_shapes_16 : decode cX6_shapes 16 = .ok (.putfield 96, 3) := daX6_shapes (16, .putfield 96, 3) (List.mem_of_getElem? (i := 8) rfl)
theorem dX6_shapes_19 : decode cX6_shapes 19 = .ok (.aload_n 0, 1) := daX6_shapes (19, .aload_n 0, 1) (List.mem_of_getElem? (i := 9) rfl)
theorem dX6_shapes_20 : decode cX6_shapes 20 = .ok (.aload_n 0, 1) := daX6_shapes (20, .aload_n 0, 1) (List.mem_of_getElem? (i := 10) rfl)
theorem dX6_shapes_21 : decode cX6_shapes 21 = .ok (.getfield 28, 3) := daX6_shapes (21, .getfield 28, 3) (List.mem_of_getElem? (i := 11) rfl)
theorem dX6_shapes_24 : decode cX6_shapes 24 = .ok (.getfield 107, 3) := daX6_shapes (24, .getfield 107, 3) (List.mem_of_getElem? (i := 12) rfl)
theorem dX6_shapes_27 : decode cX6_shapes 27 = .ok (.putfield 51, 3) := daX6_shapes (27, .putfield 51, 3) (List.mem_of_getElem? (i := 13) rfl)
theorem dX6_shapes_30 : decode cX6_shapes 30 = .ok (.aload_n 0, 1) := daX6_shapes (30, .aload_n 0, 1) (List.mem_of_getElem? (i := 14) rfl)
theorem dX6_shapes_31 : decode cX6_shapes 31 = .ok (.getfield 51, 3) := daX6_shapes (31, .getfield 51, 3) (List.mem_of_getElem? (i := 15) rfl)
theorem dX6_shapes_34 : decode cX6_shapes 34 = .ok (.ifCond .eq 14, 3) := daX6_shapes (34, .ifCond .eq 14, 3) (List.mem_of_getElem? (i := 16) rfl)
theorem dX6_shapes_37 : decode cX6_shapes 37 = .ok (.bipush (-10), 2) := daX6_shapes (37, .bipush (-10), 2) (List.mem_of_getElem? (i := 17) rfl)
theorem dX6_shapes_39 : decode cX6_shapes 39 = .ok (.aload_n 0, 1) := daX6_shapes (39, .aload_n 0, 1) (List.mem_of_getElem? (i := 18) rfl)
theorem dX6_shapes_40 : decode cX6_shapes 40 = .ok (.getfield 28, 3) := daX6_shapes (40, .getfield 28, 3) (List.mem_of_getElem? (i := 19) rfl)
theorem dX6_shapes_43 : decode cX6_shapes 43 = .ok (.getfield 110, 3) := daX6_shapes (43, .getfield 110, 3) (List.mem_of_getElem? (i := 20) rfl)
theorem dX6_shapes_46 : decode cX6_shapes 46 = .ok (.isub, 1) := daX6_shapes (46, .isub, 1) (List.mem_of_getElem? (i := 21) rfl)
theorem dX6_shapes_47 : decode cX6_shapes 47 = .ok (.ireturn, 1) := daX6_shapes (47, .ireturn, 1) (List.mem_of_getElem? (i := 22) rfl)
theorem dX6_shapes_48 : decode cX6_shapes 48 = .ok (.aload_n 0, 1) := daX6_shapes (48, .aload_n 0, 1) (List.mem_of_getElem? (i := 23) rfl)
theorem dX6_shapes_49 : decode cX6_shapes 49 = .ok (.getfield 35, 3) := daX6_shapes (49, .getfield 35, 3) (List.mem_of_getElem? (i := 24) rfl)
theorem dX6_shapes_52 : decode cX6_shapes 52 = .ok (.astore_n 1, 1) := daX6_shapes (52, .astore_n 1, 1) (List.mem_of_getElem? (i := 25) rfl)
theorem dX6_shapes_53 : decode cX6_shapes 53 = .ok (.aload_n 0, 1) := daX6_shapes (53, .aload_n 0, 1) (List.mem_of_getElem? (i := 26) rfl)
theorem dX6_shapes_54 : decode cX6_shapes 54 = .ok (.aload_n 0, 1) := daX6_shapes (54, .aload_n 0, 1) (List.mem_of_getElem? (i := 27) rfl)
theorem dX6_shapes_55 : decode cX6_shapes 55 = .ok (.getfield 39, 3) := daX6_shapes (55, .getfield 39, 3) (List.mem_of_getElem? (i := 28) rfl)
theorem dX6_shapes_58 : decode cX6_shapes 58 = .ok (.putfield 35, 3) := daX6_shapes (58, .putfield 35, 3) (List.mem_of_getElem? (i := 29) rfl)
theorem dX6_shapes_61 : decode cX6_shapes 61 = .ok (.aload_n 0, 1) := daX6_shapes (61, .aload_n 0, 1) (List.mem_of_getElem? (i := 30) rfl)
theorem dX6_shapes_62 : decode cX6_shapes 62 = .ok (.aload_n 1, 1) := daX6_shapes (62, .aload_n 1, 1) (List.mem_of_getElem? (i := 31) rfl)
theorem dX6_shapes_63 : decode cX6_shapes 63 = .ok (.putfield 39, 3) := daX6_shapes (63, .putfield 39, 3) (List.mem_of_getElem? (i := 32) rfl)
theorem dX6_shapes_66 : decode cX6_shapes 66 = .ok (.aload_n 0, 1) := daX6_shapes (66, .aload_n 0, 1) (List.mem_of_getElem? (i := 33) rfl)
theorem dX6_shapes_67 : decode cX6_shapes 67 = .ok (.getfield 47, 3) := daX6_shapes (67, .getfield 47, 3) (List.mem_of_getElem? (i := 34) rfl)
theorem dX6_shapes_70 : decode cX6_shapes 70 = .ok (.aload_n 0, 1) := daX6_shapes (70, .aload_n 0, 1) (List.mem_of_getElem? (i := 35) rfl)
theorem dX6_shapes_71 : decode cX6_shapes 71 = .ok (.getfield 35, 3) := daX6_shapes (71, .getfield 35, 3) (List.mem_of_getElem? (i := 36) rfl)
theorem dX6_shapes_74 : decode cX6_shapes 74 = .ok (.invokevirtual 113, 3) := daX6_shapes (74, .invokevirtual 113, 3) (List.mem_of_getElem? (i := 37) rfl)
theorem dX6_shapes_77 : decode cX6_shapes 77 = .ok (.aload_n 0, 1) := daX6_shapes (77, .aload_n 0, 1) (List.mem_of_getElem? (i := 38) rfl)
theorem dX6_shapes_78 : decode cX6_shapes 78 = .ok (.getfield 35, 3) := daX6_shapes (78, .getfield 35, 3) (List.mem_of_getElem? (i := 39) rfl)
theorem dX6_shapes_81 : decode cX6_shapes 81 = .ok (.getfield 116, 3) := daX6_shapes (81, .getfield 116, 3) (List.mem_of_getElem? (i := 40) rfl)
theorem dX6_shapes_84 : decode cX6_shapes 84 = .ok (.ireturn, 1) := daX6_shapes (84, .ireturn, 1) (List.mem_of_getElem? (i := 41) rfl)
def rmX6_shapes : Room := { frames := 9, cells := 0, slots := 0, locals := 192 }
theorem zdX6_shapes : yX6_shapes.cls = RX6 ∧ yX6_shapes.cls ≠ "java/lang/invoke/MethodHandle" ∧ yX6_shapes.cls ≠ "java/lang/invoke/VarHandle" ∧ (parseMethodDescriptor yX6_shapes.desc).map (fun d => d.parameters.length) = some 0 := by decide +kernel
theorem kiX6_shapes_X6 : ∀ w ∈ wsX60, w ∈ wsX6_shapes := fun _ h => (List.mem_cons_of_mem _ (List.mem_append_left _ (List.mem_append_left _ (List.mem_append_left _ (List.mem_append_left _ (List.mem_append_left _ (List.mem_append_right _ h)))))))
theorem kfX6_shapes_28 : Cond.fieldLink RX6 28 "ShapeJudge" "reader" "LShapeJudge$TextReader;" ∈ wsX6_shapes := (List.mem_of_getElem? (i := 1) rfl)
theorem kfX6_shapes_39 : Cond.fieldLink RX6 39 "ShapeJudge" "spare" "LShapeJudge$Book;" ∈ wsX6_shapes := (List.mem_of_getElem? (i := 2) rfl)
theorem kfX6_shapes_19 : Cond.fieldLink RX6 19 "ShapeJudge" "tape" "LShapeJudge$Tape;" ∈ wsX6_shapes := (List.mem_of_getElem? (i := 3) rfl)
theorem kiX6_shapes_X3 : ∀ w ∈ wsX30, w ∈ wsX6_shapes := fun _ h => (List.mem_cons_of_mem _ (List.mem_append_left _ (List.mem_append_left _ (List.mem_append_left _ (List.mem_append_left _ (List.mem_append_right _ h))))))
theorem kfX6_shapes_96 : Cond.fieldLink RX6 96 "ShapeJudge$Tape" "length" "I" ∈ wsX6_shapes := (List.mem_of_getElem? (i := 4) rfl)
theorem kiX6_shapes_X4 : ∀ w ∈ wsX40, w ∈ wsX6_shapes := fun _ h => (List.mem_cons_of_mem _ (List.mem_append_left _ (List.mem_append_left _ (List.mem_append_left _ (List.mem_append_right _ h)))))
theorem kfX6_shapes_107 : Cond.fieldLink RX6 107 "ShapeJudge$TextReader" "faultKind" "I" ∈ wsX6_shapes := (List.mem_of_getElem? (i := 5) rfl)
theorem kfX6_shapes_51 : Cond.fieldLink RX6 51 "ShapeJudge" "latestFault" "I" ∈ wsX6_shapes := (List.mem_of_getElem? (i := 6) rfl)
theorem kfX6_shapes_35 : Cond.fieldLink RX6 35 "ShapeJudge" "book" "LShapeJudge$Book;" ∈ wsX6_shapes := (List.mem_of_getElem? (i := 8) rfl)
theorem kfX6_shapes_47 : Cond.fieldLink RX6 47 "ShapeJudge" "judge" "LShapeJudge$Judge;" ∈ wsX6_shapes := (List.mem_of_getElem? (i := 9) rfl)
theorem kiX6_shapes_X0 : ∀ w ∈ wsX00, w ∈ wsX6_shapes := fun _ h => (List.mem_cons_of_mem _ (List.mem_append_left _ (List.mem_append_left _ (List.mem_append_right _ h))))
theorem kfX6_shapes_116 : Cond.fieldLink RX6 116 "ShapeJudge$Book" "shapeCount" "I" ∈ wsX6_shapes := (List.mem_of_getElem? (i := 10) rfl)
theorem kfX6_shapes_110 : Cond.fieldLink RX6 110 "ShapeJudge$TextReader" "faultPlace" "I" ∈ wsX6_shapes := (List.mem_of_getElem? (i := 7) rfl)
def s_X6_shapes (m : Mem)  : Option (Int32 × Mem) :=
  zbk (m 0 5) fun b1 => (s_X4_readText m b1).bind fun m3 => bn (sto m3 7 1 0) fun m4 => bn (sto m4 0 6 (m4 9 8)) fun m5 => (if (m5 0 6) = 0 then (zbk (m5 0 4) fun b6 => zbk (m5 0 5) fun b7 => bn (sto m5 0 4 (nI b7)) fun m8 => bn (sto m8 0 5 (nI b6)) fun m9 => zbk (m9 0 4) fun b10 => (s_X2_follow m9 b10).bind fun m12 => zbk (m12 0 4) fun b13 => some ((m12 b13 0), m12)) else (some (((-10) - (m5 9 9)), m5)))
set_option maxRecDepth 100000 in
set_option maxHeartbeats 4000000 in
theorem c_X6_shapes (l : Launch) (w : ZW) {m : Mem}  {r9 : Int32} {m9 : Mem}  (hf : s_X6_shapes m  = some (r9, m9)) : zCi MX l w yX6_shapes wsX6_shapes rmX6_shapes [.ref (w.2.1 0)] m m9 r9 := by
  refine z_met_i MX_ok (own := RX6) (by decide +kernel) rfl rfl (Nat.le_of_ble_eq_true rfl) ?_
  intro K C hKw hKl hret
  subst hKw
  subst hKl
  unfold s_X6_shapes at hf
  show zGo MX K m [(0, .ref ((zw K).2.1 0))] 0 []
  refine z_aload_n C 0 dX6_shapes_0 rfl rfl ?_
  refine z_getr C (t := 9) (Nat.le_of_ble_eq_true rfl) rfl rfl 2 (Nat.le_of_ble_eq_true rfl) rfl kiX6_shapes_X6 kfX6_shapes_28 dX6_shapes_1 ?_
  refine z_aload_n C 0 dX6_shapes_4 rfl rfl ?_
  obtain ⟨b1, hb1, e_b1, hf⟩ := zbk_el hf
  refine z_getb C (b := b1) (Nat.le_of_ble_eq_true rfl) rfl rfl 5 (Nat.le_of_ble_eq_true rfl) rfl kiX6_shapes_X6 kfX6_shapes_39 (isb_lt hb1) e_b1 dX6_shapes_5 ?_
  obtain ⟨m3, hc2, hf⟩ := zb_el hf
  refine z_cVv C (c_X4_readText _ _ hb1 hc2) rfl gX6_shapes_X4_readText rfl rfl zdX4_readText rfl (Nat.le_of_ble_eq_true rfl) rfl rfl rfl ⟨Nat.le_of_ble_eq_true rfl, Nat.le_of_ble_eq_true rfl⟩ (Nat.le_of_ble_eq_true rfl) dX6_shapes_8 rfl ?_
  refine z_aload_n C 0 dX6_shapes_11 rfl rfl ?_
  refine z_getr C (t := 7) (Nat.le_of_ble_eq_true rfl) rfl rfl 1 (Nat.le_of_ble_eq_true rfl) rfl kiX6_shapes_X6 kfX6_shapes_19 dX6_shapes_12 ?_
  refine z_iconst C (v := 0) dX6_shapes_15 rfl ?_
  refine z_puti C (Nat.le_of_ble_eq_true rfl) rfl rfl 1 (Nat.le_of_ble_eq_true rfl) rfl kiX6_shapes_X3 kfX6_shapes_96 tyX3 tyX3_ok nmX3 rfl rfl dX6_shapes_16 ?_
  refine z_nm (fun m4 e_m4 => ?_)
  replace hf := bn_to e_m4 hf
  refine z_aload_n C 0 dX6_shapes_19 rfl rfl ?_
  refine z_aload_n C 0 dX6_shapes_20 rfl rfl ?_
  refine z_getr C (t := 9) (Nat.le_of_ble_eq_true rfl) rfl rfl 2 (Nat.le_of_ble_eq_true rfl) rfl kiX6_shapes_X6 kfX6_shapes_28 dX6_shapes_21 ?_
  refine z_geti C (Nat.le_of_ble_eq_true rfl) rfl rfl 8 (Nat.le_of_ble_eq_true rfl) rfl kiX6_shapes_X4 kfX6_shapes_107 dX6_shapes_24 ?_
  refine z_puti C (Nat.le_of_ble_eq_true rfl) rfl rfl 6 (Nat.le_of_ble_eq_true rfl) rfl kiX6_shapes_X6 kfX6_shapes_51 tyX6 tyX6_ok nmX6 rfl rfl dX6_shapes_27 ?_
  refine z_nm (fun m5 e_m5 => ?_)
  replace hf := bn_to e_m5 hf
  refine z_aload_n C 0 dX6_shapes_30 rfl rfl ?_
  refine z_geti C (Nat.le_of_ble_eq_true rfl) rfl rfl 6 (Nat.le_of_ble_eq_true rfl) rfl kiX6_shapes_X6 kfX6_shapes_51 dX6_shapes_31 ?_
  refine z_if_eq (tgt := 48) C dX6_shapes_34 (by decide) (fun c14 => ?_) (fun c14 => ?_)
  · replace hf := if_t c14 hf
    refine z_aload_n C 0 dX6_shapes_48 rfl rfl ?_
    obtain ⟨b6, hb6, e_b6, hf⟩ := zbk_el hf
    refine z_getb C (b := b6) (Nat.le_of_ble_eq_true rfl) rfl rfl 4 (Nat.le_of_ble_eq_true rfl) rfl kiX6_shapes_X6 kfX6_shapes_35 (isb_lt hb6) e_b6 dX6_shapes_49 ?_
    refine z_astore_n C (lv2 := [(0, .ref ((zw K).2.1 0)), (1, .ref ((zw K).2.1 b6))]) [1, 0] dX6_shapes_52 rfl (Nat.le_of_ble_eq_true rfl) rfl ?_
    refine z_aload_n C 0 dX6_shapes_53 rfl rfl ?_
    refine z_aload_n C 0 dX6_shapes_54 rfl rfl ?_
    obtain ⟨b7, hb7, e_b7, hf⟩ := zbk_el hf
    refine z_getb C (b := b7) (Nat.le_of_ble_eq_true rfl) rfl rfl 5 (Nat.le_of_ble_eq_true rfl) rfl kiX6_shapes_X6 kfX6_shapes_39 (isb_lt hb7) e_b7 dX6_shapes_55 ?_
    refine z_putb C (b := b7) (Nat.le_of_ble_eq_true rfl) rfl rfl 4 (Nat.le_of_ble_eq_true rfl) rfl kiX6_shapes_X6 kfX6_shapes_35 tyX6 tyX6_ok nmX6 rfl (Cr := "ShapeJudge$Book") rfl (isb_lt hb7) dX6_shapes_58 ?_
    refine z_nm (fun m8 e_m8 => ?_)
    replace hf := bn_to e_m8 hf
    refine z_aload_n C 0 dX6_shapes_61 rfl rfl ?_
    refine z_aload_n C 1 dX6_shapes_62 rfl rfl ?_
    refine z_putb C (b := b6) (Nat.le_of_ble_eq_true rfl) rfl rfl 5 (Nat.le_of_ble_eq_true rfl) rfl kiX6_shapes_X6 kfX6_shapes_39 tyX6 tyX6_ok nmX6 rfl (Cr := "ShapeJudge$Book") rfl (isb_lt hb6) dX6_shapes_63 ?_
    refine z_nm (fun m9 e_m9 => ?_)
    replace hf := bn_to e_m9 hf
    refine z_aload_n C 0 dX6_shapes_66 rfl rfl ?_
    refine z_getr C (t := 39) (Nat.le_of_ble_eq_true rfl) rfl rfl 3 (Nat.le_of_ble_eq_true rfl) rfl kiX6_shapes_X6 kfX6_shapes_47 dX6_shapes_67 ?_
    refine z_aload_n C 0 dX6_shapes_70 rfl rfl ?_
    obtain ⟨b10, hb10, e_b10, hf⟩ := zbk_el hf
    refine z_getb C (b := b10) (Nat.le_of_ble_eq_true rfl) rfl rfl 4 (Nat.le_of_ble_eq_true rfl) rfl kiX6_shapes_X6 kfX6_shapes_35 (isb_lt hb10) e_b10 dX6_shapes_71 ?_
    obtain ⟨m12, hc11, hf⟩ := zb_el hf
    refine z_cVv C (c_X2_follow _ _ hb10 hc11) rfl gX6_shapes_X2_follow rfl rfl zdX2_follow rfl (Nat.le_of_ble_eq_true rfl) rfl rfl rfl ⟨Nat.le_of_ble_eq_true rfl, Nat.le_of_ble_eq_true rfl⟩ (Nat.le_of_ble_eq_true rfl) dX6_shapes_74 rfl ?_
    refine z_aload_n C 0 dX6_shapes_77 rfl rfl ?_
    obtain ⟨b13, hb13, e_b13, hf⟩ := zbk_el hf
    refine z_getb C (b := b13) (Nat.le_of_ble_eq_true rfl) rfl rfl 4 (Nat.le_of_ble_eq_true rfl) rfl kiX6_shapes_X6 kfX6_shapes_35 (isb_lt hb13) e_b13 dX6_shapes_78 ?_
    refine z_geti C (isb_k0 hb13) (isb_L0 hb13) rfl 0 (Nat.le_of_ble_eq_true rfl) rfl kiX6_shapes_X0 kfX6_shapes_116 dX6_shapes_81 ?_
    obtain ⟨e1, e2⟩ := sp_el hf
    subst e1
    subst e2
    exact hret _ _ dX6_shapes_84
  · replace hf := if_f c14 hf
    refine z_bipush C (v := (-10)) dX6_shapes_37 (by decide) ?_
    refine z_aload_n C 0 dX6_shapes_39 rfl rfl ?_
    refine z_getr C (t := 9) (Nat.le_of_ble_eq_true rfl) rfl rfl 2 (Nat.le_of_ble_eq_true rfl) rfl kiX6_shapes_X6 kfX6_shapes_28 dX6_shapes_40 ?_
    refine z_geti C (Nat.le_of_ble_eq_true rfl) rfl rfl 9 (Nat.le_of_ble_eq_true rfl) rfl kiX6_shapes_X4 kfX6_shapes_110 dX6_shapes_43 ?_
    refine z_isub C dX6_shapes_46 ?_
    obtain ⟨e1, e2⟩ := sp_el hf
    subst e1
    subst e2
    exact hret _ _ dX6_shapes_47
set_option maxRecDepth 20000 in
theorem ggX6_surely_X6_isPair : GoodIn wsX6_surely wsX6_isPair := goodIn_sub (List.forall_mem_cons.mpr ⟨(List.mem_of_getElem? (i := 7) rfl), (List.forall_mem_append.mpr ⟨(List.forall_mem_append.mpr ⟨(List.forall_mem_append.mpr ⟨(List.forall_mem_cons.mpr ⟨(List.mem_of_getElem? (i := 8) rfl), (List.forall_mem_cons.mpr ⟨(List.mem_of_getElem? (i := 9) rfl), (List.forall_mem_cons.mpr ⟨(List.mem_of_getElem? (i := 10) rfl), (List.forall_mem_cons.mpr ⟨(List.mem_of_getElem? (i := 11) rfl), (List.forall_mem_cons.mpr ⟨(List.mem_of_getElem? (i := 12) rfl), (List.forall_mem_cons.mpr ⟨(List.mem_of_getElem? (i := 13) rfl), (List.forall_mem_cons.mpr ⟨(List.mem_of_getElem? (i := 14) rfl), (List.forall_mem_cons.mpr ⟨(List.mem_of_getElem? (i := 15) rfl), (List.forall_mem_cons.mpr ⟨(List.mem_of_getElem? (i := 16) rfl), (List.forall_mem_cons.mpr ⟨(List.mem_of_getElem? (i := 17) rfl), (List.forall_mem_cons.mpr ⟨(List.mem_of_getElem? (i := 18) rfl), (List.forall_mem_cons.mpr ⟨(List.mem_of_getElem? (i := 19) rfl), (List.forall_mem_cons.mpr ⟨(List.mem_of_getElem? (i := 20) rfl), (List.forall_mem_cons.mpr ⟨(List.mem_of_getElem? (i := 21) rfl), (fun _ h => absurd h List.not_mem_nil)⟩)⟩)⟩)⟩)⟩)⟩)⟩)⟩)⟩)⟩)⟩)⟩)⟩)⟩), (fun _ h => (List.mem_cons_of_mem _ (List.mem_append_left _ (List.mem_append_left _ (List.mem_append_left _ (List.mem_append_right _ h))))))⟩), (fun _ h => (List.mem_cons_of_mem _ (List.mem_append_left _ (List.mem_append_right _ h))))⟩), (fun _ h => (List.mem_cons_of_mem _ (List.mem_append_right _ h)))⟩)⟩) (by decide +kernel)
set_option maxRecDepth 20000 in
theorem gX6_surely_X6_isPair : GoodIn wsX6_surely (wsV RX6 119 RX6 yX6_isPair wsX6_isPair) := goodIn_app (goodIn_sub (List.forall_mem_cons.mpr ⟨(List.mem_of_getElem? (i := 3) rfl), (List.forall_mem_cons.mpr ⟨(List.mem_of_getElem? (i := 4) rfl), (List.forall_mem_cons.mpr ⟨(List.mem_of_getElem? (i := 5) rfl), (List.forall_mem_cons.mpr ⟨(List.mem_of_getElem? (i := 6) rfl), (fun _ h => absurd h List.not_mem_nil)⟩)⟩)⟩)⟩) (by decide +kernel)) ggX6_surely_X6_isPair
set_option maxRecDepth 20000 in
theorem ggX6_surely_X2_readFits : GoodIn wsX6_surely wsX2_readFits := goodIn_sub (List.forall_mem_cons.mpr ⟨(List.mem_of_getElem? (i := 26) rfl), (List.forall_mem_append.mpr ⟨(List.forall_mem_append.mpr ⟨(List.forall_mem_append.mpr ⟨(List.forall_mem_append.mpr ⟨(show ∀ w ∈ wsX2_readFits_r1, w ∈ wsX6_surely from (List.forall_mem_cons.mpr ⟨(List.mem_of_getElem? (i := 27) rfl), (List.forall_mem_cons.mpr ⟨(List.mem_of_getElem? (i := 28) rfl), (List.forall_mem_cons.mpr ⟨(List.mem_of_getElem? (i := 29) rfl), (List.forall_mem_cons.mpr ⟨(List.mem_of_getElem? (i := 30) rfl), (List.forall_mem_cons.mpr ⟨(List.mem_of_getElem? (i := 31) rfl), (List.forall_mem_cons.mpr ⟨(List.mem_of_getElem? (i := 32) rfl), (List.forall_mem_cons.mpr ⟨(List.mem_of_getElem? (i := 17) rfl), (List.forall_mem_cons.mpr ⟨(List.mem_of_getElem? (i := 18) rfl), (List.forall_mem_cons.mpr ⟨(List.mem_of_getElem? (i := 19) rfl), (List.forall_mem_cons.mpr ⟨(List.mem_of_getElem? (i := 20) rfl), (List.forall_mem_cons.mpr ⟨(List.mem_of_getElem? (i := 21) rfl), (List.forall_mem_cons.mpr ⟨(List.mem_of_getElem? (i := 33) rfl), (List.forall_mem_cons.mpr ⟨(List.mem_of_getElem? (i := 34) rfl), (List.forall_mem_cons.mpr ⟨(List.mem_of_getElem? (i := 35) rfl), (List.forall_mem_cons.mpr ⟨(List.mem_of_getElem? (i := 25) rfl), (List.forall_mem_cons.mpr ⟨(List.mem_of_getElem? (i := 36) rfl), (List.forall_mem_cons.mpr ⟨(List.mem_of_getElem? (i := 37) rfl), (List.forall_mem_cons.mpr ⟨(List.mem_of_getElem? (i := 38) rfl), (List.forall_mem_cons.mpr ⟨(List.mem_of_getElem? (i := 39) rfl), (List.forall_mem_cons.mpr ⟨(List.mem_of_getElem? (i := 40) rfl), (List.forall_mem_cons.mpr ⟨(List.mem_of_getElem? (i := 41) rfl), (List.forall_mem_cons.mpr ⟨(List.mem_of_getElem? (i := 42) rfl), (List.forall_mem_cons.mpr ⟨(List.mem_of_getElem? (i := 43) rfl), (List.forall_mem_cons.mpr ⟨(List.mem_of_getElem? (i := 44) rfl), (fun _ h => absurd h List.not_mem_nil)⟩)⟩)⟩)⟩)⟩)⟩)⟩)⟩)⟩)⟩)⟩)⟩)⟩)⟩)⟩)⟩)⟩)⟩)⟩)⟩)⟩)⟩)⟩)⟩)), (List.forall_mem_append.mpr ⟨(show ∀ w ∈ wsX2_readFits_r2, w ∈ wsX6_surely from (List.forall_mem_cons.mpr ⟨(List.mem_of_getElem? (i := 45) rfl), (List.forall_mem_cons.mpr ⟨(List.mem_of_getElem? (i := 46) rfl), (List.forall_mem_cons.mpr ⟨(List.mem_of_getElem? (i := 47) rfl), (List.forall_mem_cons.mpr ⟨(List.mem_of_getElem? (i := 48) rfl), (List.forall_mem_cons.mpr ⟨(List.mem_of_getElem? (i := 49) rfl), (List.forall_mem_cons.mpr ⟨(List.mem_of_getElem? (i := 50) rfl), (List.forall_mem_cons.mpr ⟨(List.mem_of_getElem? (i := 51) rfl), (List.forall_mem_cons.mpr ⟨(List.mem_of_getElem? (i := 52) rfl), (List.forall_mem_cons.mpr ⟨(List.mem_of_getElem? (i := 53) rfl), (List.forall_mem_cons.mpr ⟨(List.mem_of_getElem? (i := 54) rfl), (List.forall_mem_cons.mpr ⟨(List.mem_of_getElem? (i := 55) rfl), (List.forall_mem_cons.mpr ⟨(List.mem_of_getElem? (i := 56) rfl), (List.forall_mem_cons.mpr ⟨(List.mem_of_getElem? (i := 57) rfl), (List.forall_mem_cons.mpr ⟨(List.mem_of_getElem? (i := 58) rfl), (List.forall_mem_cons.mpr ⟨(List.mem_of_getElem? (i := 59) rfl), (List.forall_mem_cons.mpr ⟨(List.mem_of_getElem? (i := 60) rfl), (List.forall_mem_cons.mpr ⟨(List.mem_of_getElem? (i := 61) rfl), (List.forall_mem_cons.mpr ⟨(List.mem_of_getElem? (i := 62) rfl), (List.forall_mem_cons.mpr ⟨(List.mem_of_getElem? (i := 63) rfl), (List.forall_mem_cons.mpr ⟨(List.mem_of_getElem? (i := 64) rfl), (List.forall_mem_cons.mpr ⟨(List.mem_of_getElem? (i := 65) rfl), (List.forall_mem_cons.mpr ⟨(List.mem_of_getElem? (i := 66) rfl), (List.forall_mem_cons.mpr ⟨(List.mem_of_getElem? (i := 67) rfl), (List.forall_mem_cons.mpr ⟨(List.mem_of_getElem? (i := 68) rfl), (fun _ h => absurd h List.not_mem_nil)⟩)⟩)⟩)⟩)⟩)⟩)⟩)⟩)⟩)⟩)⟩)⟩)⟩)⟩)⟩)⟩)⟩)⟩)⟩)⟩)⟩)⟩)⟩)⟩)), (show ∀ w ∈ wsX2_readFits_r3, w ∈ wsX6_surely from (List.forall_mem_cons.mpr ⟨(List.mem_of_getElem? (i := 69) rfl), (List.forall_mem_cons.mpr ⟨(List.mem_of_getElem? (i := 70) rfl), (List.forall_mem_cons.mpr ⟨(List.mem_of_getElem? (i := 71) rfl), (List.forall_mem_cons.mpr ⟨(List.mem_of_getElem? (i := 72) rfl), (List.forall_mem_cons.mpr ⟨(List.mem_of_getElem? (i := 73) rfl), (List.forall_mem_cons.mpr ⟨(List.mem_of_getElem? (i := 74) rfl), (List.forall_mem_cons.mpr ⟨(List.mem_of_getElem? (i := 75) rfl), (List.forall_mem_cons.mpr ⟨(List.mem_of_getElem? (i := 76) rfl), (List.forall_mem_cons.mpr ⟨(List.mem_of_getElem? (i := 77) rfl), (List.forall_mem_cons.mpr ⟨(List.mem_of_getElem? (i := 78) rfl), (List.forall_mem_cons.mpr ⟨(List.mem_of_getElem? (i := 79) rfl), (List.forall_mem_cons.mpr ⟨(List.mem_of_getElem? (i := 80) rfl), (List.forall_mem_cons.mpr ⟨(List.mem_of_getElem? (i := 81) rfl), (List.forall_mem_cons.mpr ⟨(List.mem_of_getElem? (i := 82) rfl), (List.forall_mem_cons.mpr ⟨(List.mem_of_getElem? (i := 83) rfl), (List.forall_mem_cons.mpr ⟨(List.mem_of_getElem? (i := 84) rfl), (List.forall_mem_cons.mpr ⟨(List.mem_of_getElem? (i := 85) rfl), (List.forall_mem_cons.mpr ⟨(List.mem_of_getElem? (i := 86) rfl), (List.forall_mem_cons.mpr ⟨(List.mem_of_getElem? (i := 87) rfl), (fun _ h => absurd h List.not_mem_nil)⟩)⟩)⟩)⟩)⟩)⟩)⟩)⟩)⟩)⟩)⟩)⟩)⟩)⟩)⟩)⟩)⟩)⟩)⟩))⟩)⟩), (fun _ h => (List.mem_cons_of_mem _ (List.mem_append_left _ (List.mem_append_left _ (List.mem_append_right _ h)))))⟩), (fun _ h => (List.mem_cons_of_mem _ (List.mem_append_left _ (List.mem_append_right _ h))))⟩), (fun _ h => (List.mem_cons_of_mem _ (List.mem_append_right _ h)))⟩)⟩) (by decide +kernel)
set_option maxRecDepth 20000 in
theorem gX6_surely_X2_readFits : GoodIn wsX6_surely (wsV RX6 123 RX2 yX2_readFits wsX2_readFits) := goodIn_app (goodIn_sub (List.forall_mem_cons.mpr ⟨(List.mem_of_getElem? (i := 22) rfl), (List.forall_mem_cons.mpr ⟨(List.mem_of_getElem? (i := 23) rfl), (List.forall_mem_cons.mpr ⟨(List.mem_of_getElem? (i := 24) rfl), (List.forall_mem_cons.mpr ⟨(List.mem_of_getElem? (i := 25) rfl), (fun _ h => absurd h List.not_mem_nil)⟩)⟩)⟩)⟩) (by decide +kernel)) ggX6_surely_X2_readFits
set_option maxRecDepth 20000 in
theorem ggX6_surely_X2_readSure : GoodIn wsX6_surely wsX2_readSure := goodIn_sub (List.forall_mem_cons.mpr ⟨(List.mem_of_getElem? (i := 91) rfl), (List.forall_mem_append.mpr ⟨(List.forall_mem_append.mpr ⟨(List.forall_mem_append.mpr ⟨(List.forall_mem_append.mpr ⟨(show ∀ w ∈ wsX2_readSure_r1, w ∈ wsX6_surely from (List.forall_mem_cons.mpr ⟨(List.mem_of_getElem? (i := 92) rfl), (List.forall_mem_cons.mpr ⟨(List.mem_of_getElem? (i := 93) rfl), (List.forall_mem_cons.mpr ⟨(List.mem_of_getElem? (i := 94) rfl), (List.forall_mem_cons.mpr ⟨(List.mem_of_getElem? (i := 95) rfl), (List.forall_mem_cons.mpr ⟨(List.mem_of_getElem? (i := 96) rfl), (List.forall_mem_cons.mpr ⟨(List.mem_of_getElem? (i := 25) rfl), (List.forall_mem_cons.mpr ⟨(List.mem_of_getElem? (i := 97) rfl), (List.forall_mem_cons.mpr ⟨(List.mem_of_getElem? (i := 29) rfl), (List.forall_mem_cons.mpr ⟨(List.mem_of_getElem? (i := 37) rfl), (List.forall_mem_cons.mpr ⟨(List.mem_of_getElem? (i := 30) rfl), (List.forall_mem_cons.mpr ⟨(List.mem_of_getElem? (i := 31) rfl), (List.forall_mem_cons.mpr ⟨(List.mem_of_getElem? (i := 39) rfl), (List.forall_mem_cons.mpr ⟨(List.mem_of_getElem? (i := 40) rfl), (List.forall_mem_cons.mpr ⟨(List.mem_of_getElem? (i := 41) rfl), (List.forall_mem_cons.mpr ⟨(List.mem_of_getElem? (i := 42) rfl), (List.forall_mem_cons.mpr ⟨(List.mem_of_getElem? (i := 43) rfl), (List.forall_mem_cons.mpr ⟨(List.mem_of_getElem? (i := 44) rfl), (List.forall_mem_cons.mpr ⟨(List.mem_of_getElem? (i := 45) rfl), (List.forall_mem_cons.mpr ⟨(List.mem_of_getElem? (i := 46) rfl), (List.forall_mem_cons.mpr ⟨(List.mem_of_getElem? (i := 47) rfl), (List.forall_mem_cons.mpr ⟨(List.mem_of_getElem? (i := 48) rfl), (List.forall_mem_cons.mpr ⟨(List.mem_of_getElem? (i := 49) rfl), (List.forall_mem_cons.mpr ⟨(List.mem_of_getElem? (i := 50) rfl), (List.forall_mem_cons.mpr ⟨(List.mem_of_getElem? (i := 51) rfl), (fun _ h => absurd h List.not_mem_nil)⟩)⟩)⟩)⟩)⟩)⟩)⟩)⟩)⟩)⟩)⟩)⟩)⟩)⟩)⟩)⟩)⟩)⟩)⟩)⟩)⟩)⟩)⟩)⟩)), (List.forall_mem_append.mpr ⟨(show ∀ w ∈ wsX2_readSure_r2, w ∈ wsX6_surely from (List.forall_mem_cons.mpr ⟨(List.mem_of_getElem? (i := 52) rfl), (List.forall_mem_cons.mpr ⟨(List.mem_of_getElem? (i := 53) rfl), (List.forall_mem_cons.mpr ⟨(List.mem_of_getElem? (i := 54) rfl), (List.forall_mem_cons.mpr ⟨(List.mem_of_getElem? (i := 55) rfl), (List.forall_mem_cons.mpr ⟨(List.mem_of_getElem? (i := 56) rfl), (List.forall_mem_cons.mpr ⟨(List.mem_of_getElem? (i := 57) rfl), (List.forall_mem_cons.mpr ⟨(List.mem_of_getElem? (i := 58) rfl), (List.forall_mem_cons.mpr ⟨(List.mem_of_getElem? (i := 59) rfl), (List.forall_mem_cons.mpr ⟨(List.mem_of_getElem? (i := 60) rfl), (List.forall_mem_cons.mpr ⟨(List.mem_of_getElem? (i := 61) rfl), (List.forall_mem_cons.mpr ⟨(List.mem_of_getElem? (i := 62) rfl), (List.forall_mem_cons.mpr ⟨(List.mem_of_getElem? (i := 63) rfl), (List.forall_mem_cons.mpr ⟨(List.mem_of_getElem? (i := 64) rfl), (List.forall_mem_cons.mpr ⟨(List.mem_of_getElem? (i := 65) rfl), (List.forall_mem_cons.mpr ⟨(List.mem_of_getElem? (i := 66) rfl), (List.forall_mem_cons.mpr ⟨(List.mem_of_getElem? (i := 67) rfl), (List.forall_mem_cons.mpr ⟨(List.mem_of_getElem? (i := 68) rfl), (List.forall_mem_cons.mpr ⟨(List.mem_of_getElem? (i := 69) rfl), (List.forall_mem_cons.mpr ⟨(List.mem_of_getElem? (i := 70) rfl), (List.forall_mem_cons.mpr ⟨(List.mem_of_getElem? (i := 71) rfl), (List.forall_mem_cons.mpr ⟨(List.mem_of_getElem? (i := 72) rfl), (List.forall_mem_cons.mpr ⟨(List.mem_of_getElem? (i := 73) rfl), (List.forall_mem_cons.mpr ⟨(List.mem_of_getElem? (i := 74) rfl), (List.forall_mem_cons.mpr ⟨(List.mem_of_getElem? (i := 75) rfl), (fun _ h => absurd h List.not_mem_nil)⟩)⟩)⟩)⟩)⟩)⟩)⟩)⟩)⟩)⟩)⟩)⟩)⟩)⟩)⟩)⟩)⟩)⟩)⟩)⟩)⟩)⟩)⟩)⟩)), (show ∀ w ∈ wsX2_readSure_r3, w ∈ wsX6_surely from (List.forall_mem_cons.mpr ⟨(List.mem_of_getElem? (i := 76) rfl), (List.forall_mem_cons.mpr ⟨(List.mem_of_getElem? (i := 28) rfl), (List.forall_mem_cons.mpr ⟨(List.mem_of_getElem? (i := 77) rfl), (List.forall_mem_cons.mpr ⟨(List.mem_of_getElem? (i := 78) rfl), (List.forall_mem_cons.mpr ⟨(List.mem_of_getElem? (i := 79) rfl), (List.forall_mem_cons.mpr ⟨(List.mem_of_getElem? (i := 80) rfl), (List.forall_mem_cons.mpr ⟨(List.mem_of_getElem? (i := 81) rfl), (List.forall_mem_cons.mpr ⟨(List.mem_of_getElem? (i := 82) rfl), (List.forall_mem_cons.mpr ⟨(List.mem_of_getElem? (i := 83) rfl), (List.forall_mem_cons.mpr ⟨(List.mem_of_getElem? (i := 84) rfl), (List.forall_mem_cons.mpr ⟨(List.mem_of_getElem? (i := 85) rfl), (List.forall_mem_cons.mpr ⟨(List.mem_of_getElem? (i := 86) rfl), (List.forall_mem_cons.mpr ⟨(List.mem_of_getElem? (i := 87) rfl), (fun _ h => absurd h List.not_mem_nil)⟩)⟩)⟩)⟩)⟩)⟩)⟩)⟩)⟩)⟩)⟩)⟩)⟩))⟩)⟩), (fun _ h => (List.mem_cons_of_mem _ (List.mem_append_left _ (List.mem_append_left _ (List.mem_append_right _ h)))))⟩), (fun _ h => (List.mem_cons_of_mem _ (List.mem_append_right _ h)))⟩), (fun _ h => (List.mem_cons_of_mem _ (List.mem_append_left _ (List.mem_append_right _ h))))⟩)⟩) (by decide +kernel)
set_option maxRecDepth 20000 in
theorem gX6_surely_X2_readSure : GoodIn wsX6_surely (wsV RX6 129 RX2 yX2_readSure wsX2_readSure) := goodIn_app (goodIn_sub (List.forall_mem_cons.mpr ⟨(List.mem_of_getElem? (i := 88) rfl), (List.forall_mem_cons.mpr ⟨(List.mem_of_getElem? (i := 89) rfl), (List.forall_mem_cons.mpr ⟨(List.mem_of_getElem? (i := 90) rfl), (List.forall_mem_cons.mpr ⟨(List.mem_of_getElem? (i := 25) rfl), (fun _ h => absurd h List.not_mem_nil)⟩)⟩)⟩)⟩) (by decide +kernel)) ggX6_surely_X2_readSure
theorem dX6_surely_0 : decode cX6_surely 0 = .ok (.aload_n 0, 1) := by decide +kernel
theorem dX6_surely_1 : decode cX6_surely 1 = .ok (.iload_n 1, 1) := by decide +kernel
theorem dX6_surely_2 : decode cX6_surely 2 = .ok (.iload_n 2, 1) := by decide +kernel
theorem dX6_surely_3 : decode cX6_surely 3 = .ok (.invokevirtual 119, 3) := by decide +kernel
theorem dX6_surely_6 : decode cX6_surely 6 = .ok (.ifCond .ne 5, 3) := by decide +kernel
theorem dX6_surely_9 : decode cX6_surely 9 = .ok (.iconst (-1), 1) := by decide +kernel
theorem dX6_surely_10 : decode cX6_surely 10 = .ok (.ireturn, 1) := by decide +kernel
theorem dX6_surely_11 : decode cX6_surely 11 = .ok (.aload_n 0, 1) := by decide +kernel
theorem dX6_surely_12 : decode cX6_surely 12 = .ok (.getfield 47, 3) := by decide +kernel
theorem dX6_surely_15 : decode cX6_surely 15 = .ok (.invokevirtual 123, 3) := by decide +kernel
theorem dX6_surely_18 : decode cX6_surely 18 = .ok (.aload_n 0, 1) := by decide +kernel
theorem dX6_surely_19 : decode cX6_surely 19 = .ok (.getfield 47, 3) := by decide +kernel
theorem dX6_surely_22 : decode cX6_surely 22 = .ok (.invokevirtual 129, 3) := by decide +kernel
theorem dX6_surely_25 : decode cX6_surely 25 = .ok (.aload_n 0, 1) := by decide +kernel
theorem dX6_surely_26 : decode cX6_surely 26 = .ok (.getfield 47, 3) := by decide +kernel
theorem dX6_surely_29 : decode cX6_surely 29 = .ok (.getfield 132, 3) := by decide +kernel
theorem dX6_surely_32 : decode cX6_surely 32 = .ok (.iload_n 2, 1) := by decide +kernel
theorem dX6_surely_33 : decode cX6_surely 33 = .ok (.iaload, 1) := by decide +kernel
theorem dX6_surely_34 : decode cX6_surely 34 = .ok (.iload_n 1, 1) := by decide +kernel
theorem dX6_surely_35 : decode cX6_surely 35 = .ok (.ishr, 1) := by decide +kernel
theorem dX6_surely_36 : decode cX6_surely 36 = .ok (.iconst 1, 1) := by decide +kernel
theorem dX6_surely_37 : decode cX6_surely 37 = .ok (.iand, 1) := by decide +kernel
theorem dX6_surely_38 : decode cX6_surely 38 = .ok (.ireturn, 1) := by decide +kernel
def rmX6_surely : Room := { frames := 6, cells := 0, slots := 0, locals := 150 }
theorem zdX6_surely : yX6_surely.cls = RX6 ∧ yX6_surely.cls ≠ "java/lang/invoke/MethodHandle" ∧ yX6_surely.cls ≠ "java/lang/invoke/VarHandle" ∧ (parseMethodDescriptor yX6_surely.desc).map (fun d => d.parameters.length) = some 2 := by decide +kernel
theorem kiX6_surely_X6 : ∀ w ∈ wsX60, w ∈ wsX6_surely := fun _ h => (List.mem_cons_of_mem _ (List.mem_append_left _ (List.mem_append_left _ (List.mem_append_left _ (List.mem_append_right _ h)))))
theorem kfX6_surely_47 : Cond.fieldLink RX6 47 "ShapeJudge" "judge" "LShapeJudge$Judge;" ∈ wsX6_surely := (List.mem_of_getElem? (i := 1) rfl)
theorem kiX6_surely_X2 : ∀ w ∈ wsX20, w ∈ wsX6_surely := fun _ h => (List.mem_cons_of_mem _ (List.mem_append_left _ (List.mem_append_left _ (List.mem_append_right _ h))))
theorem kfX6_surely_132 : Cond.fieldLink RX6 132 "ShapeJudge$Judge" "sure" "[I" ∈ wsX6_surely := (List.mem_of_getElem? (i := 2) rfl)
def s_X6_surely (m : Mem) (a1 : Int32) (a2 : Int32) : Option (Int32 × Mem) :=
  (s_X6_isPair m a1 a2).bind fun r2 => (if r2 = 0 then (some ((-1), m)) else ((s_X2_readFits m).bind fun m4 => (s_X2_readSure m4).bind fun m6 => ck (zin a2 6 = true) (some ((((m6 41 (Int32.toNatClampNeg a2)) >>> (a1 &&& 31)) &&& 1), m6))))
set_option maxRecDepth 100000 in
set_option maxHeartbeats 4000000 in
theorem c_X6_surely (l : Launch) (w : ZW) {m : Mem} {a1 : Int32} {a2 : Int32} {r9 : Int32} {m9 : Mem}  (hf : s_X6_surely m a1 a2 = some (r9, m9)) : zCi MX l w yX6_surely wsX6_surely rmX6_surely [.ref (w.2.1 0), .int a1, .int a2] m m9 r9 := by
  refine z_met_i MX_ok (own := RX6) (by decide +kernel) rfl rfl (Nat.le_of_ble_eq_true rfl) ?_
  intro K C hKw hKl hret
  subst hKw
  subst hKl
  unfold s_X6_surely at hf
  show zGo MX K m [(0, .ref ((zw K).2.1 0)), (1, .int a1), (2, .int a2)] 0 []
  refine z_aload_n C 0 dX6_surely_0 rfl rfl ?_
  refine z_iload_n C 1 dX6_surely_1 rfl rfl ?_
  refine z_iload_n C 2 dX6_surely_2 rfl rfl ?_
  obtain ⟨r2, hc1, hf⟩ := zb_el hf
  refine z_cVi C (c_X6_isPair _ _ hc1) rfl gX6_surely_X6_isPair rfl rfl zdX6_isPair rfl (Nat.le_of_ble_eq_true rfl) rfl rfl rfl ⟨Nat.le_of_ble_eq_true rfl, Nat.le_of_ble_eq_true rfl⟩ (Nat.le_of_ble_eq_true rfl) dX6_surely_3 rfl ?_
  refine z_if_ne (tgt := 11) C dX6_surely_6 (by decide) (fun c8 => ?_) (fun c8 => ?_)
  · replace hf := if_f c8 hf
    refine z_aload_n C 0 dX6_surely_11 rfl rfl ?_
    refine z_getr C (t := 39) (Nat.le_of_ble_eq_true rfl) rfl rfl 3 (Nat.le_of_ble_eq_true rfl) rfl kiX6_surely_X6 kfX6_surely_47 dX6_surely_12 ?_
    obtain ⟨m4, hc3, hf⟩ := zb_el hf
    refine z_cVv C (c_X2_readFits _ _ hc3) rfl gX6_surely_X2_readFits rfl rfl zdX2_readFits rfl (Nat.le_of_ble_eq_true rfl) rfl rfl rfl ⟨Nat.le_of_ble_eq_true rfl, Nat.le_of_ble_eq_true rfl⟩ (Nat.le_of_ble_eq_true rfl) dX6_surely_15 rfl ?_
    refine z_aload_n C 0 dX6_surely_18 rfl rfl ?_
    refine z_getr C (t := 39) (Nat.le_of_ble_eq_true rfl) rfl rfl 3 (Nat.le_of_ble_eq_true rfl) rfl kiX6_surely_X6 kfX6_surely_47 dX6_surely_19 ?_
    obtain ⟨m6, hc5, hf⟩ := zb_el hf
    refine z_cVv C (c_X2_readSure _ _ hc5) rfl gX6_surely_X2_readSure rfl rfl zdX2_readSure rfl (Nat.le_of_ble_eq_true rfl) rfl rfl rfl ⟨Nat.le_of_ble_eq_true rfl, Nat.le_of_ble_eq_true rfl⟩ (Nat.le_of_ble_eq_true rfl) dX6_surely_22 rfl ?_
    refine z_aload_n C 0 dX6_surely_25 rfl rfl ?_
    refine z_getr C (t := 39) (Nat.le_of_ble_eq_true rfl) rfl rfl 3 (Nat.le_of_ble_eq_true rfl) rfl kiX6_surely_X6 kfX6_surely_47 dX6_surely_26 ?_
    refine z_getr C (t := 41) (Nat.le_of_ble_eq_true rfl) rfl rfl 3 (Nat.le_of_ble_eq_true rfl) rfl kiX6_surely_X2 kfX6_surely_132 dX6_surely_29 ?_
    refine z_iload_n C 2 dX6_surely_32 rfl rfl ?_
    obtain ⟨hi7, hf⟩ := ck_el hf
    refine z_iald C (k := 41) (Nat.le_of_ble_eq_true rfl) rfl hi7 dX6_surely_33 ?_
    refine z_iload_n C 1 dX6_surely_34 rfl rfl ?_
    refine z_ishr C dX6_surely_35 ?_
    refine z_iconst C (v := 1) dX6_surely_36 rfl ?_
    refine z_iand C dX6_surely_37 ?_
    obtain ⟨e1, e2⟩ := sp_el hf
    subst e1
    subst e2
    exact hret _ _ dX6_surely_38
  · replace hf := if_t c8 hf
    refine z_iconst C (v := (-1)) dX6_surely_9 (by decide) ?_
    obtain ⟨e1, e2⟩ := sp_el hf
    subst e1
    subst e2
    exact hret _ _ dX6_surely_10
set_option maxRecDepth 20000 in
theorem ggX6_told_X0_hasShape : GoodIn wsX6_told wsX0_hasShape := goodIn_sub (List.forall_mem_cons.mpr ⟨(List.mem_of_getElem? (i := 9) rfl), (List.forall_mem_append.mpr ⟨(List.forall_mem_cons.mpr ⟨(List.mem_of_getElem? (i := 10) rfl), (fun _ h => absurd h List.not_mem_nil)⟩), (fun _ h => (List.mem_cons_of_mem _ (List.mem_append_right _ h)))⟩)⟩) (by decide +kernel)
set_option maxRecDepth 20000 in
theorem gX6_told_X0_hasShape : GoodIn wsX6_told (wsV RX6 135 RX0 yX0_hasShape wsX0_hasShape) := goodIn_app (goodIn_sub (List.forall_mem_cons.mpr ⟨(List.mem_of_getElem? (i := 5) rfl), (List.forall_mem_cons.mpr ⟨(List.mem_of_getElem? (i := 6) rfl), (List.forall_mem_cons.mpr ⟨(List.mem_of_getElem? (i := 7) rfl), (List.forall_mem_cons.mpr ⟨(List.mem_of_getElem? (i := 8) rfl), (fun _ h => absurd h List.not_mem_nil)⟩)⟩)⟩)⟩) (by decide +kernel)) ggX6_told_X0_hasShape
theorem dX6_told_0 : decode cX6_told 0 = .ok (.aload_n 0, 1) := by decide +kernel
theorem dX6_told_1 : decode cX6_told 1 = .ok (.getfield 35, 3) := by decide +kernel
theorem dX6_told_4 : decode cX6_told 4 = .ok (.iload_n 1, 1) := by decide +kernel
theorem dX6_told_5 : decode cX6_told 5 = .ok (.invokevirtual 135, 3) := by decide +kernel
theorem dX6_told_8 : decode cX6_told 8 = .ok (.ifCond .ne 5, 3) := by decide +kernel
theorem dX6_told_11 : decode cX6_told 11 = .ok (.iconst (-1), 1) := by decide +kernel
theorem dX6_told_12 : decode cX6_told 12 = .ok (.ireturn, 1) := by decide +kernel
theorem dX6_told_13 : decode cX6_told 13 = .ok (.iload_n 2, 1) := by decide +kernel
theorem dX6_told_14 : decode cX6_told 14 = .ok (.tableswitch 64 0 2 #[26, 36, 46], 26) := by decide +kernel
theorem dX6_told_40 : decode cX6_told 40 = .ok (.aload_n 0, 1) := by decide +kernel
theorem dX6_told_41 : decode cX6_told 41 = .ok (.getfield 35, 3) := by decide +kernel
theorem dX6_told_44 : decode cX6_told 44 = .ok (.getfield 175, 3) := by decide +kernel
theorem dX6_told_47 : decode cX6_told 47 = .ok (.iload_n 1, 1) := by decide +kernel
theorem dX6_told_48 : decode cX6_told 48 = .ok (.iaload, 1) := by decide +kernel
theorem dX6_told_49 : decode cX6_told 49 = .ok (.ireturn, 1) := by decide +kernel
theorem dX6_told_50 : decode cX6_told 50 = .ok (.aload_n 0, 1) := by decide +kernel
theorem dX6_told_51 : decode cX6_told 51 = .ok (.getfield 35, 3) := by decide +kernel
theorem dX6_told_54 : decode cX6_told 54 = .ok (.getfield 178, 3) := by decide +kernel
theorem dX6_told_57 : decode cX6_told 57 = .ok (.iload_n 1, 1) := by decide +kernel
theorem dX6_told_58 : decode cX6_told 58 = .ok (.iaload, 1) := by decide +kernel
theorem dX6_told_59 : decode cX6_told 59 = .ok (.ireturn, 1) := by decide +kernel
theorem dX6_told_60 : decode cX6_told 60 = .ok (.aload_n 0, 1) := by decide +kernel
theorem dX6_told_61 : decode cX6_told 61 = .ok (.getfield 35, 3) := by decide +kernel
theorem dX6_told_64 : decode cX6_told 64 = .ok (.getfield 181, 3) := by decide +kernel
theorem dX6_told_67 : decode cX6_told 67 = .ok (.iload_n 1, 1) := by decide +kernel
theorem dX6_told_68 : decode cX6_told 68 = .ok (.baload, 1) := by decide +kernel
theorem dX6_told_69 : decode cX6_told 69 = .ok (.ifCond .eq 7, 3) := by decide +kernel
theorem dX6_told_72 : decode cX6_told 72 = .ok (.iconst 1, 1) := by decide +kernel
theorem dX6_told_73 : decode cX6_told 73 = .ok (.goto 4, 3) := by decide +kernel
theorem dX6_told_76 : decode cX6_told 76 = .ok (.iconst 0, 1) := by decide +kernel
theorem dX6_told_77 : decode cX6_told 77 = .ok (.ireturn, 1) := by decide +kernel
theorem dX6_told_78 : decode cX6_told 78 = .ok (.iconst (-1), 1) := by decide +kernel
theorem dX6_told_79 : decode cX6_told 79 = .ok (.ireturn, 1) := by decide +kernel
def rmX6_told : Room := { frames := 1, cells := 0, slots := 0, locals := 21 }
theorem zdX6_told : yX6_told.cls = RX6 ∧ yX6_told.cls ≠ "java/lang/invoke/MethodHandle" ∧ yX6_told.cls ≠ "java/lang/invoke/VarHandle" ∧ (parseMethodDescriptor yX6_told.desc).map (fun d => d.parameters.length) = some 2 := by decide +kernel
theorem kiX6_told_X6 : ∀ w ∈ wsX60, w ∈ wsX6_told := fun _ h => (List.mem_cons_of_mem _ (List.mem_append_left _ (List.mem_append_right _ h)))
theorem kfX6_told_35 : Cond.fieldLink RX6 35 "ShapeJudge" "book" "LShapeJudge$Book;" ∈ wsX6_told := (List.mem_of_getElem? (i := 1) rfl)
theorem kiX6_told_X0 : ∀ w ∈ wsX00, w ∈ wsX6_told := fun _ h => (List.mem_cons_of_mem _ (List.mem_append_right _ h))
theorem kfX6_told_175 : Cond.fieldLink RX6 175 "ShapeJudge$Book" "word" "[I" ∈ wsX6_told := (List.mem_of_getElem? (i := 2) rfl)
theorem kfX6_told_178 : Cond.fieldLink RX6 178 "ShapeJudge$Book" "partCount" "[I" ∈ wsX6_told := (List.mem_of_getElem? (i := 3) rfl)
theorem kfX6_told_181 : Cond.fieldLink RX6 181 "ShapeJudge$Book" "closed" "[Z" ∈ wsX6_told := (List.mem_of_getElem? (i := 4) rfl)
def s_X6_told (m : Mem) (a1 : Int32) (a2 : Int32) : Option (Int32) :=
  zbk (m 0 4) fun b1 => (s_X0_hasShape m b1 a1).bind fun r3 => (if r3 = 0 then (some (-1)) else ((if a2 = 0 then (zbk (m 0 4) fun b5 => ck (zin a1 6 = true) (some (m (b5 + 1) (Int32.toNatClampNeg a1)))) else ((if a2 = 1 then (zbk (m 0 4) fun b8 => ck (zin a1 6 = true) (some (m (b8 + 2) (Int32.toNatClampNeg a1)))) else ((if a2 = 2 then (zbk (m 0 4) fun b11 => ck (zin a1 6 = true) ((if (m (b11 + 3) (Int32.toNatClampNeg a1)) = 0 then (some 0) else (some 1)))) else (some (-1)))))))))
set_option maxRecDepth 100000 in
set_option maxHeartbeats 4000000 in
theorem c_X6_told (l : Launch) (w : ZW) {m : Mem} {a1 : Int32} {a2 : Int32} {r9 : Int32}  (hf : s_X6_told m a1 a2 = some r9) : zCi MX l w yX6_told wsX6_told rmX6_told [.ref (w.2.1 0), .int a1, .int a2] m m r9 := by
  refine z_met_i MX_ok (own := RX6) (by decide +kernel) rfl rfl (Nat.le_of_ble_eq_true rfl) ?_
  intro K C hKw hKl hret
  subst hKw
  subst hKl
  unfold s_X6_told at hf
  show zGo MX K m [(0, .ref ((zw K).2.1 0)), (1, .int a1), (2, .int a2)] 0 []
  refine z_aload_n C 0 dX6_told_0 rfl rfl ?_
  obtain ⟨b1, hb1, e_b1, hf⟩ := zbk_el hf
  refine z_getb C (b := b1) (Nat.le_of_ble_eq_true rfl) rfl rfl 4 (Nat.le_of_ble_eq_true rfl) rfl kiX6_told_X6 kfX6_told_35 (isb_lt hb1) e_b1 dX6_told_1 ?_
  refine z_iload_n C 1 dX6_told_4 rfl rfl ?_
  obtain ⟨r3, hc2, hf⟩ := zb_el hf
  refine z_cVi C (c_X0_hasShape _ _ hb1 hc2) rfl gX6_told_X0_hasShape rfl rfl zdX0_hasShape rfl (isb_k0 hb1) (isb_L0 hb1) rfl rfl ⟨Nat.le_of_ble_eq_true rfl, Nat.le_of_ble_eq_true rfl⟩ (Nat.le_of_ble_eq_true rfl) dX6_told_5 rfl ?_
  refine z_if_ne (tgt := 13) C dX6_told_8 (by decide) (fun c14 => ?_) (fun c14 => ?_)
  · replace hf := if_f c14 hf
    refine z_iload_n C 2 dX6_told_13 rfl rfl ?_
    refine zby (c := a2 = 0) (fun c4 => ?_) (fun c4 => ?_)
    · replace hf := if_t c4 hf
      refine z_tab (v := 0) (tgt := 40) (off := 26) C c4 dX6_told_14 (by decide) (by decide) rfl (by decide) ?_
      refine z_aload_n C 0 dX6_told_40 rfl rfl ?_
      obtain ⟨b5, hb5, e_b5, hf⟩ := zbk_el hf
      refine z_getb C (b := b5) (Nat.le_of_ble_eq_true rfl) rfl rfl 4 (Nat.le_of_ble_eq_true rfl) rfl kiX6_told_X6 kfX6_told_35 (isb_lt hb5) e_b5 dX6_told_41 ?_
      refine z_getr C (t := b5 + 1) (isb_k0 hb5) (isb_L0 hb5) rfl 3 (Nat.le_of_ble_eq_true rfl) rfl kiX6_told_X0 kfX6_told_175 dX6_told_44 ?_
      refine z_iload_n C 1 dX6_told_47 rfl rfl ?_
      obtain ⟨hi6, hf⟩ := ck_el hf
      refine z_iald C (k := (b5 + 1)) (isb_k1 hb5) (isb_L1 hb5) hi6 dX6_told_48 ?_
      have e1 := Option.some.inj hf
      subst e1
      exact hret _ _ dX6_told_49
    · replace hf := if_f c4 hf
      refine zby (c := a2 = 1) (fun c7 => ?_) (fun c7 => ?_)
      · replace hf := if_t c7 hf
        refine z_tab (v := 1) (tgt := 50) (off := 36) C c7 dX6_told_14 (by decide) (by decide) rfl (by decide) ?_
        refine z_aload_n C 0 dX6_told_50 rfl rfl ?_
        obtain ⟨b8, hb8, e_b8, hf⟩ := zbk_el hf
        refine z_getb C (b := b8) (Nat.le_of_ble_eq_true rfl) rfl rfl 4 (Nat.le_of_ble_eq_true rfl) rfl kiX6_told_X6 kfX6_told_35 (isb_lt hb8) e_b8 dX6_told_51 ?_
        refine z_getr C (t := b8 + 2) (isb_k0 hb8) (isb_L0 hb8) rfl 4 (Nat.le_of_ble_eq_true rfl) rfl kiX6_told_X0 kfX6_told_178 dX6_told_54 ?_
        refine z_iload_n C 1 dX6_told_57 rfl rfl ?_
        obtain ⟨hi9, hf⟩ := ck_el hf
        refine z_iald C (k := (b8 + 2)) (isb_k2 hb8) (isb_L2 hb8) hi9 dX6_told_58 ?_
        have e1 := Option.some.inj hf
        subst e1
        exact hret _ _ dX6_told_59
      · replace hf := if_f c7 hf
        refine zby (c := a2 = 2) (fun c10 => ?_) (fun c10 => ?_)
        · replace hf := if_t c10 hf
          refine z_tab (v := 2) (tgt := 60) (off := 46) C c10 dX6_told_14 (by decide) (by decide) rfl (by decide) ?_
          refine z_aload_n C 0 dX6_told_60 rfl rfl ?_
          obtain ⟨b11, hb11, e_b11, hf⟩ := zbk_el hf
          refine z_getb C (b := b11) (Nat.le_of_ble_eq_true rfl) rfl rfl 4 (Nat.le_of_ble_eq_true rfl) rfl kiX6_told_X6 kfX6_told_35 (isb_lt hb11) e_b11 dX6_told_61 ?_
          refine z_getr C (t := b11 + 3) (isb_k0 hb11) (isb_L0 hb11) rfl 5 (Nat.le_of_ble_eq_true rfl) rfl kiX6_told_X0 kfX6_told_181 dX6_told_64 ?_
          refine z_iload_n C 1 dX6_told_67 rfl rfl ?_
          obtain ⟨hi12, hf⟩ := ck_el hf
          refine z_zald C (k := (b11 + 3)) (isb_k3 hb11) (isb_L3 hb11) hi12 dX6_told_68 ?_
          refine z_if_eq (tgt := 76) C dX6_told_69 (by decide) (fun c13 => ?_) (fun c13 => ?_)
          · replace hf := if_t c13 hf
            refine z_iconst C (v := 0) dX6_told_76 rfl ?_
            have e1 := Option.some.inj hf
            subst e1
            exact hret _ _ dX6_told_77
          · replace hf := if_f c13 hf
            refine z_iconst C (v := 1) dX6_told_72 rfl ?_
            refine z_goto (tgt := 77) C dX6_told_73 (by decide) ?_
            have e1 := Option.some.inj hf
            subst e1
            exact hret _ _ dX6_told_77
        · replace hf := if_f c10 hf
          refine z_tabd (tgt := 78) C dX6_told_14 (ztab_out (n := 3) (Nat.le_of_ble_eq_true rfl) (lt_s (lt_s (lt_s lt_0 c4) c7) c10)) (by decide) ?_
          refine z_iconst C (v := (-1)) dX6_told_78 (by decide) ?_
          have e1 := Option.some.inj hf
          subst e1
          exact hret _ _ dX6_told_79
  · replace hf := if_t c14 hf
    refine z_iconst C (v := (-1)) dX6_told_11 (by decide) ?_
    have e1 := Option.some.inj hf
    subst e1
    exact hret _ _ dX6_told_12
set_option maxRecDepth 20000 in
theorem ggX6_tooMany_X6_isPair : GoodIn wsX6_tooMany wsX6_isPair := goodIn_sub (List.forall_mem_cons.mpr ⟨(List.mem_of_getElem? (i := 6) rfl), (List.forall_mem_append.mpr ⟨(List.forall_mem_append.mpr ⟨(List.forall_mem_append.mpr ⟨(List.forall_mem_cons.mpr ⟨(List.mem_of_getElem? (i := 7) rfl), (List.forall_mem_cons.mpr ⟨(List.mem_of_getElem? (i := 8) rfl), (List.forall_mem_cons.mpr ⟨(List.mem_of_getElem? (i := 9) rfl), (List.forall_mem_cons.mpr ⟨(List.mem_of_getElem? (i := 10) rfl), (List.forall_mem_cons.mpr ⟨(List.mem_of_getElem? (i := 11) rfl), (List.forall_mem_cons.mpr ⟨(List.mem_of_getElem? (i := 12) rfl), (List.forall_mem_cons.mpr ⟨(List.mem_of_getElem? (i := 13) rfl), (List.forall_mem_cons.mpr ⟨(List.mem_of_getElem? (i := 14) rfl), (List.forall_mem_cons.mpr ⟨(List.mem_of_getElem? (i := 15) rfl), (List.forall_mem_cons.mpr ⟨(List.mem_of_getElem? (i := 16) rfl), (List.forall_mem_cons.mpr ⟨(List.mem_of_getElem? (i := 17) rfl), (List.forall_mem_cons.mpr ⟨(List.mem_of_getElem? (i := 18) rfl), (List.forall_mem_cons.mpr ⟨(List.mem_of_getElem? (i := 19) rfl), (List.forall_mem_cons.mpr ⟨(List.mem_of_getElem? (i := 20) rfl), (fun _ h => absurd h List.not_mem_nil)⟩)⟩)⟩)⟩)⟩)⟩)⟩)⟩)⟩)⟩)⟩)⟩)⟩)⟩), (fun _ h => (List.mem_cons_of_mem _ (List.mem_append_left _ (List.mem_append_left _ (List.mem_append_left _ (List.mem_append_right _ h))))))⟩), (fun _ h => (List.mem_cons_of_mem _ (List.mem_append_left _ (List.mem_append_left _ (List.mem_append_right _ h)))))⟩), (fun _ h => (List.mem_cons_of_mem _ (List.mem_append_left _ (List.mem_append_right _ h))))⟩)⟩) (by decide +kernel)
set_option maxRecDepth 20000 in
theorem gX6_tooMany_X6_isPair : GoodIn wsX6_tooMany (wsV RX6 119 RX6 yX6_isPair wsX6_isPair) := goodIn_app (goodIn_sub (List.forall_mem_cons.mpr ⟨(List.mem_of_getElem? (i := 2) rfl), (List.forall_mem_cons.mpr ⟨(List.mem_of_getElem? (i := 3) rfl), (List.forall_mem_cons.mpr ⟨(List.mem_of_getElem? (i := 4) rfl), (List.forall_mem_cons.mpr ⟨(List.mem_of_getElem? (i := 5) rfl), (fun _ h => absurd h List.not_mem_nil)⟩)⟩)⟩)⟩) (by decide +kernel)) ggX6_tooMany_X6_isPair
set_option maxRecDepth 20000 in
theorem ggX6_tooMany_X2_surplusEdges : GoodIn wsX6_tooMany wsX2_surplusEdges := goodIn_sub (List.forall_mem_cons.mpr ⟨(List.mem_of_getElem? (i := 25) rfl), (List.forall_mem_append.mpr ⟨(List.forall_mem_append.mpr ⟨(List.forall_mem_append.mpr ⟨(List.forall_mem_append.mpr ⟨(show ∀ w ∈ wsX2_surplusEdges_r1, w ∈ wsX6_tooMany from (List.forall_mem_cons.mpr ⟨(List.mem_of_getElem? (i := 26) rfl), (List.forall_mem_cons.mpr ⟨(List.mem_of_getElem? (i := 27) rfl), (List.forall_mem_cons.mpr ⟨(List.mem_of_getElem? (i := 28) rfl), (List.forall_mem_cons.mpr ⟨(List.mem_of_getElem? (i := 29) rfl), (List.forall_mem_cons.mpr ⟨(List.mem_of_getElem? (i := 30) rfl), (List.forall_mem_cons.mpr ⟨(List.mem_of_getElem? (i := 31) rfl), (List.forall_mem_cons.mpr ⟨(List.mem_of_getElem? (i := 32) rfl), (List.forall_mem_cons.mpr ⟨(List.mem_of_getElem? (i := 33) rfl), (List.forall_mem_cons.mpr ⟨(List.mem_of_getElem? (i := 24) rfl), (List.forall_mem_cons.mpr ⟨(List.mem_of_getElem? (i := 34) rfl), (List.forall_mem_cons.mpr ⟨(List.mem_of_getElem? (i := 35) rfl), (List.forall_mem_cons.mpr ⟨(List.mem_of_getElem? (i := 36) rfl), (List.forall_mem_cons.mpr ⟨(List.mem_of_getElem? (i := 37) rfl), (List.forall_mem_cons.mpr ⟨(List.mem_of_getElem? (i := 38) rfl), (List.forall_mem_cons.mpr ⟨(List.mem_of_getElem? (i := 16) rfl), (List.forall_mem_cons.mpr ⟨(List.mem_of_getElem? (i := 17) rfl), (List.forall_mem_cons.mpr ⟨(List.mem_of_getElem? (i := 18) rfl), (List.forall_mem_cons.mpr ⟨(List.mem_of_getElem? (i := 19) rfl), (List.forall_mem_cons.mpr ⟨(List.mem_of_getElem? (i := 20) rfl), (List.forall_mem_cons.mpr ⟨(List.mem_of_getElem? (i := 39) rfl), (List.forall_mem_cons.mpr ⟨(List.mem_of_getElem? (i := 40) rfl), (List.forall_mem_cons.mpr ⟨(List.mem_of_getElem? (i := 41) rfl), (List.forall_mem_cons.mpr ⟨(List.mem_of_getElem? (i := 42) rfl), (List.forall_mem_cons.mpr ⟨(List.mem_of_getElem? (i := 43) rfl), (fun _ h => absurd h List.not_mem_nil)⟩)⟩)⟩)⟩)⟩)⟩)⟩)⟩)⟩)⟩)⟩)⟩)⟩)⟩)⟩)⟩)⟩)⟩)⟩)⟩)⟩)⟩)⟩)⟩)), (List.forall_mem_append.mpr ⟨(show ∀ w ∈ wsX2_surplusEdges_r2, w ∈ wsX6_tooMany from (List.forall_mem_cons.mpr ⟨(List.mem_of_getElem? (i := 44) rfl), (List.forall_mem_cons.mpr ⟨(List.mem_of_getElem? (i := 45) rfl), (List.forall_mem_cons.mpr ⟨(List.mem_of_getElem? (i := 46) rfl), (List.forall_mem_cons.mpr ⟨(List.mem_of_getElem? (i := 47) rfl), (List.forall_mem_cons.mpr ⟨(List.mem_of_getElem? (i := 48) rfl), (List.forall_mem_cons.mpr ⟨(List.mem_of_getElem? (i := 49) rfl), (List.forall_mem_cons.mpr ⟨(List.mem_of_getElem? (i := 50) rfl), (List.forall_mem_cons.mpr ⟨(List.mem_of_getElem? (i := 51) rfl), (List.forall_mem_cons.mpr ⟨(List.mem_of_getElem? (i := 52) rfl), (List.forall_mem_cons.mpr ⟨(List.mem_of_getElem? (i := 53) rfl), (List.forall_mem_cons.mpr ⟨(List.mem_of_getElem? (i := 54) rfl), (List.forall_mem_cons.mpr ⟨(List.mem_of_getElem? (i := 55) rfl), (List.forall_mem_cons.mpr ⟨(List.mem_of_getElem? (i := 56) rfl), (List.forall_mem_cons.mpr ⟨(List.mem_of_getElem? (i := 57) rfl), (List.forall_mem_cons.mpr ⟨(List.mem_of_getElem? (i := 58) rfl), (List.forall_mem_cons.mpr ⟨(List.mem_of_getElem? (i := 59) rfl), (List.forall_mem_cons.mpr ⟨(List.mem_of_getElem? (i := 60) rfl), (List.forall_mem_cons.mpr ⟨(List.mem_of_getElem? (i := 61) rfl), (List.forall_mem_cons.mpr ⟨(List.mem_of_getElem? (i := 62) rfl), (List.forall_mem_cons.mpr ⟨(List.mem_of_getElem? (i := 63) rfl), (List.forall_mem_cons.mpr ⟨(List.mem_of_getElem? (i := 64) rfl), (List.forall_mem_cons.mpr ⟨(List.mem_of_getElem? (i := 65) rfl), (List.forall_mem_cons.mpr ⟨(List.mem_of_getElem? (i := 66) rfl), (List.forall_mem_cons.mpr ⟨(List.mem_of_getElem? (i := 67) rfl), (fun _ h => absurd h List.not_mem_nil)⟩)⟩)⟩)⟩)⟩)⟩)⟩)⟩)⟩)⟩)⟩)⟩)⟩)⟩)⟩)⟩)⟩)⟩)⟩)⟩)⟩)⟩)⟩)⟩)), (List.forall_mem_append.mpr ⟨(show ∀ w ∈ wsX2_surplusEdges_r3, w ∈ wsX6_tooMany from (List.forall_mem_cons.mpr ⟨(List.mem_of_getElem? (i := 68) rfl), (List.forall_mem_cons.mpr ⟨(List.mem_of_getElem? (i := 69) rfl), (List.forall_mem_cons.mpr ⟨(List.mem_of_getElem? (i := 70) rfl), (List.forall_mem_cons.mpr ⟨(List.mem_of_getElem? (i := 71) rfl), (List.forall_mem_cons.mpr ⟨(List.mem_of_getElem? (i := 72) rfl), (List.forall_mem_cons.mpr ⟨(List.mem_of_getElem? (i := 73) rfl), (List.forall_mem_cons.mpr ⟨(List.mem_of_getElem? (i := 74) rfl), (List.forall_mem_cons.mpr ⟨(List.mem_of_getElem? (i := 75) rfl), (List.forall_mem_cons.mpr ⟨(List.mem_of_getElem? (i := 76) rfl), (List.forall_mem_cons.mpr ⟨(List.mem_of_getElem? (i := 77) rfl), (List.forall_mem_cons.mpr ⟨(List.mem_of_getElem? (i := 78) rfl), (List.forall_mem_cons.mpr ⟨(List.mem_of_getElem? (i := 79) rfl), (List.forall_mem_cons.mpr ⟨(List.mem_of_getElem? (i := 80) rfl), (List.forall_mem_cons.mpr ⟨(List.mem_of_getElem? (i := 81) rfl), (List.forall_mem_cons.mpr ⟨(List.mem_of_getElem? (i := 82) rfl), (List.forall_mem_cons.mpr ⟨(List.mem_of_getElem? (i := 83) rfl), (List.forall_mem_cons.mpr ⟨(List.mem_of_getElem? (i := 84) rfl), (List.forall_mem_cons.mpr ⟨(List.mem_of_getElem? (i := 85) rfl), (List.forall_mem_cons.mpr ⟨(List.mem_of_getElem? (i := 86) rfl), (List.forall_mem_cons.mpr ⟨(List.mem_of_getElem? (i := 87) rfl), (List.forall_mem_cons.mpr ⟨(List.mem_of_getElem? (i := 88) rfl), (List.forall_mem_cons.mpr ⟨(List.mem_of_getElem? (i := 89) rfl), (List.forall_mem_cons.mpr ⟨(List.mem_of_getElem? (i := 90) rfl), (List.forall_mem_cons.mpr ⟨(List.mem_of_getElem? (i := 91) rfl), (fun _ h => absurd h List.not_mem_nil)⟩)⟩)⟩)⟩)⟩)⟩)⟩)⟩)⟩)⟩)⟩)⟩)⟩)⟩)⟩)⟩)⟩)⟩)⟩)⟩)⟩)⟩)⟩)⟩)), (show ∀ w ∈ wsX2_surplusEdges_r4, w ∈ wsX6_tooMany from (List.forall_mem_cons.mpr ⟨(List.mem_of_getElem? (i := 92) rfl), (List.forall_mem_cons.mpr ⟨(List.mem_of_getElem? (i := 93) rfl), (List.forall_mem_cons.mpr ⟨(List.mem_of_getElem? (i := 94) rfl), (List.forall_mem_cons.mpr ⟨(List.mem_of_getElem? (i := 95) rfl), (List.forall_mem_cons.mpr ⟨(List.mem_of_getElem? (i := 96) rfl), (List.forall_mem_cons.mpr ⟨(List.mem_of_getElem? (i := 97) rfl), (List.forall_mem_cons.mpr ⟨(List.mem_of_getElem? (i := 98) rfl), (List.forall_mem_cons.mpr ⟨(List.mem_of_getElem? (i := 99) rfl), (List.forall_mem_cons.mpr ⟨(List.mem_of_getElem? (i := 100) rfl), (List.forall_mem_cons.mpr ⟨(List.mem_of_getElem? (i := 101) rfl), (List.forall_mem_cons.mpr ⟨(List.mem_of_getElem? (i := 102) rfl), (fun _ h => absurd h List.not_mem_nil)⟩)⟩)⟩)⟩)⟩)⟩)⟩)⟩)⟩)⟩)⟩))⟩)⟩)⟩), (fun _ h => (List.mem_cons_of_mem _ (List.mem_append_right _ h)))⟩), (fun _ h => (List.mem_cons_of_mem _ (List.mem_append_left _ (List.mem_append_left _ (List.mem_append_right _ h)))))⟩), (fun _ h => (List.mem_cons_of_mem _ (List.mem_append_left _ (List.mem_append_right _ h))))⟩)⟩) (by decide +kernel)
set_option maxRecDepth 20000 in
theorem gX6_tooMany_X2_surplusEdges : GoodIn wsX6_tooMany (wsV RX6 154 RX2 yX2_surplusEdges wsX2_surplusEdges) := goodIn_app (goodIn_sub (List.forall_mem_cons.mpr ⟨(List.mem_of_getElem? (i := 21) rfl), (List.forall_mem_cons.mpr ⟨(List.mem_of_getElem? (i := 22) rfl), (List.forall_mem_cons.mpr ⟨(List.mem_of_getElem? (i := 23) rfl), (List.forall_mem_cons.mpr ⟨(List.mem_of_getElem? (i := 24) rfl), (fun _ h => absurd h List.not_mem_nil)⟩)⟩)⟩)⟩) (by decide +kernel)) ggX6_tooMany_X2_surplusEdges
set_option maxRecDepth 20000 in
theorem ggX6_tooMany_J6_bitCount_0f7a4 : GoodIn wsX6_tooMany wsJ6_bitCount_0f7a4 := goodIn_sub (List.forall_mem_cons.mpr ⟨(List.mem_of_getElem? (i := 94) rfl), (List.forall_mem_cons.mpr ⟨(List.mem_of_getElem? (i := 95) rfl), (List.forall_mem_cons.mpr ⟨(List.mem_of_getElem? (i := 96) rfl), (List.forall_mem_cons.mpr ⟨(List.mem_of_getElem? (i := 97) rfl), (fun _ h => absurd h List.not_mem_nil)⟩)⟩)⟩)⟩) (by decide +kernel)
set_option maxRecDepth 20000 in
theorem gX6_tooMany_J6_bitCount_0f7a4 : GoodIn wsX6_tooMany (va_wsS RX6 142 yJ6_bitCount_0f7a4 wsJ6_bitCount_0f7a4) := goodIn_app (goodIn_sub (List.forall_mem_cons.mpr ⟨(List.mem_of_getElem? (i := 103) rfl), (List.forall_mem_cons.mpr ⟨(List.mem_of_getElem? (i := 92) rfl), (List.forall_mem_cons.mpr ⟨(List.mem_of_getElem? (i := 93) rfl), (fun _ h => absurd h List.not_mem_nil)⟩)⟩)⟩) (by decide +kernel)) ggX6_tooMany_J6_bitCount_0f7a4
theorem dX6_tooMany_0 : decode cX6_tooMany 0 = .ok (.aload_n 0, 1) := by decide +kernel
theorem dX6_tooMany_1 : decode cX6_tooMany 1 = .ok (.iload_n 1, 1) := by decide +kernel
theorem dX6_tooMany_2 : decode cX6_tooMany 2 = .ok (.iload_n 2, 1) := by decide +kernel
theorem dX6_tooMany_3 : decode cX6_tooMany 3 = .ok (.invokevirtual 119, 3) := by decide +kernel
theorem dX6_tooMany_6 : decode cX6_tooMany 6 = .ok (.ifCond .ne 5, 3) := by decide +kernel
theorem dX6_tooMany_9 : decode cX6_tooMany 9 = .ok (.iconst (-1), 1) := by decide +kernel
theorem dX6_tooMany_10 : decode cX6_tooMany 10 = .ok (.ireturn, 1) := by decide +kernel
theorem dX6_tooMany_11 : decode cX6_tooMany 11 = .ok (.aload_n 0, 1) := by decide +kernel
theorem dX6_tooMany_12 : decode cX6_tooMany 12 = .ok (.getfield 47, 3) := by decide +kernel
theorem dX6_tooMany_15 : decode cX6_tooMany 15 = .ok (.iload_n 1, 1) := by decide +kernel
theorem dX6_tooMany_16 : decode cX6_tooMany 16 = .ok (.iload_n 2, 1) := by decide +kernel
theorem dX6_tooMany_17 : decode cX6_tooMany 17 = .ok (.invokevirtual 154, 3) := by decide +kernel
theorem dX6_tooMany_20 : decode cX6_tooMany 20 = .ok (.istore_n 3, 1) := by decide +kernel
theorem dX6_tooMany_21 : decode cX6_tooMany 21 = .ok (.iload_n 3, 1) := by decide +kernel
theorem dX6_tooMany_22 : decode cX6_tooMany 22 = .ok (.ifCond .ge 8, 3) := by decide +kernel
theorem dX6_tooMany_25 : decode cX6_tooMany 25 = .ok (.bipush (-4), 2) := by decide +kernel
theorem dX6_tooMany_27 : decode cX6_tooMany 27 = .ok (.goto 7, 3) := by decide +kernel
theorem dX6_tooMany_30 : decode cX6_tooMany 30 = .ok (.iload_n 3, 1) := by decide +kernel
theorem dX6_tooMany_31 : decode cX6_tooMany 31 = .ok (.invokestatic 142, 3) := by decide +kernel
theorem dX6_tooMany_34 : decode cX6_tooMany 34 = .ok (.ireturn, 1) := by decide +kernel
def rmX6_tooMany : Room := { frames := 7, cells := 0, slots := 0, locals := 176 }
theorem zdX6_tooMany : yX6_tooMany.cls = RX6 ∧ yX6_tooMany.cls ≠ "java/lang/invoke/MethodHandle" ∧ yX6_tooMany.cls ≠ "java/lang/invoke/VarHandle" ∧ (parseMethodDescriptor yX6_tooMany.desc).map (fun d => d.parameters.length) = some 2 := by decide +kernel
theorem kiX6_tooMany_X6 : ∀ w ∈ wsX60, w ∈ wsX6_tooMany := fun _ h => (List.mem_cons_of_mem _ (List.mem_append_left _ (List.mem_append_left _ (List.mem_append_left _ (List.mem_append_right _ h)))))
theorem kfX6_tooMany_47 : Cond.fieldLink RX6 47 "ShapeJudge" "judge" "LShapeJudge$Judge;" ∈ wsX6_tooMany := (List.mem_of_getElem? (i := 1) rfl)
def s_X6_tooMany (m : Mem) (a1 : Int32) (a2 : Int32) : Option (Int32 × Mem) :=
  (s_X6_isPair m a1 a2).bind fun r2 => (if r2 = 0 then (some ((-1), m)) else (zb2 (s_X2_surplusEdges m a1 a2) fun r4 m5 => (if 0 ≤ r4 then ((s_J6_bitCount_0f7a4 r4).bind fun r7 => some (r7, m5)) else (some ((-4), m5)))))
set_option maxRecDepth 100000 in
set_option maxHeartbeats 4000000 in
theorem c_X6_tooMany (l : Launch) (w : ZW) {m : Mem} {a1 : Int32} {a2 : Int32} {r9 : Int32} {m9 : Mem}  (hf : s_X6_tooMany m a1 a2 = some (r9, m9)) : zCi MX l w yX6_tooMany wsX6_tooMany rmX6_tooMany [.ref (w.2.1 0), .int a1, .int a2] m m9 r9 := by
  refine z_met_i MX_ok (own := RX6) (by decide +kernel) rfl rfl (Nat.le_of_ble_eq_true rfl) ?_
  intro K C hKw hKl hret
  subst hKw
  subst hKl
  unfold s_X6_tooMany at hf
  show zGo MX K m [(0, .ref ((zw K).2.1 0)), (1, .int a1), (2, .int a2)] 0 []
  refine z_aload_n C 0 dX6_tooMany_0 rfl rfl ?_
  refine z_iload_n C 1 dX6_tooMany_1 rfl rfl ?_
  refine z_iload_n C 2 dX6_tooMany_2 rfl rfl ?_
  obtain ⟨r2, hc1, hf⟩ := zb_el hf
  refine z_cVi C (c_X6_isPair _ _ hc1) rfl gX6_tooMany_X6_isPair rfl rfl zdX6_isPair rfl (Nat.le_of_ble_eq_true rfl) rfl rfl rfl ⟨Nat.le_of_ble_eq_true rfl, Nat.le_of_ble_eq_true rfl⟩ (Nat.le_of_ble_eq_true rfl) dX6_tooMany_3 rfl ?_
  refine z_if_ne (tgt := 11) C dX6_tooMany_6 (by decide) (fun c9 => ?_) (fun c9 => ?_)
  · replace hf := if_f c9 hf
    refine z_aload_n C 0 dX6_tooMany_11 rfl rfl ?_
    refine z_getr C (t := 39) (Nat.le_of_ble_eq_true rfl) rfl rfl 3 (Nat.le_of_ble_eq_true rfl) rfl kiX6_tooMany_X6 kfX6_tooMany_47 dX6_tooMany_12 ?_
    refine z_iload_n C 1 dX6_tooMany_15 rfl rfl ?_
    refine z_iload_n C 2 dX6_tooMany_16 rfl rfl ?_
    obtain ⟨r4, m5, hc3, hf⟩ := zb2_el hf
    refine z_cVi C (c_X2_surplusEdges _ _ hc3) rfl gX6_tooMany_X2_surplusEdges rfl rfl zdX2_surplusEdges rfl (Nat.le_of_ble_eq_true rfl) rfl rfl rfl ⟨Nat.le_of_ble_eq_true rfl, Nat.le_of_ble_eq_true rfl⟩ (Nat.le_of_ble_eq_true rfl) dX6_tooMany_17 rfl ?_
    refine z_istore_n C (lv2 := [(0, .ref ((zw K).2.1 0)), (1, .int a1), (2, .int a2), (3, .int r4)]) [1, 2, 3, 0] dX6_tooMany_20 rfl (Nat.le_of_ble_eq_true rfl) rfl ?_
    refine z_iload_n C 3 dX6_tooMany_21 rfl rfl ?_
    refine z_if_ge (tgt := 30) C dX6_tooMany_22 (by decide) (fun c8 => ?_) (fun c8 => ?_)
    · replace hf := if_t c8 hf
      refine z_iload_n C 3 dX6_tooMany_30 rfl rfl ?_
      obtain ⟨r7, hc6, hf⟩ := zb_el hf
      refine z_cSi C (c_J6_bitCount_0f7a4 _ _ hc6) rfl gX6_tooMany_J6_bitCount_0f7a4 rfl rfl zdJ6_bitCount_0f7a4.2 rfl ⟨Nat.le_of_ble_eq_true rfl, Nat.le_of_ble_eq_true rfl⟩ (Nat.le_of_ble_eq_true rfl) dX6_tooMany_31 rfl ?_
      obtain ⟨e1, e2⟩ := sp_el hf
      subst e1
      subst e2
      exact hret _ _ dX6_tooMany_34
    · replace hf := if_f c8 hf
      refine z_bipush C (v := (-4)) dX6_tooMany_25 (by decide) ?_
      refine z_goto (tgt := 34) C dX6_tooMany_27 (by decide) ?_
      obtain ⟨e1, e2⟩ := sp_el hf
      subst e1
      subst e2
      exact hret _ _ dX6_tooMany_34
  · replace hf := if_t c9 hf
    refine z_iconst C (v := (-1)) dX6_tooMany_9 (by decide) ?_
    obtain ⟨e1, e2⟩ := sp_el hf
    subst e1
    subst e2
    exact hret _ _ dX6_tooMany_10
set_option maxRecDepth 20000 in
theorem ggX6_value_X1_hasNode : GoodIn wsX6_value wsX1_hasNode := goodIn_sub (List.forall_mem_cons.mpr ⟨(List.mem_of_getElem? (i := 7) rfl), (List.forall_mem_append.mpr ⟨(List.forall_mem_cons.mpr ⟨(List.mem_of_getElem? (i := 8) rfl), (fun _ h => absurd h List.not_mem_nil)⟩), (fun _ h => (List.mem_cons_of_mem _ (List.mem_append_left _ (List.mem_append_right _ h))))⟩)⟩) (by decide +kernel)
set_option maxRecDepth 20000 in
theorem gX6_value_X1_hasNode : GoodIn wsX6_value (wsV RX6 65 RX1 yX1_hasNode wsX1_hasNode) := goodIn_app (goodIn_sub (List.forall_mem_cons.mpr ⟨(List.mem_of_getElem? (i := 3) rfl), (List.forall_mem_cons.mpr ⟨(List.mem_of_getElem? (i := 4) rfl), (List.forall_mem_cons.mpr ⟨(List.mem_of_getElem? (i := 5) rfl), (List.forall_mem_cons.mpr ⟨(List.mem_of_getElem? (i := 6) rfl), (fun _ h => absurd h List.not_mem_nil)⟩)⟩)⟩)⟩) (by decide +kernel)) ggX6_value_X1_hasNode
set_option maxRecDepth 20000 in
theorem ggX6_value_X2_forget : GoodIn wsX6_value wsX2_forget := goodIn_sub (List.forall_mem_cons.mpr ⟨(List.mem_of_getElem? (i := 13) rfl), (List.forall_mem_append.mpr ⟨(List.forall_mem_cons.mpr ⟨(List.mem_of_getElem? (i := 14) rfl), (List.forall_mem_cons.mpr ⟨(List.mem_of_getElem? (i := 15) rfl), (fun _ h => absurd h List.not_mem_nil)⟩)⟩), (fun _ h => (List.mem_cons_of_mem _ (List.mem_append_right _ h)))⟩)⟩) (by decide +kernel)
set_option maxRecDepth 20000 in
theorem gX6_value_X2_forget : GoodIn wsX6_value (wsV RX6 58 RX2 yX2_forget wsX2_forget) := goodIn_app (goodIn_sub (List.forall_mem_cons.mpr ⟨(List.mem_of_getElem? (i := 9) rfl), (List.forall_mem_cons.mpr ⟨(List.mem_of_getElem? (i := 10) rfl), (List.forall_mem_cons.mpr ⟨(List.mem_of_getElem? (i := 11) rfl), (List.forall_mem_cons.mpr ⟨(List.mem_of_getElem? (i := 12) rfl), (fun _ h => absurd h List.not_mem_nil)⟩)⟩)⟩)⟩) (by decide +kernel)) ggX6_value_X2_forget
set_option maxRecDepth 20000 in
theorem ggX6_value_X1_setValue : GoodIn wsX6_value wsX1_setValue := goodIn_sub (List.forall_mem_cons.mpr ⟨(List.mem_of_getElem? (i := 19) rfl), (List.forall_mem_append.mpr ⟨(List.forall_mem_cons.mpr ⟨(List.mem_of_getElem? (i := 20) rfl), (List.forall_mem_cons.mpr ⟨(List.mem_of_getElem? (i := 21) rfl), (fun _ h => absurd h List.not_mem_nil)⟩)⟩), (fun _ h => (List.mem_cons_of_mem _ (List.mem_append_left _ (List.mem_append_right _ h))))⟩)⟩) (by decide +kernel)
set_option maxRecDepth 20000 in
theorem gX6_value_X1_setValue : GoodIn wsX6_value (wsV RX6 69 RX1 yX1_setValue wsX1_setValue) := goodIn_app (goodIn_sub (List.forall_mem_cons.mpr ⟨(List.mem_of_getElem? (i := 16) rfl), (List.forall_mem_cons.mpr ⟨(List.mem_of_getElem? (i := 17) rfl), (List.forall_mem_cons.mpr ⟨(List.mem_of_getElem? (i := 18) rfl), (List.forall_mem_cons.mpr ⟨(List.mem_of_getElem? (i := 6) rfl), (fun _ h => absurd h List.not_mem_nil)⟩)⟩)⟩)⟩) (by decide +kernel)) ggX6_value_X1_setValue
theorem dX6_value_0 : decode cX6_value 0 = .ok (.aload_n 0, 1) := by decide +kernel
theorem dX6_value_1 : decode cX6_value 1 = .ok (.getfield 10, 3) := by decide +kernel
theorem dX6_value_4 : decode cX6_value 4 = .ok (.iload_n 1, 1) := by decide +kernel
theorem dX6_value_5 : decode cX6_value 5 = .ok (.invokevirtual 65, 3) := by decide +kernel
theorem dX6_value_8 : decode cX6_value 8 = .ok (.ifCond .ne 5, 3) := by decide +kernel
theorem dX6_value_11 : decode cX6_value 11 = .ok (.iconst (-1), 1) := by decide +kernel
theorem dX6_value_12 : decode cX6_value 12 = .ok (.ireturn, 1) := by decide +kernel
theorem dX6_value_13 : decode cX6_value 13 = .ok (.aload_n 0, 1) := by decide +kernel
theorem dX6_value_14 : decode cX6_value 14 = .ok (.getfield 47, 3) := by decide +kernel
theorem dX6_value_17 : decode cX6_value 17 = .ok (.invokevirtual 58, 3) := by decide +kernel
theorem dX6_value_20 : decode cX6_value 20 = .ok (.aload_n 0, 1) := by decide +kernel
theorem dX6_value_21 : decode cX6_value 21 = .ok (.getfield 10, 3) := by decide +kernel
theorem dX6_value_24 : decode cX6_value 24 = .ok (.iload_n 1, 1) := by decide +kernel
theorem dX6_value_25 : decode cX6_value 25 = .ok (.iload_n 2, 1) := by decide +kernel
theorem dX6_value_26 : decode cX6_value 26 = .ok (.iload_n 3, 1) := by decide +kernel
theorem dX6_value_27 : decode cX6_value 27 = .ok (.invokevirtual 69, 3) := by decide +kernel
theorem dX6_value_30 : decode cX6_value 30 = .ok (.iconst 1, 1) := by decide +kernel
theorem dX6_value_31 : decode cX6_value 31 = .ok (.ireturn, 1) := by decide +kernel
def rmX6_value : Room := { frames := 1, cells := 0, slots := 0, locals := 23 }
theorem zdX6_value : yX6_value.cls = RX6 ∧ yX6_value.cls ≠ "java/lang/invoke/MethodHandle" ∧ yX6_value.cls ≠ "java/lang/invoke/VarHandle" ∧ (parseMethodDescriptor yX6_value.desc).map (fun d => d.parameters.length) = some 3 := by decide +kernel
theorem kiX6_value_X6 : ∀ w ∈ wsX60, w ∈ wsX6_value := fun _ h => (List.mem_cons_of_mem _ (List.mem_append_left _ (List.mem_append_left _ (List.mem_append_right _ h))))
theorem kfX6_value_10 : Cond.fieldLink RX6 10 "ShapeJudge" "graph" "LShapeJudge$Graph;" ∈ wsX6_value := (List.mem_of_getElem? (i := 1) rfl)
theorem kfX6_value_47 : Cond.fieldLink RX6 47 "ShapeJudge" "judge" "LShapeJudge$Judge;" ∈ wsX6_value := (List.mem_of_getElem? (i := 2) rfl)
def s_X6_value (m : Mem) (a1 : Int32) (a2 : Int32) (a3 : Int32) : Option (Int32 × Mem) :=
  (s_X1_hasNode m a1).bind fun r2 => (if r2 = 0 then (some ((-1), m)) else ((s_X2_forget m).bind fun m4 => (s_X1_setValue m4 a1 a2 a3).bind fun m6 => some (1, m6)))
set_option maxRecDepth 100000 in
set_option maxHeartbeats 4000000 in
theorem c_X6_value (l : Launch) (w : ZW) {m : Mem} {a1 : Int32} {a2 : Int32} {a3 : Int32} {r9 : Int32} {m9 : Mem}  (hf : s_X6_value m a1 a2 a3 = some (r9, m9)) : zCi MX l w yX6_value wsX6_value rmX6_value [.ref (w.2.1 0), .int a1, .int a2, .int a3] m m9 r9 := by
  refine z_met_i MX_ok (own := RX6) (by decide +kernel) rfl rfl (Nat.le_of_ble_eq_true rfl) ?_
  intro K C hKw hKl hret
  subst hKw
  subst hKl
  unfold s_X6_value at hf
  show zGo MX K m [(0, .ref ((zw K).2.1 0)), (1, .int a1), (2, .int a2), (3, .int a3)] 0 []
  refine z_aload_n C 0 dX6_value_0 rfl rfl ?_
  refine z_getr C (t := 1) (Nat.le_of_ble_eq_true rfl) rfl rfl 0 (Nat.le_of_ble_eq_true rfl) rfl kiX6_value_X6 kfX6_value_10 dX6_value_1 ?_
  refine z_iload_n C 1 dX6_value_4 rfl rfl ?_
  obtain ⟨r2, hc1, hf⟩ := zb_el hf
  refine z_cVi C (c_X1_hasNode _ _ hc1) rfl gX6_value_X1_hasNode rfl rfl zdX1_hasNode rfl (Nat.le_of_ble_eq_true rfl) rfl rfl rfl ⟨Nat.le_of_ble_eq_true rfl, Nat.le_of_ble_eq_true rfl⟩ (Nat.le_of_ble_eq_true rfl) dX6_value_5 rfl ?_
  refine z_if_ne (tgt := 13) C dX6_value_8 (by decide) (fun c7 => ?_) (fun c7 => ?_)
  · replace hf := if_f c7 hf
    refine z_aload_n C 0 dX6_value_13 rfl rfl ?_
    refine z_getr C (t := 39) (Nat.le_of_ble_eq_true rfl) rfl rfl 3 (Nat.le_of_ble_eq_true rfl) rfl kiX6_value_X6 kfX6_value_47 dX6_value_14 ?_
    obtain ⟨m4, hc3, hf⟩ := zb_el hf
    refine z_cVv C (c_X2_forget _ _ hc3) rfl gX6_value_X2_forget rfl rfl zdX2_forget rfl (Nat.le_of_ble_eq_true rfl) rfl rfl rfl ⟨Nat.le_of_ble_eq_true rfl, Nat.le_of_ble_eq_true rfl⟩ (Nat.le_of_ble_eq_true rfl) dX6_value_17 rfl ?_
    refine z_aload_n C 0 dX6_value_20 rfl rfl ?_
    refine z_getr C (t := 1) (Nat.le_of_ble_eq_true rfl) rfl rfl 0 (Nat.le_of_ble_eq_true rfl) rfl kiX6_value_X6 kfX6_value_10 dX6_value_21 ?_
    refine z_iload_n C 1 dX6_value_24 rfl rfl ?_
    refine z_iload_n C 2 dX6_value_25 rfl rfl ?_
    refine z_iload_n C 3 dX6_value_26 rfl rfl ?_
    obtain ⟨m6, hc5, hf⟩ := zb_el hf
    refine z_cVv C (c_X1_setValue _ _ hc5) rfl gX6_value_X1_setValue rfl rfl zdX1_setValue rfl (Nat.le_of_ble_eq_true rfl) rfl rfl rfl ⟨Nat.le_of_ble_eq_true rfl, Nat.le_of_ble_eq_true rfl⟩ (Nat.le_of_ble_eq_true rfl) dX6_value_27 rfl ?_
    refine z_iconst C (v := 1) dX6_value_30 rfl ?_
    obtain ⟨e1, e2⟩ := sp_el hf
    subst e1
    subst e2
    exact hret _ _ dX6_value_31
  · replace hf := if_t c7 hf
    refine z_iconst C (v := (-1)) dX6_value_11 (by decide) ?_
    obtain ⟨e1, e2⟩ := sp_el hf
    subst e1
    subst e2
    exact hret _ _ dX6_value_12
set_option maxRecDepth 20000 in
theorem ggX6_wanted_X6_isPair : GoodIn wsX6_wanted wsX6_isPair := goodIn_sub (List.forall_mem_cons.mpr ⟨(List.mem_of_getElem? (i := 6) rfl), (List.forall_mem_append.mpr ⟨(List.forall_mem_append.mpr ⟨(List.forall_mem_append.mpr ⟨(List.forall_mem_cons.mpr ⟨(List.mem_of_getElem? (i := 7) rfl), (List.forall_mem_cons.mpr ⟨(List.mem_of_getElem? (i := 8) rfl), (List.forall_mem_cons.mpr ⟨(List.mem_of_getElem? (i := 9) rfl), (List.forall_mem_cons.mpr ⟨(List.mem_of_getElem? (i := 10) rfl), (List.forall_mem_cons.mpr ⟨(List.mem_of_getElem? (i := 11) rfl), (List.forall_mem_cons.mpr ⟨(List.mem_of_getElem? (i := 12) rfl), (List.forall_mem_cons.mpr ⟨(List.mem_of_getElem? (i := 13) rfl), (List.forall_mem_cons.mpr ⟨(List.mem_of_getElem? (i := 14) rfl), (List.forall_mem_cons.mpr ⟨(List.mem_of_getElem? (i := 15) rfl), (List.forall_mem_cons.mpr ⟨(List.mem_of_getElem? (i := 16) rfl), (List.forall_mem_cons.mpr ⟨(List.mem_of_getElem? (i := 17) rfl), (List.forall_mem_cons.mpr ⟨(List.mem_of_getElem? (i := 18) rfl), (List.forall_mem_cons.mpr ⟨(List.mem_of_getElem? (i := 19) rfl), (List.forall_mem_cons.mpr ⟨(List.mem_of_getElem? (i := 20) rfl), (fun _ h => absurd h List.not_mem_nil)⟩)⟩)⟩)⟩)⟩)⟩)⟩)⟩)⟩)⟩)⟩)⟩)⟩)⟩), (fun _ h => (List.mem_cons_of_mem _ (List.mem_append_left _ (List.mem_append_left _ (List.mem_append_left _ (List.mem_append_right _ h))))))⟩), (fun _ h => (List.mem_cons_of_mem _ (List.mem_append_left _ (List.mem_append_left _ (List.mem_append_right _ h)))))⟩), (fun _ h => (List.mem_cons_of_mem _ (List.mem_append_left _ (List.mem_append_right _ h))))⟩)⟩) (by decide +kernel)
set_option maxRecDepth 20000 in
theorem gX6_wanted_X6_isPair : GoodIn wsX6_wanted (wsV RX6 119 RX6 yX6_isPair wsX6_isPair) := goodIn_app (goodIn_sub (List.forall_mem_cons.mpr ⟨(List.mem_of_getElem? (i := 2) rfl), (List.forall_mem_cons.mpr ⟨(List.mem_of_getElem? (i := 3) rfl), (List.forall_mem_cons.mpr ⟨(List.mem_of_getElem? (i := 4) rfl), (List.forall_mem_cons.mpr ⟨(List.mem_of_getElem? (i := 5) rfl), (fun _ h => absurd h List.not_mem_nil)⟩)⟩)⟩)⟩) (by decide +kernel)) ggX6_wanted_X6_isPair
set_option maxRecDepth 20000 in
theorem ggX6_wanted_X2_wantedEdges : GoodIn wsX6_wanted wsX2_wantedEdges := goodIn_sub (List.forall_mem_cons.mpr ⟨(List.mem_of_getElem? (i := 25) rfl), (List.forall_mem_append.mpr ⟨(List.forall_mem_append.mpr ⟨(List.forall_mem_append.mpr ⟨(List.forall_mem_cons.mpr ⟨(List.mem_of_getElem? (i := 26) rfl), (List.forall_mem_cons.mpr ⟨(List.mem_of_getElem? (i := 27) rfl), (List.forall_mem_cons.mpr ⟨(List.mem_of_getElem? (i := 28) rfl), (List.forall_mem_cons.mpr ⟨(List.mem_of_getElem? (i := 29) rfl), (List.forall_mem_cons.mpr ⟨(List.mem_of_getElem? (i := 30) rfl), (List.forall_mem_cons.mpr ⟨(List.mem_of_getElem? (i := 31) rfl), (List.forall_mem_cons.mpr ⟨(List.mem_of_getElem? (i := 32) rfl), (List.forall_mem_cons.mpr ⟨(List.mem_of_getElem? (i := 33) rfl), (List.forall_mem_cons.mpr ⟨(List.mem_of_getElem? (i := 24) rfl), (List.forall_mem_cons.mpr ⟨(List.mem_of_getElem? (i := 34) rfl), (List.forall_mem_cons.mpr ⟨(List.mem_of_getElem? (i := 35) rfl), (List.forall_mem_cons.mpr ⟨(List.mem_of_getElem? (i := 36) rfl), (fun _ h => absurd h List.not_mem_nil)⟩)⟩)⟩)⟩)⟩)⟩)⟩)⟩)⟩)⟩)⟩)⟩), (fun _ h => (List.mem_cons_of_mem _ (List.mem_append_right _ h)))⟩), (fun _ h => (List.mem_cons_of_mem _ (List.mem_append_left _ (List.mem_append_left _ (List.mem_append_right _ h)))))⟩), (fun _ h => (List.mem_cons_of_mem _ (List.mem_append_left _ (List.mem_append_right _ h))))⟩)⟩) (by decide +kernel)
set_option maxRecDepth 20000 in
theorem gX6_wanted_X2_wantedEdges : GoodIn wsX6_wanted (wsV RX6 138 RX2 yX2_wantedEdges wsX2_wantedEdges) := goodIn_app (goodIn_sub (List.forall_mem_cons.mpr ⟨(List.mem_of_getElem? (i := 21) rfl), (List.forall_mem_cons.mpr ⟨(List.mem_of_getElem? (i := 22) rfl), (List.forall_mem_cons.mpr ⟨(List.mem_of_getElem? (i := 23) rfl), (List.forall_mem_cons.mpr ⟨(List.mem_of_getElem? (i := 24) rfl), (fun _ h => absurd h List.not_mem_nil)⟩)⟩)⟩)⟩) (by decide +kernel)) ggX6_wanted_X2_wantedEdges
set_option maxRecDepth 20000 in
theorem ggX6_wanted_J6_bitCount_0f7a4 : GoodIn wsX6_wanted wsJ6_bitCount_0f7a4 := goodIn_sub (List.forall_mem_cons.mpr ⟨(List.mem_of_getElem? (i := 40) rfl), (List.forall_mem_cons.mpr ⟨(List.mem_of_getElem? (i := 41) rfl), (List.forall_mem_cons.mpr ⟨(List.mem_of_getElem? (i := 42) rfl), (List.forall_mem_cons.mpr ⟨(List.mem_of_getElem? (i := 43) rfl), (fun _ h => absurd h List.not_mem_nil)⟩)⟩)⟩)⟩) (by decide +kernel)
set_option maxRecDepth 20000 in
theorem gX6_wanted_J6_bitCount_0f7a4 : GoodIn wsX6_wanted (va_wsS RX6 142 yJ6_bitCount_0f7a4 wsJ6_bitCount_0f7a4) := goodIn_app (goodIn_sub (List.forall_mem_cons.mpr ⟨(List.mem_of_getElem? (i := 37) rfl), (List.forall_mem_cons.mpr ⟨(List.mem_of_getElem? (i := 38) rfl), (List.forall_mem_cons.mpr ⟨(List.mem_of_getElem? (i := 39) rfl), (fun _ h => absurd h List.not_mem_nil)⟩)⟩)⟩) (by decide +kernel)) ggX6_wanted_J6_bitCount_0f7a4
theorem dX6_wanted_0 : decode cX6_wanted 0 = .ok (.aload_n 0, 1) := by decide +kernel
theorem dX6_wanted_1 : decode cX6_wanted 1 = .ok (.iload_n 1, 1) := by decide +kernel
theorem dX6_wanted_2 : decode cX6_wanted 2 = .ok (.iload_n 2, 1) := by decide +kernel
theorem dX6_wanted_3 : decode cX6_wanted 3 = .ok (.invokevirtual 119, 3) := by decide +kernel
theorem dX6_wanted_6 : decode cX6_wanted 6 = .ok (.ifCond .eq 18, 3) := by decide +kernel
theorem dX6_wanted_9 : decode cX6_wanted 9 = .ok (.aload_n 0, 1) := by decide +kernel
theorem dX6_wanted_10 : decode cX6_wanted 10 = .ok (.getfield 47, 3) := by decide +kernel
theorem dX6_wanted_13 : decode cX6_wanted 13 = .ok (.iload_n 1, 1) := by decide +kernel
theorem dX6_wanted_14 : decode cX6_wanted 14 = .ok (.iload_n 2, 1) := by decide +kernel
theorem dX6_wanted_15 : decode cX6_wanted 15 = .ok (.invokevirtual 138, 3) := by decide +kernel
theorem dX6_wanted_18 : decode cX6_wanted 18 = .ok (.invokestatic 142, 3) := by decide +kernel
theorem dX6_wanted_21 : decode cX6_wanted 21 = .ok (.goto 4, 3) := by decide +kernel
theorem dX6_wanted_24 : decode cX6_wanted 24 = .ok (.iconst (-1), 1) := by decide +kernel
theorem dX6_wanted_25 : decode cX6_wanted 25 = .ok (.ireturn, 1) := by decide +kernel
def rmX6_wanted : Room := { frames := 2, cells := 0, slots := 0, locals := 46 }
theorem zdX6_wanted : yX6_wanted.cls = RX6 ∧ yX6_wanted.cls ≠ "java/lang/invoke/MethodHandle" ∧ yX6_wanted.cls ≠ "java/lang/invoke/VarHandle" ∧ (parseMethodDescriptor yX6_wanted.desc).map (fun d => d.parameters.length) = some 2 := by decide +kernel
theorem kiX6_wanted_X6 : ∀ w ∈ wsX60, w ∈ wsX6_wanted := fun _ h => (List.mem_cons_of_mem _ (List.mem_append_left _ (List.mem_append_left _ (List.mem_append_left _ (List.mem_append_right _ h)))))
theorem kfX6_wanted_47 : Cond.fieldLink RX6 47 "ShapeJudge" "judge" "LShapeJudge$Judge;" ∈ wsX6_wanted := (List.mem_of_getElem? (i := 1) rfl)
def s_X6_wanted (m : Mem) (a1 : Int32) (a2 : Int32) : Option (Int32) :=
  (s_X6_isPair m a1 a2).bind fun r2 => (if r2 = 0 then (some (-1)) else ((s_X2_wantedEdges m a1 a2).bind fun r4 => (s_J6_bitCount_0f7a4 r4).bind fun r6 => some r6))
set_option maxRecDepth 100000 in
set_option maxHeartbeats 4000000 in
theorem c_X6_wanted (l : Launch) (w : ZW) {m : Mem} {a1 : Int32} {a2 : Int32} {r9 : Int32}  (hf : s_X6_wanted m a1 a2 = some r9) : zCi MX l w yX6_wanted wsX6_wanted rmX6_wanted [.ref (w.2.1 0), .int a1, .int a2] m m r9 := by
  refine z_met_i MX_ok (own := RX6) (by decide +kernel) rfl rfl (Nat.le_of_ble_eq_true rfl) ?_
  intro K C hKw hKl hret
  subst hKw
  subst hKl
  unfold s_X6_wanted at hf
  show zGo MX K m [(0, .ref ((zw K).2.1 0)), (1, .int a1), (2, .int a2)] 0 []
  refine z_aload_n C 0 dX6_wanted_0 rfl rfl ?_
  refine z_iload_n C 1 dX6_wanted_1 rfl rfl ?_
  refine z_iload_n C 2 dX6_wanted_2 rfl rfl ?_
  obtain ⟨r2, hc1, hf⟩ := zb_el hf
  refine z_cVi C (c_X6_isPair _ _ hc1) rfl gX6_wanted_X6_isPair rfl rfl zdX6_isPair rfl (Nat.le_of_ble_eq_true rfl) rfl rfl rfl ⟨Nat.le_of_ble_eq_true rfl, Nat.le_of_ble_eq_true rfl⟩ (Nat.le_of_ble_eq_true rfl) dX6_wanted_3 rfl ?_
  refine z_if_eq (tgt := 24) C dX6_wanted_6 (by decide) (fun c7 => ?_) (fun c7 => ?_)
  · replace hf := if_t c7 hf
    refine z_iconst C (v := (-1)) dX6_wanted_24 (by decide) ?_
    have e1 := Option.some.inj hf
    subst e1
    exact hret _ _ dX6_wanted_25
  · replace hf := if_f c7 hf
    refine z_aload_n C 0 dX6_wanted_9 rfl rfl ?_
    refine z_getr C (t := 39) (Nat.le_of_ble_eq_true rfl) rfl rfl 3 (Nat.le_of_ble_eq_true rfl) rfl kiX6_wanted_X6 kfX6_wanted_47 dX6_wanted_10 ?_
    refine z_iload_n C 1 dX6_wanted_13 rfl rfl ?_
    refine z_iload_n C 2 dX6_wanted_14 rfl rfl ?_
    obtain ⟨r4, hc3, hf⟩ := zb_el hf
    refine z_cVi C (c_X2_wantedEdges _ _ hc3) rfl gX6_wanted_X2_wantedEdges rfl rfl zdX2_wantedEdges rfl (Nat.le_of_ble_eq_true rfl) rfl rfl rfl ⟨Nat.le_of_ble_eq_true rfl, Nat.le_of_ble_eq_true rfl⟩ (Nat.le_of_ble_eq_true rfl) dX6_wanted_15 rfl ?_
    obtain ⟨r6, hc5, hf⟩ := zb_el hf
    refine z_cSi C (c_J6_bitCount_0f7a4 _ _ hc5) rfl gX6_wanted_J6_bitCount_0f7a4 rfl rfl zdJ6_bitCount_0f7a4.2 rfl ⟨Nat.le_of_ble_eq_true rfl, Nat.le_of_ble_eq_true rfl⟩ (Nat.le_of_ble_eq_true rfl) dX6_wanted_18 rfl ?_
    refine z_goto (tgt := 25) C dX6_wanted_21 (by decide) ?_
    have e1 := Option.some.inj hf
    subst e1
    exact hret _ _ dX6_wanted_25
set_option maxRecDepth 20000 in
theorem ggX6_which_X6_isPair : GoodIn wsX6_which wsX6_isPair := goodIn_sub (List.forall_mem_cons.mpr ⟨(List.mem_of_getElem? (i := 6) rfl), (List.forall_mem_append.mpr ⟨(List.forall_mem_append.mpr ⟨(List.forall_mem_append.mpr ⟨(List.forall_mem_cons.mpr ⟨(List.mem_of_getElem? (i := 7) rfl), (List.forall_mem_cons.mpr ⟨(List.mem_of_getElem? (i := 8) rfl), (List.forall_mem_cons.mpr ⟨(List.mem_of_getElem? (i := 9) rfl), (List.forall_mem_cons.mpr ⟨(List.mem_of_getElem? (i := 10) rfl), (List.forall_mem_cons.mpr ⟨(List.mem_of_getElem? (i := 11) rfl), (List.forall_mem_cons.mpr ⟨(List.mem_of_getElem? (i := 12) rfl), (List.forall_mem_cons.mpr ⟨(List.mem_of_getElem? (i := 13) rfl), (List.forall_mem_cons.mpr ⟨(List.mem_of_getElem? (i := 14) rfl), (List.forall_mem_cons.mpr ⟨(List.mem_of_getElem? (i := 15) rfl), (List.forall_mem_cons.mpr ⟨(List.mem_of_getElem? (i := 16) rfl), (List.forall_mem_cons.mpr ⟨(List.mem_of_getElem? (i := 17) rfl), (List.forall_mem_cons.mpr ⟨(List.mem_of_getElem? (i := 18) rfl), (List.forall_mem_cons.mpr ⟨(List.mem_of_getElem? (i := 19) rfl), (List.forall_mem_cons.mpr ⟨(List.mem_of_getElem? (i := 20) rfl), (fun _ h => absurd h List.not_mem_nil)⟩)⟩)⟩)⟩)⟩)⟩)⟩)⟩)⟩)⟩)⟩)⟩)⟩)⟩), (fun _ h => (List.mem_cons_of_mem _ (List.mem_append_left _ (List.mem_append_left _ (List.mem_append_left _ (List.mem_append_right _ h))))))⟩), (fun _ h => (List.mem_cons_of_mem _ (List.mem_append_left _ (List.mem_append_left _ (List.mem_append_right _ h)))))⟩), (fun _ h => (List.mem_cons_of_mem _ (List.mem_append_left _ (List.mem_append_right _ h))))⟩)⟩) (by decide +kernel)
set_option maxRecDepth 20000 in
theorem gX6_which_X6_isPair : GoodIn wsX6_which (wsV RX6 119 RX6 yX6_isPair wsX6_isPair) := goodIn_app (goodIn_sub (List.forall_mem_cons.mpr ⟨(List.mem_of_getElem? (i := 2) rfl), (List.forall_mem_cons.mpr ⟨(List.mem_of_getElem? (i := 3) rfl), (List.forall_mem_cons.mpr ⟨(List.mem_of_getElem? (i := 4) rfl), (List.forall_mem_cons.mpr ⟨(List.mem_of_getElem? (i := 5) rfl), (fun _ h => absurd h List.not_mem_nil)⟩)⟩)⟩)⟩) (by decide +kernel)) ggX6_which_X6_isPair
set_option maxRecDepth 20000 in
theorem ggX6_which_X2_surplusEdges : GoodIn wsX6_which wsX2_surplusEdges := goodIn_sub (List.forall_mem_cons.mpr ⟨(List.mem_of_getElem? (i := 25) rfl), (List.forall_mem_append.mpr ⟨(List.forall_mem_append.mpr ⟨(List.forall_mem_append.mpr ⟨(List.forall_mem_append.mpr ⟨(show ∀ w ∈ wsX2_surplusEdges_r1, w ∈ wsX6_which from (List.forall_mem_cons.mpr ⟨(List.mem_of_getElem? (i := 26) rfl), (List.forall_mem_cons.mpr ⟨(List.mem_of_getElem? (i := 27) rfl), (List.forall_mem_cons.mpr ⟨(List.mem_of_getElem? (i := 28) rfl), (List.forall_mem_cons.mpr ⟨(List.mem_of_getElem? (i := 29) rfl), (List.forall_mem_cons.mpr ⟨(List.mem_of_getElem? (i := 30) rfl), (List.forall_mem_cons.mpr ⟨(List.mem_of_getElem? (i := 31) rfl), (List.forall_mem_cons.mpr ⟨(List.mem_of_getElem? (i := 32) rfl), (List.forall_mem_cons.mpr ⟨(List.mem_of_getElem? (i := 33) rfl), (List.forall_mem_cons.mpr ⟨(List.mem_of_getElem? (i := 24) rfl), (List.forall_mem_cons.mpr ⟨(List.mem_of_getElem? (i := 34) rfl), (List.forall_mem_cons.mpr ⟨(List.mem_of_getElem? (i := 35) rfl), (List.forall_mem_cons.mpr ⟨(List.mem_of_getElem? (i := 36) rfl), (List.forall_mem_cons.mpr ⟨(List.mem_of_getElem? (i := 37) rfl), (List.forall_mem_cons.mpr ⟨(List.mem_of_getElem? (i := 38) rfl), (List.forall_mem_cons.mpr ⟨(List.mem_of_getElem? (i := 16) rfl), (List.forall_mem_cons.mpr ⟨(List.mem_of_getElem? (i := 17) rfl), (List.forall_mem_cons.mpr ⟨(List.mem_of_getElem? (i := 18) rfl), (List.forall_mem_cons.mpr ⟨(List.mem_of_getElem? (i := 19) rfl), (List.forall_mem_cons.mpr ⟨(List.mem_of_getElem? (i := 20) rfl), (List.forall_mem_cons.mpr ⟨(List.mem_of_getElem? (i := 39) rfl), (List.forall_mem_cons.mpr ⟨(List.mem_of_getElem? (i := 40) rfl), (List.forall_mem_cons.mpr ⟨(List.mem_of_getElem? (i := 41) rfl), (List.forall_mem_cons.mpr ⟨(List.mem_of_getElem? (i := 42) rfl), (List.forall_mem_cons.mpr ⟨(List.mem_of_getElem? (i := 43) rfl), (fun _ h => absurd h List.not_mem_nil)⟩)⟩)⟩)⟩)⟩)⟩)⟩)⟩)⟩)⟩)⟩)⟩)⟩)⟩)⟩)⟩)⟩)⟩)⟩)⟩)⟩)⟩)⟩)⟩)), (List.forall_mem_append.mpr ⟨(show ∀ w ∈ wsX2_surplusEdges_r2, w ∈ wsX6_which from (List.forall_mem_cons.mpr ⟨(List.mem_of_getElem? (i := 44) rfl), (List.forall_mem_cons.mpr ⟨(List.mem_of_getElem? (i := 45) rfl), (List.forall_mem_cons.mpr ⟨(List.mem_of_getElem? (i := 46) rfl), (List.forall_mem_cons.mpr ⟨(List.mem_of_getElem? (i := 47) rfl), (List.forall_mem_cons.mpr ⟨(List.mem_of_getElem? (i := 48) rfl), (List.forall_mem_cons.mpr ⟨(List.mem_of_getElem? (i := 49) rfl), (List.forall_mem_cons.mpr ⟨(List.mem_of_getElem? (i := 50) rfl), (List.forall_mem_cons.mpr ⟨(List.mem_of_getElem? (i := 51) rfl), (List.forall_mem_cons.mpr ⟨(List.mem_of_getElem? (i := 52) rfl), (List.forall_mem_cons.mpr ⟨(List.mem_of_getElem? (i := 53) rfl), (List.forall_mem_cons.mpr ⟨(List.mem_of_getElem? (i := 54) rfl), (List.forall_mem_cons.mpr ⟨(List.mem_of_getElem? (i := 55) rfl), (List.forall_mem_cons.mpr ⟨(List.mem_of_getElem? (i := 56) rfl), (List.forall_mem_cons.mpr ⟨(List.mem_of_getElem? (i := 57) rfl), (List.forall_mem_cons.mpr ⟨(List.mem_of_getElem? (i := 58) rfl), (List.forall_mem_cons.mpr ⟨(List.mem_of_getElem? (i := 59) rfl), (List.forall_mem_cons.mpr ⟨(List.mem_of_getElem? (i := 60) rfl), (List.forall_mem_cons.mpr ⟨(List.mem_of_getElem? (i := 61) rfl), (List.forall_mem_cons.mpr ⟨(List.mem_of_getElem? (i := 62) rfl), (List.forall_mem_cons.mpr ⟨(List.mem_of_getElem? (i := 63) rfl), (List.forall_mem_cons.mpr ⟨(List.mem_of_getElem? (i := 64) rfl), (List.forall_mem_cons.mpr ⟨(List.mem_of_getElem? (i := 65) rfl), (List.forall_mem_cons.mpr ⟨(List.mem_of_getElem? (i := 66) rfl), (List.forall_mem_cons.mpr ⟨(List.mem_of_getElem? (i := 67) rfl), (fun _ h => absurd h List.not_mem_nil)⟩)⟩)⟩)⟩)⟩)⟩)⟩)⟩)⟩)⟩)⟩)⟩)⟩)⟩)⟩)⟩)⟩)⟩)⟩)⟩)⟩)⟩)⟩)⟩)), (List.forall_mem_append.mpr ⟨(show ∀ w ∈ wsX2_surplusEdges_r3, w ∈ wsX6_which from (List.forall_mem_cons.mpr ⟨(List.mem_of_getElem? (i := 68) rfl), (List.forall_mem_cons.mpr ⟨(List.mem_of_getElem? (i := 69) rfl), (List.forall_mem_cons.mpr ⟨(List.mem_of_getElem? (i := 70) rfl), (List.forall_mem_cons.mpr ⟨(List.mem_of_getElem? (i := 71) rfl), (List.forall_mem_cons.mpr ⟨(List.mem_of_getElem? (i := 72) rfl), (List.forall_mem_cons.mpr ⟨(List.mem_of_getElem? (i := 73) rfl), (List.forall_mem_cons.mpr ⟨(List.mem_of_getElem? (i := 74) rfl), (List.forall_mem_cons.mpr ⟨(List.mem_of_getElem? (i := 75) rfl), (List.forall_mem_cons.mpr ⟨(List.mem_of_getElem? (i := 76) rfl), (List.forall_mem_cons.mpr ⟨(List.mem_of_getElem? (i := 77) rfl), (List.forall_mem_cons.mpr ⟨(List.mem_of_getElem? (i := 78) rfl), (List.forall_mem_cons.mpr ⟨(List.mem_of_getElem? (i := 79) rfl), (List.forall_mem_cons.mpr ⟨(List.mem_of_getElem? (i := 80) rfl), (List.forall_mem_cons.mpr ⟨(List.mem_of_getElem? (i := 81) rfl), (List.forall_mem_cons.mpr ⟨(List.mem_of_getElem? (i := 82) rfl), (List.forall_mem_cons.mpr ⟨(List.mem_of_getElem? (i := 83) rfl), (List.forall_mem_cons.mpr ⟨(List.mem_of_getElem? (i := 84) rfl), (List.forall_mem_cons.mpr ⟨(List.mem_of_getElem? (i := 85) rfl), (List.forall_mem_cons.mpr ⟨(List.mem_of_getElem? (i := 86) rfl), (List.forall_mem_cons.mpr ⟨(List.mem_of_getElem? (i := 87) rfl), (List.forall_mem_cons.mpr ⟨(List.mem_of_getElem? (i := 88) rfl), (List.forall_mem_cons.mpr ⟨(List.mem_of_getElem? (i := 89) rfl), (List.forall_mem_cons.mpr ⟨(List.mem_of_getElem? (i := 90) rfl), (List.forall_mem_cons.mpr ⟨(List.mem_of_getElem? (i := 91) rfl), (fun _ h => absurd h List.not_mem_nil)⟩)⟩)⟩)⟩)⟩)⟩)⟩)⟩)⟩)⟩)⟩)⟩)⟩)⟩)⟩)⟩)⟩)⟩)⟩)⟩)⟩)⟩)⟩)⟩)), (show ∀ w ∈ wsX2_surplusEdges_r4, w ∈ wsX6_which from (List.forall_mem_cons.mpr ⟨(List.mem_of_getElem? (i := 92) rfl), (List.forall_mem_cons.mpr ⟨(List.mem_of_getElem? (i := 93) rfl), (List.forall_mem_cons.mpr ⟨(List.mem_of_getElem? (i := 94) rfl), (List.forall_mem_cons.mpr ⟨(List.mem_of_getElem? (i := 95) rfl), (List.forall_mem_cons.mpr ⟨(List.mem_of_getElem? (i := 96) rfl), (List.forall_mem_cons.mpr ⟨(List.mem_of_getElem? (i := 97) rfl), (List.forall_mem_cons.mpr ⟨(List.mem_of_getElem? (i := 98) rfl), (List.forall_mem_cons.mpr ⟨(List.mem_of_getElem? (i := 99) rfl), (List.forall_mem_cons.mpr ⟨(List.mem_of_getElem? (i := 100) rfl), (List.forall_mem_cons.mpr ⟨(List.mem_of_getElem? (i := 101) rfl), (List.forall_mem_cons.mpr ⟨(List.mem_of_getElem? (i := 102) rfl), (fun _ h => absurd h List.not_mem_nil)⟩)⟩)⟩)⟩)⟩)⟩)⟩)⟩)⟩)⟩)⟩))⟩)⟩)⟩), (fun _ h => (List.mem_cons_of_mem _ (List.mem_append_right _ h)))⟩), (fun _ h => (List.mem_cons_of_mem _ (List.mem_append_left _ (List.mem_append_left _ (List.mem_append_right _ h)))))⟩), (fun _ h => (List.mem_cons_of_mem _ (List.mem_append_left _ (List.mem_append_right _ h))))⟩)⟩) (by decide +kernel)
set_option maxRecDepth 20000 in
theorem gX6_which_X2_surplusEdges : GoodIn wsX6_which (wsV RX6 154 RX2 yX2_surplusEdges wsX2_surplusEdges) := goodIn_app (goodIn_sub (List.forall_mem_cons.mpr ⟨(List.mem_of_getElem? (i := 21) rfl), (List.forall_mem_cons.mpr ⟨(List.mem_of_getElem? (i := 22) rfl), (List.forall_mem_cons.mpr ⟨(List.mem_of_getElem? (i := 23) rfl), (List.forall_mem_cons.mpr ⟨(List.mem_of_getElem? (i := 24) rfl), (fun _ h => absurd h List.not_mem_nil)⟩)⟩)⟩)⟩) (by decide +kernel)) ggX6_which_X2_surplusEdges
theorem dX6_which_0 : decode cX6_which 0 = .ok (.aload_n 0, 1) := by decide +kernel
theorem dX6_which_1 : decode cX6_which 1 = .ok (.iload_n 1, 1) := by decide +kernel
theorem dX6_which_2 : decode cX6_which 2 = .ok (.iload_n 2, 1) := by decide +kernel
theorem dX6_which_3 : decode cX6_which 3 = .ok (.invokevirtual 119, 3) := by decide +kernel
theorem dX6_which_6 : decode cX6_which 6 = .ok (.ifCond .ne 5, 3) := by decide +kernel
theorem dX6_which_9 : decode cX6_which 9 = .ok (.iconst (-1), 1) := by decide +kernel
theorem dX6_which_10 : decode cX6_which 10 = .ok (.ireturn, 1) := by decide +kernel
theorem dX6_which_11 : decode cX6_which 11 = .ok (.aload_n 0, 1) := by decide +kernel
theorem dX6_which_12 : decode cX6_which 12 = .ok (.getfield 47, 3) := by decide +kernel
theorem dX6_which_15 : decode cX6_which 15 = .ok (.iload_n 1, 1) := by decide +kernel
theorem dX6_which_16 : decode cX6_which 16 = .ok (.iload_n 2, 1) := by decide +kernel
theorem dX6_which_17 : decode cX6_which 17 = .ok (.invokevirtual 154, 3) := by decide +kernel
theorem dX6_which_20 : decode cX6_which 20 = .ok (.istore_n 3, 1) := by decide +kernel
theorem dX6_which_21 : decode cX6_which 21 = .ok (.iload_n 3, 1) := by decide +kernel
theorem dX6_which_22 : decode cX6_which 22 = .ok (.ifCond .ge 8, 3) := by decide +kernel
theorem dX6_which_25 : decode cX6_which 25 = .ok (.bipush (-4), 2) := by decide +kernel
theorem dX6_which_27 : decode cX6_which 27 = .ok (.goto 4, 3) := by decide +kernel
theorem dX6_which_30 : decode cX6_which 30 = .ok (.iload_n 3, 1) := by decide +kernel
theorem dX6_which_31 : decode cX6_which 31 = .ok (.ireturn, 1) := by decide +kernel
def rmX6_which : Room := { frames := 7, cells := 0, slots := 0, locals := 176 }
theorem zdX6_which : yX6_which.cls = RX6 ∧ yX6_which.cls ≠ "java/lang/invoke/MethodHandle" ∧ yX6_which.cls ≠ "java/lang/invoke/VarHandle" ∧ (parseMethodDescriptor yX6_which.desc).map (fun d => d.parameters.length) = some 2 := by decide +kernel
theorem kiX6_which_X6 : ∀ w ∈ wsX60, w ∈ wsX6_which := fun _ h => (List.mem_cons_of_mem _ (List.mem_append_left _ (List.mem_append_left _ (List.mem_append_left _ (List.mem_append_right _ h)))))
theorem kfX6_which_47 : Cond.fieldLink RX6 47 "ShapeJudge" "judge" "LShapeJudge$Judge;" ∈ wsX6_which := (List.mem_of_getElem? (i := 1) rfl)
def s_X6_which (m : Mem) (a1 : Int32) (a2 : Int32) : Option (Int32 × Mem) :=
  (s_X6_isPair m a1 a2).bind fun r2 => (if r2 = 0 then (some ((-1), m)) else (zb2 (s_X2_surplusEdges m a1 a2) fun r4 m5 => (if 0 ≤ r4 then (some (r4, m5)) else (some ((-4), m5)))))
set_option maxRecDepth 100000 in
set_option maxHeartbeats 4000000 in
theorem c_X6_which (l : Launch) (w : ZW) {m : Mem} {a1 : Int32} {a2 : Int32} {r9 : Int32} {m9 : Mem}  (hf : s_X6_which m a1 a2 = some (r9, m9)) : zCi MX l w yX6_which wsX6_which rmX6_which [.ref (w.2.1 0), .int a1, .int a2] m m9 r9 := by
  refine z_met_i MX_ok (own := RX6) (by decide +kernel) rfl rfl (Nat.le_of_ble_eq_true rfl) ?_
  intro K C hKw hKl hret
  subst hKw
  subst hKl
  unfold s_X6_which at hf
  show zGo MX K m [(0, .ref ((zw K).2.1 0)), (1, .int a1), (2, .int a2)] 0 []
  refine z_aload_n C 0 dX6_which_0 rfl rfl ?_
  refine z_iload_n C 1 dX6_which_1 rfl rfl ?_
  refine z_iload_n C 2 dX6_which_2 rfl rfl ?_
  obtain ⟨r2, hc1, hf⟩ := zb_el hf
  refine z_cVi C (c_X6_isPair _ _ hc1) rfl gX6_which_X6_isPair rfl rfl zdX6_isPair rfl (Nat.le_of_ble_eq_true rfl) rfl rfl rfl ⟨Nat.le_of_ble_eq_true rfl, Nat.le_of_ble_eq_true rfl⟩ (Nat.le_of_ble_eq_true rfl) dX6_which_3 rfl ?_
  refine z_if_ne (tgt := 11) C dX6_which_6 (by decide) (fun c7 => ?_) (fun c7 => ?_)
  · replace hf := if_f c7 hf
    refine z_aload_n C 0 dX6_which_11 rfl rfl ?_
    refine z_getr C (t := 39) (Nat.le_of_ble_eq_true rfl) rfl rfl 3 (Nat.le_of_ble_eq_true rfl) rfl kiX6_which_X6 kfX6_which_47 dX6_which_12 ?_
    refine z_iload_n C 1 dX6_which_15 rfl rfl ?_
    refine z_iload_n C 2 dX6_which_16 rfl rfl ?_
    obtain ⟨r4, m5, hc3, hf⟩ := zb2_el hf
    refine z_cVi C (c_X2_surplusEdges _ _ hc3) rfl gX6_which_X2_surplusEdges rfl rfl zdX2_surplusEdges rfl (Nat.le_of_ble_eq_true rfl) rfl rfl rfl ⟨Nat.le_of_ble_eq_true rfl, Nat.le_of_ble_eq_true rfl⟩ (Nat.le_of_ble_eq_true rfl) dX6_which_17 rfl ?_
    refine z_istore_n C (lv2 := [(0, .ref ((zw K).2.1 0)), (1, .int a1), (2, .int a2), (3, .int r4)]) [1, 2, 3, 0] dX6_which_20 rfl (Nat.le_of_ble_eq_true rfl) rfl ?_
    refine z_iload_n C 3 dX6_which_21 rfl rfl ?_
    refine z_if_ge (tgt := 30) C dX6_which_22 (by decide) (fun c6 => ?_) (fun c6 => ?_)
    · replace hf := if_t c6 hf
      refine z_iload_n C 3 dX6_which_30 rfl rfl ?_
      obtain ⟨e1, e2⟩ := sp_el hf
      subst e1
      subst e2
      exact hret _ _ dX6_which_31
    · replace hf := if_f c6 hf
      refine z_bipush C (v := (-4)) dX6_which_25 (by decide) ?_
      refine z_goto (tgt := 31) C dX6_which_27 (by decide) ?_
      obtain ⟨e1, e2⟩ := sp_el hf
      subst e1
      subst e2
      exact hret _ _ dX6_which_31
  · replace hf := if_t c7 hf
    refine z_iconst C (v := (-1)) dX6_which_9 (by decide) ?_
    obtain ⟨e1, e2⟩ := sp_el hf
    subst e1
    subst e2
    exact hret _ _ dX6_which_10
