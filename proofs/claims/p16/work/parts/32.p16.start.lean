def LcM0 : List Nat := [0, 1, 1, 1, 1, 1, 0, 0, 1, 1, 1, 1, 1, 1, 1, 1, 1, 1, 1, 1, 1, 0, 1, 1, 1, 1, 1, 1, 1, 1, 1, 1, 1, 1, 1, 1, 1, 0, 0, 0, 0, 0, 0, 0, 0, 1, 1, 1, 1, 1, 1, 1, 1, 0, 0, 1, 1]
theorem zf0_M : ∀ j : Nat, j < 57 → defaultValue (tyX7 j) = vp_V (zfv (fun _ => 0) (sg0 LcM 0) 0 LcM0) j := by
  intro j hj
  rcases (show j = 0 ∨ j = 1 ∨ j = 2 ∨ j = 3 ∨ j = 4 ∨ j = 5 ∨ j = 6 ∨ j = 7 ∨ j = 8 ∨ j = 9 ∨ j = 10 ∨ j = 11 ∨ j = 12 ∨ j = 13 ∨ j = 14 ∨ j = 15 ∨ j = 16 ∨ j = 17 ∨ j = 18 ∨ j = 19 ∨ j = 20 ∨ j = 21 ∨ j = 22 ∨ j = 23 ∨ j = 24 ∨ j = 25 ∨ j = 26 ∨ j = 27 ∨ j = 28 ∨ j = 29 ∨ j = 30 ∨ j = 31 ∨ j = 32 ∨ j = 33 ∨ j = 34 ∨ j = 35 ∨ j = 36 ∨ j = 37 ∨ j = 38 ∨ j = 39 ∨ j = 40 ∨ j = 41 ∨ j = 42 ∨ j = 43 ∨ j = 44 ∨ j = 45 ∨ j = 46 ∨ j = 47 ∨ j = 48 ∨ j = 49 ∨ j = 50 ∨ j = 51 ∨ j = 52 ∨ j = 53 ∨ j = 54 ∨ j = 55 ∨ j = 56 by omega) with rfl | rfl | rfl | rfl | rfl | rfl | rfl | rfl | rfl | rfl | rfl | rfl | rfl | rfl | rfl | rfl | rfl | rfl | rfl | rfl | rfl | rfl | rfl | rfl | rfl | rfl | rfl | rfl | rfl | rfl | rfl | rfl | rfl | rfl | rfl | rfl | rfl | rfl | rfl | rfl | rfl | rfl | rfl | rfl | rfl | rfl | rfl | rfl | rfl | rfl | rfl | rfl | rfl | rfl | rfl | rfl | rfl <;> rfl
theorem st_arr {s : State} {args : Array Value} {ty : FieldType} (h : (Cond.arrayClass ty).before args s = true) (hob : ∀ C, ty ≠ .object C) : ∃ c : ClassId, ArrOfT s c ty ∧ va_RA s c ty := by
  obtain ⟨c, k, comp, h1, h2, h3⟩ := Cond.arrayClass_spec h
  refine ⟨c, fun n z => ⟨fun k h => (by cases h), k, h2, comp, h3⟩, ?_⟩
  cases ty with
  | object C => exact absurd rfl (hob C)
  | _ => exact h1
theorem st_K {s : State} {b : Nat} (hts : ∀ w ∈ lw_tbl, w.before #[Value.ref b] s = true) : ∃ (D : va_G) (cA : Nat → ClassId), va_K D vwCl (zty cA) s := by
  obtain ⟨c0, i0, h0⟩ := u_known (C := RX0) (T := TX0) (N := 16) (n := 16) hts iw0 (hts (.instantiable RX0 16) (by decide +kernel))
  obtain ⟨c1, i1, h1⟩ := u_known (C := RX1) (T := TX1) (N := 7) (n := 7) hts iw1 (hts (.instantiable RX1 7) (by decide +kernel))
  obtain ⟨c2, i2, h2⟩ := u_known (C := RX2) (T := TX2) (N := 10) (n := 10) hts iw2 (hts (.instantiable RX2 10) (by decide +kernel))
  obtain ⟨c3, i3, h3⟩ := u_known (C := RX3) (T := TX3) (N := 2) (n := 2) hts iw3 (hts (.instantiable RX3 2) (by decide +kernel))
  obtain ⟨c4, i4, h4⟩ := u_known (C := RX4) (T := TX4) (N := 10) (n := 10) hts iw4 (hts (.instantiable RX4 10) (by decide +kernel))
  obtain ⟨c5, i5, h5⟩ := u_known (C := RX5) (T := TX5) (N := 5) (n := 5) hts iw5 (hts (.instantiable RX5 5) (by decide +kernel))
  obtain ⟨c6, i6, h6⟩ := u_known (C := RX6) (T := TX6) (N := 7) (n := 7) hts iw6 (hts (.instantiable RX6 7) (by decide +kernel))
  obtain ⟨c7, i7, h7⟩ := u_known (C := RX7) (T := TX7) (N := 57) (n := 57) hts iw7 (hts (.instantiable RX7 57) (by decide +kernel))
  obtain ⟨a0, p0, q0⟩ := st_arr (hts (.arrayClass .int) (by decide +kernel)) (fun _ h => by cases h)
  obtain ⟨a1, p1, q1⟩ := st_arr (hts (.arrayClass .boolean) (by decide +kernel)) (fun _ h => by cases h)
  obtain ⟨a2, p2, q2⟩ := st_arr (hts (.arrayClass .byte) (by decide +kernel)) (fun _ h => by cases h)
  refine ⟨(fun k => if k = 0 then c0 else if k = 1 then c1 else if k = 2 then c2 else if k = 3 then c3 else if k = 4 then c4 else if k = 5 then c5 else if k = 6 then c6 else c7, fun k => if k = 0 then i0 else if k = 1 then i1 else if k = 2 then i2 else if k = 3 then i3 else if k = 4 then i4 else if k = 5 then i5 else if k = 6 then i6 else i7), fun k => if k = 0 then a0 else if k = 1 then a1 else a2, ?_, ?_⟩
  · intro k q hq
    match k, hq with
    | 0, hq => cases hq; exact h0
    | 1, hq => cases hq; exact h1
    | 2, hq => cases hq; exact h2
    | 3, hq => cases hq; exact h3
    | 4, hq => cases hq; exact h4
    | 5, hq => cases hq; exact h5
    | 6, hq => cases hq; exact h6
    | 7, hq => cases hq; exact h7
    | k + 8, hq => simp [vwCl] at hq
  · intro k q hq
    match k, hq with
    | 0, hq => cases hq; exact ⟨p0, q0⟩
    | 1, hq => cases hq; exact ⟨p1, q1⟩
    | 2, hq => cases hq; exact ⟨p2, q2⟩
    | k + 3, hq => simp [zty] at hq
set_option maxRecDepth 100000 in
theorem st_apt : ∀ j, j < 32 → Cond.eq (.elem (.static "ShapeJudge$Judge" "APART" "[I") (.int (Int32.ofNat j))) (.int (apt j)) ∈ flatC (Jvm.Cond.and given_1 narrow_1) := by decide +kernel
set_option maxRecDepth 100000 in
theorem st_clo : ∀ j, j < 6 → Cond.eq (.elem (.field (.string "ShapeJudge$Tokens" 47) "java/lang/String" "value" "[B") (.int (Int32.ofNat j))) (.int (([[99, 108, 111, 115, 101, 100]] : List (List Int32)).getD 0 [] |>.getD j 0)) ∈ flatC (Jvm.Cond.and given_1 narrow_1) := by decide +kernel
theorem st_XX {s : State} {b : Nat} {A : Nat → Prop} (hgv : (Jvm.Cond.and given_1 narrow_1).before #[Value.ref b] s = true) (hts : ∀ w ∈ lw_tbl, w.before #[Value.ref b] s = true) (hA : ∀ a : Nat, a < s.heap.size → ¬ A a) : ∃ t ak av : Nat, ∀ ad : Nat → Nat, ad 100 = t → ad 101 = ak → ad 102 = av → XX ad A s := by
  have hs := flat_of_before _ hgv
  obtain ⟨t, ht, hT⟩ := va_Tof (tm := (.static "ShapeJudge$Judge" "APART" "[I")) (ty := .int) (N := 32) (f := fun j => .int (apt j)) (A := A) (by decide) (hs (.arrayOf (.static "ShapeJudge$Judge" "APART" "[I") .int) (by decide +kernel)) (va_eqt (hs (.eq (.length (.static "ShapeJudge$Judge" "APART" "[I")) (.int (Int32.ofNat 32))) (by decide +kernel))) (fun j hj => va_eqt (hs _ (st_apt j hj))) hA
  have hZ := va_Zref (C := "ShapeJudge$Judge") (n := "APART") (d := "[I") (A := A) (hts (.laysStatic "ShapeJudge$Judge" "APART" "[I") (by decide +kernel)) (hts (.initialized "ShapeJudge$Judge") (by decide +kernel)) ht hA
  obtain ⟨adK, adV, hS, hev⟩ := vk_Sof (N := 1) (tm := fun _ => (.string "ShapeJudge$Tokens" 47)) (len := [6]) (byt := [[99, 108, 111, 115, 101, 100]]) (A := A) (fun i hi => by rw [show i = 0 by omega]; decide) (fun _ _ => hs (.exactly (.string "ShapeJudge$Tokens" 47) "java/lang/String") (by decide +kernel)) (fun _ _ => hs (.eq (.field (.string "ShapeJudge$Tokens" 47) "java/lang/String" "coder" "B") (.int 0)) (by decide +kernel)) (fun _ _ => hs (.arrayOf (.field (.string "ShapeJudge$Tokens" 47) "java/lang/String" "value" "[B") .byte) (by decide +kernel)) (fun i hi => by
    obtain rfl : i = 0 := by omega
    exact hs (.eq (.length (.field (.string "ShapeJudge$Tokens" 47) "java/lang/String" "value" "[B")) (.int (Int32.ofNat 6))) (by decide +kernel)) (fun i hi j hj => by
    obtain rfl : i = 0 := by omega
    exact hs _ (st_clo j hj)) (fun i j hi hj hn => absurd (by omega) hn) hA
  have hR := vk_R.of (hts (.stringRef "ShapeJudge$Tokens" 47 "closed") (by decide +kernel)) (hev 0 (by decide))
  have hc := va_Zof (C := "java/lang/String") (n := "COMPACT_STRINGS") (d := "Z") (A := A) (hts (.laysStatic "java/lang/String" "COMPACT_STRINGS" "Z") (by decide +kernel)) (hts (.initialized "java/lang/String") (by decide +kernel)) (va_eqi (hs (.eq (.static "java/lang/String" "COMPACT_STRINGS" "Z") (.int 1)) (by decide +kernel))) hA
  have hq := va_Zqof (C := "jdk/internal/util/Preconditions") (n := "SIOOBE_FORMATTER") (d := "Ljava/util/function/BiFunction;") (A := A) (hts (.laysStatic "jdk/internal/util/Preconditions" "SIOOBE_FORMATTER" "Ljava/util/function/BiFunction;") (by decide +kernel)) (hts (.initialized "jdk/internal/util/Preconditions") (by decide +kernel)) (hs (.isRef (.static "jdk/internal/util/Preconditions" "SIOOBE_FORMATTER" "Ljava/util/function/BiFunction;")) (by decide +kernel)) hA
  refine ⟨t, adK 0, adV 0, fun ad e1 e2 e3 => ?_⟩
  unfold XX
  rw [e1, e2, e3]
  refine ⟨hZ, hT, hR, ⟨fun i hi => ?_, fun i j hi hj _ => by omega⟩, hc, hq⟩
  obtain rfl : i = 0 := by omega
  exact hS.1 0 (by decide)
/-! the made cells, with each reference as a number, are the modules' own -/
def zcvb (La : Lay) (σ : Mem) (N : Nat) : Bool := (List.range N).all fun k => match La k with
  | .inl _ => true
  | .inr o => (List.range o.2.length).all fun j => match o.2.getD j 0 with
    | 0 => true
    | 1 => true
    | t + 2 => decide (σ k j = nI t) && decide (t < 2 ^ 31)
theorem zwm_cv {La : Lay} {σ : Mem} {N : Nat} (h : zcvb La σ N = true) {cA : Nat → ClassId} {ad : Nat → Nat} : zwm (zLc La) N cA ad σ = zwm La N cA ad σ := by
  refine List.ext_getElem? fun i => ?_
  rcases Nat.lt_or_ge i N with h1 | h1
  · rw [zwm_get h1, zwm_get h1]
    have h2 := List.all_eq_true.mp h i (List.mem_range.mpr h1)
    unfold zen zLc
    cases hL : La i with
    | inl a => rfl
    | inr o =>
      obtain ⟨ci, cs⟩ := o
      rw [hL] at h2
      simp only at h2 ⊢
      congr 2
      refine congrArg (fun z => (Sum.inr (ci, z) : va_E)) ?_
      refine List.ext_getElem? fun j => ?_
      cases hj : cs[j]? with
      | none =>
        rw [List.getElem?_eq_none (by rw [zfv_len, List.length_map]; exact List.getElem?_eq_none_iff.mp hj), List.getElem?_eq_none (by rw [zfv_len]; exact List.getElem?_eq_none_iff.mp hj)]
      | some c =>
        have h3 := List.all_eq_true.mp h2 j (List.mem_range.mpr (List.getElem?_eq_some_iff.mp hj).1)
        have h4 : cs.getD j 0 = c := by rw [List.getD_eq_getElem?_getD, hj]; rfl
        rw [zfv_get _ 0 j (if c = 0 then 0 else 1) (by rw [List.getElem?_map, hj]; rfl), zfv_get cs 0 j c hj, Nat.zero_add]
        rw [h4] at h3
        congr 1
        match c, h3 with
        | 0, _ => rfl
        | 1, _ => rfl
        | t + 2, h3 =>
          simp only [Bool.and_eq_true, decide_eq_true_eq] at h3
          show zrv ad (σ i j) = .ref (ad t)
          unfold zrv
          rw [h3.1, if_neg (nI_pos h3.2), nI_clamp h3.2]
  · rw [List.getElem?_eq_none (by simpa [zwm] using h1), List.getElem?_eq_none (by simpa [zwm] using h1)]
theorem zwf_sg0 {La : Lay} {N : Nat} : zwf La N (sg0 La) := by
  intro k ci cs j _ hL hj
  left
  unfold sg0
  rw [hL]
  simp only
  rw [if_pos hj]
  decide
def sgX : Mem := s_X6_init (sg0 LcX)
def sgM : Mem := s_X7_init (sg0 LcM)
set_option maxRecDepth 100000 in
theorem sgX_cv : zcvb LaX sgX 44 = true := by decide +kernel
set_option maxRecDepth 100000 in
theorem sgM_cv : zcvb LaM sgM 44 = true := by decide +kernel
/-! THE CLAIM OUT OF ONE WALK OF THE LAW'S BODY. Your part is whole_start (and what it stands on); all else here is the same for every law, but numbers. -/
def R_law : String := "ShapeJudgeLaw"
def lw_P (b : Addr) (xs : List Int32) (args : Array Value) (s : State) : Prop := args = #[.ref b] ∧ s.IntsAt b xs ∧ xs.length ≤ 3072 ∧ (Jvm.Cond.and given_1 narrow_1).before args s = true
def lw_Q (_ : Array Value) (s : State) (o : Outcome) (t : State) : Prop := o = .returned (some (.int 1)) ∧ Framed s o t [] 88 12276
def lw_Z (below : List Frame) (a : Array Value) (s : State) : State → Prop := fun t => ∃ o, t.status = .running ∧ Ended t below o ∧ lw_Q a s o t
/-- the law's own end, with 1 on the stack, nothing written that was there before, its room as the claim has it -/
theorem lw_ret {p : Program} {l : Launch} {e : Env} {s : State} {m : MethodId} {below : List Frame} {meth : Method} {c : Code} {b : Nat} (hx : p.tables.exec = Jvm.exec) (hb : c.code = code) (hr : meth.sig.returnType = ret) (hlocks : meth.locks = false) {pc : Nat} {H : Heap} {ls : Array Slot} (hdg : decode code pc = .ok (.ireturn, 1)) : W p l e room_1 s m #[Value.ref b] below meth c H [] 88 12276 (lw_Z below #[Value.ref b] s) (F0 m pc ls [.int 1]) := by
  intro T hT X
  obtain ⟨fs, hret, hrun, hended, hW, hframe⟩ := X.leave (v := some (.int 1)) (hlocks := hlocks) (fun h => by rw [hr] at h; cases h)
  have hmeth' : T.vm.method? m = some meth := X.method'
  refine ⟨T.setFrames fs, ?_, .returned (some (.int 1)), hrun, hended, rfl, ⟨_, rfl⟩, hW, hframe⟩
  jvm_step X.here [X.here.top, hx, hb, hdg, hmeth', hr, ret, narrow_b1]
  (try refine ⟨rfl, ?_⟩); (try refine ⟨rfl, ?_⟩)
  first | (intro acts; rw [hret _ acts rfl rfl rfl]) | rw [hret _ _ rfl rfl rfl]
  exact Steps.refl _
/-- what holds at the law's entry: the machine, the code, the tables' words (any of lw_tbl by 'hts w (by decide +kernel)'), the script of L ints xs at the cell b, what the Statement gives of the start (any of its parts by flat_of_before) -/
def lw_At (p : Program) (s : State) (m : MethodId) (meth : Method) (c : Code) (b L : Nat) (xs : Nat → Int32) : Prop :=
  p.tables.exec = Jvm.exec ∧ c.code = code ∧ meth.sig.returnType = ret ∧ c.maxLocals = 4 ∧ s.vm.findClass R_law = some m.cls ∧ (∀ w ∈ lw_tbl, w.before #[Value.ref b] s = true) ∧ va_X b L xs s s.heap ∧ b < s.heap.size ∧ meth.locks = false ∧ (Jvm.Cond.and given_1 narrow_1).before #[Value.ref b] s = true

/-- what is asked of the two modules: from their first memories the law's loop comes to its end with 1 -/
def lw_pure : Prop := ∀ (L : Nat) (xs : Nat → Int32), L ≤ 3072 → l_law xs L FU 0 sgX sgM = some 1
set_option maxHeartbeats 4000000 in
set_option maxRecDepth 100000 in
theorem whole_open (hpure : lw_pure) {p : Program} {e : Env} {s : State} {m : MethodId} {below : List Frame} {meth : Method} {c : Code} (l : Launch) {b L : Nat} {xs : Nat → Int32} (hL : L ≤ 3072) (C0 : lw_At p s m meth c b L xs) : W p l e room_1 s m #[Value.ref b] below meth c s.heap [] 0 0 (lw_Z below #[Value.ref b] s) (entryFrame m ([Value.ref b] : List Value).toArray 4) := by
  obtain ⟨hx, hb, hr, hml, hown, hts, hX, hbl, hlocks, hgv⟩ := id C0
  obtain ⟨A, hAe⟩ : ∃ A : Nat → Prop, A = fun q : Nat => s.heap.size ≤ q := ⟨_, rfl⟩
  have hA : ∀ q : Nat, s.heap.size ≤ q → A q := fun q h => by rw [hAe]; exact h
  have hAo : ∀ q : Nat, A q → s.heap.size ≤ q := fun q h => by rw [hAe] at h; exact h
  have hbA : ¬ A b := fun h => absurd (hAo b h) (Nat.not_le.mpr hbl)
  obtain ⟨D, cA, hK⟩ := st_K hts
  obtain ⟨t0, ak, av, hXX⟩ := st_XX (A := A) hgv hts (fun a h z => absurd (hAo a z) (Nat.not_le.mpr h))
  have hS : va_S A s.heap s.heap [] := va_S.rf
  have hP : va_P D vwCl [] s.heap := fun k q h => by simp at h
  have hD : va_D A [] := ⟨fun i j p q h => by simp at h, fun k q h => by simp at h⟩
  have hl := lv_entry ([.ref b]) (n := 4) (Nat.le_of_ble_eq_true rfl)
  rw [lg_entry_eq]
  generalize (lg_sl ([.ref b]) ++ List.replicate (4 - (lg_sl ([.ref b])).length) Slot.unset).toArray = ls at hl ⊢
  have hl : lv_has ls 4 [(0, .ref b)] := hl
  have hfs : ∀ (n k : Nat) (q : Nat × va_E), n ≤ k → (zwm LcX 1 cA (fun _ => n) (sg0 LcX))[k]? = some q → True := fun _ _ _ _ _ => trivial
  -- the first module
  refine va_new (ci := 6) (fs := [.null, .null, .null, .null, .null, .null, .int 0]) (C := RX6) (T := TX6) (N := 7) hx hb hts iw6 tyX6 tyX6_ok hown (hts (.classLink RL 7 RX6) (by decide +kernel)) (hts (.instantiable RX6 7) (by decide +kernel)) (hts (.initialized RX6) (by decide +kernel)) hK hP hD hS hA rfl (fun j hj => by rcases (show j = 0 ∨ j = 1 ∨ j = 2 ∨ j = 3 ∨ j = 4 ∨ j = 5 ∨ j = 6 by omega) with rfl | rfl | rfl | rfl | rfl | rfl | rfl <;> rfl) (Nat.le_of_ble_eq_true rfl) (Nat.le_of_ble_eq_true rfl) dL_law_0 (fun x0 H hP hD hS => ?_)
  have hP : va_P D vwCl (zwm LcX 1 cA (fun _ => x0) (sg0 LcX)) H := hP
  have hD : va_D A (zwm LcX 1 cA (fun _ => x0) (sg0 LcX)) := hD
  have hwf : zwf LcX 1 (sg0 LcX) := zwf_sg0
  refine lv_dup hx hb dL_law_3 rfl ?_
  have hfr : ∀ q, va_A (zwm LcX 1 cA (fun _ => x0) (sg0 LcX)) H.size q → A q := by
    intro q h
    rcases h with ⟨k2, e2, h⟩ | h
    · exact hD.2 k2 _ h
    · exact hA q (Nat.le_trans hS.1 h)
  have hnw : ∀ w ∈ nwX6, va_Nw w s := fun w hw => by
    rcases List.mem_cons.mp hw with rfl | hw
    · exact va_Nw.of rfl (hts _ (by decide +kernel))
    rcases List.mem_cons.mp hw with rfl | hw
    · exact va_Nw.of rfl (hts _ (by decide +kernel))
    rcases List.mem_cons.mp hw with rfl | hw
    · exact va_Nw.of rfl (hts _ (by decide +kernel))
    cases hw
  have hnm : ∀ U : State, s.WarmedH U.vm → ∀ w ∈ nwX6, va_Nw w U := fun U hW w hw => by
    have h0 := hnw w hw
    rcases List.mem_cons.mp hw with rfl | hw
    · exact va_Nw.warmM hW h0
    rcases List.mem_cons.mp hw with rfl | hw
    · exact va_Nw.warmM hW h0
    rcases List.mem_cons.mp hw with rfl | hw
    · exact va_Nw.warmM hW h0
    cases hw
  refine va_callv (va_runI (As := []) (rest := [.ref x0]) ⟨hx, hb, hml, hown, hts⟩ (c_X6_init l cA D (ad := fun _ => x0) (m := sg0 LcX) H.size) (cwI 0 hts gLi_X6 rfl rfl rfl (hts (.initialized RX6) (by decide +kernel)) (hts (.methodLink RL 9 yX6_init) (by decide +kernel)) (hts (.instanceMethod yX6_init) (by decide +kernel)) rfl (by decide +kernel) ⟨Nat.le_of_ble_eq_true rfl, Nat.le_of_ble_eq_true rfl⟩) ⟨fun a U g mk q => ⟨q.1, q.2.1, q.2.2.1, va_K.moved (u := U) (U := U.calling g mk a) (Vm.Alike.refl U.vm) q.2.2.2.1, q.2.2.2.2.1, q.2.2.2.2.2.1, fun w hw => by
      have h0 := q.2.2.2.2.2.2 w hw
      rcases List.mem_cons.mp hw with rfl | hw
      · exact va_Nw.same rfl rfl h0
      rcases List.mem_cons.mp hw with rfl | hw
      · exact va_Nw.same rfl rfl h0
      rcases List.mem_cons.mp hw with rfl | hw
      · exact va_Nw.same rfl rfl h0
      cases hw⟩, fun U hU hW => ⟨rfl, by rw [hU], by rw [hU]; exact hP, va_K.moved hW.alike hK, hD.weaken (fun _ _ _ _ => trivial), hwf, hnm U hW⟩⟩ rfl rfl hl.1 rfl (lv_room (Nat.le_of_ble_eq_true rfl)) dL_law_4 ⟨Nat.le_of_ble_eq_true rfl, Nat.le_of_ble_eq_true rfl⟩) hS (fun q _ h => hfr q h) hfr (fun ax t H1 locs1 ht hvm hax hB hz1 hk1 hS => ?_)
  obtain ⟨hPx, hDx, hwfx⟩ := hB
  rw [ht] at hPx
  have hDx : va_D A (zwm LcX 44 cA ax (s_X6_init (sg0 LcX))) := hDx.weaken (fun _ q _ h => hfr q.1 h)
  have hx0 : x0 = ax 0 := (hax 0 (by decide)).symm
  clear hfr hk1 hz1 hP hD
  generalize H1 = H at hPx hS ⊢
  refine lv_astore_n (lv' := [(1, .ref x0), (0, .ref b)]) hx hb dL_law_7 rfl hl (by decide) rfl (fun ls hl => ?_)
  -- the second
  refine va_new (ci := 7) (fs := zfv (fun _ => 0) (sg0 LcM 0) 0 LcM0) (C := RX7) (T := TX7) (N := 57) hx hb hts iw7 tyX7 tyX7_ok hown (hts (.classLink RL 10 RX7) (by decide +kernel)) (hts (.instantiable RX7 57) (by decide +kernel)) (hts (.initialized RX7) (by decide +kernel)) hK hPx hDx hS hA rfl zf0_M (Nat.le_of_ble_eq_true rfl) (Nat.le_of_ble_eq_true rfl) dL_law_8 (fun y0 H hPb hDb hS => ?_)
  refine lv_dup hx hb dL_law_11 rfl ?_
  have hzl : (zwm LcX 44 cA ax (s_X6_init (sg0 LcX))).length = 44 := by simp [zwm]
  have hyz : zwm LcM 1 cA (fun _ => y0) (sg0 LcM) = [(y0, .inr (7, zfv (fun _ => 0) (sg0 LcM 0) 0 LcM0))] := by
    show [zen LcM cA (fun _ => y0) (sg0 LcM) 0] = _
    have : zfv (fun _ => y0) (sg0 LcM 0) 0 LcM0 = zfv (fun _ => 0) (sg0 LcM 0) 0 LcM0 := rfl
    unfold zen
    rw [show LcM 0 = .inr (7, LcM0) from rfl]
    simp only
    rw [this]
  have hPm : va_P D vwCl (zwm LcM 1 cA (fun _ => y0) (sg0 LcM)) H := by
    rw [hyz]
    intro k q hq
    refine hPb (44 + k) q ?_
    rw [List.getElem?_append_right (by omega), hzl, show 44 + k - 44 = k by omega]
    exact hq
  have hPx : va_P D vwCl (zwm LcX 44 cA ax (s_X6_init (sg0 LcX))) H := fun k q hq => hPb k q (by rw [List.getElem?_append_left (List.getElem?_eq_some_iff.mp hq).1]; exact hq)
  have hAy : A y0 := hDb.2 44 (y0, .inr (7, zfv (fun _ => 0) (sg0 LcM 0) 0 LcM0)) (by rw [List.getElem?_append_right (by omega), hzl]; rfl)
  have hyx : ∀ k, k < 44 → ax k ≠ y0 := by
    intro k hk he
    have h1 := hDb.1 k 44 _ _ (by rw [List.getElem?_append_left (by omega)]; exact zwm_get hk) (by rw [List.getElem?_append_right (by omega), hzl]; rfl) (show (zen LcX cA ax (s_X6_init (sg0 LcX)) k).1 = (y0, (.inr (7, zfv (fun _ => 0) (sg0 LcM 0) 0 LcM0) : va_E)).1 from he)
    omega
  have hDm : va_D A (zwm LcM 1 cA (fun _ => y0) (sg0 LcM)) := by
    rw [hyz]
    refine ⟨fun i j p q hi hj _ => ?_, fun k q hq => ?_⟩
    · have h1 := (List.getElem?_eq_some_iff.mp hi).1
      have h2 := (List.getElem?_eq_some_iff.mp hj).1
      simp at h1 h2
      omega
    · have h1 := (List.getElem?_eq_some_iff.mp hq).1
      simp at h1
      subst h1
      cases hq
      exact hAy
  have hwfm : zwf LcM 1 (sg0 LcM) := zwf_sg0
  have hfr : ∀ q, va_A (zwm LcM 1 cA (fun _ => y0) (sg0 LcM)) H.size q → A q := by
    intro q h
    rcases h with ⟨k2, e2, h⟩ | h
    · exact hDm.2 k2 _ h
    · exact hA q (Nat.le_trans hS.1 h)
  refine va_callv (va_runI (As := []) (rest := [.ref y0]) ⟨hx, hb, hml, hown, hts⟩ (c_X7_init l cA D (ad := fun _ => y0) (m := sg0 LcM) H.size) (cwI 0 hts gLi_X7 rfl rfl rfl (hts (.initialized RX7) (by decide +kernel)) (hts (.methodLink RL 12 yX7_init) (by decide +kernel)) (hts (.instanceMethod yX7_init) (by decide +kernel)) rfl (by decide +kernel) ⟨Nat.le_of_ble_eq_true rfl, Nat.le_of_ble_eq_true rfl⟩) ⟨fun a U g mk q => ⟨q.1, q.2.1, q.2.2.1, va_K.moved (u := U) (U := U.calling g mk a) (Vm.Alike.refl U.vm) q.2.2.2.1, q.2.2.2.2.1, q.2.2.2.2.2.1, fun w hw => by cases hw⟩, fun U hU hW => ⟨rfl, by rw [hU], by rw [hU]; exact hPm, va_K.moved hW.alike hK, hDm.weaken (fun _ _ _ _ => trivial), hwfm, fun w hw => by cases hw⟩⟩ rfl rfl hl.1 rfl (lv_room (Nat.le_of_ble_eq_true rfl)) dL_law_12 ⟨Nat.le_of_ble_eq_true rfl, Nat.le_of_ble_eq_true rfl⟩) hS (fun q _ h => hfr q h) hfr (fun am t H1 locs1 ht hvm ham hB hz1 hk1 hS => ?_)
  obtain ⟨hPm1, hDm1, hwfm1⟩ := hB
  rw [ht] at hPm1
  have hy0 : y0 = am 0 := (ham 0 (by decide)).symm
  have hltx : ∀ k, k < 44 → ax k < H.size := fun k hk => (hPx k _ (zwm_get hk)).lt
  have hPx1 : va_P D vwCl (zwm LcX 44 cA ax (s_X6_init (sg0 LcX))) H1 := by
    refine hPx.kept (fun k q hq => hk1 q.1 ((hPx k q hq).lt) ?_)
    obtain ⟨h1, rfl⟩ := zwm_lt hq
    rintro (⟨k2, e2, h2⟩ | h2)
    · rw [hyz] at h2
      have h3 := (List.getElem?_eq_some_iff.mp h2).1
      simp at h3
      subst h3
      cases h2
      exact hyx k h1 rfl
    · exact absurd h2 (Nat.not_le.mpr (hltx k h1))
  have hdis : ∀ i j, i < 44 → j < 44 → ax i ≠ am j := by
    intro i j hi hj he
    have h1 := hDm1.2 j _ (zwm_get hj)
    rcases h1 with ⟨k2, e2, h2⟩ | h2
    · rw [hyz] at h2
      have h3 := (List.getElem?_eq_some_iff.mp h2).1
      simp at h3
      subst h3
      have h4 : am j = y0 := by
        have := congrArg Prod.fst (Option.some.inj h2)
        exact this.symm
      exact hyx i hi (he.trans h4)
    · have h3 : H.size ≤ am j := h2
      have := hltx i hi
      omega
  refine lv_astore_n (lv' := [(2, .ref y0), (1, .ref x0), (0, .ref b)]) hx hb dL_law_15 rfl hl (by decide) rfl (fun ls hl => ?_)
  refine lv_iconst (v := 0) hx hb dL_law_16 rfl ?_
  refine lv_istore_n (lv' := [(3, .int 0), (2, .ref y0), (1, .ref x0), (0, .ref b)]) hx hb dL_law_17 rfl hl (by decide) rfl (fun ls hl => ?_)
  have hl := lv_sub hl (l' := [(0, .ref b), (1, .ref x0), (2, .ref y0), (3, .int 0)]) [3, 2, 1, 0] rfl
  -- one world of both
  obtain ⟨ad, hade⟩ : ∃ ad : Nat → Nat, ad = fun k => if k < 44 then ax k else if k < 88 then am (k - 44) else if k = 100 then t0 else if k = 101 then ak else av := ⟨_, rfl⟩
  have hadx : ∀ k, k < 44 → ad k = ax k := fun k hk => by rw [hade]; simp only [if_pos hk]
  have hadm : ∀ k, k < 44 → adM ad k = am k := fun k hk => by
    have h1 : ¬ (k + 44 < 44) := by omega
    have h2 : k + 44 < 88 := by omega
    unfold adM
    rw [hade]
    simp only [if_neg h1, if_pos h2, Nat.add_sub_cancel]
  have hXX := hXX ad (by rw [hade]; rfl) (by rw [hade]; rfl) (by rw [hade]; rfl)
  have eX : ∀ σ : Mem, zwf LcX 44 σ → zwm LcX 44 cA ad σ = zwm LcX 44 cA ax σ := fun σ h => zwm_ext zsm_zLc h hadx (fun _ _ => rfl)
  have eM : ∀ σ : Mem, zwf LcM 44 σ → zwm LcM 44 cA (adM ad) σ = zwm LcM 44 cA am σ := fun σ h => zwm_ext zsm_zLc h hadm (fun _ _ => rfl)
  have hPall : va_P D vwCl (zwm LaL 88 cA ad (jn sgX sgM)) H1 := by
    rw [zwm_jn, ← zwm_cv sgX_cv, ← zwm_cv sgM_cv]
    refine va_P.app ?_ ?_
    · show va_P D vwCl (zwm LcX 44 cA ad (s_X6_init (sg0 LcX))) H1
      rw [eX _ hwfx]
      exact hPx1
    · show va_P D vwCl (zwm LcM 44 cA (adM ad) (s_X7_init (sg0 LcM))) H1
      rw [eM _ hwfm1]
      exact hPm1
  have hAx : ∀ k, k < 44 → A (ax k) := fun k hk => hDx.2 k _ (zwm_get hk)
  have hAm : ∀ k, k < 44 → A (am k) := fun k hk => hfr _ (hDm1.2 k _ (zwm_get hk))
  have hinx : ∀ i j, i < 44 → j < 44 → ax i = ax j → i = j := fun i j hi hj h => hDx.1 i j _ _ (zwm_get hi) (zwm_get hj) h
  have hinm : ∀ i j, i < 44 → j < 44 → am i = am j → i = j := fun i j hi hj h => hDm1.1 i j _ _ (zwm_get hi) (zwm_get hj) h
  have hadv : ∀ k, k < 88 → (k < 44 ∧ ad k = ax k) ∨ (44 ≤ k ∧ ad k = am (k - 44)) := fun k hk => by
    rcases Nat.lt_or_ge k 44 with h | h
    · exact Or.inl ⟨h, hadx k h⟩
    · right
      refine ⟨h, ?_⟩
      have := hadm (k - 44) (by omega)
      unfold adM at this
      rwa [show k - 44 + 44 = k by omega] at this
  have hDall : ∀ σ : Mem, va_D A (zwm LaL 88 cA ad σ) := by
    intro σ
    refine ⟨fun i j p q hi hj hpq => ?_, fun k q hq => ?_⟩
    · obtain ⟨h1, rfl⟩ := zwm_lt hi
      obtain ⟨h2, rfl⟩ := zwm_lt hj
      have hpq : ad i = ad j := hpq
      rcases hadv i h1 with ⟨a1, b1⟩ | ⟨a1, b1⟩ <;> rcases hadv j h2 with ⟨a2, b2⟩ | ⟨a2, b2⟩
      · exact hinx i j a1 a2 (b1.symm.trans (hpq.trans b2))
      · exact absurd (b1.symm.trans (hpq.trans b2)) (hdis i (j - 44) a1 (by omega))
      · exact absurd (b2.symm.trans (hpq.symm.trans b1)) (hdis j (i - 44) a2 (by omega))
      · have := hinm (i - 44) (j - 44) (by omega) (by omega) (b1.symm.trans (hpq.trans b2))
        omega
    · obtain ⟨h1, rfl⟩ := zwm_lt hq
      show A (ad k)
      rcases hadv k h1 with ⟨a1, b1⟩ | ⟨a1, b1⟩
      · rw [b1]; exact hAx k a1
      · rw [b1]; exact hAm (k - 44) (by omega)
  have hCz : zOK ML ((p, l, e, room_1, s), (m, #[Value.ref b], below, meth, c), (lw_Z below #[Value.ref b] s, cA, ad, D, A), 4, 88, 12276) cL_law 4 ret RL lw_tbl room_1 := ⟨hx, hb, hml, hr, hown, hts, hlocks, hK, hDall, rfl, rfl, ML_ok, hXX, Nat.le_of_ble_eq_true rfl, Nat.le_of_ble_eq_true rfl⟩
  have hw := w_law hCz hX hbl hbA hAo (fun σ lv pc hdg H2 locs2 ls2 hP2 hS2 hl2 => va_forget (fun q hq => hAo _ (hS2.2.2 q hq)) (lw_ret hx hb hr hlocks hdg)) FU 0 sgX sgM (hpure L xs hL)
  have hfin := hw H1 locs1 ls hPall hS (by
    have e1 : ad 0 = x0 := (hadx 0 (by decide)).trans hx0.symm
    have e2 : ad 44 = y0 := (show adM ad 0 = y0 from (hadm 0 (by decide)).trans hy0.symm)
    show lv_has ls 4 [(0, .ref b), (1, .ref (ad 0)), (2, .ref (ad 44)), (3, .int 0)]
    rw [e1, e2]
    exact hl)
  exact hfin
