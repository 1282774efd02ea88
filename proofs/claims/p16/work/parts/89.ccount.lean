/-! both readers: what comes behind an item -/
theorem PE_k {mx mm mx2 mm2 : Mem} {b c : Nat} {P : Nat → Nat} (ex : ∀ a, (b + 1 ≤ a ∧ a ≤ b + 6) ∨ (b + 9 ≤ a ∧ a ≤ b + 13) → mx2 a = mx a) (ey : ∀ a, 19 ≤ a → a ≤ 26 → mm2 a = mm a) (h : PE mx mm b c P) : PE mx2 mm2 b c P := fun s hs => PEs_c (fun a a1 a2 => by rw [ex a (by omega)]) (fun a a1 a2 => by rw [ey a (by omega) (by omega)]) (fun a i a1 a2 _ => by rw [ex a (by omega)]) (fun a i a1 a2 _ => by rw [ey a (by omega) (by omega)]) (h s hs)
def TB (b c : Nat) (m m2 : Mem) : Prop := (∀ a, a ≠ 9 → a ≠ b → a ≠ b + 7 → a ≠ b + 8 → m2 a = m a) ∧ (∀ j, j < 2 ∨ 5 < j → m2 9 j = m 9 j) ∧ CB m2 b c
theorem TB_t {b c : Nat} {x y z : Mem} (h : TB b c x y) (g : TB b c y z) : TB b c x z := ⟨fun a a1 a2 a3 a4 => (g.1 a a1 a2 a3 a4).trans (h.1 a a1 a2 a3 a4), fun j hj => (g.2.1 j hj).trans (h.2.1 j hj), g.2.2⟩
theorem TB_9 {b c j : Nat} {m : Mem} {x : Int32} (h : CB m b c) (hj : 2 ≤ j ∧ j ≤ 5) : TB b c m (sto m 9 j x) := by
  have hb := isb_e h.1
  exact ⟨fun a a1 _ _ _ => rd_o a1, fun i hi => rd_j (by omega), CB_o h (rd_o (by omega))⟩
theorem clr_b {x : Int32} {d : Nat} (hd : d < 32) : ∀ l, l < 32 → bt (x &&& (((1 : Int32) <<< (nI d &&& 31)) ^^^ (-1))) l = (bt x l && !decide (l = d)) := fun l hl => by
  rw [b_and, b_xor, one_shl hd hl, b_m1 l hl, Bool.xor_true]
theorem set_b {x : Int32} {d : Nat} (hd : d < 32) : ∀ l, l < 32 → bt (x ||| ((1 : Int32) <<< (nI d &&& 31))) l = (bt x l || decide (l = d)) := fun l hl => by
  rw [b_or, one_shl hd hl]
theorem keep_b {x : Int32} {d : Nat} (q : bt x d = false) : ∀ l, l < 32 → bt x l = (bt x l && !decide (l = d)) := fun l _ => by
  by_cases e : l = d
  · rw [e, q]; rfl
  · rw [decide_eq_false e]; simp
theorem settleC {m : Mem} {b c d : Nat} (h : CB m b (c + 1)) (h9 : m 9 1 = nI b) (h3 : m 9 3 = nI d) (hd : d < 32) : ∃ m2, s_X4_settleComma m = some m2 ∧ TB b (c + 1) m m2 ∧ m2 9 2 = m 9 2 ∧ m2 9 3 = nI d ∧ SC b c d 4 128 m m2 := by
  have hb := isb_e h.1
  unfold s_X4_settleComma
  rw [h3]
  refine ex_if (fun q => ex_s ⟨⟨fun _ _ _ _ _ => rfl, fun _ _ => rfl, h⟩, rfl, h3, ?_⟩) (fun q => ?_)
  · have q := (bit_0 hd).mp q
    exact ⟨fun _ _ => rfl, keep_b q, Or.inr ⟨q, rfl⟩⟩
  have qt : bt (m 9 4) d = true := by
    cases z : bt (m 9 4) d
    · exact absurd ((bit_0 hd).mpr z) q
    · rfl
  rw [h9, zbk_i h.1 rfl]
  refine ex_b (o_addStep2 (v := 128) h rfl) (fun m3 q => ex_n (ex_s ?_))
  obtain ⟨q1, q2, -, q4⟩ := q
  have e9 : m3 9 = m 9 := q2 9 (by omega) (by omega) (by omega)
  have t1 : TB b (c + 1) m m3 := ⟨fun a a9 a0 a7 a8 => q2 a a0 a7 a8, fun j _ => by rw [e9], q1⟩
  exact ⟨TB_t t1 (TB_9 q1 (by omega)), by rw [rd_j (by decide), e9], by rw [rd_j (by decide), e9]; exact h3, fun i hi => by rw [rd_j hi, e9], fun l hl => by rw [rd_s, e9, h3, clr_b hd l hl], Or.inl ⟨qt, SWt_k q4 SK_r (SK_9 (by omega) (by omega) (by omega))⟩⟩
theorem settleB {m : Mem} {b c d : Nat} (h : CB m b (c + 1)) (h9 : m 9 1 = nI b) (h3 : m 9 3 = nI d) (hd : d < 32) : ∃ m2, s_X4_settleBar m = some m2 ∧ TB b (c + 1) m m2 ∧ m2 9 2 = m 9 2 ∧ m2 9 3 = nI d ∧ SC b c d 5 192 m m2 := by
  have hb := isb_e h.1
  unfold s_X4_settleBar
  rw [h3]
  refine ex_if (fun q => ex_s ⟨⟨fun _ _ _ _ _ => rfl, fun _ _ => rfl, h⟩, rfl, h3, ?_⟩) (fun q => ?_)
  · have q := (bit_0 hd).mp q
    exact ⟨fun _ _ => rfl, keep_b q, Or.inr ⟨q, rfl⟩⟩
  have qt : bt (m 9 5) d = true := by
    cases z : bt (m 9 5) d
    · exact absurd ((bit_0 hd).mpr z) q
    · rfl
  rw [h9, zbk_i h.1 rfl]
  refine ex_b (o_addStep2 (v := 192) h rfl) (fun m3 q => ex_n (ex_s ?_))
  obtain ⟨q1, q2, -, q4⟩ := q
  have e9 : m3 9 = m 9 := q2 9 (by omega) (by omega) (by omega)
  have t1 : TB b (c + 1) m m3 := ⟨fun a a9 a0 a7 a8 => q2 a a0 a7 a8, fun j _ => by rw [e9], q1⟩
  exact ⟨TB_t t1 (TB_9 q1 (by omega)), by rw [rd_j (by decide), e9], by rw [rd_j (by decide), e9]; exact h3, fun i hi => by rw [rd_j hi, e9], fun l hl => by rw [rd_s, e9, h3, clr_b hd l hl], Or.inl ⟨qt, SWt_k q4 SK_r (SK_9 (by omega) (by omega) (by omega))⟩⟩
theorem SK_99 {b i j : Nat} {m : Mem} {x y : Int32} (hb : isb b) : SK b m (sto (sto m 9 i x) 9 j y) := by
  have := isb_e hb
  exact SK_t (SK_9 (by omega) (by omega) (by omega)) (SK_9 (by omega) (by omega) (by omega))
theorem tb_comma {m : Mem} {b c d : Nat} (h : CB m b (c + 1)) (h9 : m 9 1 = nI b) (h3 : m 9 3 = nI d) (hd : d < 32) (K : m 10 2 = 44) : ∃ m2, s_X4_takeBehindItem m = some m2 ∧ TB b (c + 1) m m2 ∧ m2 9 2 = 3 ∧ m2 9 3 = nI d ∧ ∃ m4, SC b c d 4 128 m m4 ∧ SK b m4 m2 ∧ (∀ l, l < 32 → bt (m2 9 4) l = (bt (m4 9 4) l || decide (l = d))) ∧ m2 9 5 = m4 9 5 := by
  unfold s_X4_takeBehindItem
  rw [K]
  refine ex_n (ex_b (Q := fun _ => True) (ex_if (fun _ => ex_if (fun _ => ex_s trivial) (fun _ => ex_if (fun _ => ex_s trivial) (fun _ => ex_s trivial))) (fun _ => ex_if (fun _ => ex_s trivial) (fun _ => ex_s trivial))) (fun y2 _ => ?_))
  rw [if_pos rfl]
  refine ex_b (settleC h h9 h3 hd) (fun m4 q => ?_)
  obtain ⟨q1, q2, q3, q4⟩ := q
  rw [if_pos rfl, q3]
  exact ex_n (ex_n (ex_s ⟨TB_t q1 (TB_t (TB_9 q1.2.2 (by omega)) (TB_9 (TB_9 (j := 4) q1.2.2 (by omega)).2.2 (by omega))), rd_s, by rw [rd_j (by decide), rd_j (by decide)]; exact q3, m4, q4, SK_99 h.1, fun l hl => by rw [rd_j (by decide), rd_s, set_b hd l hl], by rw [rd_j (by decide), rd_j (by decide)]⟩))
theorem tb_bar {m : Mem} {b c d : Nat} (h : CB m b (c + 1)) (h9 : m 9 1 = nI b) (h3 : m 9 3 = nI d) (hd : d < 32) (K : m 10 2 = 124) : ∃ m2, s_X4_takeBehindItem m = some m2 ∧ TB b (c + 1) m m2 ∧ m2 9 2 = 3 ∧ m2 9 3 = nI d ∧ ∃ m4 m6, SC b c d 4 128 m m4 ∧ SC b c d 5 192 m4 m6 ∧ SK b m6 m2 ∧ m2 9 4 = m6 9 4 ∧ ∀ l, l < 32 → bt (m2 9 5) l = (bt (m6 9 5) l || decide (l = d)) := by
  unfold s_X4_takeBehindItem
  rw [K]
  refine ex_n (ex_b (Q := fun _ => True) (ex_if (fun _ => ex_if (fun _ => ex_s trivial) (fun _ => ex_if (fun _ => ex_s trivial) (fun _ => ex_s trivial))) (fun _ => ex_if (fun _ => ex_s trivial) (fun _ => ex_s trivial))) (fun y2 _ => ?_))
  rw [if_neg (by decide), if_pos rfl]
  refine ex_b (settleC h h9 h3 hd) (fun m4 q => ?_)
  obtain ⟨q1, q2, q3, q4⟩ := q
  rw [if_neg (by decide)]
  refine ex_b (settleB q1.2.2 (by rw [q1.2.1 1 (by omega)]; exact h9) q3 hd) (fun m6 q => ?_)
  obtain ⟨r1, r2, r3, r4⟩ := q
  rw [if_pos rfl, r3]
  exact ex_n (ex_n (ex_s ⟨TB_t q1 (TB_t r1 (TB_t (TB_9 r1.2.2 (by omega)) (TB_9 (TB_9 (j := 5) r1.2.2 (by omega)).2.2 (by omega)))), rd_s, by rw [rd_j (by decide), rd_j (by decide), r3], m4, m6, q4, r4, SK_99 h.1, by rw [rd_j (by decide), rd_j (by decide)], fun l hl => by rw [rd_j (by decide), rd_s, set_b hd l hl]⟩))
theorem tb_close {m : Mem} {b c d : Nat} (h : CB m b (c + 1)) (h9 : m 9 1 = nI b) (K : m 10 2 = 41) (h3 : m 9 3 = nI (d + 1)) (hd : d < 6) : ∃ m2, s_X4_takeBehindItem m = some m2 ∧ TB b (c + 1) m m2 ∧ m2 9 2 = 8 ∧ m2 9 3 = nI d ∧ ∃ m4 m6, SC b c (d + 1) 4 128 m m4 ∧ SC b c (d + 1) 5 192 m4 m6 ∧ SK b m6 m2 ∧ m2 9 4 = m6 9 4 ∧ m2 9 5 = m6 9 5 := by
  unfold s_X4_takeBehindItem
  rw [K]
  refine ex_n ?_
  rw [h3, if_neg (nn0 (by omega) (by omega)), if_pos rfl, bind_s, if_neg (by decide), if_neg (by decide), if_neg (by decide)]
  refine ex_b (settleC h h9 h3 (by omega)) (fun m4 q => ?_)
  obtain ⟨q1, q2, q3, q4⟩ := q
  rw [if_neg (by decide)]
  refine ex_b (settleB q1.2.2 (by rw [q1.2.1 1 (by omega)]; exact h9) q3 (by omega)) (fun m6 q => ?_)
  obtain ⟨r1, r2, r3, r4⟩ := q
  rw [if_neg (by decide), if_pos rfl, r3, m1_nI]
  exact ex_n (ex_n (ex_s ⟨TB_t q1 (TB_t r1 (TB_t (TB_9 r1.2.2 (by omega)) (TB_9 (TB_9 (j := 3) r1.2.2 (by omega)).2.2 (by omega)))), rd_s, by rw [rd_j (by decide), rd_s], m4, m6, q4, r4, SK_99 h.1, by rw [rd_j (by decide), rd_j (by decide)], by rw [rd_j (by decide), rd_j (by decide)]⟩))
theorem tb_end {m : Mem} {b c : Nat} (h : CB m b (c + 1)) (h9 : m 9 1 = nI b) (h3 : m 9 3 = nI 0) : (m 10 2 = 59 → ∃ m2, s_X4_takeBehindItem m = some m2 ∧ TB b (c + 1) m m2 ∧ m2 9 2 = 0 ∧ m2 9 3 = nI 0 ∧ ∃ m4 m6, SC b c 0 4 128 m m4 ∧ SC b c 0 5 192 m4 m6 ∧ SK b m6 m2 ∧ m2 9 4 = m6 9 4 ∧ m2 9 5 = m6 9 5) ∧ (m 10 2 = 4 → ∃ m4 m2, s_X4_takeBehindItem m = some m2 ∧ TB b (c + 1) m m4 ∧ m4 9 3 = nI 0 ∧ m2 = sto (sto m4 (b + 3) c (vp_nar .boolean 1)) 9 2 13 ∧ ∃ m5, SC b c 0 4 128 m m5 ∧ SC b c 0 5 192 m5 m4) := by
  have hb := isb_e h.1
  have c5 : c < 6 := by have := h.2.2.1; omega
  refine ⟨fun K => ?_, fun K => ?_⟩
  · unfold s_X4_takeBehindItem
    rw [K]
    refine ex_n ?_
    rw [h3, if_pos (by decide), if_pos rfl, bind_s, if_neg (by decide), if_neg (by decide), if_neg (by decide)]
    refine ex_b (settleC h h9 h3 (by decide)) (fun m4 q => ?_)
    obtain ⟨q1, q2, q3, q4⟩ := q
    rw [if_neg (by decide)]
    refine ex_b (settleB q1.2.2 (by rw [q1.2.1 1 (by omega)]; exact h9) q3 (by decide)) (fun m6 q => ?_)
    obtain ⟨r1, r2, r3, r4⟩ := q
    rw [if_neg (by decide), if_neg (by decide)]
    have k6 : m6 10 2 = 59 := by rw [r1.1 10 (by omega) (by omega) (by omega) (by omega), q1.1 10 (by omega) (by omega) (by omega) (by omega)]; exact K
    unfold s_X4_takeShapeEnd s_X4_takeSign
    rw [k6, if_neg (by decide), if_pos rfl]
    exact ⟨_, rfl, TB_t q1 (TB_t r1 (TB_9 r1.2.2 (by omega))), rd_s, by rw [rd_j (by decide), r3], m4, m6, q4, r4, SK_9 (by omega) (by omega) (by omega), rd_j (by decide), rd_j (by decide)⟩
  · unfold s_X4_takeBehindItem
    rw [K]
    show ∃ m4 m2, (Option.bind _ _) = some m2 ∧ _
    rw [h3, if_pos (by decide), if_neg (by decide), if_pos rfl, bind_s, if_neg (by decide), if_neg (by decide), if_neg (by decide)]
    obtain ⟨m4, e4, q1, q2, q3, q4⟩ := settleC h h9 h3 (by decide)
    rw [e4, bind_s, if_neg (by decide)]
    obtain ⟨m6, e6, r1, r2, r3, r4⟩ := settleB q1.2.2 (by rw [q1.2.1 1 (by omega)]; exact h9) q3 (by decide)
    rw [e6, bind_s, if_neg (by decide), if_neg (by decide)]
    have k6 : m6 10 2 = 4 := by rw [r1.1 10 (by omega) (by omega) (by omega) (by omega), q1.1 10 (by omega) (by omega) (by omega) (by omega)]; exact K
    unfold s_X4_takeShapeEnd
    have t := TB_t q1 r1
    rw [k6, if_pos rfl, t.2.1 1 (by omega), h9, zbk_i h.1 rfl, o_close t.2.2.2.1 c5, bind_s]
    exact ⟨m6, _, rfl, t, r3, rfl, m4, q4, r4⟩
theorem tb_bad {m : Mem} (k1 : ¬ m 10 2 = 44) (k2 : ¬ m 10 2 = 124) (hd : (m 9 3 ≤ 0 ∧ ¬ m 10 2 = 59 ∧ ¬ m 10 2 = 4) ∨ (¬ m 9 3 ≤ 0 ∧ ¬ m 10 2 = 41)) : s_X4_takeBehindItem m = some (sto (sto m 9 8 2) 9 9 (m 10 3)) := by
  unfold s_X4_takeBehindItem
  show Option.bind _ _ = _
  rcases hd with ⟨h, h59, h4⟩ | ⟨h, h41⟩
  · rw [if_pos h, if_neg h59, if_neg h4, bind_s, if_neg k1, if_neg k2, if_pos rfl, b_id, fail_eq]
  · rw [if_neg h, if_neg h41, bind_s, if_neg k1, if_neg k2, if_pos rfl, b_id, fail_eq]
/-! both readers: a count -/
def AIS (mx m1 : Mem) : Prop := mx 9 2 = 12 ∨ (mx 9 2 = 8 ∧ ¬ m1 10 2 = 91)
theorem ai_tk {mx m1 : Mem} (h : AIS mx m1) (e : m1 9 = mx 9) : s_X4_takeToken m1 = s_X4_takeBehindItem m1 := by
  rcases h with h | ⟨h, k⟩
  · exact tt_12 (by rw [e]; exact h)
  · rw [tt_8 (by rw [e]; exact h)]
    unfold s_X4_takeBehindOne
    rw [if_neg k, b_id]
theorem taken2_dead {m : Mem} {a : Int32} (h : ¬ m 0 42 = 0) : s_X7_taken2 m a = some m := by
  unfold s_X7_taken2
  rw [if_neg h, bind_s, if_neg h]
theorem taken2_ok {m : Mem} {a : Int32} (h : m 0 42 = 0 ∧ m 0 40 = 4 ∧ m 0 41 = a) : s_X7_taken2 m a = s_X7_next m := by
  unfold s_X7_taken2
  rw [if_pos h.1, is_eq, bind_s, if_bb, if_pos h, bind_s, if_pos h.1, b_id]
theorem taken2_bad {m : Mem} {a : Int32} (h0 : m 0 42 = 0) (h : ¬ (m 0 42 = 0 ∧ m 0 40 = 4 ∧ m 0 41 = a)) : s_X7_taken2 m a = some (fl m 2 (m 0 39)) := by
  unfold s_X7_taken2
  rw [if_pos h0, is_eq, bind_s, if_bb, if_neg h, fails_eq, bind_s, bind_s, if_neg (fl_b (by decide))]
theorem number_dead {m : Mem} (h : ¬ m 0 42 = 0) : s_X7_number m 0 5 = some (m 0 41, sto m 0 44 (m 0 39)) := by
  unfold s_X7_number
  rw [if_neg h, taken_dead h, zb2_s]
theorem number_bad {m : Mem} (h0 : m 0 42 = 0) (h : ¬ m 0 40 = 2) : s_X7_number m 0 5 = some (m 0 41, sto (fl m 2 (m 0 39)) 0 44 (m 0 39)) := by
  unfold s_X7_number
  rw [if_pos h0, if_neg h, taken_bad h0 h, zb2_s]
theorem number_out {m : Mem} (h0 : m 0 42 = 0) (h : m 0 40 = 2) (hr : ¬ (0 ≤ m 0 41 ∧ m 0 41 ≤ 5)) : s_X7_number m 0 5 = some (m 0 41, sto (fl m 3 (m 0 39)) 0 44 (m 0 39)) := by
  have b : ¬ (fl m 3 (m 0 39)) 0 42 = 0 := fl_b (by decide)
  unfold s_X7_number
  rw [if_pos h0, if_pos h, in_i, bind_s, if_neg hr, if_pos rfl, fails_eq, bind_s, taken_dead b, zb2_s, fl_j (by decide) (by decide), fl_j (by decide) (by decide)]
theorem number_ok {m m5 : Mem} (h0 : m 0 42 = 0) (h : m 0 40 = 2) (hr : 0 ≤ m 0 41 ∧ m 0 41 ≤ 5) (hn : s_X7_next (sto m 0 44 (m 0 39)) = some m5) : s_X7_number m 0 5 = some (m 0 41, m5) := by
  unfold s_X7_number
  rw [if_pos h0, if_pos h, in_i, bind_s, if_pos hr, if_neg (by decide), taken_ok h0 h hn, zb2_s]
def cA (k : Nat) (x : Mem) : Option Mem := zb2 (s_X7_number x 0 5) fun r27 m28 => ck (zin (nI k) 960 = true) (bn (sto m28 31 k r27) fun m30 => (s_X7_taken2 m30 93).bind fun m32 => some m32)
theorem dead_A {i k : Nat} {mx d : Mem} (zk : zin (nI k) 960 = true) (h : DD i mx d) : ∃ r, cA k d = some r ∧ DD i mx r := by
  unfold cA
  rw [number_dead h.1, zb2_s]
  refine ex_ck zk (ex_n ?_)
  have d1 := DD_c (a := 31) (j := k) (x := d 0 41) (DD_44 (x := d 0 39) h) (by decide)
  rw [taken2_dead d1.1, bind_s]
  exact ex_s d1
def cB (k : Nat) (m9 : Mem) : Option Mem := (if (m9 0 42) = 0 then ((if (m9 0 40) = 2 then ((s_X7_in (m9 0 41).toInt64 0 5).bind fun r25 => (if r25 = 0 then cA k m9 else (ck (zin (nI k) 960 = true) ((if (m9 30 k) ≤ (m9 0 41) then cA k m9 else ((s_X7_fails m9 3 (m9 0 39)).bind fun m42 => cA k m42)))))) else cA k m9)) else cA k m9)
theorem count_red {m m4 : Mem} {k : Nat} (hk : k < 960) (h : m 0 42 = 0 ∧ m 0 40 = 4 ∧ m 0 41 = 91) (hn : s_X7_next m = some m4) : s_X7_readCount m (nI k) = (zb2 (s_X7_number m4 0 5) fun r6 m7 => ck (zin (nI k) 960 = true) (bn (sto m7 30 k r6) fun m9 => cB k m9)) := by
  unfold s_X7_readCount
  rw [is_eq, bind_s, if_bb, if_pos h, hn, bind_s, ix_nI (n := k) (by omega)]
  rfl
theorem i05n {x : Int32} (h : 0 ≤ x ∧ x ≤ 5) : ∃ l, l ≤ 5 ∧ x = nI l := by
  obtain ⟨h1, h2⟩ := h
  have h1 := le_i.mp h1
  have h2 := le_i.mp h2
  rw [toInt_0] at h1
  rw [show (5 : Int32).toInt = 5 from rfl] at h2
  obtain ⟨j, -, e, ej⟩ := int_nI h1
  exact ⟨j, by omega, e⟩
/-- what a count does: nothing, or one step -/
def EC (mx mm mx2 mm2 : Mem) (i j b c it : Nat) : Prop := (i ≤ j ∧ SK b mx mx2 ∧ ∀ a, 27 ≤ a → a ≤ 35 → mm2 a = mm a) ∨ ∃ l h, l ≤ 5 ∧ h ≤ 5 ∧ i + 4 ≤ j ∧ SWt mx mx2 b c (64 + (l * 8 + h)) ∧ mm2 30 = upd (mm 30) (160 * c + it) (nI l) ∧ mm2 31 = upd (mm 31) (160 * c + it) (nI h) ∧ ∀ a, 27 ≤ a → a ≤ 35 → a ≠ 30 → a ≠ 31 → mm2 a = mm a
theorem c_count {L i c b it : Nat} {mx mm m1 : Mem} {P : Nat → Nat} (h : TOK L i mx mm m1) (hst : mx 9 2 = 8) (h9 : mx 9 1 = nI b) (hC : CB mx b (c + 1)) (hE : PE mx mm b (c + 1) P) (hit : it < 160) : ∃ mm2, s_X7_readCount mm (nI (160 * c + it)) = some mm2 ∧ ((mm2 0 42 = 0 ∧ ∃ j mx2 m3, XS i mx j mx2 ∧ TOK L j mx2 mm2 m3 ∧ AIS mx2 m3 ∧ mx2 9 1 = nI b ∧ (∀ k, 3 ≤ k → k ≤ 5 → mx2 9 k = mx 9 k) ∧ CB mx2 b (c + 1) ∧ PE mx2 mm2 b (c + 1) P ∧ EC mx mm mx2 mm2 i j b c it) ∨ DD i mx mm2) := by
  have hb2 := isb_e hC.1
  have c6 : c < 6 := by have := hC.2.2.1; omega
  have zk : zin (nI (160 * c + it)) 960 = true := zin_nI (by omega) (by decide)
  have q9 : m1 9 = mx 9 := h.2.1 9 (by decide)
  have h4 := h.2.2.2.1
  have h5 := h.2.2.2.2.1
  by_cases z : mm 0 42 = 0 ∧ mm 0 40 = 4 ∧ mm 0 41 = 91
  rotate_left
  · refine ⟨mm, ?_, Or.inl ⟨h4, i, mx, m1, XS_r, h, Or.inr ⟨hst, fun q => z ((TOK_is h (by unfold sgn; decide)).mpr q)⟩, h9, fun _ _ _ => rfl, hC, hE, Or.inl ⟨Nat.le_refl _, SK_r, fun _ _ _ => rfl⟩⟩⟩
    unfold s_X7_readCount
    rw [is_eq, bind_s, if_bb, if_neg z]
  have K := (TOK_is h (by unfold sgn; decide)).mp z
  have tkA : s_X4_takeToken m1 = some (sto m1 9 2 9) := by
    rw [tt_8 (by rw [q9]; exact hst)]
    unfold s_X4_takeBehindOne
    rw [if_pos K]
    rfl
  obtain ⟨m4, e4, c4, j4, out⟩ := tk_next (mn := mm) h (by rw [z.2.1]; decide) tkA (rd_o (by decide)) (rd_o (by decide)) (rd_o (by decide)) (by rw [rd_j (by decide), q9]; exact h5) (by rw [rd_s]; decide) (fun _ _ => rfl) rfl
  rw [count_red (by omega) z e4]
  have dB : ∀ d r6, DD i mx d → ∃ r, (ck (zin (nI (160 * c + it)) 960 = true) (bn (sto d 30 (160 * c + it) r6) fun m9 => cB (160 * c + it) m9)) = some r ∧ DD i mx r := fun d r6 D => by
    refine ex_ck zk (ex_n ?_)
    have d1 := DD_c (a := 30) (j := 160 * c + it) (x := r6) D (by decide)
    unfold cB
    rw [if_neg d1.1]
    exact dead_A zk d1
  rcases out with ⟨o0, X1, m3, T3⟩ | ⟨o0, F⟩
  rotate_left
  · have D : DD i mx m4 := ⟨o0, F⟩
    rw [number_dead o0, zb2_s]
    exact ex_w (dB _ _ (DD_44 D)) (fun r hr => Or.inr hr)
  have m3c := T3.2.1
  have m39 : ∀ j, j ≠ 2 → m3 9 j = mx 9 j := fun j hj => by rw [m3c 9 (by decide), rd_j hj, q9]
  have t9 := tt_9 (m := m3) (by rw [m3c 9 (by decide), rd_s])
  have m38 : m3 9 8 = 0 := by rw [m39 8 (by decide)]; exact h5
  have mfe : ∀ {m : Mem} {x : Int32}, ¬ x = 0 → ¬ (sto (sto m 9 8 x) 9 9 (m 10 3)) 9 8 = 0 := fun {m x} hx => by rw [rd_j (by decide), rd_s]; exact hx
  by_cases s4 : m4 0 40 = 2
  rotate_left
  · have nK : ¬ m3 10 2 = 3 := fun q => s4 ((KT_w T3.2.2.1.1).2.2.1.mpr q)
    rw [number_bad o0 s4, zb2_s]
    refine ex_w (dB _ _ (DD_44 (DD_f o0 (by decide) (FLD_t X1 (tk_fail (mf := m3) (k := 2) T3 (by decide) ?_))))) (fun r hr => Or.inr hr)
    rw [t9]
    unfold s_X4_takeLeast s_X4_isNumberFrom
    rw [if_neg nK, b_id, fail_eq, bind_s, if_neg (mfe (by decide)), zb2_s, if_pos rfl]
  have K3 : m3 10 2 = 3 := (KT_w T3.2.2.1.1).2.2.1.mp s4
  have nv : m3 10 4 = m4 0 41 := T3.2.2.1.2.1 (Or.inr s4)
  by_cases r4 : 0 ≤ m4 0 41 ∧ m4 0 41 ≤ 5
  rotate_left
  · rw [number_out o0 s4 r4, zb2_s]
    refine ex_w (dB _ _ (DD_44 (DD_f o0 (by decide) (FLD_t X1 (tk_fail (mf := m3) (k := 3) T3 (by decide) ?_))))) (fun r hr => Or.inr hr)
    rw [t9]
    unfold s_X4_takeLeast s_X4_isNumberFrom
    rw [if_pos K3, nv]
    by_cases q : m4 0 41 < 0
    · rw [if_pos q, b_id, fail_eq, bind_s, if_neg (mfe (by decide)), zb2_s, if_pos rfl]
    · rw [if_neg q, if_neg (fun q2 => r4 ⟨Int32.not_lt.mp q, q2⟩), b_id, fail_eq, bind_s, if_neg (mfe (by decide)), zb2_s, if_pos rfl]
  have tkB : s_X4_takeToken m3 = some (sto (sto m3 9 7 (m4 0 41)) 9 2 10) := by
    rw [t9]
    unfold s_X4_takeLeast s_X4_isNumberFrom
    rw [if_pos K3, nv, if_neg (Int32.not_lt.mpr r4.1), if_pos r4.2, bind_s, if_pos m38, zb2_s, if_neg (by decide), nv]
    rfl
  obtain ⟨m7, e7, c7, j7, out2⟩ := tk_next (mn := sto m4 0 44 (m4 0 39)) T3 (by rw [s4]; decide) tkB (by rw [rd_o (by decide), rd_o (by decide)]) (by rw [rd_o (by decide), rd_o (by decide)]) (by rw [rd_o (by decide), rd_o (by decide)]) (by rw [rd_j (by decide), rd_j (by decide)]; exact m38) (by rw [rd_s]; decide) (fun j _ => rd_j (by omega)) (rd_o (by decide))
  rw [number_ok o0 s4 r4 e7, zb2_s]
  rcases out2 with ⟨p0, X2, m5, T5⟩ | ⟨p0, F2⟩
  rotate_left
  · exact ex_w (dB _ _ ⟨p0, FLD_t X1 F2⟩) (fun r hr => Or.inr hr)
  have X12 := XS_t X1 X2
  have m5c := T5.2.1
  have m59 : ∀ j, j ≠ 2 → j ≠ 7 → m5 9 j = mx 9 j := fun j j2 j7 => by rw [m5c 9 (by decide), rd_j j2, rd_j j7]; exact m39 j j2
  have m597 : m5 9 7 = m4 0 41 := by rw [m5c 9 (by decide), rd_j (by decide), rd_s]
  have m5b : ∀ a, a ≠ 9 → a ≠ 10 → m5 a = mx a := fun a a9 a10 => by rw [m5c a a10, rd_o a9, rd_o a9, m3c a a10, rd_o a9, h.2.1 a a10]
  have t10 := tt_10 (m := m5) (by rw [m5c 9 (by decide), rd_s])
  have m58 : m5 9 8 = 0 := by rw [m59 8 (by decide) (by decide)]; exact h5
  refine ex_ck zk (ex_n ?_)
  have s0 : (sto m7 30 (160 * c + it) (m4 0 41)) 0 = m7 0 := rd_o (by decide)
  have s30 : (sto m7 30 (160 * c + it) (m4 0 41)) 30 (160 * c + it) = m4 0 41 := rd_s
  have s30u : (sto m7 30 (160 * c + it) (m4 0 41)) 30 = upd (mm 30) (160 * c + it) (m4 0 41) := by rw [sto_same, c7 30 (by decide), rd_o (by decide), c4 30 (by decide)]
  have sc : ∀ a, a ≠ 0 → a ≠ 30 → (sto m7 30 (160 * c + it) (m4 0 41)) a = mm a := fun a a0 a3 => by rw [rd_o a3, c7 a a0, rd_o a0, c4 a a0]
  have T9 : TOK L (i + 1 + 1) (sto (sto m3 9 7 (m4 0 41)) 9 2 10) (sto m7 30 (160 * c + it) (m4 0 41)) m5 := TOK_m T5 (fun j _ => by rw [s0]) (rd_o (by decide))
  generalize sto m7 30 (160 * c + it) (m4 0 41) = n9 at s0 s30 s30u sc T9 ⊢
  have n42 : n9 0 42 = 0 := by rw [s0]; exact p0
  unfold cB
  rw [if_pos n42]
  by_cases s9 : n9 0 40 = 2
  rotate_left
  · have nK : ¬ m5 10 2 = 3 := fun q => s9 ((KT_w T9.2.2.1.1).2.2.1.mpr q)
    rw [if_neg s9]
    unfold cA
    rw [number_bad n42 s9, zb2_s]
    refine ex_ck zk (ex_n ?_)
    have D : DD i mx (sto (sto (fl n9 2 (n9 0 39)) 0 44 (n9 0 39)) 31 (160 * c + it) (n9 0 41)) := DD_c (DD_44 (DD_f n42 (by decide) (FLD_t X12 (tk_fail (mf := m5) (k := 2) T9 (by decide) (by
      rw [t10]
      unfold s_X4_takeMost s_X4_isNumberFrom
      rw [if_neg nK, b_id, fail_eq, bind_s, if_neg (mfe (by decide)), zb2_s, if_pos rfl]))))) (by decide)
    rw [taken2_dead D.1, bind_s]
    exact ex_s (Or.inr D)
  have K5 : m5 10 2 = 3 := (KT_w T9.2.2.1.1).2.2.1.mp s9
  have nv5 : m5 10 4 = n9 0 41 := T9.2.2.1.2.1 (Or.inr s9)
  have in5 : s_X7_in (n9 0 41).toInt64 0 5 = some (bb (0 ≤ n9 0 41 ∧ n9 0 41 ≤ 5)) := in_lh (by decide) (by decide)
  rw [if_pos s9, in5, bind_s, if_bb]
  by_cases r9 : 0 ≤ n9 0 41 ∧ n9 0 41 ≤ 5
  rotate_left
  · rw [if_neg r9]
    unfold cA
    rw [number_out n42 s9 r9, zb2_s]
    refine ex_ck zk (ex_n ?_)
    have D : DD i mx (sto (sto (fl n9 3 (n9 0 39)) 0 44 (n9 0 39)) 31 (160 * c + it) (n9 0 41)) := DD_c (DD_44 (DD_f n42 (by decide) (FLD_t X12 (tk_fail (mf := m5) (k := 3) T9 (by decide) (by
      rw [t10]
      unfold s_X4_takeMost s_X4_isNumberFrom
      rw [if_pos K5, nv5, m597]
      by_cases q : n9 0 41 < m4 0 41
      · rw [if_pos q, b_id, fail_eq, bind_s, if_neg (mfe (by decide)), zb2_s, if_pos rfl]
      · rw [if_neg q, if_neg (fun q2 => r9 ⟨Int32.le_trans r4.1 (Int32.not_lt.mp q), q2⟩), b_id, fail_eq, bind_s, if_neg (mfe (by decide)), zb2_s, if_pos rfl]))))) (by decide)
    rw [taken2_dead D.1, bind_s]
    exact ex_s (Or.inr D)
  rw [if_pos r9]
  refine ex_ck zk ?_
  rw [s30]
  by_cases hle : m4 0 41 ≤ n9 0 41
  rotate_left
  · rw [if_neg hle, fails_eq, bind_s]
    refine ex_w (dead_A zk (DD_f n42 (by decide) (FLD_t X12 (tk_fail (mf := m5) (k := 3) T9 (by decide) ?_)))) (fun r hr => Or.inr hr)
    rw [t10]
    unfold s_X4_takeMost s_X4_isNumberFrom
    rw [if_pos K5, nv5, m597, if_pos (Int32.not_le.mp hle), b_id, fail_eq, bind_s, if_neg (mfe (by decide)), zb2_s, if_pos rfl]
  rw [if_pos hle]
  have cb5 : CB m5 b (c + 1) := CB_o hC (m5b b (by omega) (by omega))
  obtain ⟨vl, hvl, evl⟩ := i05n r4
  obtain ⟨vh, hvh, evh⟩ := i05n r9
  obtain ⟨m6, e6, cb6, f6, -, sw6⟩ := o_addStep2 (v := 64 + (vl * 8 + vh)) (kd := 1) (ar := (m4 0 41) * 8 + n9 0 41) cb5 (by rw [evl, evh, show (8 : Int32) = nI 8 from rfl, nI_mul, nI_add, show (1 : Int32) * 64 = nI 64 from rfl, nI_add])
  have tkC : s_X4_takeToken m5 = some (sto m6 9 2 11) := by
    rw [t10]
    unfold s_X4_takeMost s_X4_isNumberFrom
    rw [if_pos K5, nv5, m597, if_neg (Int32.not_lt.mpr hle), if_pos r9.2, bind_s, if_pos m58, zb2_s, if_neg (by decide), m59 1 (by decide) (by decide), h9, zbk_i hC.1 rfl, m597, nv5, e6, bind_s]
    rfl
  have f6' : ∀ a, a < b → m6 a = m5 a := fun a ha => f6 a (by omega) (by omega) (by omega)
  obtain ⟨m12, e12, c12, j12, out3⟩ := tk_next (mn := sto n9 0 44 (n9 0 39)) T9 (by rw [s9]; decide) tkC (by rw [rd_o (by decide), f6' 10 (by omega)]) (by rw [rd_o (by decide), f6' 7 (by omega)]) (by rw [rd_o (by decide), f6' 8 (by omega)]) (by rw [rd_j (by decide), f6' 9 (by omega)]; exact m58) (by rw [rd_s]; decide) (fun j _ => rd_j (by omega)) (rd_o (by decide))
  unfold cA
  rw [number_ok n42 s9 r9 e12, zb2_s]
  refine ex_ck zk (ex_n ?_)
  have u0 : (sto m12 31 (160 * c + it) (n9 0 41)) 0 = m12 0 := rd_o (by decide)
  have uc : ∀ a, a ≠ 0 → a ≠ 30 → a ≠ 31 → (sto m12 31 (160 * c + it) (n9 0 41)) a = mm a := fun a a0 a3 a31 => by rw [rd_o a31, c12 a a0, rd_o a0]; exact sc a a0 a3
  have u30 : (sto m12 31 (160 * c + it) (n9 0 41)) 30 = upd (mm 30) (160 * c + it) (m4 0 41) := by rw [rd_o (by decide), c12 30 (by decide), rd_o (by decide)]; exact s30u
  have u31 : (sto m12 31 (160 * c + it) (n9 0 41)) 31 = upd (mm 31) (160 * c + it) (n9 0 41) := by rw [sto_same, c12 31 (by decide), rd_o (by decide), sc 31 (by decide) (by decide)]
  rcases out3 with ⟨p3, X3, m8, T8⟩ | ⟨p3, F3⟩
  rotate_left
  · have D : DD i mx (sto m12 31 (160 * c + it) (n9 0 41)) := DD_c ⟨p3, FLD_t X12 F3⟩ (by decide)
    rw [taken2_dead D.1, bind_s]
    exact ex_s (Or.inr D)
  have X13 := XS_t X12 X3
  have T8' : TOK L (i + 1 + 1 + 1) (sto m6 9 2 11) (sto m12 31 (160 * c + it) (n9 0 41)) m8 := TOK_m T8 (fun j _ => by rw [u0]) (rd_o (by decide))
  generalize sto m12 31 (160 * c + it) (n9 0 41) = u at u0 uc u30 u31 T8' ⊢
  have m8c := T8'.2.1
  have t11 := tt_11 (m := m8) (by rw [m8c 9 (by decide), rd_s])
  have m89 : ∀ j, j ≠ 2 → j ≠ 7 → m8 9 j = mx 9 j := fun j j2 j7 => by rw [m8c 9 (by decide), rd_j j2, f6' 9 (by omega)]; exact m59 j j2 j7
  have iK := TOK_is (s := 93) T8' (by unfold sgn; decide)
  have u42 := T8'.2.2.2.1
  by_cases z93 : u 0 42 = 0 ∧ u 0 40 = 4 ∧ u 0 41 = 93
  rotate_left
  · have nK : ¬ m8 10 2 = 93 := fun q => z93 (iK.mpr q)
    rw [taken2_bad u42 z93, bind_s]
    refine ex_s (Or.inr (DD_f u42 (by decide) (FLD_t X13 (tk_fail (mf := m8) (k := 2) T8' (by decide) ?_))))
    rw [t11]
    unfold s_X4_takeSign
    rw [if_neg nK, b_id, fail_eq]
  have tkE : s_X4_takeToken m8 = some (sto m8 9 2 12) := by
    rw [t11]
    unfold s_X4_takeSign
    rw [if_pos (iK.mp z93)]
    rfl
  obtain ⟨mf, ef, cf, jf2, out4⟩ := tk_next (mn := u) T8' (by rw [z93.2.1]; decide) tkE (rd_o (by decide)) (rd_o (by decide)) (rd_o (by decide)) (by rw [rd_j (by decide), m89 8 (by decide) (by decide)]; exact h5) (by rw [rd_s]; decide) (fun _ _ => rfl) rfl
  rw [taken2_ok z93, ef, bind_s]
  rcases out4 with ⟨p4, X4, m14, T14⟩ | ⟨p4, F4⟩
  rotate_left
  · exact ex_s (Or.inr ⟨p4, FLD_t X13 F4⟩)
  have m8b : ∀ a, a ≠ 9 → a ≠ 10 → a ≠ b → a ≠ b + 7 → a ≠ b + 8 → m8 a = mx a := fun a a9 a10 a0 a7 a8 => by rw [m8c a a10, rd_o a9, f6 a a0 a7 a8]; exact m5b a a9 a10
  refine ex_s (Or.inl ⟨p4, _, _, m14, XS_t X13 X4, T14, Or.inl rd_s, ?_, ?_, ?_, PE_k (fun a ha => ?_) (fun a a1 a2 => ?_) hE, Or.inr ⟨vl, vh, hvl, hvh, by omega, SWt_k sw6 ⟨by rw [m5b b (by omega) (by omega)], m5b (b + 7) (by omega) (by omega), m5b (b + 8) (by omega) (by omega)⟩ ⟨by rw [rd_o (by omega), m8c b (by omega), rd_o (by omega)], by rw [rd_o (by omega), m8c (b + 7) (by omega), rd_o (by omega)], by rw [rd_o (by omega), m8c (b + 8) (by omega), rd_o (by omega)]⟩, by rw [cf 30 (by omega), u30, evl], by rw [cf 31 (by omega), u31, evh], fun a a1 a2 a3 a4 => by rw [cf a (by omega)]; exact uc a (by omega) a3 a4⟩⟩)
  · rw [rd_j (by decide), m89 1 (by decide) (by decide)]; exact h9
  · intro k k1 k2; rw [rd_j (by omega)]; exact m89 k (by omega) (by omega)
  · exact CB_o cb6 (by rw [rd_o (by omega), m8c b (by omega), rd_o (by omega)])
  · rw [rd_o (by omega)]; exact m8b a (by omega) (by omega) (by omega) (by omega) (by omega)
  · rw [cf a (by omega)]; exact uc a (by omega) (by omega) (by omega)
