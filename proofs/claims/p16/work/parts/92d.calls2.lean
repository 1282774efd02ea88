/-! the calls, with what they leave of the readings -/
theorem kc_node (cmp : Prop) {mx mm : Mem} (h : JK mx mm) : Hc_node cmp (fun a b => JK a b ∧ CH mx mm a b) mx mm := by
  have h0 := h
  obtain ⟨k, d, N, T, V, W, L, b, c, P, Z, g, hs, hL, x, y, t, l⟩ := h
  intro z v hz
  obtain ⟨x1, x2⟩ := x_node (v := v) g x hz
  obtain ⟨y1, y2⟩ := m_node (v := v) g y hz
  rcases Nat.lt_or_ge k 10 with hk | hk
  · obtain ⟨mx2, ex, ix⟩ := x1 hk
    obtain ⟨mm2, ey, iy⟩ := y1 hk
    exact ⟨_, _, _, _, ex, ey, fun _ => rfl, ⟨JK_f x t l (kf_s_X6_node_SX _ ex) (kf_s_X7_node_SM _ ey) (GG_node g hk) (by
      show sumd (up d k 0) k + up d k 0 k ≤ 40
      rw [sumd_o (Nat.le_refl k), up_s]; omega) hL ix iy, Or.inr ⟨fl_node ex (nng (by omega)), fm_node ey (nng (by omega))⟩⟩⟩
  · have hk10 : k = 10 := by have := g.1; omega
    exact ⟨_, _, _, _, x2 hk10, y2 hk10, fun _ => rfl, ⟨h0, CH_r⟩⟩
theorem kc_value (cmp : Prop) {mx mm : Mem} (h : JK mx mm) : Hc_value cmp (fun a b => JK a b ∧ CH mx mm a b) mx mm := by
  have h0 := h
  obtain ⟨k, d, N, T, V, W, L, b, c, P, Z, g, hs, hL, x, y, t, l⟩ := h
  intro n z v hz
  obtain ⟨x1, x2⟩ := x_value (n := n) (v := v) g x hz
  obtain ⟨y1, y2⟩ := m_value (n := n) (v := v) g y hz
  by_cases hn : 0 ≤ n.toInt ∧ n.toInt < k
  · obtain ⟨a, ha, ea⟩ := (bk_iff (by have := g.1; omega)).mp hn
    obtain ⟨mx2, ex, ix⟩ := x1 a ha ea
    obtain ⟨mm2, ey, iy⟩ := y1 a ha ea
    exact ⟨_, _, _, _, ex, ey, fun _ => rfl, ⟨JK_f x t l (kf_s_X6_value_SX _ ex) (kf_s_X7_value_SM _ ey) g hs hL ix iy, Or.inr ⟨fl_value ex (show NNG 1 by unfold NNG; decide), fm_value ey (show NNG 1 by unfold NNG; decide)⟩⟩⟩
  · exact ⟨_, _, _, _, x2 hn, y2 hn, fun _ => rfl, ⟨h0, CH_r⟩⟩
theorem kc_edge (cmp : Prop) {mx mm : Mem} (h : JK mx mm) : Hc_edge cmp (fun a b => JK a b ∧ CH mx mm a b) mx mm := by
  have h0 := h
  obtain ⟨k, d, N, T, V, W, L, b, c, P, Z, g, hs, hL, x, y, tt, l⟩ := h
  intro v1 v2 v3
  have k10 := g.1
  by_cases hv : (0 ≤ v1.toInt ∧ v1.toInt < k) ∧ (0 ≤ v2.toInt ∧ v2.toInt < (10 : Nat)) ∧ (0 ≤ v3.toInt ∧ v3.toInt < k)
  · obtain ⟨n, hn, en⟩ := (bk_iff (by omega)).mp hv.1
    obtain ⟨a, ha, ea⟩ := (bk_iff (by omega)).mp hv.2.1
    obtain ⟨t, ht, et⟩ := (bk_iff (by omega)).mp hv.2.2
    rw [en, ea, et]
    rcases j_there (k := k) (n := n) (a := a) (t := t) (d := d) (N := N) (T := T) with ⟨i, hi, hN, hT⟩ | hno
    · exact ⟨_, _, _, _, x_edge_there g x hn ha ht hi hN hT, m_edge_there g y hn ha ht hi hN hT, fun _ => rfl, ⟨h0, CH_r⟩⟩
    · by_cases hf : sumd d k = 40 ∨ d n = 5
      · exact ⟨_, _, _, _, x_edge_full g x hn ha ht hno (hf.elim (fun q => Or.inl (by omega)) Or.inr), m_edge_full g y hn ha ht hno hf, fun _ => rfl, ⟨h0, CH_r⟩⟩
      · have h5 := (g.2 n hn).1
        have f1 : sumd d k < 40 := by
          have : sumd d k ≠ 40 := fun q => hf (Or.inl q)
          omega
        have f2 : d n < 5 := by
          have : d n ≠ 5 := fun q => hf (Or.inr q)
          omega
        obtain ⟨mx2, ex, p, hp, px1, px2, ix⟩ := x_edge_new g x hn ha ht hno f1 f2
        obtain ⟨mm2, ey, q, hq, py1, py2, gg, iy⟩ := m_edge_new g y hn ha ht hno f1 f2
        have no : ∀ i, i < d n → LTp a t (N (n * 5 + i)) (T (n * 5 + i)) ∨ LTp (N (n * 5 + i)) (T (n * 5 + i)) a t := fun i hi => by
          have := hno i hi
          unfold LTp
          omega
        have ir : ∀ {u v w z : Nat}, LTp u v w z → LTp w z u v → False := fun {u v w z} r s => by
          unfold LTp at r s
          omega
        have epq : p = q := by
          rcases Nat.lt_trichotomy p q with r | r | r
          · exact absurd (px1 p (Nat.le_refl _) (by omega)) (fun s => ir s (py1 p r))
          · exact r
          · have s := py2 (by omega)
            have s2 := px2 (by omega)
            rcases no (p - 1) (by omega) with w | w
            · exact absurd w s2
            · have s3 : LTp (N (n * 5 + q)) (T (n * 5 + q)) a t := by
                by_cases e : q = p - 1
                · rw [e]; exact w
                · exact LTp_t (GG_lt g hn (show q < p - 1 by omega) (by omega)) w
              exact (ir s s3).elim
        rw [← epq] at gg iy
        refine ⟨_, _, _, _, ex, ey, fun _ => rfl, ⟨JK_f x tt l (kf_s_X6_edge_SX _ ex) (kf_s_X7_edge_SM _ ey) gg ?_ hL ix iy, Or.inr ⟨fl_edge ex (nng (by omega)), fm_edge ey (nng (by omega))⟩⟩⟩
        have := sumd_up (x := d n + 1) (d := d) hn
        omega
  · obtain ⟨ex, -⟩ := x_edge_bad g x hv
    obtain ⟨ey, -⟩ := m_edge_bad g y hv
    exact ⟨_, _, _, _, ex, ey, fun _ => rfl, ⟨h0, CH_r⟩⟩
theorem kc_cut (cmp : Prop) {mx mm : Mem} (h : JK mx mm) : Hc_cut cmp (fun a b => JK a b ∧ CH mx mm a b) mx mm := by
  have h0 := h
  obtain ⟨k, d, N, T, V, W, L, b, c, P, Z, g, hs, hL, x, y, tt, l⟩ := h
  intro v1 v2 v3
  have k10 := g.1
  by_cases hv : (0 ≤ v1.toInt ∧ v1.toInt < k) ∧ (0 ≤ v2.toInt ∧ v2.toInt < (10 : Nat)) ∧ (0 ≤ v3.toInt ∧ v3.toInt < k)
  · obtain ⟨n, hn, en⟩ := (bk_iff (by omega)).mp hv.1
    obtain ⟨a, ha, ea⟩ := (bk_iff (by omega)).mp hv.2.1
    obtain ⟨t, ht, et⟩ := (bk_iff (by omega)).mp hv.2.2
    rw [en, ea, et]
    rcases j_there (k := k) (n := n) (a := a) (t := t) (d := d) (N := N) (T := T) with ⟨i, hi, hN, hT⟩ | hno
    · obtain ⟨mx2, ex, ix⟩ := x_cut_is g x hn ha ht hi hN hT
      obtain ⟨mm2, ey, iy⟩ := m_cut_is g y hn ha ht hi hN hT
      refine ⟨_, _, _, _, ex, ey, fun _ => rfl, ⟨JK_f x tt l (kf_s_X6_cut_SX _ ex) (kf_s_X7_cut_SM _ ey) (GG_del g hn hi) ?_ hL ix iy, Or.inr ⟨fl_cut ex (nng (by omega)), fm_cut ey (nng (by omega))⟩⟩⟩
      have := sumd_up (x := d n - 1) (d := d) hn
      omega
    · exact ⟨_, _, _, _, x_cut_not g x hn ha ht hno, m_cut_not g y hn ha ht hno, fun _ => rfl, ⟨h0, CH_r⟩⟩
  · obtain ⟨-, ex⟩ := x_edge_bad g x hv
    obtain ⟨-, ey⟩ := m_edge_bad g y hv
    exact ⟨_, _, _, _, ex, ey, fun _ => rfl, ⟨h0, CH_r⟩⟩
theorem kc_reset (cmp : Prop) {mx mm : Mem} (h : JK mx mm) : Hc_reset cmp (fun a b => JK a b ∧ CH mx mm a b) mx mm := by
  obtain ⟨k, d, N, T, V, W, L, b, c, P, Z, g, hs, hL, x, y, t, l⟩ := h
  obtain ⟨mx2, ex, ix⟩ := x_reset x
  obtain ⟨mm2, ey, iy⟩ := m_reset y
  exact ⟨_, _, _, _, ex, ey, fun _ => rfl, ⟨JK_f x t l (kf_s_X6_reset_SX _ ex) (kf_s_X7_reset_SM _ ey) GG_0 (Nat.zero_le _) hL ix iy, Or.inr ⟨fl_reset ex, fm_reset ey⟩⟩⟩
theorem fl_end {m m2 : Mem} {a r : Int32} (e : s_X6_end m a = some (r, m2)) : ∀ q, q ≠ 7 → m2 q = m q := fun q hq => by
  unfold s_X6_end at e
  simp only [bn] at e
  by_cases c1 : a < 0
  · rw [if_pos c1] at e
    rw [← (Prod.mk.inj (Option.some.inj e)).2]
  rw [if_neg c1] at e
  by_cases c2 : a ≤ m 7 1
  · rw [if_pos c2] at e
    rw [← (Prod.mk.inj (Option.some.inj e)).2, rd_o hq]
  · rw [if_neg c2] at e
    rw [← (Prod.mk.inj (Option.some.inj e)).2]
theorem fm_end {m m2 : Mem} {a r : Int32} (e : s_X7_end m a = some (r, m2)) : (∀ q, q ≠ 0 → m2 q = m q) ∧ ∀ j, j ≠ 37 → m2 0 j = m 0 j := by
  unfold s_X7_end at e
  simp only [bn] at e
  obtain ⟨r2, -, e⟩ := of_b e
  by_cases c1 : r2 = 0
  · rw [if_pos c1] at e
    have e := (Prod.mk.inj (Option.some.inj e)).2
    subst e
    exact ⟨fun _ _ => rfl, fun _ _ => rfl⟩
  · rw [if_neg c1] at e
    have e := (Prod.mk.inj (Option.some.inj e)).2
    subst e
    exact ⟨fun q hq => rd_o hq, fun j hj => rd_j hj⟩
theorem CH_0 {mx mm a b : Mem} (hx : ∀ q, q ≠ 7 → q ≠ 8 → a q = mx q) (hm : ∀ q, q ≠ 0 → q ≠ 33 → b q = mm q) (hj : ∀ j, j ≠ 37 → b 0 j = mm 0 j) : CH mx mm a b := Or.inl ⟨⟨by rw [hx 39 (by decide) (by decide)], by rw [hx 39 (by decide) (by decide)], hx 40 (by decide) (by decide), hx 41 (by decide) (by decide)⟩, ⟨fun r r1 r2 => hm r (by omega) (by omega), hj 0 (by decide), hj 7 (by decide)⟩, hj 6 (by decide), hm 37 (by decide) (by decide), hm 38 (by decide) (by decide), hm 39 (by decide) (by decide)⟩
theorem kc_end (cmp : Prop) {mx mm : Mem} (h : JK mx mm) : Hc_end cmp (fun a b => JK a b ∧ CH mx mm a b) mx mm := fun v => by
  obtain ⟨r, mx2, q, mm2, ex, ey, hc, hj⟩ := k_end cmp h v
  exact ⟨r, mx2, q, mm2, ex, ey, hc, hj, CH_0 (fun q h7 _ => fl_end ex q h7) (fun q h0 _ => (fm_end ey).1 q h0) (fm_end ey).2⟩
theorem kc_feed (cmp : Prop) {mx mm : Mem} (h : JK mx mm) : Hc_feed cmp (fun a b => JK a b ∧ CH mx mm a b) mx mm := fun v1 v2 v3 v4 v5 => by
  obtain ⟨r, mx2, q, mm2, ex, ey, hc, hj⟩ := k_feed cmp h v1 v2 v3 v4 v5
  obtain ⟨k, d, N, T, V, W, L, b, c, P, Z, g, hs, hL, x, y, t, l⟩ := h
  refine ⟨r, mx2, q, mm2, ex, ey, hc, hj, ?_⟩
  obtain ⟨x1, x2⟩ := X6_feed_eq x.2.2.2.1 hL v1 v2 v3 v4 v5
  obtain ⟨y1, y2⟩ := X7_feed_eq y.2.2.1 hL v1 v2 v3 v4 v5
  by_cases hf : L + 20 ≤ 400
  · obtain ⟨m3, e3, -, f3⟩ := x1 hf
    obtain ⟨m4, e4, -, f4, g4⟩ := y1 hf
    have i3 : m3 = mx2 := (Prod.mk.inj (Option.some.inj (e3.symm.trans ex))).2
    have i4 : m4 = mm2 := (Prod.mk.inj (Option.some.inj (e4.symm.trans ey))).2
    rw [i3] at f3
    rw [i4] at f4 g4
    exact CH_0 f3 f4 g4
  · have i3 : mx = mx2 := (Prod.mk.inj (Option.some.inj ((x2 hf).symm.trans ex))).2
    have i4 : mm = mm2 := (Prod.mk.inj (Option.some.inj ((y2 hf).symm.trans ey))).2
    rw [← i3, ← i4]
    exact CH_r
theorem kc_shapes (cmp : Prop) {mx mm : Mem} (h : JK mx mm) : Hc_shapes cmp (fun a b => JK a b ∧ CH mx mm a b) mx mm := by
  obtain ⟨r, mx2, q, mm2, ex, ey, hc, hj⟩ := k_shapes cmp h
  obtain ⟨k, d, N, T, V, W, L, b, c, P, Z, g, hs, hL, x, y, t, l⟩ := h
  refine ⟨r, mx2, q, mm2, ex, ey, hc, hj, ?_⟩
  obtain ⟨r3, m3, m4, e3, e4, -, -, out⟩ := c_shapes hL x y t
  have i3 : m3 = mx2 := (Prod.mk.inj (Option.some.inj (e3.symm.trans ex))).2
  have i4 : m4 = mm2 := (Prod.mk.inj (Option.some.inj (e4.symm.trans ey))).2
  rw [i3, i4] at out
  rcases out with ⟨-, -, wm, w7, wx, w1, w37, w0, w6⟩ | ⟨b2, c2, P2, -, -, -, -, -, -, -, -, u4, u5, u6, -⟩
  · refine Or.inl ⟨⟨by rw [wx 39 (by decide) (by decide)], by rw [wx 39 (by decide) (by decide)], wx 40 (by decide) (by decide), wx 41 (by decide) (by decide)⟩, ⟨fun r r1 r2 => ?_, w0, w7⟩, w6, w37 37 (by decide) (by decide), w37 38 (by decide) (by decide), w37 39 (by decide) (by decide)⟩
    by_cases z : r ≤ 5
    · exact w1 r r1 z
    · exact wm r (by omega) r2
  · exact Or.inr ⟨⟨u4, u5⟩, u6⟩
theorem shapes_42 {mx mm : Mem} (h : JK mx mm) : ∀ q, s_X6_shapes mx = some q → q.2 42 = mx 42 := fun q e => by
  obtain ⟨k, d, N, T, V, W, L, b, c, P, Z, g, hs, hL, x, y, t, l⟩ := h
  obtain ⟨r3, m3, m4, e3, e4, -, -, out⟩ := c_shapes hL x y t
  have i3 := Option.some.inj (e3.symm.trans e)
  rw [← i3]
  rcases out with ⟨-, -, wm, w7, wx, -⟩ | ⟨b2, c2, P2, -, -, -, -, -, -, -, -, -, -, -, u42⟩
  · exact wx 42 (by decide) (by decide)
  · exact u42
theorem kc_depends (cmp : Prop) {mx mm : Mem} (h : JK mx mm) : Hc_depends cmp (fun a b => JK a b ∧ CH mx mm a b) mx mm := fun v1 v2 => by
  obtain ⟨r, mx2, q, mm2, ex, ey, e2, hc, hj⟩ := k_depends cmp h v1 v2
  have f := kf_s_X7_depends_SL _ ey
  have f : ∀ a, a ≠ 36 → mm2 a = mm a := fun a ha => f a ha
  subst e2
  exact ⟨r, mx2, q, mm2, ex, ey, rfl, hc, hj, Or.inl ⟨KPX_r, ⟨fun r r1 r2 => f r (by omega), by rw [f 0 (by decide)], by rw [f 0 (by decide)]⟩, by rw [f 0 (by decide)], f 37 (by decide), f 38 (by decide), f 39 (by decide)⟩⟩
/-! all calls but those that read -/
theorem JC_of {mx mm a b : Mem} (h : JC mx mm) (hj : JK a b) (h9 : a 39 9 = mx 39 9) (h42 : a 42 = mx 42) (ch : CH mx mm a b) : JC a b := ⟨⟨hj, h9.trans h.1.2⟩, A63_of h.2.1 h42, EX_ch h.2.2 ch⟩
theorem jc_node (cmp : Prop) {mx mm : Mem} (h : JC mx mm) : Hc_node cmp JC mx mm := fun a b hz => by
  obtain ⟨r, mx2, q, mm2, ex, ey, hc, hj, ch⟩ := kc_node cmp h.1.1 a b hz
  exact ⟨r, mx2, q, mm2, ex, ey, hc, JC_of h hj (kg_s_X6_node_SX _ ex) (kf_s_X6_node_SA _ ex 42 rfl) ch⟩
theorem jc_value (cmp : Prop) {mx mm : Mem} (h : JC mx mm) : Hc_value cmp JC mx mm := fun a b c hz => by
  obtain ⟨r, mx2, q, mm2, ex, ey, hc, hj, ch⟩ := kc_value cmp h.1.1 a b c hz
  exact ⟨r, mx2, q, mm2, ex, ey, hc, JC_of h hj (kg_s_X6_value_SX _ ex) (kf_s_X6_value_SA _ ex 42 rfl) ch⟩
theorem jc_edge (cmp : Prop) {mx mm : Mem} (h : JC mx mm) : Hc_edge cmp JC mx mm := fun a b c => by
  obtain ⟨r, mx2, q, mm2, ex, ey, hc, hj, ch⟩ := kc_edge cmp h.1.1 a b c
  exact ⟨r, mx2, q, mm2, ex, ey, hc, JC_of h hj (kg_s_X6_edge_SX _ ex) (kf_s_X6_edge_SA _ ex 42 rfl) ch⟩
theorem jc_cut (cmp : Prop) {mx mm : Mem} (h : JC mx mm) : Hc_cut cmp JC mx mm := fun a b c => by
  obtain ⟨r, mx2, q, mm2, ex, ey, hc, hj, ch⟩ := kc_cut cmp h.1.1 a b c
  exact ⟨r, mx2, q, mm2, ex, ey, hc, JC_of h hj (kg_s_X6_cut_SX _ ex) (kf_s_X6_cut_SA _ ex 42 rfl) ch⟩
theorem jc_feed (cmp : Prop) {mx mm : Mem} (h : JC mx mm) : Hc_feed cmp JC mx mm := fun a b c d e => by
  obtain ⟨r, mx2, q, mm2, ex, ey, hc, hj, ch⟩ := kc_feed cmp h.1.1 a b c d e
  refine ⟨r, mx2, q, mm2, ex, ey, hc, JC_of h hj (kg_s_X6_feed_SX _ ex) ?_ ch⟩
  obtain ⟨k, dd, N, T, V, W, L, bb, cc, P, Z, g, hs, hL, x, y, t, l⟩ := h.1.1
  obtain ⟨x1, x2⟩ := X6_feed_eq x.2.2.2.1 hL a b c d e
  by_cases hf : L + 20 ≤ 400
  · obtain ⟨m3, e3, -, f3⟩ := x1 hf
    have i3 : m3 = mx2 := (Prod.mk.inj (Option.some.inj (e3.symm.trans ex))).2
    rw [← i3]
    exact f3 42 (by decide) (by decide)
  · have i3 : mx = mx2 := (Prod.mk.inj (Option.some.inj ((x2 hf).symm.trans ex))).2
    rw [i3]
theorem jc_end (cmp : Prop) {mx mm : Mem} (h : JC mx mm) : Hc_end cmp JC mx mm := fun a => by
  obtain ⟨r, mx2, q, mm2, ex, ey, hc, hj, ch⟩ := kc_end cmp h.1.1 a
  exact ⟨r, mx2, q, mm2, ex, ey, hc, JC_of h hj (kg_s_X6_end_SX _ ex) (fl_end ex 42 (by decide)) ch⟩
theorem jc_reset (cmp : Prop) {mx mm : Mem} (h : JC mx mm) : Hc_reset cmp JC mx mm := by
  obtain ⟨r, mx2, q, mm2, ex, ey, hc, hj, ch⟩ := kc_reset cmp h.1.1
  exact ⟨r, mx2, q, mm2, ex, ey, hc, JC_of h hj (kg_s_X6_reset_SX _ ex) (kf_s_X6_reset_SA _ ex 42 rfl) ch⟩
theorem jc_shapes (cmp : Prop) {mx mm : Mem} (h : JC mx mm) : Hc_shapes cmp JC mx mm := by
  obtain ⟨r, mx2, q, mm2, ex, ey, hc, hj, ch⟩ := kc_shapes cmp h.1.1
  obtain ⟨k, d, N, T, V, W, L, b, c, P, Z, g, hs, hL, x, y, t, l⟩ := h.1.1
  exact ⟨r, mx2, q, mm2, ex, ey, hc, JC_of h hj (kg_shapes hL x _ ex) (shapes_42 h.1.1 _ ex) ch⟩
theorem jc_depends (cmp : Prop) {mx mm : Mem} (h : JC mx mm) : Hc_depends cmp JC mx mm := fun a b => by
  obtain ⟨r, mx2, q, mm2, ex, ey, e2, hc, hj, ch⟩ := kc_depends cmp h.1.1 a b
  subst e2
  exact ⟨r, mx2, q, mm2, ex, ey, rfl, hc, JC_of h hj rfl rfl ch⟩
theorem jc_fault {mx mm : Mem} (h : JC mx mm) : Hc_fault False JC mx mm := ⟨_, _, _, _, rfl, rfl, rfl, rfl, fun f => f.elim, h⟩
theorem jc_part (cmp : Prop) {mx mm : Mem} (h : JC mx mm) : Hc_part cmp JC mx mm := fun a b c => by
  obtain ⟨r, mx2, q, mm2, ex, ey, e1, e2, hc, hj⟩ := k_part cmp h.1.1 a b c
  exact ⟨r, mx2, q, mm2, ex, ey, e1, e2, hc, by rw [e1, e2]; exact h⟩
theorem jc_told (cmp : Prop) {mx mm : Mem} (h : JC mx mm) : Hc_told cmp JC mx mm := fun a b => by
  obtain ⟨r, mx2, q, mm2, ex, ey, e1, e2, hc, hj⟩ := k_told cmp h.1.1 a b
  exact ⟨r, mx2, q, mm2, ex, ey, e1, e2, hc, by rw [e1, e2]; exact h⟩
theorem jc_from (cmp : Prop) {mx mm : Mem} (h : JC mx mm) : Hc_from cmp JC mx mm := fun a b c => by
  obtain ⟨r, mx2, q, mm2, ex, ey, e1, e2, hc, hj⟩ := k_from cmp h.1.1 a b c
  exact ⟨r, mx2, q, mm2, ex, ey, e1, e2, hc, by rw [e1, e2]; exact h⟩
theorem jc_wanted (cmp : Prop) {mx mm : Mem} (h : JC mx mm) : Hc_wanted cmp JC mx mm := fun a b => by
  obtain ⟨r, mx2, q, mm2, ex, ey, e1, e2, hc, hj⟩ := w_wanted cmp h.1 a b
  exact ⟨r, mx2, q, mm2, ex, ey, e1, e2, hc, by rw [e1, e2]; exact h⟩
