/-! both together, with the tape and what a text told -/
theorem byte_eq (v : Int32) (n : Nat) (hn : n ≤ 24) : (vp_nar .byte (zus v (nI n)).toInt8.toInt32) &&& 255 = (v >>> (nI n &&& 31)) &&& 255 := by
  have e : vp_nar .byte (zus v (nI n)).toInt8.toInt32 = (zus v (nI n)).toInt8.toInt32 := by
    unfold vp_nar
    rw [pk_nb]
  rw [e]
  apply b_ext
  intro i hi
  rw [b_and, b_and, b_255]
  by_cases h8 : i < 8
  · have e1 : bt ((zus v (nI n)).toInt8.toInt32) i = bt (zus v (nI n)) i := by
      unfold bt
      show (BitVec.signExtend 32 (BitVec.signExtend 8 (zus v (nI n)).toBitVec)).getLsbD i = _
      rw [BitVec.getLsbD_signExtend, BitVec.getLsbD_signExtend]
      simp [h8, hi]
    rw [e1, b_sshr n (by omega) v hi, if_pos (by omega)]
    have e2 : bt (zus v (nI n)) i = bt v (n + i) := b_ushr n (by omega) v i
    rw [e2]
  · simp [h8]
def ap1 (m : Mem) (k : Nat) (x : Int32) : Mem := sto (sto m 8 k x) 7 1 (nI (k + 1))
def pu1 (m : Mem) (k : Nat) (x : Int32) : Mem := sto (sto m 33 k x) 0 37 (nI (k + 1))
theorem TPE_1 {mx mm : Mem} {k : Nat} {x y : Int32} (h : TPE mx mm) (e : x &&& 255 = y) : TPE (ap1 mx k x) (pu1 mm k y) := fun p hp => by
  unfold ap1 pu1
  rw [rd_o (show (8 : Nat) ≠ 7 by decide), rd_o (show (33 : Nat) ≠ 0 by decide)]
  by_cases q : p = k
  · rw [q, rd_s, rd_s]; exact e
  · rw [rd_j q, rd_j q]; exact h p hp
theorem tape_put {mx mm : Mem} {v : Int32} {k : Nat} (h7 : mx 7 1 = nI k) (h37 : mm 0 37 = nI k) (hk : k + 4 ≤ 400) (h : TPE mx mm) : ∃ mx2 mm2, s_X3_append mx v = some mx2 ∧ s_X7_put mm v = some mm2 ∧ mx2 7 1 = nI (k + 4) ∧ mm2 0 37 = nI (k + 4) ∧ TPE mx2 mm2 := by
  have sx : ∀ (m : Mem) (k : Nat) (x : Int32), (ap1 m k x) 7 1 = nI (k + 1) := fun m k x => rd_s
  have sm : ∀ (m : Mem) (k : Nat) (x : Int32), (pu1 m k x) 0 37 = nI (k + 1) := fun m k x => rd_s
  have b24 := byte_eq v 24 (by omega)
  have b16 := byte_eq v 16 (by omega)
  have b8 := byte_eq v 8 (by omega)
  have b0 := byte_eq v 0 (by omega)
  have t1 := TPE_1 (k := k) h b24
  have t2 := TPE_1 (k := k + 1) t1 b16
  have t3 := TPE_1 (k := k + 1 + 1) t2 b8
  have t4 := TPE_1 (k := k + 1 + 1 + 1) t3 b0
  refine ⟨_, _, ?_, ?_, sx _ _ _, sm _ _ _, t4⟩
  · unfold s_X3_append l_X3_append_3
    rw [FU_5]
    rw [zlp_on (app_step (i := 24) (by decide) h7 (by omega)), show (24 : Int32) + (-8) = 16 by decide]
    rw [zlp_on (app_step (i := 16) (by decide) (sx _ _ _) (by omega)), show (16 : Int32) + (-8) = 8 by decide]
    rw [zlp_on (app_step (i := 8) (by decide) (sx _ _ _) (by omega)), show (8 : Int32) + (-8) = 0 by decide]
    rw [zlp_on (app_step (i := 0) (by decide) (sx _ _ _) (by omega)), show (0 : Int32) + (-8) = -8 by decide]
    rw [zlp_off (show t_X3_append_3 v (-8) _ = some (.inr _) by unfold t_X3_append_3; rw [if_pos (by decide)])]
    rfl
  · unfold s_X7_put l_X7_put_3
    rw [FU_5]
    rw [zlp_on (put_step (i := 24) (by decide) h37 (by omega)), show (24 : Int32) + (-8) = 16 by decide]
    rw [zlp_on (put_step (i := 16) (by decide) (sm _ _ _) (by omega)), show (16 : Int32) + (-8) = 8 by decide]
    rw [zlp_on (put_step (i := 8) (by decide) (sm _ _ _) (by omega)), show (8 : Int32) + (-8) = 0 by decide]
    rw [zlp_on (put_step (i := 0) (by decide) (sm _ _ _) (by omega)), show (0 : Int32) + (-8) = -8 by decide]
    rw [zlp_off (show t_X7_put_3 v (-8) _ = some (.inr _) by unfold t_X7_put_3; rw [if_pos (by decide)])]
    rfl
theorem tape_feed {mx mm : Mem} {k : Nat} (h7 : mx 7 1 = nI k) (h37 : mm 0 37 = nI k) (hk : k + 20 ≤ 400) (h : TPE mx mm) (a b c d e : Int32) : ∃ mx2 mm2, s_X6_feed mx a b c d e = some (nI (k + 20), mx2) ∧ s_X7_feed mm a b c d e = some (nI (k + 20), mm2) ∧ TPE mx2 mm2 := by
  obtain ⟨x1, y1, ex1, ey1, kx1, ky1, t1⟩ := tape_put (v := a) h7 h37 (by omega) h
  obtain ⟨x2, y2, ex2, ey2, kx2, ky2, t2⟩ := tape_put (v := b) kx1 ky1 (by omega) t1
  obtain ⟨x3, y3, ex3, ey3, kx3, ky3, t3⟩ := tape_put (v := c) kx2 ky2 (by omega) t2
  obtain ⟨x4, y4, ex4, ey4, kx4, ky4, t4⟩ := tape_put (v := d) kx3 ky3 (by omega) t3
  obtain ⟨x5, y5, ex5, ey5, kx5, ky5, t5⟩ := tape_put (v := e) kx4 ky4 (by omega) t4
  refine ⟨x5, y5, ?_, ?_, t5⟩
  · unfold s_X6_feed
    rw [h7, if_pos ((nI_20le (by omega)).mpr hk), ex1, bind_s, ex2, bind_s, ex3, bind_s, ex4, bind_s, ex5, bind_s, kx5]
  · unfold s_X7_feed
    rw [h37, if_pos ((nI_20le (by omega)).mpr hk), ey1, bind_s, ey2, bind_s, ey3, bind_s, ey4, bind_s, ey5, bind_s, ky5]
theorem LB_f {mx mm mx2 mm2 : Mem} {b c : Nat} {P : Nat → Nat} (hb : isb b) (h : LB mx mm b c P) (ex : ∀ a, 11 ≤ a → a ≤ 38 → mx2 a = mx a) (ey : ∀ a, 6 ≤ a → a ≤ 18 → mm2 a = mm a) : LB mx2 mm2 b c P := by
  have hb2 := isb_e hb
  unfold LB
  rw [ex b (by omega) (by omega), ex (b + 2) (by omega) (by omega), ex (b + 1) (by omega) (by omega), ex (b + 3) (by omega) (by omega), ex (b + 4) (by omega) (by omega), ex (b + 5) (by omega) (by omega), ex (b + 9) (by omega) (by omega), ex (b + 10) (by omega) (by omega), ex (b + 11) (by omega) (by omega), ex (b + 12) (by omega) (by omega), ey 6 (by omega) (by omega), ey 7 (by omega) (by omega), ey 9 (by omega) (by omega), ey 10 (by omega) (by omega), ey 11 (by omega) (by omega), ey 12 (by omega) (by omega)]
  exact h
theorem LB_P {mx mm : Mem} {b c : Nat} {P Q : Nat → Nat} (h : LB mx mm b c P) (e : ∀ s, s < c → P s = Q s) : LB mx mm b c Q := by
  obtain ⟨h0, h1, h2⟩ := h
  refine ⟨h0, fun s hs => ?_, fun s t hs ht => ?_⟩
  · rw [← e s hs]; exact h1 s hs
  · rw [h2 s t hs ht]
    refine Wn_g (n := c) (Nat.le_refl _) (fun p q hp hq => ?_) c (Nat.le_refl _) s t hs ht
    unfold RF0
    rw [e p hp]
theorem Jr_e {m m2 : Mem} {P : Nat → Nat} (e10 : m2 10 = m 10) (e11 : m2 11 = m 11) : ∀ j, Jr m2 P j = Jr m P j
  | 0 => rfl
  | j + 1 => by
    funext s
    show jst m2 (Jr m2 P j) s (P s) = jst m (Jr m P j) s (P s)
    rw [Jr_e e10 e11 j, jst_c (P s) (fun i _ => by rw [e10, e11]; exact ⟨rfl, rfl⟩)]
def LC (mx mm : Mem) (b c : Nat) (P : Nat → Nat) : Prop := LB mx mm b c P ∧ BK mx mm b c ∧ LVs mx mm b c P
theorem LC_f {mx mm mx2 mm2 : Mem} {b c : Nat} {P : Nat → Nat} (hb : isb b) (h : LC mx mm b c P) (ex : ∀ a, 11 ≤ a → a ≤ 38 → mx2 a = mx a) (ey : ∀ a, 6 ≤ a → a ≤ 18 → mm2 a = mm a) : LC mx2 mm2 b c P := by
  have hb2 := isb_e hb
  refine ⟨LB_f hb h.1 ex ey, BK_c h.2.1 (ex (b + 7) (by omega) (by omega)) (ex (b + 8) (by omega) (by omega)) (fun a a1 a2 => ey a (by omega) a2), fun s hs => ?_⟩
  rw [ex (b + 6) (by omega) (by omega), Jr_e (ey 10 (by decide) (by decide)) (ey 11 (by decide) (by decide))]
  exact h.2.2 s hs
def JK (mx mm : Mem) : Prop := ∃ (k : Nat) (d N T : Nat → Nat) (V W : Nat → Int32) (L b c : Nat) (P Z : Nat → Nat), GG k d N T ∧ sumd d k ≤ 40 ∧ L ≤ 400 ∧ IX mx k d N T V W L b ∧ IM mm k d N T V W L c P Z ∧ TPE mx mm ∧ LC mx mm b c P
theorem JK_f {mx mm mx2 mm2 : Mem} {k k2 L L2 b c : Nat} {d N T d2 N2 T2 P Z : Nat → Nat} {V W V2 W2 : Nat → Int32} (hx : IX mx k d N T V W L b) (hT : TPE mx mm) (hB : LC mx mm b c P) (fx : ∀ a, SX a → mx2 a = mx a) (fy : ∀ a, SM a → mm2 a = mm a) (h1 : GG k2 d2 N2 T2) (h2 : sumd d2 k2 ≤ 40) (h3 : L2 ≤ 400) (h4 : IX mx2 k2 d2 N2 T2 V2 W2 L2 b) (h5 : IM mm2 k2 d2 N2 T2 V2 W2 L2 c P Z) : JK mx2 mm2 := ⟨k2, d2, N2, T2, V2, W2, L2, b, c, P, Z, h1, h2, h3, h4, h5, fun p hp => by rw [fx 8 (Or.inl rfl), fy 33 (Or.inr rfl)]; exact hT p hp, LC_f hx.2.2.2.2.1 hB (fun a a1 a2 => fx a (Or.inr ⟨a1, a2⟩)) (fun a a1 a2 => fy a (Or.inl ⟨a1, a2⟩))⟩
theorem jf_SX {m m2 : Mem} (h : jf m m2) : ∀ a, SX a → m2 a = m a := fun a ha => by
  unfold SX at ha
  exact h.1 a (by omega) (by omega) (by omega) (by omega) (by omega)
theorem k_node (cmp : Prop) {mx mm : Mem} (h : JK mx mm) : Hc_node cmp JK mx mm := by
  have h0 := h
  obtain ⟨k, d, N, T, V, W, L, b, c, P, Z, g, hs, hL, x, y, t, l⟩ := h
  intro z v hz
  obtain ⟨x1, x2⟩ := x_node (v := v) g x hz
  obtain ⟨y1, y2⟩ := m_node (v := v) g y hz
  rcases Nat.lt_or_ge k 10 with hk | hk
  · obtain ⟨mx2, ex, ix⟩ := x1 hk
    obtain ⟨mm2, ey, iy⟩ := y1 hk
    exact ⟨_, _, _, _, ex, ey, fun _ => rfl, JK_f x t l (kf_s_X6_node_SX _ ex) (kf_s_X7_node_SM _ ey) (GG_node g hk) (by
      show sumd (up d k 0) k + up d k 0 k ≤ 40
      rw [sumd_o (Nat.le_refl k), up_s]; omega) hL ix iy⟩
  · have hk10 : k = 10 := by have := g.1; omega
    exact ⟨_, _, _, _, x2 hk10, y2 hk10, fun _ => rfl, h0⟩
theorem k_value (cmp : Prop) {mx mm : Mem} (h : JK mx mm) : Hc_value cmp JK mx mm := by
  have h0 := h
  obtain ⟨k, d, N, T, V, W, L, b, c, P, Z, g, hs, hL, x, y, t, l⟩ := h
  intro n z v hz
  obtain ⟨x1, x2⟩ := x_value (n := n) (v := v) g x hz
  obtain ⟨y1, y2⟩ := m_value (n := n) (v := v) g y hz
  by_cases hn : 0 ≤ n.toInt ∧ n.toInt < k
  · obtain ⟨a, ha, ea⟩ := (bk_iff (by have := g.1; omega)).mp hn
    obtain ⟨mx2, ex, ix⟩ := x1 a ha ea
    obtain ⟨mm2, ey, iy⟩ := y1 a ha ea
    exact ⟨_, _, _, _, ex, ey, fun _ => rfl, JK_f x t l (kf_s_X6_value_SX _ ex) (kf_s_X7_value_SM _ ey) g hs hL ix iy⟩
  · exact ⟨_, _, _, _, x2 hn, y2 hn, fun _ => rfl, h0⟩
theorem k_edge (cmp : Prop) {mx mm : Mem} (h : JK mx mm) : Hc_edge cmp JK mx mm := by
  have h0 := h
  obtain ⟨k, d, N, T, V, W, L, b, c, P, Z, g, hs, hL, x, y, tt, l⟩ := h
  intro v1 v2 v3
  have k10 := g.1
  by_cases hv : (0 ≤ v1.toInt ∧ v1.toInt < k) ∧ (0 ≤ v2.toInt ∧ v2.toInt < (10 : Nat)) ∧ (0 ≤ v3.toInt ∧ v3.toInt < k)
  · obtain ⟨n, hn, en⟩ := (bk_iff (by omega)).mp hv.1
    obtain ⟨a, ha, ea⟩ := (bk_iff (by omega)).mp hv.2.1
    obtain ⟨t, ht, et⟩ := (bk_iff (by omega)).mp hv.2.2
    rw [en, ea, et]
    rcases j_there (k := k) (n := n) (a := a) (t := t) (d := d) (N := N) (T := T) with ⟨i, hi, hN, hT⟩ | hno
    · exact ⟨_, _, _, _, x_edge_there g x hn ha ht hi hN hT, m_edge_there g y hn ha ht hi hN hT, fun _ => rfl, h0⟩
    · by_cases hf : sumd d k = 40 ∨ d n = 5
      · exact ⟨_, _, _, _, x_edge_full g x hn ha ht hno (hf.elim (fun q => Or.inl (by omega)) Or.inr), m_edge_full g y hn ha ht hno hf, fun _ => rfl, h0⟩
      · have h5 := (g.2 n hn).1
        have f1 : sumd d k < 40 := by
          have : sumd d k ≠ 40 := fun q => hf (Or.inl q)
          omega
        have f2 : d n < 5 := by
          have : d n ≠ 5 := fun q => hf (Or.inr q)
          omega
        obtain ⟨mx2, ex, p, hp, px1, px2, ix⟩ := x_edge_new g x hn ha ht hno f1 f2
        obtain ⟨mm2, ey, q, hq, py1, py2, gg, iy⟩ := m_edge_new g y hn ha ht hno f1 f2
        have no : ∀ i, i < d n → LTp a t (N (n * 5 + i)) (T (n * 5 + i)) ∨ LTp (N (n * 5 + i)) (T (n * 5 + i)) a t := fun i hi => by
          have := hno i hi
          unfold LTp
          omega
        have ir : ∀ {u v w z : Nat}, LTp u v w z → LTp w z u v → False := fun {u v w z} r s => by
          unfold LTp at r s
          omega
        have epq : p = q := by
          rcases Nat.lt_trichotomy p q with r | r | r
          · exact absurd (px1 p (Nat.le_refl _) (by omega)) (fun s => ir s (py1 p r))
          · exact r
          · have s := py2 (by omega)
            have s2 := px2 (by omega)
            rcases no (p - 1) (by omega) with w | w
            · exact absurd w s2
            · have s3 : LTp (N (n * 5 + q)) (T (n * 5 + q)) a t := by
                by_cases e : q = p - 1
                · rw [e]; exact w
                · exact LTp_t (GG_lt g hn (show q < p - 1 by omega) (by omega)) w
              exact (ir s s3).elim
        rw [← epq] at gg iy
        refine ⟨_, _, _, _, ex, ey, fun _ => rfl, JK_f x tt l (kf_s_X6_edge_SX _ ex) (kf_s_X7_edge_SM _ ey) gg ?_ hL ix iy⟩
        have := sumd_up (x := d n + 1) (d := d) hn
        omega
  · obtain ⟨ex, -⟩ := x_edge_bad g x hv
    obtain ⟨ey, -⟩ := m_edge_bad g y hv
    exact ⟨_, _, _, _, ex, ey, fun _ => rfl, h0⟩
theorem k_cut (cmp : Prop) {mx mm : Mem} (h : JK mx mm) : Hc_cut cmp JK mx mm := by
  have h0 := h
  obtain ⟨k, d, N, T, V, W, L, b, c, P, Z, g, hs, hL, x, y, tt, l⟩ := h
  intro v1 v2 v3
  have k10 := g.1
  by_cases hv : (0 ≤ v1.toInt ∧ v1.toInt < k) ∧ (0 ≤ v2.toInt ∧ v2.toInt < (10 : Nat)) ∧ (0 ≤ v3.toInt ∧ v3.toInt < k)
  · obtain ⟨n, hn, en⟩ := (bk_iff (by omega)).mp hv.1
    obtain ⟨a, ha, ea⟩ := (bk_iff (by omega)).mp hv.2.1
    obtain ⟨t, ht, et⟩ := (bk_iff (by omega)).mp hv.2.2
    rw [en, ea, et]
    rcases j_there (k := k) (n := n) (a := a) (t := t) (d := d) (N := N) (T := T) with ⟨i, hi, hN, hT⟩ | hno
    · obtain ⟨mx2, ex, ix⟩ := x_cut_is g x hn ha ht hi hN hT
      obtain ⟨mm2, ey, iy⟩ := m_cut_is g y hn ha ht hi hN hT
      refine ⟨_, _, _, _, ex, ey, fun _ => rfl, JK_f x tt l (kf_s_X6_cut_SX _ ex) (kf_s_X7_cut_SM _ ey) (GG_del g hn hi) ?_ hL ix iy⟩
      have := sumd_up (x := d n - 1) (d := d) hn
      omega
    · exact ⟨_, _, _, _, x_cut_not g x hn ha ht hno, m_cut_not g y hn ha ht hno, fun _ => rfl, h0⟩
  · obtain ⟨-, ex⟩ := x_edge_bad g x hv
    obtain ⟨-, ey⟩ := m_edge_bad g y hv
    exact ⟨_, _, _, _, ex, ey, fun _ => rfl, h0⟩
theorem k_feed (cmp : Prop) {mx mm : Mem} (h : JK mx mm) : Hc_feed cmp JK mx mm := by
  have h0 := h
  obtain ⟨k, d, N, T, V, W, L, b, c, P, Z, g, hs, hL, x, y, t, l⟩ := h
  intro v1 v2 v3 v4 v5
  obtain ⟨x1, x2⟩ := x_feed x hL v1 v2 v3 v4 v5
  obtain ⟨y1, y2⟩ := m_feed y hL v1 v2 v3 v4 v5
  by_cases hf : L + 20 ≤ 400
  · obtain ⟨mx2, ex, ix⟩ := x1 hf
    obtain ⟨mm2, ey, iy⟩ := y1 hf
    obtain ⟨mx3, mm3, ex3, ey3, t3⟩ := tape_feed x.2.2.2.1 y.2.2.1 hf t v1 v2 v3 v4 v5
    have e1 : mx3 = mx2 := (Prod.mk.inj (Option.some.inj (ex3.symm.trans ex))).2
    have e2 : mm3 = mm2 := (Prod.mk.inj (Option.some.inj (ey3.symm.trans ey))).2
    rw [e1, e2] at t3
    exact ⟨_, _, _, _, ex, ey, fun _ => rfl, k, d, N, T, V, W, L + 20, b, c, P, Z, g, hs, hf, ix, iy, t3, LC_f x.2.2.2.2.1 l (fun a a1 a2 => kf_s_X6_feed_SX2 _ ex a ⟨a1, a2⟩) (fun a a1 a2 => kf_s_X7_feed_SM2 _ ey a ⟨a1, a2⟩)⟩
  · exact ⟨_, _, _, _, x2 hf, y2 hf, fun _ => rfl, h0⟩
theorem k_end (cmp : Prop) {mx mm : Mem} (h : JK mx mm) : Hc_end cmp JK mx mm := by
  have h0 := h
  obtain ⟨k, d, N, T, V, W, L, b, c, P, Z, g, hs, hL, x, y, t, l⟩ := h
  intro n
  obtain ⟨x1, x2⟩ := x_end x hL n
  obtain ⟨y1, y2⟩ := m_end y hL n
  by_cases hn : 0 ≤ n ∧ n ≤ nI L
  · have n0 := le_i.mp hn.1
    have n1 := le_i.mp hn.2
    rw [toInt_0] at n0
    rw [nI_toInt (by omega)] at n1
    obtain ⟨q, hq, eq, eq2⟩ := int_nI n0
    have hqL : q ≤ L := by omega
    obtain ⟨mx2, ex, ix⟩ := x1 q hqL eq
    obtain ⟨mm2, ey, iy⟩ := y1 q hqL eq
    exact ⟨_, _, _, _, ex, ey, fun _ => rfl, JK_f x t l (kf_s_X6_end_SX _ ex) (kf_s_X7_end_SM _ ey) g hs (by omega) ix iy⟩
  · exact ⟨_, _, _, _, x2 hn, y2 hn, fun _ => rfl, h0⟩
theorem k_reset (cmp : Prop) {mx mm : Mem} (h : JK mx mm) : Hc_reset cmp JK mx mm := by
  obtain ⟨k, d, N, T, V, W, L, b, c, P, Z, g, hs, hL, x, y, t, l⟩ := h
  obtain ⟨mx2, ex, ix⟩ := x_reset x
  obtain ⟨mm2, ey, iy⟩ := m_reset y
  exact ⟨_, _, _, _, ex, ey, fun _ => rfl, JK_f x t l (kf_s_X6_reset_SX _ ex) (kf_s_X7_reset_SM _ ey) GG_0 (Nat.zero_le _) hL ix iy⟩
theorem k_from (cmp : Prop) {mx mm : Mem} (h : JK mx mm) : Hc_from cmp JK mx mm := by
  have h0 := h
  obtain ⟨k, d, N, T, V, W, L, b, c, P, Z, g, hs, hL, x, y, -⟩ := h
  intro n i w
  exact ⟨_, _, _, _, x_from g x n i w, m_from g y n i w, rfl, rfl, fun _ => rfl, h0⟩
theorem k_shapes (cmp : Prop) {mx mm : Mem} (h : JK mx mm) : Hc_shapes cmp JK mx mm := by
  obtain ⟨k, d, N, T, V, W, L, b, c, P, Z, g, hs, hL, x, y, t, l⟩ := h
  obtain ⟨⟨r1, mx3⟩, ex3, b3, ix⟩ := x_shapes x hL
  obtain ⟨⟨r2, mm3⟩, ey3, c3, P3, Z3, iy⟩ := m_shapes hL y
  obtain ⟨r, mx2, mm2, ex, ey, f8, f33, out⟩ := c_shapes hL x y t
  have e1 : mx3 = mx2 := (Prod.mk.inj (Option.some.inj (ex3.symm.trans ex))).2
  have e2 : mm3 = mm2 := (Prod.mk.inj (Option.some.inj (ey3.symm.trans ey))).2
  dsimp only at ix iy
  rw [e1] at ix
  rw [e2] at iy
  have hb3 := isb_e ix.2.2.2.2.1
  have q4 := ix.2.2.2.2.2.1
  have q7 := iy.2.2.2.1.1
  have c36 := iy.2.2.2.1.2.1
  have t2 : TPE mx2 mm2 := fun p hp => by rw [f8, f33]; exact t p hp
  refine ⟨r, mx2, r, mm2, ex, ey, fun _ => rfl, k, d, N, T, V, W, 0, b3, c3, P3, Z3, g, hs, Nat.zero_le _, ix, iy, t2, ?_⟩
  rcases out with ⟨w4, wb, wm, w7, -⟩ | ⟨b2, c2, P2, wi, w4, w7, w6, wP, wL⟩
  · have hb := isb_e x.2.2.2.2.1
    have eb : b3 = b := (nI_eq (by omega) (by omega)).mp (q4.symm.trans (w4.trans x.2.2.2.2.2.1))
    have ec : c3 = c := (nI_eq (by omega) (by have := y.2.2.2.1.2.1; omega)).mp (q7.symm.trans (w7.trans y.2.2.2.1.1))
    rw [eb, ec]
    have eP : ∀ s, s < c → P s = P3 s := fun s hs2 => by
      have u1 := (y.2.2.2.1.2.2 s hs2).1
      have u2 := (iy.2.2.2.1.2.2 s (by omega)).1
      have u3 := u2.2.1
      rw [wm 8 (by omega) (by omega), u1.2.1] at u3
      exact (nI_eq (by omega) (by omega)).mp u3
    have rf3 : RF mm2 c P3 := by
      have := SH_RF iy.2.2.2.1
      rw [ec] at this
      exact this
    refine ⟨LB_P (P := P) ?_ eP, BK_c l.2.1 (wb (b + 7) (by omega) (by omega)) (wb (b + 8) (by omega) (by omega)) (fun a a1 a2 => wm a (by omega) a2), fun s hs2 => ?_⟩
    · unfold LB
      rw [wb b (by omega) (by omega), wb (b + 2) (by omega) (by omega), wb (b + 1) (by omega) (by omega), wb (b + 3) (by omega) (by omega), wb (b + 4) (by omega) (by omega), wb (b + 5) (by omega) (by omega), wb (b + 9) (by omega) (by omega), wb (b + 10) (by omega) (by omega), wb (b + 11) (by omega) (by omega), wb (b + 12) (by omega) (by omega), wm 6 (by omega) (by omega), wm 7 (by omega) (by omega), wm 9 (by omega) (by omega), wm 10 (by omega) (by omega), wm 11 (by omega) (by omega), wm 12 (by omega) (by omega)]
      exact l.1
    · rw [wb (b + 6) (by omega) (by omega), l.2.2 s hs2, ← Jr_e (m2 := mm2) (wm 10 (by omega) (by omega)) (wm 11 (by omega) (by omega))]
      exact congrArg nI (Jrx_c rf3 eP (fun _ _ _ _ => ⟨rfl, rfl⟩) 6 s hs2)
  · have hbi := isb_e wi
    have eb : b3 = b2 := (nI_eq (by omega) (by omega)).mp (q4.symm.trans w4)
    have ec : c3 = c2 := (nI_eq (by omega) (by omega)).mp (q7.symm.trans w7)
    have rf3 : RF mm2 c2 P3 := by
      have := SH_RF iy.2.2.2.1
      rw [ec] at this
      exact this
    rw [eb, ec]
    have eP : ∀ s, s < c2 → P2 s = P3 s := fun s hs2 => by
      have u2 := (iy.2.2.2.1.2.2 s (by omega)).1
      have u3 := (wP s hs2).2.symm.trans u2.2.1
      exact (nI_eq (by have := (wP s hs2).1; omega) (by omega)).mp u3
    refine ⟨LB_P wL.1 eP, wL.2.1, fun s hs2 => ?_⟩
    rw [wL.2.2.1 s hs2]
    exact congrArg nI (Jrx_c rf3 eP (fun _ _ _ _ => ⟨rfl, rfl⟩) 6 s hs2)
/-! what a text told, on both sides -/
theorem k_told (cmp : Prop) {mx mm : Mem} (h : JK mx mm) : Hc_told cmp JK mx mm := by
  have h0 := h
  obtain ⟨k, d, N, T, V, W, L, b, c, P, Z, g, hs, hL, x, y, t, l⟩ := h
  intro n w
  have hb := x.2.2.2.2.1
  have h4 := x.2.2.2.2.2.1
  have hc := y.2.2.2.1.2.1
  have h07 := y.2.2.2.1.1
  suffices hh : ∃ r, s_X6_told mx n w = some r ∧ s_X7_told mm n w = some r by
    obtain ⟨r, e1, e2⟩ := hh
    exact ⟨r, mx, r, mm, e1, e2, rfl, rfl, fun _ => rfl, h0⟩
  unfold s_X6_told s_X7_told
  rw [h4, zbk_i hb rfl, X0_hasShape_eq l.1.1 hc, X7_isShape_eq h07 hc, bind_s, bind_s, if_bb, if_bb]
  by_cases hn : 0 ≤ n.toInt ∧ n.toInt < c
  rotate_left
  · rw [if_neg hn, if_neg hn]; exact ⟨_, rfl, rfl⟩
  obtain ⟨s, hs2, es⟩ := (bk_iff (by omega)).mp hn
  rw [if_pos hn, if_pos hn, es]
  obtain ⟨g2, g1, g3, -⟩ := l.1.2.1 s hs2
  have u8 := (y.2.2.2.1.2.2 s hs2).1.2.1
  have z6 : zin (nI s) 6 = true := zin_nI (by omega) (by decide)
  have i02 : s_X7_in w.toInt64 0 2 = some (bb (0 ≤ w ∧ w ≤ 2)) := in_lh (by decide) (by decide)
  rw [i02, bind_s, if_bb, ix_nI (by omega)]
  by_cases w0 : w = 0
  · rw [if_pos w0, if_pos (by rw [w0]; decide), if_pos w0, zbk_i hb rfl, ck_p z6, ck_p z6, g1]
    exact ⟨_, rfl, rfl⟩
  by_cases w1 : w = 1
  · rw [if_neg w0, if_pos w1, if_pos (by rw [w1]; decide), if_neg w0, if_pos w1, zbk_i hb rfl, ck_p z6, ck_p z6, g2, u8]
    exact ⟨_, rfl, rfl⟩
  by_cases w2 : w = 2
  · rw [if_neg w0, if_neg w1, if_pos w2, if_pos (by rw [w2]; decide), if_neg w0, if_neg w1, zbk_i hb rfl, ck_p z6, ck_p z6, g3]
    by_cases q : mm 7 s = 0
    · rw [if_pos q]; exact ⟨_, rfl, rfl⟩
    · rw [if_neg q]; exact ⟨_, rfl, rfl⟩
  · have nr : ¬ (0 ≤ w ∧ w ≤ 2) := fun ⟨q1, q2⟩ => by
      have a1 := le_i.mp q1
      have a2 := le_i.mp q2
      rw [toInt_0] at a1
      obtain ⟨j, hj, ej, ej2⟩ := int_nI a1
      have a3 : (2 : Int32).toInt = 2 := by decide
      have : j = 0 ∨ j = 1 ∨ j = 2 := by omega
      rcases this with q | q | q
      · exact w0 (by rw [ej, q]; rfl)
      · exact w1 (by rw [ej, q]; rfl)
      · exact w2 (by rw [ej, q]; rfl)
    rw [if_neg w0, if_neg w1, if_neg w2, if_neg nr]
    exact ⟨_, rfl, rfl⟩
theorem k_part (cmp : Prop) {mx mm : Mem} (h : JK mx mm) : Hc_part cmp JK mx mm := by
  have h0 := h
  obtain ⟨k, d, N, T, V, W, L, b, c, P, Z, g, hs, hL, x, y, t, l⟩ := h
  intro n p w
  have hb := x.2.2.2.2.1
  have h4 := x.2.2.2.2.2.1
  have hc := y.2.2.2.1.2.1
  have h07 := y.2.2.2.1.1
  suffices hh : ∃ r, s_X6_part mx n p w = some r ∧ s_X7_part mm n p w = some r by
    obtain ⟨r, e1, e2⟩ := hh
    exact ⟨r, mx, r, mm, e1, e2, rfl, rfl, fun _ => rfl, h0⟩
  unfold s_X6_part s_X7_part s_X0_hasPart
  rw [h4, zbk_i hb rfl, X0_hasShape_eq l.1.1 hc, X7_isShape_eq h07 hc, bind_s, bind_s, if_bb, if_bb]
  by_cases hn : 0 ≤ n.toInt ∧ n.toInt < c
  rotate_left
  · rw [if_neg hn, if_neg hn, bind_s, if_pos rfl]; exact ⟨_, rfl, rfl⟩
  obtain ⟨s, hs2, es⟩ := (bk_iff (by omega)).mp hn
  rw [if_pos hn, if_pos hn, es]
  obtain ⟨g2, g1, g3, -, g9⟩ := l.1.2.1 s hs2
  obtain ⟨P6, u8, -⟩ := (y.2.2.2.1.2.2 s hs2).1
  have z6 : zin (nI s) 6 = true := zin_nI (by omega) (by decide)
  rw [ix_nI (n := s) (by omega), ck_p z6, u8, in_k (by omega), bind_s, if_bb, g2, ck_p z6]
  by_cases hp : 0 ≤ p.toInt ∧ p.toInt < P s
  rotate_left
  · rw [if_neg hp]
    by_cases p0 : p < 0
    · rw [if_pos p0, bind_s, if_pos rfl]; exact ⟨_, rfl, rfl⟩
    · rw [if_neg p0]
      have pp := le_i.mp (Int32.not_lt.mp p0)
      rw [toInt_0] at pp
      rw [if_pos (le_i.mpr (by rw [nI_toInt (by omega)]; omega)), bind_s, if_pos rfl]; exact ⟨_, rfl, rfl⟩
  obtain ⟨i, hi, ei⟩ := (bk_iff (by omega)).mp hp
  have i03 : s_X7_in w.toInt64 0 3 = some (bb (0 ≤ w ∧ w ≤ 3)) := in_lh (by decide) (by decide)
  rw [if_pos hp, ei, if_neg (m1_lt (by omega)), if_neg (nI_ge hi (by omega)), if_neg (show ¬ (6 : Int32) ≤ nI i from nI_ge (b := 6) (by omega) (by decide)), bind_s, if_neg (by decide), i03, bind_s, if_bb]
  obtain ⟨v1, v2, v3, v4⟩ := g9 i hi
  have zx : zin (nI (6 * s + i)) 36 = true := zin_nI (by omega) (by decide)
  simp only [bn]
  rw [m6, p6, show s * 6 + i = 6 * s + i by omega, ix_nI (n := 6 * s + i) (by omega)]
  by_cases w0 : w = 0
  · rw [if_pos w0, if_pos (by rw [w0]; decide), if_pos w0, zbk_i hb rfl, ck_p zx, ck_p zx, v1]
    exact ⟨_, rfl, rfl⟩
  by_cases w1 : w = 1
  · rw [if_neg w0, if_pos w1, if_pos (by rw [w1]; decide), if_neg w0, if_pos w1, zbk_i hb rfl, ck_p zx, ck_p zx, v2]
    exact ⟨_, rfl, rfl⟩
  by_cases w2 : w = 2
  · rw [if_neg w0, if_neg w1, if_pos w2, if_pos (by rw [w2]; decide), if_neg w0, if_neg w1, if_pos w2, zbk_i hb rfl, ck_p zx, ck_p zx, v3]
    exact ⟨_, rfl, rfl⟩
  by_cases w3 : w = 3
  · rw [if_neg w0, if_neg w1, if_neg w2, if_pos w3, if_pos (by rw [w3]; decide), if_neg w0, if_neg w1, if_neg w2, zbk_i hb rfl, ck_p zx, ck_p zx, v4]
    exact ⟨_, rfl, rfl⟩
  · have nr : ¬ (0 ≤ w ∧ w ≤ 3) := fun ⟨q1, q2⟩ => by
      have a1 := le_i.mp q1
      have a2 := le_i.mp q2
      rw [toInt_0] at a1
      obtain ⟨j, hj, ej, ej2⟩ := int_nI a1
      have a3 : (3 : Int32).toInt = 3 := by decide
      have : j = 0 ∨ j = 1 ∨ j = 2 ∨ j = 3 := by omega
      rcases this with q | q | q | q
      · exact w0 (by rw [ej, q]; rfl)
      · exact w1 (by rw [ej, q]; rfl)
      · exact w2 (by rw [ej, q]; rfl)
      · exact w3 (by rw [ej, q]; rfl)
    rw [if_neg w0, if_neg w1, if_neg w2, if_neg w3, if_neg nr]
    exact ⟨_, rfl, rfl⟩
theorem k_depends (cmp : Prop) {mx mm : Mem} (h : JK mx mm) : Hc_depends cmp JK mx mm := by
  have h0 := h
  obtain ⟨k, d, N, T, V, W, L, b, c, P, Z, g, hs, hL, x, y, t, l⟩ := h
  intro n p
  have hb := x.2.2.2.2.1
  have h4 := x.2.2.2.2.2.1
  have hc := y.2.2.2.1.2.1
  have h07 := y.2.2.2.1.1
  obtain ⟨⟨r2, mm2⟩, ey, iy⟩ := m_depends y n p
  suffices hh : ∃ r, s_X6_depends mx n p = some r ∧ r2 = r by
    obtain ⟨r, e1, e2⟩ := hh
    exact ⟨r, mx, r2, mm2, e1, ey, rfl, fun _ => e2.symm, JK_f x t l (fun _ _ => rfl) (kf_s_X7_depends_SM _ ey) g hs hL x iy⟩
  unfold s_X7_depends at ey
  rw [X7_isShape_eq h07 hc, bind_s, if_bb] at ey
  unfold s_X6_depends
  rw [h4, zbk_i hb rfl, X0_hasShape_eq l.1.1 hc, bind_s, if_bb]
  by_cases hn : 0 ≤ n.toInt ∧ n.toInt < c
  rotate_left
  · rw [if_neg hn] at ey ⊢
    exact ⟨_, rfl, (Prod.mk.inj (Option.some.inj ey)).1.symm⟩
  rw [if_pos hn, X7_isShape_eq h07 hc, bind_s, if_bb] at ey
  rw [if_pos hn, zbk_i hb rfl, X0_hasShape_eq l.1.1 hc, bind_s, if_bb]
  by_cases hp : 0 ≤ p.toInt ∧ p.toInt < c
  rotate_left
  · rw [if_neg hp] at ey ⊢
    exact ⟨_, rfl, (Prod.mk.inj (Option.some.inj ey)).1.symm⟩
  obtain ⟨s, hs2, es⟩ := (bk_iff (by omega)).mp hn
  obtain ⟨q, hq2, eq⟩ := (bk_iff (by omega)).mp hp
  obtain ⟨m6, e6, o6, l6⟩ := leadsx_0 hc h07 (fun s hs => (y.2.2.2.1.2.2 s hs).1)
  rw [if_pos hp, e6, bind_s, es, eq, p6, ck_p (zin_nI (show 6 * s + q < 36 by omega) (by decide)), ix_nI (n := 6 * s + q) (by omega)] at ey
  rw [if_pos hp, zbk_i hb rfl, es, eq, ck_p (zin_nI (by omega) (by decide)), ix_nI (n := s) (by omega), bit_v (show q < 32 by omega)]
  have e1 : bt (mx (b + 5) s) q = true ↔ LD m6 s q := by
    rw [l.1.2.2 s q hs2 hq2, l6 s q (by omega) (by omega)]
  refine ⟨_, rfl, ?_⟩
  by_cases z : m6 36 (6 * s + q) = 0
  · rw [if_pos z] at ey
    rw [if_neg (fun w => e1.mp w z)]
    exact (Prod.mk.inj (Option.some.inj ey)).1.symm
  · rw [if_neg z] at ey
    rw [if_pos (e1.mpr z)]
    exact (Prod.mk.inj (Option.some.inj ey)).1.symm
/-! calls whose answers are left out -/
theorem k_fault {mx mm : Mem} (h : JK mx mm) : Hc_fault False JK mx mm := ⟨_, _, _, _, rfl, rfl, rfl, rfl, fun f => f.elim, h⟩
theorem k_fits {mx mm : Mem} (h : JK mx mm) : Hc_fits False JK mx mm := by
  obtain ⟨k, d, N, T, V, W, L, b, c, P, Z, g, hs, hL, x, y, t, l⟩ := h
  intro n s
  obtain ⟨⟨r, mx2⟩, ex, jx⟩ := x_fits g x n s
  obtain ⟨⟨q, mm2⟩, ey, iy⟩ := m_fits g y n s
  exact ⟨_, _, _, _, ex, ey, fun f => f.elim, JK_f x t l (jf_SX jx) (kf_s_X7_fits_SM _ ey) g hs hL (IX_j x jx) iy⟩
theorem k_surely {mx mm : Mem} (h : JK mx mm) : Hc_surely False JK mx mm := by
  obtain ⟨k, d, N, T, V, W, L, b, c, P, Z, g, hs, hL, x, y, t, l⟩ := h
  intro n s
  obtain ⟨⟨r, mx2⟩, ex, jx⟩ := x_surely g x n s
  obtain ⟨⟨q, mm2⟩, ey, iy⟩ := m_surely g y n s
  exact ⟨_, _, _, _, ex, ey, fun f => f.elim, JK_f x t l (jf_SX jx) (kf_s_X7_surely_SM _ ey) g hs hL (IX_j x jx) iy⟩
theorem k_all {mx mm : Mem} (h : JK mx mm) : Hc_all False JK mx mm := by
  obtain ⟨k, d, N, T, V, W, L, b, c, P, Z, g, hs, hL, x, y, t, l⟩ := h
  intro s
  obtain ⟨⟨r, mx2⟩, ex, jx⟩ := x_all g x s
  obtain ⟨⟨q, mm2⟩, ey, iy⟩ := m_all g y s
  exact ⟨_, _, _, _, ex, ey, fun f => f.elim, JK_f x t l (jf_SX jx) (kf_s_X7_all_SM _ ey) g hs hL (IX_j x jx) iy⟩
theorem k_wanted {mx mm : Mem} (h : JK mx mm) : Hc_wanted False JK mx mm := by
  have h0 := h
  obtain ⟨k, d, N, T, V, W, L, b, c, P, Z, g, hs, hL, x, y, -⟩ := h
  intro n s
  obtain ⟨r, ex, -⟩ := x_wanted g x n s
  obtain ⟨q, ey, -⟩ := m_wanted g y n s
  exact ⟨_, _, _, _, ex, ey, rfl, rfl, fun f => f.elim, h0⟩
theorem k_dealt {mx mm : Mem} (h : JK mx mm) : Hc_dealt False JK mx mm := by
  obtain ⟨k, d, N, T, V, W, L, b, c, P, Z, g, hs, hL, x, y, t, l⟩ := h
  intro n s i
  obtain ⟨⟨r, mx2⟩, ex, jx⟩ := x_dealt g x n s i
  obtain ⟨⟨q, mm2⟩, ey, iy⟩ := m_dealt g y n s i
  exact ⟨_, _, _, _, ex, ey, fun f => f.elim, JK_f x t l (jf_SX jx) (kf_s_X7_dealt_SM _ ey) g hs hL (IX_j x jx) iy⟩
theorem k_tooMany {mx mm : Mem} (h : JK mx mm) : Hc_tooMany False JK mx mm := by
  obtain ⟨k, d, N, T, V, W, L, b, c, P, Z, g, hs, hL, x, y, t, l⟩ := h
  intro n s
  obtain ⟨⟨r, mx2⟩, ex, jx⟩ := x_tooMany g x n s
  obtain ⟨⟨q, mm2⟩, ey, iy⟩ := (m_tooMany g y n s).1
  exact ⟨_, _, _, _, ex, ey, fun f => f.elim, JK_f x t l (jf_SX jx) (kf_s_X7_tooMany_SM _ ey) g hs hL (IX_j x jx) iy⟩
theorem k_which {mx mm : Mem} (h : JK mx mm) : Hc_which False JK mx mm := by
  obtain ⟨k, d, N, T, V, W, L, b, c, P, Z, g, hs, hL, x, y, t, l⟩ := h
  intro n s
  obtain ⟨⟨r, mx2⟩, ex, jx⟩ := x_which g x n s
  obtain ⟨⟨q, mm2⟩, ey, iy⟩ := (m_tooMany g y n s).2
  exact ⟨_, _, _, _, ex, ey, fun f => f.elim, JK_f x t l (jf_SX jx) (kf_s_X7_which_SM _ ey) g hs hL (IX_j x jx) iy⟩
theorem k_count {mx mm : Mem} (h : JK mx mm) : Hc_count False JK mx mm := by
  obtain ⟨k, d, N, T, V, W, L, b, c, P, Z, g, hs, hL, x, y, t, l⟩ := h
  intro v
  obtain ⟨⟨r, mx2⟩, ex, jx⟩ := x_count g x v
  obtain ⟨⟨q, mm2⟩, ey, iy⟩ := m_count g y v
  exact ⟨_, _, _, _, ex, ey, fun f => f.elim, JK_f x t l (jf_SX jx) (kf_s_X7_count_SM _ ey) g hs hL (IX_j x jx) iy⟩
/-! a new object -/
set_option maxRecDepth 100000 in
theorem st_t : ∀ p, p < 400 → sgX 8 p = 0 ∧ sgM 33 p = 0 := by decide +kernel
theorem st_k7 : sgX 18 0 = nI 0 := by decide +kernel
theorem st_JK : JK sgX sgM := by
  refine ⟨0, fun _ => 0, fun _ => 0, fun _ => 0, fun _ => 0, fun _ => 0, 0, 11, 0, fun _ => 0, fun _ => 0, GG_0, Nat.zero_le _, Nat.zero_le _, ⟨⟨st_a.1, fun n hn => absurd hn (Nat.not_lt_zero _)⟩, st_a.2.1, fun n hn => absurd hn (Nat.not_lt_zero _), st_a.2.2.2.2.2.1, Or.inl rfl, st_a.2.2.1, st_a.2.2.2.2.1, st_BI (Or.inl rfl), 25, Or.inr rfl, by decide, st_a.2.2.2.1, st_BI (Or.inr rfl)⟩, ⟨⟨st_c.1, fun n hn => absurd hn (Nat.not_lt_zero _)⟩, fun n hn => absurd hn (Nat.not_lt_zero _), st_c.2.2.1, ⟨st_c.2.1, by omega, fun s hs => absurd hs (Nat.not_lt_zero _)⟩, ⟨fun _ _ => True, fun _ _ _ _ _ _ _ _ => trivial, fun s _ _ hs => absurd hs (Nat.not_lt_zero _), fun s _ hs => absurd hs (Nat.not_lt_zero _)⟩, fun j hj => ⟨Or.inl (st_c.2.2.2.2 j hj).1, Or.inl (st_c.2.2.2.2 j hj).2⟩, Or.inl st_c.2.2.2.1⟩, fun p hp => ?_, ⟨st_a.2.2.2.2.2.2.1.1, fun s hs => absurd hs (Nat.not_lt_zero _), fun s t hs => absurd hs (Nat.not_lt_zero _)⟩, ⟨fun _ => 0, fun _ => 0, fun s hs => by rw [Nat.le_zero.mp hs]; exact st_k7, fun j hj => absurd hj (Nat.not_lt_zero _), Nat.zero_le _, fun s hs => absurd hs (Nat.not_lt_zero _)⟩, fun s hs => absurd hs (Nat.not_lt_zero _)⟩
  rw [(st_t p hp).1, (st_t p hp).2]
  decide
