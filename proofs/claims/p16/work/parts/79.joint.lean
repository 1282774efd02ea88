/-! both together: what holds between the calls -/
def JJ (mx mm : Mem) : Prop := ∃ (k : Nat) (d N T : Nat → Nat) (V W : Nat → Int32) (L b c : Nat) (P Z : Nat → Nat), GG k d N T ∧ sumd d k ≤ 40 ∧ L ≤ 400 ∧ IX mx k d N T V W L b ∧ IM mm k d N T V W L c P Z
theorem JJ_l {mx mm mx2 mm2 : Mem} {k L b c : Nat} {d N T P Z : Nat → Nat} {V W : Nat → Int32} (h1 : GG k d N T) (h2 : sumd d k ≤ 40) (h3 : L ≤ 400) (h4 : IX mx2 k d N T V W L b) (h5 : IM mm2 k d N T V W L c P Z) : JJ mx2 mm2 := ⟨k, d, N, T, V, W, L, b, c, P, Z, h1, h2, h3, h4, h5⟩
theorem j_node (cmp : Prop) {mx mm : Mem} (h : JJ mx mm) : Hc_node cmp JJ mx mm := by
  have h0 := h
  obtain ⟨k, d, N, T, V, W, L, b, c, P, Z, g, hs, hL, x, y⟩ := h
  intro z v hz
  obtain ⟨x1, x2⟩ := x_node (v := v) g x hz
  obtain ⟨y1, y2⟩ := m_node (v := v) g y hz
  rcases Nat.lt_or_ge k 10 with hk | hk
  · obtain ⟨mx2, ex, ix⟩ := x1 hk
    obtain ⟨mm2, ey, iy⟩ := y1 hk
    exact ⟨_, _, _, _, ex, ey, fun _ => rfl, JJ_l (mx := mx) (mm := mm) (GG_node g hk) (by
      show sumd (up d k 0) k + up d k 0 k ≤ 40
      rw [sumd_o (Nat.le_refl k), up_s]; omega) hL ix iy⟩
  · have hk10 : k = 10 := by have := g.1; omega
    exact ⟨_, _, _, _, x2 hk10, y2 hk10, fun _ => rfl, h0⟩
theorem j_value (cmp : Prop) {mx mm : Mem} (h : JJ mx mm) : Hc_value cmp JJ mx mm := by
  have h0 := h
  obtain ⟨k, d, N, T, V, W, L, b, c, P, Z, g, hs, hL, x, y⟩ := h
  intro n z v hz
  obtain ⟨x1, x2⟩ := x_value (n := n) (v := v) g x hz
  obtain ⟨y1, y2⟩ := m_value (n := n) (v := v) g y hz
  by_cases hn : 0 ≤ n.toInt ∧ n.toInt < k
  · obtain ⟨a, ha, ea⟩ := (bk_iff (by have := g.1; omega)).mp hn
    obtain ⟨mx2, ex, ix⟩ := x1 a ha ea
    obtain ⟨mm2, ey, iy⟩ := y1 a ha ea
    exact ⟨_, _, _, _, ex, ey, fun _ => rfl, JJ_l (mx := mx) (mm := mm) g hs hL ix iy⟩
  · exact ⟨_, _, _, _, x2 hn, y2 hn, fun _ => rfl, h0⟩
theorem j_there {k n a t : Nat} {d N T : Nat → Nat} : (∃ i, i < d n ∧ N (n * 5 + i) = a ∧ T (n * 5 + i) = t) ∨ ∀ i, i < d n → ¬ (N (n * 5 + i) = a ∧ T (n * 5 + i) = t) := by
  by_cases h : ∃ i, i < d n ∧ N (n * 5 + i) = a ∧ T (n * 5 + i) = t
  · exact Or.inl h
  · exact Or.inr (fun i hi z => h ⟨i, hi, z⟩)
theorem j_edge (cmp : Prop) {mx mm : Mem} (h : JJ mx mm) : Hc_edge cmp JJ mx mm := by
  have h0 := h
  obtain ⟨k, d, N, T, V, W, L, b, c, P, Z, g, hs, hL, x, y⟩ := h
  intro v1 v2 v3
  have k10 := g.1
  by_cases hv : (0 ≤ v1.toInt ∧ v1.toInt < k) ∧ (0 ≤ v2.toInt ∧ v2.toInt < (10 : Nat)) ∧ (0 ≤ v3.toInt ∧ v3.toInt < k)
  · obtain ⟨n, hn, en⟩ := (bk_iff (by omega)).mp hv.1
    obtain ⟨a, ha, ea⟩ := (bk_iff (by omega)).mp hv.2.1
    obtain ⟨t, ht, et⟩ := (bk_iff (by omega)).mp hv.2.2
    rw [en, ea, et]
    rcases j_there (k := k) (n := n) (a := a) (t := t) (d := d) (N := N) (T := T) with ⟨i, hi, hN, hT⟩ | hno
    · exact ⟨_, _, _, _, x_edge_there g x hn ha ht hi hN hT, m_edge_there g y hn ha ht hi hN hT, fun _ => rfl, h0⟩
    · by_cases hf : sumd d k = 40 ∨ d n = 5
      · exact ⟨_, _, _, _, x_edge_full g x hn ha ht hno (hf.elim (fun q => Or.inl (by omega)) Or.inr), m_edge_full g y hn ha ht hno hf, fun _ => rfl, h0⟩
      · have h5 := (g.2 n hn).1
        have f1 : sumd d k < 40 := by
          have : sumd d k ≠ 40 := fun q => hf (Or.inl q)
          omega
        have f2 : d n < 5 := by
          have : d n ≠ 5 := fun q => hf (Or.inr q)
          omega
        obtain ⟨mx2, ex, p, hp, px1, px2, ix⟩ := x_edge_new g x hn ha ht hno f1 f2
        obtain ⟨mm2, ey, q, hq, py1, py2, gg, iy⟩ := m_edge_new g y hn ha ht hno f1 f2
        have no : ∀ i, i < d n → LTp a t (N (n * 5 + i)) (T (n * 5 + i)) ∨ LTp (N (n * 5 + i)) (T (n * 5 + i)) a t := fun i hi => by
          have := hno i hi
          unfold LTp
          omega
        have ir : ∀ {u v w z : Nat}, LTp u v w z → LTp w z u v → False := fun {u v w z} r s => by
          unfold LTp at r s
          omega
        have epq : p = q := by
          rcases Nat.lt_trichotomy p q with r | r | r
          · exact absurd (px1 p (Nat.le_refl _) (by omega)) (fun s => ir s (py1 p r))
          · exact r
          · have s := py2 (by omega)
            have s2 := px2 (by omega)
            rcases no (p - 1) (by omega) with w | w
            · exact absurd w s2
            · have s3 : LTp (N (n * 5 + q)) (T (n * 5 + q)) a t := by
                by_cases e : q = p - 1
                · rw [e]; exact w
                · exact LTp_t (GG_lt g hn (show q < p - 1 by omega) (by omega)) w
              exact (ir s s3).elim
        rw [← epq] at gg iy
        refine ⟨_, _, _, _, ex, ey, fun _ => rfl, JJ_l (mx := mx) (mm := mm) gg ?_ hL ix iy⟩
        have := sumd_up (x := d n + 1) (d := d) hn
        omega
  · obtain ⟨ex, -⟩ := x_edge_bad g x hv
    obtain ⟨ey, -⟩ := m_edge_bad g y hv
    exact ⟨_, _, _, _, ex, ey, fun _ => rfl, h0⟩
theorem j_cut (cmp : Prop) {mx mm : Mem} (h : JJ mx mm) : Hc_cut cmp JJ mx mm := by
  have h0 := h
  obtain ⟨k, d, N, T, V, W, L, b, c, P, Z, g, hs, hL, x, y⟩ := h
  intro v1 v2 v3
  have k10 := g.1
  by_cases hv : (0 ≤ v1.toInt ∧ v1.toInt < k) ∧ (0 ≤ v2.toInt ∧ v2.toInt < (10 : Nat)) ∧ (0 ≤ v3.toInt ∧ v3.toInt < k)
  · obtain ⟨n, hn, en⟩ := (bk_iff (by omega)).mp hv.1
    obtain ⟨a, ha, ea⟩ := (bk_iff (by omega)).mp hv.2.1
    obtain ⟨t, ht, et⟩ := (bk_iff (by omega)).mp hv.2.2
    rw [en, ea, et]
    rcases j_there (k := k) (n := n) (a := a) (t := t) (d := d) (N := N) (T := T) with ⟨i, hi, hN, hT⟩ | hno
    · obtain ⟨mx2, ex, ix⟩ := x_cut_is g x hn ha ht hi hN hT
      obtain ⟨mm2, ey, iy⟩ := m_cut_is g y hn ha ht hi hN hT
      refine ⟨_, _, _, _, ex, ey, fun _ => rfl, JJ_l (mx := mx) (mm := mm) (GG_del g hn hi) ?_ hL ix iy⟩
      have := sumd_up (x := d n - 1) (d := d) hn
      omega
    · exact ⟨_, _, _, _, x_cut_not g x hn ha ht hno, m_cut_not g y hn ha ht hno, fun _ => rfl, h0⟩
  · obtain ⟨-, ex⟩ := x_edge_bad g x hv
    obtain ⟨-, ey⟩ := m_edge_bad g y hv
    exact ⟨_, _, _, _, ex, ey, fun _ => rfl, h0⟩
theorem j_feed (cmp : Prop) {mx mm : Mem} (h : JJ mx mm) : Hc_feed cmp JJ mx mm := by
  have h0 := h
  obtain ⟨k, d, N, T, V, W, L, b, c, P, Z, g, hs, hL, x, y⟩ := h
  intro v1 v2 v3 v4 v5
  obtain ⟨x1, x2⟩ := x_feed x hL v1 v2 v3 v4 v5
  obtain ⟨y1, y2⟩ := m_feed y hL v1 v2 v3 v4 v5
  by_cases hf : L + 20 ≤ 400
  · obtain ⟨mx2, ex, ix⟩ := x1 hf
    obtain ⟨mm2, ey, iy⟩ := y1 hf
    exact ⟨_, _, _, _, ex, ey, fun _ => rfl, JJ_l (mx := mx) (mm := mm) g hs hf ix iy⟩
  · exact ⟨_, _, _, _, x2 hf, y2 hf, fun _ => rfl, h0⟩
theorem j_end (cmp : Prop) {mx mm : Mem} (h : JJ mx mm) : Hc_end cmp JJ mx mm := by
  have h0 := h
  obtain ⟨k, d, N, T, V, W, L, b, c, P, Z, g, hs, hL, x, y⟩ := h
  intro n
  obtain ⟨x1, x2⟩ := x_end x hL n
  obtain ⟨y1, y2⟩ := m_end y hL n
  by_cases hn : 0 ≤ n ∧ n ≤ nI L
  · have n0 := le_i.mp hn.1
    have n1 := le_i.mp hn.2
    rw [toInt_0] at n0
    rw [nI_toInt (by omega)] at n1
    obtain ⟨q, hq, eq, eq2⟩ := int_nI n0
    have hqL : q ≤ L := by omega
    obtain ⟨mx2, ex, ix⟩ := x1 q hqL eq
    obtain ⟨mm2, ey, iy⟩ := y1 q hqL eq
    exact ⟨_, _, _, _, ex, ey, fun _ => rfl, JJ_l (mx := mx) (mm := mm) g hs (by omega) ix iy⟩
  · exact ⟨_, _, _, _, x2 hn, y2 hn, fun _ => rfl, h0⟩
theorem j_reset (cmp : Prop) {mx mm : Mem} (h : JJ mx mm) : Hc_reset cmp JJ mx mm := by
  obtain ⟨k, d, N, T, V, W, L, b, c, P, Z, g, hs, hL, x, y⟩ := h
  obtain ⟨mx2, ex, ix⟩ := x_reset x
  obtain ⟨mm2, ey, iy⟩ := m_reset y
  exact ⟨_, _, _, _, ex, ey, fun _ => rfl, JJ_l (mx := mx) (mm := mm) GG_0 (Nat.zero_le _) hL ix iy⟩
theorem j_from (cmp : Prop) {mx mm : Mem} (h : JJ mx mm) : Hc_from cmp JJ mx mm := by
  have h0 := h
  obtain ⟨k, d, N, T, V, W, L, b, c, P, Z, g, hs, hL, x, y⟩ := h
  intro n i w
  exact ⟨_, _, _, _, x_from g x n i w, m_from g y n i w, rfl, rfl, fun _ => rfl, h0⟩
/-! calls whose answers are left out -/
theorem j_shapes {mx mm : Mem} (h : JJ mx mm) : Hc_shapes False JJ mx mm := by
  obtain ⟨k, d, N, T, V, W, L, b, c, P, Z, g, hs, hL, x, y⟩ := h
  obtain ⟨⟨r, mx2⟩, ex, b3, ix⟩ := x_shapes x hL
  obtain ⟨⟨q, mm2⟩, ey, c2, P2, Z2, iy⟩ := m_shapes hL y
  exact ⟨_, _, _, _, ex, ey, fun f => f.elim, JJ_l (mx := mx) (mm := mm) g hs (Nat.zero_le _) ix iy⟩
theorem j_fault {mx mm : Mem} (h : JJ mx mm) : Hc_fault False JJ mx mm := ⟨_, _, _, _, rfl, rfl, rfl, rfl, fun f => f.elim, h⟩
theorem j_fits {mx mm : Mem} (h : JJ mx mm) : Hc_fits False JJ mx mm := by
  obtain ⟨k, d, N, T, V, W, L, b, c, P, Z, g, hs, hL, x, y⟩ := h
  intro n s
  obtain ⟨⟨r, mx2⟩, ex, jx⟩ := x_fits g x n s
  obtain ⟨⟨q, mm2⟩, ey, iy⟩ := m_fits g y n s
  exact ⟨_, _, _, _, ex, ey, fun f => f.elim, JJ_l (mx := mx) (mm := mm) g hs hL (IX_j x jx) iy⟩
theorem j_surely {mx mm : Mem} (h : JJ mx mm) : Hc_surely False JJ mx mm := by
  obtain ⟨k, d, N, T, V, W, L, b, c, P, Z, g, hs, hL, x, y⟩ := h
  intro n s
  obtain ⟨⟨r, mx2⟩, ex, jx⟩ := x_surely g x n s
  obtain ⟨⟨q, mm2⟩, ey, iy⟩ := m_surely g y n s
  exact ⟨_, _, _, _, ex, ey, fun f => f.elim, JJ_l (mx := mx) (mm := mm) g hs hL (IX_j x jx) iy⟩
theorem j_all {mx mm : Mem} (h : JJ mx mm) : Hc_all False JJ mx mm := by
  obtain ⟨k, d, N, T, V, W, L, b, c, P, Z, g, hs, hL, x, y⟩ := h
  intro s
  obtain ⟨⟨r, mx2⟩, ex, jx⟩ := x_all g x s
  obtain ⟨⟨q, mm2⟩, ey, iy⟩ := m_all g y s
  exact ⟨_, _, _, _, ex, ey, fun f => f.elim, JJ_l (mx := mx) (mm := mm) g hs hL (IX_j x jx) iy⟩
theorem j_wanted {mx mm : Mem} (h : JJ mx mm) : Hc_wanted False JJ mx mm := by
  have h0 := h
  obtain ⟨k, d, N, T, V, W, L, b, c, P, Z, g, hs, hL, x, y⟩ := h
  intro n s
  obtain ⟨r, ex, -⟩ := x_wanted g x n s
  obtain ⟨q, ey, -⟩ := m_wanted g y n s
  exact ⟨_, _, _, _, ex, ey, rfl, rfl, fun f => f.elim, h0⟩
theorem j_dealt {mx mm : Mem} (h : JJ mx mm) : Hc_dealt False JJ mx mm := by
  obtain ⟨k, d, N, T, V, W, L, b, c, P, Z, g, hs, hL, x, y⟩ := h
  intro n s i
  obtain ⟨⟨r, mx2⟩, ex, jx⟩ := x_dealt g x n s i
  obtain ⟨⟨q, mm2⟩, ey, iy⟩ := m_dealt g y n s i
  exact ⟨_, _, _, _, ex, ey, fun f => f.elim, JJ_l (mx := mx) (mm := mm) g hs hL (IX_j x jx) iy⟩
theorem j_tooMany {mx mm : Mem} (h : JJ mx mm) : Hc_tooMany False JJ mx mm := by
  obtain ⟨k, d, N, T, V, W, L, b, c, P, Z, g, hs, hL, x, y⟩ := h
  intro n s
  obtain ⟨⟨r, mx2⟩, ex, jx⟩ := x_tooMany g x n s
  obtain ⟨⟨q, mm2⟩, ey, iy⟩ := (m_tooMany g y n s).1
  exact ⟨_, _, _, _, ex, ey, fun f => f.elim, JJ_l (mx := mx) (mm := mm) g hs hL (IX_j x jx) iy⟩
theorem j_which {mx mm : Mem} (h : JJ mx mm) : Hc_which False JJ mx mm := by
  obtain ⟨k, d, N, T, V, W, L, b, c, P, Z, g, hs, hL, x, y⟩ := h
  intro n s
  obtain ⟨⟨r, mx2⟩, ex, jx⟩ := x_which g x n s
  obtain ⟨⟨q, mm2⟩, ey, iy⟩ := (m_tooMany g y n s).2
  exact ⟨_, _, _, _, ex, ey, fun f => f.elim, JJ_l (mx := mx) (mm := mm) g hs hL (IX_j x jx) iy⟩
theorem j_depends {mx mm : Mem} (h : JJ mx mm) : Hc_depends False JJ mx mm := by
  obtain ⟨k, d, N, T, V, W, L, b, c, P, Z, g, hs, hL, x, y⟩ := h
  intro n s
  obtain ⟨r, ex, -⟩ := x_depends g x n s
  obtain ⟨⟨q, mm2⟩, ey, iy⟩ := m_depends y n s
  exact ⟨_, _, _, _, ex, ey, rfl, fun f => f.elim, JJ_l (mx := mx) (mm := mm) g hs hL x iy⟩
theorem j_part {mx mm : Mem} (h : JJ mx mm) : Hc_part False JJ mx mm := by
  have h0 := h
  obtain ⟨k, d, N, T, V, W, L, b, c, P, Z, g, hs, hL, x, y⟩ := h
  intro n s w
  obtain ⟨r, ex, -⟩ := x_part g x n s w
  obtain ⟨q, ey, -⟩ := m_part y n s w
  exact ⟨_, _, _, _, ex, ey, rfl, rfl, fun f => f.elim, h0⟩
theorem j_told {mx mm : Mem} (h : JJ mx mm) : Hc_told False JJ mx mm := by
  have h0 := h
  obtain ⟨k, d, N, T, V, W, L, b, c, P, Z, g, hs, hL, x, y⟩ := h
  intro n s
  obtain ⟨r, ex, -⟩ := x_told g x n s
  obtain ⟨q, ey, -⟩ := m_told y n s
  exact ⟨_, _, _, _, ex, ey, rfl, rfl, fun f => f.elim, h0⟩
theorem j_count {mx mm : Mem} (h : JJ mx mm) : Hc_count False JJ mx mm := by
  obtain ⟨k, d, N, T, V, W, L, b, c, P, Z, g, hs, hL, x, y⟩ := h
  intro v
  obtain ⟨⟨r, mx2⟩, ex, jx⟩ := x_count g x v
  obtain ⟨⟨q, mm2⟩, ey, iy⟩ := m_count g y v
  exact ⟨_, _, _, _, ex, ey, fun f => f.elim, JJ_l (mx := mx) (mm := mm) g hs hL (IX_j x jx) iy⟩
/-! a new object -/
set_option maxRecDepth 100000 in
theorem st_a : sgX 1 0 = nI 0 ∧ sgX 1 1 = nI 0 ∧ sgX 0 4 = nI 11 ∧ sgX 0 5 = nI 25 ∧ sgX 39 1 = nI 11 ∧ sgX 7 1 = nI 0 ∧ (sgX 11 0 = nI 0 ∧ sgX 11 1 = nI 0 ∧ sgX 11 2 = nI 0) ∧ sgX 25 0 = nI 0 ∧ sgX 25 1 = nI 0 ∧ sgX 25 2 = nI 0 := by decide +kernel
set_option maxRecDepth 100000 in
theorem st_b1 : (∀ j, j < 146 → sgX 19 j = 0 ∧ sgX 33 j = 0) ∧ ∀ s, s < 7 → sgX 18 s = nI 0 ∧ sgX 32 s = nI 0 := by decide +kernel
set_option maxRecDepth 100000 in
theorem st_c : sgM 0 0 = nI 0 ∧ sgM 0 7 = nI 0 ∧ sgM 0 37 = nI 0 ∧ sgM 0 6 = 0 ∧ ∀ j, j < 60 → sgM 37 j = 0 ∧ sgM 38 j = 0 := by decide +kernel
theorem st_BI {b : Nat} (hb : isb b) : B0 sgX b := by
  have ok : stok 0 := by unfold stok; decide
  rcases isb_e hb with rfl | rfl
  · refine ⟨⟨0, st_a.2.2.2.2.2.2.1.1, by omega, fun s hs => absurd hs (Nat.not_lt_zero _), fun j hj => ?_, fun s hs => ⟨0, by omega, (st_b1.2 s (by omega)).1⟩⟩, ⟨0, by omega, st_a.2.2.2.2.2.2.1.2.1⟩, 0, by omega, st_a.2.2.2.2.2.2.1.2.2⟩
    show stok (sgX 19 j)
    rw [(st_b1.1 j hj).1]; exact ok
  · refine ⟨⟨0, st_a.2.2.2.2.2.2.2.1, by omega, fun s hs => absurd hs (Nat.not_lt_zero _), fun j hj => ?_, fun s hs => ⟨0, by omega, (st_b1.2 s (by omega)).2⟩⟩, ⟨0, by omega, st_a.2.2.2.2.2.2.2.2.1⟩, 0, by omega, st_a.2.2.2.2.2.2.2.2.2⟩
    show stok (sgX 33 j)
    rw [(st_b1.1 j hj).2]; exact ok
theorem st_JJ : JJ sgX sgM := by
  refine ⟨0, fun _ => 0, fun _ => 0, fun _ => 0, fun _ => 0, fun _ => 0, 0, 11, 0, fun _ => 0, fun _ => 0, GG_0, Nat.zero_le _, Nat.zero_le _, ⟨⟨st_a.1, fun n hn => absurd hn (Nat.not_lt_zero _)⟩, st_a.2.1, fun n hn => absurd hn (Nat.not_lt_zero _), st_a.2.2.2.2.2.1, Or.inl rfl, st_a.2.2.1, st_a.2.2.2.2.1, st_BI (Or.inl rfl), 25, Or.inr rfl, by decide, st_a.2.2.2.1, st_BI (Or.inr rfl)⟩, ⟨st_c.1, fun n hn => absurd hn (Nat.not_lt_zero _)⟩, fun n hn => absurd hn (Nat.not_lt_zero _), st_c.2.2.1, ⟨st_c.2.1, by omega, fun s hs => absurd hs (Nat.not_lt_zero _)⟩, ⟨fun _ _ => True, fun _ _ _ _ _ _ _ _ => trivial, fun s _ _ hs => absurd hs (Nat.not_lt_zero _), fun s _ hs => absurd hs (Nat.not_lt_zero _)⟩, fun j hj => ⟨Or.inl (st_c.2.2.2.2 j hj).1, Or.inl (st_c.2.2.2.2 j hj).2⟩, Or.inl st_c.2.2.2.1⟩
