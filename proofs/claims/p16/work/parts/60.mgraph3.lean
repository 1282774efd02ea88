/-! the reference's other calls that change nodes and edges, and the tape -/
theorem m_cut_not {m : Mem} {k L c n a t : Nat} {d N T P Z : Nat → Nat} {V W : Nat → Int32} (g : GG k d N T) (h : IM m k d N T V W L c P Z) (hn : n < k) (ha : a < 10) (ht : t < k) (hno : ∀ i, i < d n → ¬ (N (n * 5 + i) = a ∧ T (n * 5 + i) = t)) : s_X7_cut m (nI n) (nI a) (nI t) = some (-2, m) := by
  have h10 := g.1
  obtain ⟨c1, c2, c3⟩ := m_can g h hn ha ht
  unfold s_X7_cut
  rw [c1, c2, c3, m_not g h.1 hn ha (by omega) hno]
  simp only [bind_s]
  rw [if_neg (by decide), if_neg (by decide), if_neg (by decide), if_pos trivial]
theorem m_cut_is {m : Mem} {k L c n a t p : Nat} {d N T P Z : Nat → Nat} {V W : Nat → Int32} (g : GG k d N T) (h : IM m k d N T V W L c P Z) (hn : n < k) (ha : a < 10) (ht : t < k) (hp : p < d n) (hN : N (n * 5 + p) = a) (hT : T (n * 5 + p) = t) : ∃ m2, s_X7_cut m (nI n) (nI a) (nI t) = some (nI (sumd d k - 1), m2) ∧ IM m2 k (up d n (d n - 1)) (del N n p (d n)) (del T n p (d n)) V W L c P Z := by
  have h10 := g.1
  obtain ⟨c1, c2, c3⟩ := m_can g h hn ha ht
  obtain ⟨hn10, h5, e3, hv⟩ := M_rows g h.1 hn
  have zn : zin (nI n) 10 = true := zin_nI hn10 (by decide)
  obtain ⟨r, e, hr⟩ := M_isThere g h.1 hn ha (show t < 10 by omega)
  have hr1 : ¬ r = 0 := hr.mpr ⟨p, hp, hN, hT⟩
  unfold s_X7_cut
  rw [c1, c2, c3, e]
  simp only [bind_s, bn]
  rw [if_neg (by decide), if_neg (by decide), if_neg (by decide), if_neg hr1, ck_p zn, ck_p zn, ix_nI (n := n) (by omega), e3, sub1_nI (by omega)]
  have h3 : (sto m 3 n (nI (d n - 1))) 3 n = nI (d n - 1) := rd_s
  obtain ⟨r2, er, p2, hp2, rfl, hl, hg⟩ := M_placeOf (m := sto m 3 n (nI (d n - 1))) hn10 (show d n - 1 ≤ 5 by omega) h3 (fun i hi => by rw [rd_o (by decide), rd_o (by decide)]; exact hv i (by omega)) ha (show t < 10 by omega)
  have ep : p2 = p := by
    rcases Nat.lt_trichotomy p2 p with q | q | q
    · have := GG_lt g hn q hp
      rw [hN, hT] at this
      exact absurd this (hg (by omega))
    · exact q
    · have := hl p q
      rw [hN, hT] at this
      exact absurd this LTp_i
  subst ep
  rw [er]
  simp only [bind_s]
  have E : ∃ m26, l_X7_cut_62 (nI n) FU (nI p2) (sto m 3 n (nI (d n - 1))) = some m26 ∧ m26 4 = delI (m 4) n p2 (d n) ∧ m26 5 = delI (m 5) n p2 (d n) ∧ ∀ c, c ≠ 4 → c ≠ 5 → m26 c = (sto m 3 n (nI (d n - 1))) c := by
    have i4 : (sto m 3 n (nI (d n - 1))) 4 = delI (m 4) n p2 (p2 + 1) := by rw [delI_0, rd_o (by decide)]
    have i5 : (sto m 3 n (nI (d n - 1))) 5 = delI (m 5) n p2 (p2 + 1) := by rw [delI_0, rd_o (by decide)]
    unfold l_X7_cut_62
    refine forG (d n - 1) (fun j (y : Int32 × Mem) => y.1 = nI j ∧ p2 ≤ j ∧ y.2 4 = delI (m 4) n p2 (j + 1) ∧ y.2 5 = delI (m 5) n p2 (j + 1) ∧ ∀ c, c ≠ 4 → c ≠ 5 → y.2 c = (sto m 3 n (nI (d n - 1))) c) _ (fun j y hj hy => ?_) (fun y hy => ?_) FU p2 (nI p2, _) (by omega) ⟨rfl, Nat.le_refl _, i4, i5, fun c _ _ => rfl⟩ (FU_lt (by omega))
    · obtain ⟨e1, hpj, e4, e5, eo⟩ := hy
      unfold t_X7_cut_62
      rw [e1, p5, nI_s1, ix_nI (n := n) (by omega), eo 3 (by decide) (by decide), h3, ix_nI (n := n * 5 + j) (by omega), ix_nI (n := n * 5 + j + 1) (by omega)]
      have z1 : zin (nI (n * 5 + j)) 50 = true := zin_nI (by omega) (by decide)
      have z2 : zin (nI (n * 5 + j + 1)) 50 = true := zin_nI (by omega) (by decide)
      refine st_ck zn (st_if (fun z => absurd z (nI_ge hj (by omega))) (fun _ => st_ck z2 (st_ck z1 (st_n (st_ck z2 (st_ck z1 (st_n (st_n (st_l ⟨nI_s1, by omega, ?_, ?_, ?_⟩)))))))))
      · dsimp only
        rw [rd_o (by decide), sto_same, e4]
        have := delI_step (f := m 4) (n := n) (p := p2) (q := j + 1) (by omega)
        rw [show n * 5 + (j + 1) - 1 = n * 5 + j by omega] at this
        rw [show n * 5 + j + 1 = n * 5 + (j + 1) by omega, delI_v]
        exact this
      · dsimp only
        rw [sto_same, rd_o (by decide), e5]
        have := delI_step (f := m 5) (n := n) (p := p2) (q := j + 1) (by omega)
        rw [show n * 5 + (j + 1) - 1 = n * 5 + j by omega] at this
        rw [show n * 5 + j + 1 = n * 5 + (j + 1) by omega, delI_v]
        exact this
      · intro c c4 c5
        dsimp only
        rw [rd_o c5, rd_o c4]
        exact eo c c4 c5
    · obtain ⟨e1, hpj, e4, e5, eo⟩ := hy
      rw [show d n - 1 + 1 = d n by omega] at e4 e5
      unfold t_X7_cut_62
      rw [e1, ix_nI (n := n) (by omega), eo 3 (by decide) (by decide), h3, ck_p zn]
      exact ⟨_, if_pos (nI_le (Nat.le_refl _) (by omega)), e4, e5, eo⟩
  obtain ⟨m26, e26, f4, f5, fo⟩ := E
  rw [e26]
  simp only [bind_s]
  have G := GG_del g hn hp
  generalize hm : sto m26 0 6 0 = m2
  have e0 : ∀ j, j ≠ 6 → m2 0 j = m 0 j := fun j hj => by rw [← hm, rd_j hj, fo 0 (by decide) (by decide), rd_o (by decide)]
  have eo : ∀ b, b ≠ 0 → b ≠ 3 → b ≠ 4 → b ≠ 5 → m2 b = m b := fun b b0 b3 b4 b5 => by rw [← hm, rd_o b0, fo b b4 b5, rd_o b3]
  have hG2 : GM m2 k (up d n (d n - 1)) (del N n p2 (d n)) (del T n p2 (d n)) := by
    unfold GM
    have x3 : m2 3 = upd (m 3) n (nI (d n - 1)) := by rw [← hm, rd_o (by decide), fo 3 (by decide) (by decide), sto_same]
    have x4 : m2 4 = delI (m 4) n p2 (d n) := by rw [← hm, rd_o (by decide)]; exact f4
    have x5 : m2 5 = delI (m 5) n p2 (d n) := by rw [← hm, rd_o (by decide)]; exact f5
    rw [e0 0 (by decide), x3, x4, x5]
    exact GXf_del g h.1 hn
  have hs := sumd_up (x := d n - 1) (d := d) hn
  have hs2 := sumd_d (d := d) hn
  rw [edges_eq G hG2]
  refine ⟨m2, ?_, IM_graph h hG2 (by rw [eo 1 (by decide) (by decide) (by decide) (by decide), eo 2 (by decide) (by decide) (by decide) (by decide)]; exact h.2.1) (fun b hb => eo b (by omega) (by omega) (by omega) (by omega)) (fun j _ j6 => e0 j j6) (by rw [← hm]; exact rd_s)⟩
  show some (nI (sumd (up d n (d n - 1)) k), m2) = _
  rw [show sumd (up d n (d n - 1)) k = sumd d k - 1 by omega]
theorem m_node {m : Mem} {k L c : Nat} {d N T P Z : Nat → Nat} {V W : Nat → Int32} {z v : Int32} (g : GG k d N T) (h : IM m k d N T V W L c P Z) (hz : z = 0 ∨ z = 1) : (k < 10 → ∃ m2, s_X7_node m z v = some (nI k, m2) ∧ IM m2 (k + 1) (up d k 0) N T (upd V k z) (upd W k v) L c P Z) ∧ (k = 10 → s_X7_node m z v = some (-3, m)) := by
  have h10 := g.1
  refine ⟨fun hk => ⟨_, (X7_node_eq (z := z) (v := v) h.1.1 h10).1 hk, ?_⟩, fun hk => (X7_node_eq (z := z) (v := v) h.1.1 h10).2 hk⟩
  rw [nar_z hz]
  refine IM_graph h ?_ ?_ (fun a ha => ?_) (fun j j0 j6 => ?_) rd_s
  · unfold GM
    rw [rd_j (by decide), rd_s, rd_o (a2 := 3) (by decide), rd_o (a2 := 3) (by decide), sto_same, rd_o (a2 := 3) (by decide), rd_o (a2 := 3) (by decide), rd_o (a2 := 4) (by decide), rd_o (a2 := 4) (by decide), rd_o (a2 := 4) (by decide), rd_o (a2 := 4) (by decide), rd_o (a2 := 4) (by decide), rd_o (a2 := 5) (by decide), rd_o (a2 := 5) (by decide), rd_o (a2 := 5) (by decide), rd_o (a2 := 5) (by decide), rd_o (a2 := 5) (by decide)]
    exact GXf_node h.1
  · rw [rd_o (a2 := 1) (by decide), rd_o (a2 := 1) (by decide), rd_o (a2 := 1) (by decide), rd_o (a2 := 1) (by decide), sto_same, rd_o (a2 := 2) (by decide), rd_o (a2 := 2) (by decide), rd_o (a2 := 2) (by decide), sto_same, rd_o (a2 := 2) (by decide)]
    exact GV_node h.2.1 hz
  · rw [rd_o (by omega), rd_o (by omega), rd_o (by omega), rd_o (by omega), rd_o (by omega)]
  · rw [rd_j j6, rd_j j0, rd_o (by decide), rd_o (by decide), rd_o (by decide)]
theorem m_value {m : Mem} {k L c : Nat} {d N T P Z : Nat → Nat} {V W : Nat → Int32} {n z v : Int32} (g : GG k d N T) (h : IM m k d N T V W L c P Z) (hz : z = 0 ∨ z = 1) : (∀ a, a < k → n = nI a → ∃ m2, s_X7_value m n z v = some (1, m2) ∧ IM m2 k d N T (upd V a z) (upd W a v) L c P Z) ∧ (¬ (0 ≤ n.toInt ∧ n.toInt < k) → s_X7_value m n z v = some (-1, m)) := by
  have h10 := g.1
  refine ⟨fun a ha ea => ?_, fun hn => ?_⟩
  · subst ea
    unfold s_X7_value
    rw [X7_isNode_eq h.1.1 h10]
    have ei : (nI a).toInt = (a : Int) := nI_toInt (by omega)
    simp only [bind_s, if_bb, bn]
    have za : zin (nI a) 10 = true := zin_nI (by omega) (by decide)
    rw [if_pos ⟨by omega, by omega⟩, ck_p za, ck_p za, ix_nI (by omega), nar_z hz]
    refine ⟨_, rfl, IM_graph h ?_ ?_ (fun b hb => ?_) (fun j j0 j6 => ?_) rd_s⟩
    · unfold GM
      rw [rd_j (by decide), rd_o (a2 := 0) (by decide), rd_o (a2 := 0) (by decide), rd_o (a2 := 3) (by decide), rd_o (a2 := 3) (by decide), rd_o (a2 := 3) (by decide), rd_o (a2 := 4) (by decide), rd_o (a2 := 4) (by decide), rd_o (a2 := 4) (by decide), rd_o (a2 := 5) (by decide), rd_o (a2 := 5) (by decide), rd_o (a2 := 5) (by decide)]
      exact h.1
    · rw [rd_o (a2 := 1) (by decide), rd_o (a2 := 1) (by decide), sto_same, rd_o (a2 := 2) (by decide), sto_same, rd_o (a2 := 2) (by decide)]
      exact GV_set h.2.1 hz
    · rw [rd_o (by omega), rd_o (by omega), rd_o (by omega)]
    · rw [rd_j j6, rd_o (by decide), rd_o (by decide)]
  · unfold s_X7_value
    rw [X7_isNode_eq h.1.1 h10]
    simp only [bind_s, if_bb]
    rw [if_neg hn]
