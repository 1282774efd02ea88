/-! the reference's calls that change nodes and edges -/
theorem m_can {m : Mem} {k L c n a t : Nat} {d N T P Z : Nat → Nat} {V W : Nat → Int32} (g : GG k d N T) (h : IM m k d N T V W L c P Z) (hn : n < k) (ha : a < 10) (ht : t < k) : s_X7_isNode m (nI n) = some 1 ∧ s_X7_in (nI a).toInt64 0 9 = some 1 ∧ s_X7_isNode m (nI t) = some 1 := by
  have h10 := g.1
  rw [X7_isNode_eq h.1.1 g.1, X7_isNode_eq h.1.1 g.1, in_09, nI_toInt (by omega), nI_toInt (by omega), nI_toInt (by omega), bb_t (by omega), bb_t (by omega), bb_t (by omega)]
  exact ⟨rfl, rfl, rfl⟩
theorem m_edge_there {m : Mem} {k L c n a t i : Nat} {d N T P Z : Nat → Nat} {V W : Nat → Int32} (g : GG k d N T) (h : IM m k d N T V W L c P Z) (hn : n < k) (ha : a < 10) (ht : t < k) (hi : i < d n) (hN : N (n * 5 + i) = a) (hT : T (n * 5 + i) = t) : s_X7_edge m (nI n) (nI a) (nI t) = some (-2, m) := by
  have h10 := g.1
  obtain ⟨c1, c2, c3⟩ := m_can g h hn ha ht
  obtain ⟨r, e, hr⟩ := M_isThere g h.1 hn ha (show t < 10 by omega)
  unfold s_X7_edge
  rw [c1, c2, c3, e]
  simp only [bind_s]
  rw [if_neg (by decide), if_neg (by decide), if_neg (by decide), if_neg (hr.mpr ⟨i, hi, hN, hT⟩)]
theorem m_not {m : Mem} {k n a t : Nat} {d N T : Nat → Nat} (g : GG k d N T) (x : GM m k d N T) (hn : n < k) (ha : a < 10) (ht : t < 10) (hno : ∀ i, i < d n → ¬ (N (n * 5 + i) = a ∧ T (n * 5 + i) = t)) : s_X7_isThere m (nI n) (nI a) (nI t) = some 0 := by
  obtain ⟨r, e, hr⟩ := M_isThere g x hn ha ht
  by_cases h0 : r = 0
  · rw [e, h0]
  · obtain ⟨i, hi, h1, h2⟩ := hr.mp h0
    exact absurd ⟨h1, h2⟩ (hno i hi)
theorem m_edge_full {m : Mem} {k L c n a t : Nat} {d N T P Z : Nat → Nat} {V W : Nat → Int32} (g : GG k d N T) (h : IM m k d N T V W L c P Z) (hn : n < k) (ha : a < 10) (ht : t < k) (hno : ∀ i, i < d n → ¬ (N (n * 5 + i) = a ∧ T (n * 5 + i) = t)) (hf : sumd d k = 40 ∨ d n = 5) : s_X7_edge m (nI n) (nI a) (nI t) = some (-3, m) := by
  have h10 := g.1
  have h5 := (g.2 n hn).1
  obtain ⟨c1, c2, c3⟩ := m_can g h hn ha ht
  unfold s_X7_edge
  rw [c1, c2, c3, m_not g h.1 hn ha (by omega) hno, edges_eq g h.1]
  simp only [bind_s]
  rw [if_neg (by decide), if_neg (by decide), if_neg (by decide), if_pos trivial, ck_p (zin_nI (by omega) (by decide)), ix_nI (n := n) (by omega), (h.1.2 n hn).1]
  by_cases e : d n = 5
  · rw [if_pos (by rw [e]; rfl)]
  · rw [if_neg (show ¬ nI (d n) = 5 from fun z => e ((nI_eq (a := d n) (b := 5) (by omega) (by decide)).mp z)), if_pos (show nI (sumd d k) = 40 by rw [hf.resolve_right e]; rfl)]
theorem m_edge_new {m : Mem} {k L c n a t : Nat} {d N T P Z : Nat → Nat} {V W : Nat → Int32} (g : GG k d N T) (h : IM m k d N T V W L c P Z) (hn : n < k) (ha : a < 10) (ht : t < k) (hno : ∀ i, i < d n → ¬ (N (n * 5 + i) = a ∧ T (n * 5 + i) = t)) (hf : sumd d k < 40) (hd : d n < 5) : ∃ m2, s_X7_edge m (nI n) (nI a) (nI t) = some (nI (sumd d k + 1), m2) ∧ ∃ p, p ≤ d n ∧ (∀ i, i < p → LTp (N (n * 5 + i)) (T (n * 5 + i)) a t) ∧ (p < d n → LTp a t (N (n * 5 + p)) (T (n * 5 + p))) ∧ GG k (up d n (d n + 1)) (ins N n p (d n) a) (ins T n p (d n) t) ∧ IM m2 k (up d n (d n + 1)) (ins N n p (d n) a) (ins T n p (d n) t) V W L c P Z := by
  have h10 := g.1
  obtain ⟨c1, c2, c3⟩ := m_can g h hn ha ht
  obtain ⟨hn10, h5, e3, hv⟩ := M_rows g h.1 hn
  obtain ⟨r, er, p, hp, rfl, hl, hg⟩ := M_placeOf hn10 h5 e3 hv ha (show t < 10 by omega)
  have hg2 : p < d n → LTp a t (N (n * 5 + p)) (T (n * 5 + p)) := fun hpd => by
    have h1 := hg hpd
    have h2 := hno p hpd
    unfold LTp at *
    omega
  have zn : zin (nI n) 10 = true := zin_nI hn10 (by decide)
  unfold s_X7_edge
  rw [c1, c2, c3, m_not g h.1 hn ha (by omega) hno, edges_eq g h.1]
  simp only [bind_s]
  rw [if_neg (by decide), if_neg (by decide), if_neg (by decide), if_pos trivial, ck_p zn, ix_nI (n := n) (by omega), e3, if_neg (fun z => by have := (nI_eq (a := d n) (b := 5) (by omega) (by decide)).mp z; omega), if_neg (fun z => by have := (nI_eq (a := sumd d k) (b := 40) (by omega) (by decide)).mp z; omega), er]
  simp only [bind_s, bn]
  rw [ck_p zn]
  have E : ∃ m26, l_X7_edge_82 (nI n) (nI p) FU (nI (d n)) m = some m26 ∧ m26 4 = shf (m 4) (n * 5 + p) (n * 5 + d n) ∧ m26 5 = shf (m 5) (n * 5 + p) (n * 5 + d n) ∧ ∀ c, c ≠ 4 → c ≠ 5 → m26 c = m c := by
    unfold l_X7_edge_82
    refine forG (d n - p) (fun j (y : Int32 × Mem) => ∃ q, q + j = d n ∧ y.1 = nI q ∧ y.2 4 = shf (m 4) (n * 5 + q) (n * 5 + d n) ∧ y.2 5 = shf (m 5) (n * 5 + q) (n * 5 + d n) ∧ ∀ c, c ≠ 4 → c ≠ 5 → y.2 c = m c) _ (fun j y hj hy => ?_) (fun y hy => ?_) FU 0 (nI (d n), m) (Nat.zero_le _) ⟨d n, rfl, rfl, shf_0.symm, shf_0.symm, fun c _ _ => rfl⟩ (FU_lt (by omega))
    · obtain ⟨q, hq, e1, e4, e5, eo⟩ := hy
      obtain ⟨w, rfl⟩ : ∃ w, q = w + 1 := ⟨q - 1, by omega⟩
      unfold t_X7_edge_82
      rw [e1, p5, show n * 5 + (w + 1) = n * 5 + w + 1 by omega, m1_nI, ix_nI (n := n * 5 + w) (by omega), ix_nI (n := n * 5 + w + 1) (by omega)]
      have z1 : zin (nI (n * 5 + w)) 50 = true := zin_nI (by omega) (by decide)
      have z2 : zin (nI (n * 5 + w + 1)) 50 = true := zin_nI (by omega) (by decide)
      refine st_if (fun z => absurd z (nI_ge (by omega) (by omega))) (fun _ => st_ck z1 (st_ck z2 (st_n (st_ck z1 (st_ck z2 (st_n (st_n (st_l ⟨w, by omega, pk_m1 _, ?_, ?_, ?_⟩))))))))
      · dsimp only
        rw [rd_o (by decide), sto_same, e4, shf_v (by omega)]
        exact shf_step (lo := n * 5 + w) (by omega)
      · dsimp only
        rw [sto_same, rd_o (by decide), e5, shf_v (by omega)]
        exact shf_step (lo := n * 5 + w) (by omega)
      · intro c c4 c5
        dsimp only
        rw [rd_o c5, rd_o c4]
        exact eo c c4 c5
    · obtain ⟨q, hq, e1, e4, e5, eo⟩ := hy
      have hq0 : q = p := by omega
      subst hq0
      unfold t_X7_edge_82
      rw [e1]
      exact ⟨_, if_pos (nI_le (Nat.le_refl _) (by omega)), e4, e5, eo⟩
  obtain ⟨m26, e26, f4, f5, fo⟩ := E
  rw [e26]
  simp only [bind_s]
  have z50 : zin (nI (n * 5 + p)) 50 = true := zin_nI (by omega) (by decide)
  rw [p5, ck_p z50, ck_p z50, ck_p zn, ck_p zn, ix_nI (n := n * 5 + p) (by omega)]
  have r3 : (sto (sto m26 4 (n * 5 + p) (nI a)) 5 (n * 5 + p) (nI t)) 3 n = nI (d n) := by rw [rd_o (by decide), rd_o (by decide), fo 3 (by decide) (by decide)]; exact e3
  rw [r3, nI_s1]
  have G := GG_ins g hn hd hp ha ht hl hg2
  generalize hm : sto (sto (sto (sto m26 4 (n * 5 + p) (nI a)) 5 (n * 5 + p) (nI t)) 3 n (nI (d n + 1))) 0 6 0 = m2
  have e0 : ∀ j, j ≠ 6 → m2 0 j = m 0 j := fun j hj => by rw [← hm, rd_j hj, rd_o (by decide), rd_o (by decide), rd_o (by decide), fo 0 (by decide) (by decide)]
  have hG2 : GM m2 k (up d n (d n + 1)) (ins N n p (d n) a) (ins T n p (d n) t) := by
    unfold GM
    have x3 : m2 3 = upd (m 3) n (nI (d n + 1)) := by rw [← hm, rd_o (by decide), sto_same, rd_o (by decide), rd_o (by decide), fo 3 (by decide) (by decide)]
    have x4 : m2 4 = insI (m 4) n p (d n) (nI a) := by rw [← hm, rd_o (by decide), rd_o (by decide), rd_o (by decide), sto_same, f4]; exact shf_ins hp
    have x5 : m2 5 = insI (m 5) n p (d n) (nI t) := by rw [← hm, rd_o (by decide), rd_o (by decide), sto_same, rd_o (by decide), f5]; exact shf_ins hp
    rw [e0 0 (by decide), x3, x4, x5]
    exact GXf_ins g h.1 hn hd hp
  have eo : ∀ b, b ≠ 0 → b ≠ 3 → b ≠ 4 → b ≠ 5 → m2 b = m b := fun b b0 b3 b4 b5 => by rw [← hm, rd_o b0, rd_o b3, rd_o b5, rd_o b4]; exact fo b b4 b5
  have hs := sumd_up (x := d n + 1) (d := d) hn
  rw [edges_eq G hG2]
  refine ⟨m2, ?_, p, hp, hl, hg2, G, IM_graph h hG2 (by rw [eo 1 (by decide) (by decide) (by decide) (by decide), eo 2 (by decide) (by decide) (by decide) (by decide)]; exact h.2.1) (fun b hb => eo b (by omega) (by omega) (by omega) (by omega)) (fun j _ j6 => e0 j j6) (by rw [← hm]; exact rd_s)⟩
  show some (nI (sumd (up d n (d n + 1)) k), m2) = _
  rw [show sumd (up d n (d n + 1)) k = sumd d k + 1 by omega]
