/-! all and count -/
theorem b_dec {x : Bool} {p : Prop} [Decidable p] (h : x = true ↔ p) : x = decide p := by
  by_cases q : p
  · rw [decide_eq_true q]
    exact h.mpr q
  · rw [decide_eq_false q]
    exact bt_dec (fun w => q (h.mp w))
theorem jc_all (cmp : Prop) {mx mm : Mem} (h : JC mx mm) : Hc_all cmp JC mx mm := by
  have h0 := h
  obtain ⟨⟨⟨k, d, N, T, V, W, L, b, c, P, Z, g, hs, hL, x, y, t, l⟩, h9⟩, a63, hE⟩ := h
  obtain ⟨cx, cm⟩ := hE k d N T c P Z ⟨g, y.1, y.2.2.2.1⟩
  have hc6 := y.2.2.2.1.2.1
  have h10 := g.1
  intro s
  by_cases z : 0 ≤ s.toInt ∧ s.toInt < c
  · have z0 := z
    obtain ⟨u, hu, rfl, eu⟩ := int_nI z.1
    have hu2 : u < c := by omega
    obtain ⟨m2, e2, kx, e42, cr⟩ := x_readg (rc_of g x y l h9) a63 cx
    obtain ⟨m4, e4, i4, f4, g4, s4, t4⟩ := m_readg g y cm
    have v1 : ∃ q, s_X6_all mx (nI u) = some q ∧ q = (m2 40 u, m2) := by
      unfold s_X6_all
      refine ex_k x.2.2.2.2.1 x.2.2.2.2.2.1 ?_
      rw [X0_hasShape_eq l.1.1 hc6]
      simp only [bind_s, if_bb]
      refine ex_if (fun _ => ex_b (Q := fun q => q = m2) ⟨m2, e2, rfl⟩ (fun m hm => ?_)) (fun z2 => absurd z0 z2)
      rw [hm, ix_nI (n := u) (by omega)]
      exact ex_ck (zin_nI (by omega) (by decide)) (ex_s rfl)
    have v2 : ∃ q, s_X7_all mm (nI u) = some q ∧ q = (nI (sb (fun i => decide (¬ m4 37 (10 * u + i) = 0)) k), m4) := by
      unfold s_X7_all
      rw [X7_isShape_eq y.2.2.2.1.1 hc6]
      simp only [bind_s, if_bb]
      refine ex_if (fun _ => ex_b (Q := fun q => q = m4) ⟨m4, e4, rfl⟩ (fun m hm => ?_)) (fun z2 => absurd z0 z2)
      rw [hm]
      exact ex_b (Q := fun r => r = nI (sb (fun i => decide (¬ m4 37 (10 * u + i) = 0)) k)) ⟨_, all_loop h10 (by omega) i4.1.1, rfl⟩ (fun r hr => by rw [hr]; exact ex_s rfl)
    obtain ⟨q1, r1, rfl⟩ := v1
    obtain ⟨q2, r2, rfl⟩ := v2
    refine ⟨_, _, _, _, r1, r2, fun _ => ?_, jc_after h9 a63 g hs hL x t l kx e42 (Or.inr cr) i4 f4 g4 s4 t4⟩
    exact row_sb h10 (fun i hi => b_dec (ag_fits hc6 h10 f4 cr.2.1 g4 u i hu2 hi)) (fun i hi hi2 => cr.2.2.1 u hu2 i hi hi2)
  · have v1 : ∃ q, s_X6_all mx s = some q ∧ q = (-1, mx) := by
      unfold s_X6_all
      refine ex_k x.2.2.2.2.1 x.2.2.2.2.2.1 ?_
      rw [X0_hasShape_eq l.1.1 hc6]
      simp only [bind_s, if_bb]
      rw [if_neg z]
      exact ex_s rfl
    have v2 : s_X7_all mm s = some (-1, mm) := by
      unfold s_X7_all
      rw [X7_isShape_eq y.2.2.2.1.1 hc6]
      simp only [bind_s, if_bb]
      rw [if_neg z]
    obtain ⟨q1, r1, rfl⟩ := v1
    exact ⟨_, _, _, _, r1, v2, fun _ => rfl, h0⟩
theorem m_countv {mm m4 : Mem} {k c : Nat} {d N T : Nat → Nat} (g : GG k d N T) (hc : c ≤ 6) (e4 : s_X7_read mm = some m4) (i4 : GM m4 k d N T) (h7 : m4 0 7 = nI c) (v : Int32) : s_X7_count mm v = some ((if v = 0 then nI k else if v = 1 then nI (sumd d k) else if v = 2 then nI c else if v = 3 then m4 0 37 else if v = 4 then nI (cs (bF m4 37) k c) else if v = 5 then nI (cs (bF m4 38) k c) else -1), m4) := by
  have E : ∃ q, s_X7_count mm v = some q ∧ q = ((if v = 0 then nI k else if v = 1 then nI (sumd d k) else if v = 2 then nI c else if v = 3 then m4 0 37 else if v = 4 then nI (cs (bF m4 37) k c) else if v = 5 then nI (cs (bF m4 38) k c) else -1), m4) := by
    unfold s_X7_count
    refine ex_b (Q := fun q => q = m4) ⟨m4, e4, rfl⟩ (fun m hm => ?_)
    rw [hm]
    refine ex_2 (Q := fun q => q = (nI (cs (bF m4 37) k c), nI (cs (bF m4 38) k c))) ⟨_, count_out g.1 hc i4.1 h7, rfl⟩ (fun y24 y25 hy => ?_)
    rw [(Prod.mk.inj hy).1, (Prod.mk.inj hy).2, i4.1, h7]
    refine ex_if (fun w => ex_s (by rw [if_pos w])) (fun w0 => ?_)
    rw [if_neg w0]
    refine ex_if (fun w => ex_b (Q := fun r => r = nI (sumd d k)) ⟨_, edges_eq g i4, rfl⟩ (fun r hr => ex_s (by rw [if_pos w, hr]))) (fun w1 => ?_)
    rw [if_neg w1]
    refine ex_if (fun w => ex_s (by rw [if_pos w])) (fun w2 => ?_)
    rw [if_neg w2]
    refine ex_if (fun w => ex_s (by rw [if_pos w])) (fun w3 => ?_)
    rw [if_neg w3]
    refine ex_if (fun w => ex_s (by rw [if_pos w])) (fun w4 => ?_)
    rw [if_neg w4]
    refine ex_if (fun w => ex_s (by rw [if_pos w])) (fun w5 => ?_)
    rw [if_neg w5]
    exact ex_s rfl
  obtain ⟨q, h1, h2⟩ := E
  rw [h1, h2]
theorem jc_count (cmp : Prop) {mx mm : Mem} (h : JC mx mm) : Hc_count cmp JC mx mm := by
  obtain ⟨⟨⟨k, d, N, T, V, W, L, b, c, P, Z, g, hs, hL, x, y, t, l⟩, h9⟩, a63, hE⟩ := h
  obtain ⟨cx, cm⟩ := hE k d N T c P Z ⟨g, y.1, y.2.2.2.1⟩
  have hc6 := y.2.2.2.1.2.1
  have h10 := g.1
  have R := rc_of g x y l h9
  have hb := x.2.2.2.2.1
  have hbb := isb_e hb
  have h4 := x.2.2.2.2.2.1
  intro v
  obtain ⟨m4, e4, i4, f4, g4, s4, t4⟩ := m_readg g y cm
  have v2 := m_countv g hc6 e4 i4.1 i4.2.2.2.1.1 v
  have st : JC mx m4 := jc_after h9 a63 g hs hL x t l KX_r rfl cx i4 f4 g4 s4 t4
  have pr : ∀ {m : Mem} {q q2 : Nat}, KX mx m → (∀ u i, u < c → i < k → (bt (m q u) i = true ↔ ¬ m4 q2 (10 * u + i) = 0)) → NB m q c k → s_X6_pairsIn m q = some (nI (cs (bF m4 q2) k c)) := fun {m q q2} kx ag nb => pairs_eq hb (by rw [kx.1 0 (by decide) (by decide) (by decide) (by decide)]; exact h4) (by rw [kx.1 b (by omega) (by omega) (by omega) (by omega)]; exact l.1.1) hc6 h10 (fun u hu => row_sb h10 (fun i hi => b_dec (ag u i hu hi)) (fun i hi hi2 => nb u hu i hi hi2))
  by_cases w0 : v = 0
  · rw [if_pos w0] at v2
    refine ⟨nI k, mx, _, _, ?_, v2, fun _ => rfl, st⟩
    unfold s_X6_count
    rw [if_pos w0, x.1.1]
  rw [if_neg w0] at v2
  by_cases w1 : v = 1
  · rw [if_pos w1] at v2
    refine ⟨nI (sumd d k), mx, _, _, ?_, v2, fun _ => rfl, st⟩
    unfold s_X6_count
    rw [if_neg w0, if_pos w1, x.2.1]
  rw [if_neg w1] at v2
  by_cases w2 : v = 2
  · rw [if_pos w2] at v2
    refine ⟨nI c, mx, _, _, ?_, v2, fun _ => rfl, st⟩
    unfold s_X6_count
    rw [if_neg w0, if_neg w1, if_pos w2, zbk_i hb h4, l.1.1]
  rw [if_neg w2] at v2
  by_cases w3 : v = 3
  · rw [if_pos w3] at v2
    refine ⟨nI L, mx, _, _, ?_, v2, fun _ => i4.2.2.1.symm, st⟩
    unfold s_X6_count
    rw [if_neg w0, if_neg w1, if_neg w2, if_pos w3, x.2.2.2.1]
  rw [if_neg w3] at v2
  by_cases w4 : v = 4
  · rw [if_pos w4] at v2
    obtain ⟨m2, e2, kx, e42, cr⟩ := x_readg R a63 cx
    have p := pr kx (ag_fits hc6 h10 f4 cr.2.1 g4) cr.2.2.1
    refine ⟨nI (cs (bF m4 37) k c), m2, _, _, ?_, v2, fun _ => rfl, jc_after h9 a63 g hs hL x t l kx e42 (Or.inr cr) i4 f4 g4 s4 t4⟩
    unfold s_X6_count
    rw [if_neg w0, if_neg w1, if_neg w2, if_neg w3, if_pos w4, e2, bind_s, p, bind_s]
  rw [if_neg w4] at v2
  by_cases w5 : v = 5
  · rw [if_pos w5] at v2
    obtain ⟨m1, e1, k1, e421, cr1⟩ := x_readg R a63 cx
    obtain ⟨m2, e2, k2, e422, e40, cr, su, nb⟩ := x_sureg (RC_k R k1) (A63_of a63 e421) cr1
    have kx := KX_t k1 k2
    have p := pr kx (ag_sure hc6 h10 f4 cr.2.1 g4 su s4) nb
    refine ⟨nI (cs (bF m4 38) k c), m2, _, _, ?_, v2, fun _ => rfl, jc_after h9 a63 g hs hL x t l kx (e422.trans e421) (Or.inr cr) i4 f4 g4 s4 t4⟩
    unfold s_X6_count
    rw [if_neg w0, if_neg w1, if_neg w2, if_neg w3, if_neg w4, if_pos w5, e1, bind_s, e2, bind_s, p, bind_s]
  rw [if_neg w5] at v2
  refine ⟨-1, mx, _, _, ?_, v2, fun _ => rfl, st⟩
  unfold s_X6_count
  rw [if_neg w0, if_neg w1, if_neg w2, if_neg w3, if_neg w4, if_neg w5]
/-! tooMany and which: what stands afterwards -/
theorem fx_surplus {m : Mem} {n s : Int32} {q : Int32 × Mem} (e : s_X2_surplusEdges m n s = some q) : CLX q.2 ∨ s_X2_readFits m = some q.2 := by
  unfold s_X2_surplusEdges at e
  obtain ⟨m2, e2, e⟩ := of_b e
  have e := of_ck e
  by_cases c2 : ((m2 40 (Int32.toNatClampNeg s)) >>> (n &&& 31)) &&& 1 = 0
  · rw [if_pos c2] at e
    have e := of_ck e
    simp only [bn] at e
    obtain ⟨y, m34, -, e⟩ := of_2 e
    rw [forget_eq, bind_s] at e
    rw [← Option.some.inj e]
    exact Or.inl (CLX_of rfl)
  · rw [if_neg c2] at e
    rw [← Option.some.inj e]
    exact Or.inr e2
theorem fx_tooMany {m : Mem} {n s : Int32} {q : Int32 × Mem} (e : s_X6_tooMany m n s = some q) : q.2 = m ∨ CLX q.2 ∨ s_X2_readFits m = some q.2 := by
  unfold s_X6_tooMany at e
  obtain ⟨r2, -, e⟩ := of_b e
  by_cases c1 : r2 = 0
  · rw [if_pos c1] at e
    rw [← Option.some.inj e]
    exact Or.inl rfl
  · rw [if_neg c1] at e
    obtain ⟨r4, m5, e5, e⟩ := of_2 e
    refine Or.inr ?_
    have := fx_surplus e5
    by_cases c2 : 0 ≤ r4
    · rw [if_pos c2] at e
      obtain ⟨r7, -, e⟩ := of_b e
      rw [← Option.some.inj e]
      exact this
    · rw [if_neg c2] at e
      rw [← Option.some.inj e]
      exact this
theorem fx_which {m : Mem} {n s : Int32} {q : Int32 × Mem} (e : s_X6_which m n s = some q) : q.2 = m ∨ CLX q.2 ∨ s_X2_readFits m = some q.2 := by
  unfold s_X6_which at e
  obtain ⟨r2, -, e⟩ := of_b e
  by_cases c1 : r2 = 0
  · rw [if_pos c1] at e
    rw [← Option.some.inj e]
    exact Or.inl rfl
  · rw [if_neg c1] at e
    obtain ⟨r4, m5, e5, e⟩ := of_2 e
    refine Or.inr ?_
    have := fx_surplus e5
    by_cases c2 : 0 ≤ r4
    · rw [if_pos c2] at e
      rw [← Option.some.inj e]
      exact this
    · rw [if_neg c2] at e
      rw [← Option.some.inj e]
      exact this
theorem fm_without {m m2 : Mem} {n s : Int32} (e : s_X7_without m n s = some m2) : m2 0 6 = 0 := by
  unfold s_X7_without at e
  have e := of_ck e
  simp only [bn] at e
  obtain ⟨m13, -, e⟩ := of_b e
  obtain ⟨m59, -, e⟩ := of_b e
  have e := of_ck e
  obtain ⟨m72, -, e⟩ := of_b e
  rw [← Option.some.inj e]
  exact rd_s
theorem fm_tooMany {m : Mem} {n s : Int32} {q : Int32 × Mem} (e : s_X7_tooMany m n s = some q) : q.2 = m ∨ q.2 0 6 = 0 := by
  unfold s_X7_tooMany at e
  obtain ⟨r2, -, e⟩ := of_b e
  by_cases c1 : r2 = 0
  · rw [if_pos c1] at e
    rw [← Option.some.inj e]
    exact Or.inl rfl
  · rw [if_neg c1] at e
    obtain ⟨m4, e4, e⟩ := of_b e
    rw [← Option.some.inj e]
    exact Or.inr (fm_without e4)
theorem fm_which {m : Mem} {n s : Int32} {q : Int32 × Mem} (e : s_X7_which m n s = some q) : q.2 = m ∨ q.2 0 6 = 0 := by
  unfold s_X7_which at e
  obtain ⟨r2, -, e⟩ := of_b e
  by_cases c1 : r2 = 0
  · rw [if_pos c1] at e
    rw [← Option.some.inj e]
    exact Or.inl rfl
  · rw [if_neg c1] at e
    obtain ⟨m4, e4, e⟩ := of_b e
    rw [← Option.some.inj e]
    exact Or.inr (fm_without e4)
/-- the class's reading is told of the reference's nodes and edges alone -/
theorem CX_m {mx mm m2 : Mem} {k c : Nat} {d N T P Z : Nat → Nat} (B : RB mm k d N T c P Z) (B2 : RB m2 k d N T c P Z) (f : ∀ a, SFK a → m2 a = mm a) (h : CX mx mm c k d Z P) : CX mx m2 c k d Z P := by
  have ej : Jr m2 P 6 = Jr mm P 6 := Jr_e (f 10 (Or.inr (by decide))) (f 11 (Or.inr (by decide))) 6
  have A : AGR (nrm (img mx mm) P) (nrm (img mx m2) P) k d := by
    refine ⟨fun a ha => ?_, fun n hn i hi => ?_, fun i _ => rfl⟩
    · rw [nrm_img a (by omega) (by omega), nrm_img a (by omega) (by omega), nrm_a (by omega), nrm_a (by omega)]
      exact f a (by unfold SFK; omega)
    · rw [nrm_img 4 (by decide) (by decide), nrm_img 4 (by decide) (by decide), nrm_img 5 (by decide) (by decide), nrm_img 5 (by decide) (by decide), nrm_a (by decide), nrm_a (by decide), nrm_a (by decide), nrm_a (by decide)]
      rw [((B.2.1.2 n hn).2 i hi).1, ((B.2.1.2 n hn).2 i hi).2, ((B2.2.1.2 n hn).2 i hi).1, ((B2.2.1.2 n hn).2 i hi).2]
      exact ⟨rfl, rfl⟩
  have e37 : nrm (img mx m2) P 37 = nrm (img mx mm) P 37 := by rw [nrm_3 (Or.inl rfl), nrm_3 (Or.inl rfl)]; rfl
  have e38 : nrm (img mx m2) P 38 = nrm (img mx mm) P 38 := by rw [nrm_3 (Or.inr rfl), nrm_3 (Or.inr rfl)]; rfl
  rcases h with h | ⟨h1, h2, h3, h4⟩
  · exact Or.inl h
  · refine Or.inr ⟨h1, ?_, h3, ?_⟩
    · rw [ej]
      exact GRD_g A (RB_n (RB_img B)) (RB_n (RB_img B2)) e37 e38 h2
    · rcases h4 with h4 | ⟨h4, h5⟩
      · exact Or.inl h4
      · exact Or.inr ⟨SRD_g A (RB_n (RB_img B)) (RB_n (RB_img B2)) e37 e38 h4, h5⟩
theorem EX_many {mx mm mx2 mm2 : Mem} {k L b c : Nat} {d N T P Z : Nat → Nat} {V W : Nat → Int32} (R : RC mx mm k d N T V W b c P Z) (a63 : A63 mx) (g : GG k d N T) (y : IM mm k d N T V W L c P Z) (y2 : IM mm2 k d N T V W L c P Z) (cx : CX mx mm c k d Z P) (cm : CM mm c k d Z P) (fx : mx2 = mx ∨ CLX mx2 ∨ s_X2_readFits mx = some mx2) (fm : mm2 = mm ∨ mm2 0 6 = 0) (f : ∀ a, SFK a → mm2 a = mm a) : EX mx2 mm2 := by
  have B : RB mm k d N T c P Z := ⟨g, y.1, y.2.2.2.1⟩
  have B2 : RB mm2 k d N T c P Z := ⟨g, y2.1, y2.2.2.2.1⟩
  refine EX_of B2 ?_ ?_
  · rcases fx with e | e | e
    · rw [e]
      exact CX_m B B2 f cx
    · exact Or.inl e
    · obtain ⟨m2, e2, kx, e42, cr⟩ := x_readg R a63 cx
      have em : mx2 = m2 := Option.some.inj (e.symm.trans e2)
      rw [em]
      exact CX_m B B2 f (Or.inr cr)
  · rcases fm with e | e
    · rw [e]
      exact cm
    · exact Or.inl e
theorem jc_tooMany {mx mm : Mem} (h : JC mx mm) : Hc_tooMany False JC mx mm := by
  obtain ⟨⟨⟨k, d, N, T, V, W, L, b, c, P, Z, g, hs, hL, x, y, t, l⟩, h9⟩, a63, hE⟩ := h
  obtain ⟨cx, cm⟩ := hE k d N T c P Z ⟨g, y.1, y.2.2.2.1⟩
  intro n s
  obtain ⟨⟨r, mx2⟩, ex, jx⟩ := x_tooMany g x n s
  obtain ⟨⟨q, mm2⟩, ey, iy⟩ := (m_tooMany g y n s).1
  refine ⟨_, _, _, _, ex, ey, fun f => f.elim, ⟨JK_f x t l (jf_SX jx) (kf_s_X7_tooMany_SM _ ey) g hs hL (IX_j x jx) iy, kg_tooMany h9 _ ex⟩, A63_of a63 (kf_s_X6_tooMany_SA _ ex 42 rfl), EX_many (rc_of g x y l h9) a63 g y iy cx cm (fx_tooMany ex) (fm_tooMany ey) (kf_s_X7_tooMany_SFK _ ey)⟩
theorem jc_which {mx mm : Mem} (h : JC mx mm) : Hc_which False JC mx mm := by
  obtain ⟨⟨⟨k, d, N, T, V, W, L, b, c, P, Z, g, hs, hL, x, y, t, l⟩, h9⟩, a63, hE⟩ := h
  obtain ⟨cx, cm⟩ := hE k d N T c P Z ⟨g, y.1, y.2.2.2.1⟩
  intro n s
  obtain ⟨⟨r, mx2⟩, ex, jx⟩ := x_which g x n s
  obtain ⟨⟨q, mm2⟩, ey, iy⟩ := (m_tooMany g y n s).2
  refine ⟨_, _, _, _, ex, ey, fun f => f.elim, ⟨JK_f x t l (jf_SX jx) (kf_s_X7_which_SM _ ey) g hs hL (IX_j x jx) iy, kg_which h9 _ ex⟩, A63_of a63 (kf_s_X6_which_SA _ ex 42 rfl), EX_many (rc_of g x y l h9) a63 g y iy cx cm (fx_which ex) (fm_which ey) (kf_s_X7_which_SFK _ ey)⟩
