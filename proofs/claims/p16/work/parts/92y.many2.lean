/-! tooMany and which: the whole -/
theorem many_val {mx mm : Mem} {k L b c n s : Nat} {d N T P Z : Nat → Nat} {V W : Nat → Int32} (h9 : mx 39 9 = 0) (a63 : A63 mx) (g : GG k d N T) (x : IX mx k d N T V W L b) (y : IM mm k d N T V W L c P Z) (l : LC mx mm b c P) (cx : CX mx mm c k d Z P) (hn : n < k) (hs : s < c) : ∃ r4 m5 m4, s_X2_surplusEdges mx (nI n) (nI s) = some (r4, m5) ∧ s_X7_without mm (nI n) (nI s) = some m4 ∧ ((r4 = -4 ∧ m4 0 53 = -4 ∧ m4 0 54 = -4) ∨ ∃ v, v < 32 ∧ r4 = nI v ∧ m4 0 53 = nI (pcb v 10) ∧ m4 0 54 = nI v) := by
  have R := rc_of g x y l h9
  have hc6 := y.2.2.2.1.2.1
  have h10 := g.1
  have h5 := (g.2 n hn).1
  have t5 := two_5 h5
  have pp : 0 < 2 ^ d n := Nat.pow_pos (by decide)
  have hE := EG_of g y.1 hn
  have zn : zin (nI n) 10 = true := zin_nI (by omega) (by decide)
  have zs : zin (nI s) 6 = true := zin_nI (by omega) (by decide)
  have z60 : zin (nI (10 * s + n)) 60 = true := zin_nI (by omega) (by decide)
  obtain ⟨m2, e2, kx, e42, cr⟩ := x_readg R a63 cx
  obtain ⟨m4, e4, -⟩ := without_eq g y hn hs
  have e := e4
  unfold s_X7_without at e
  rw [ck_p zn, ix_nI (n := n) (by omega), hE.2.2.1] at e
  simp only [bn] at e
  obtain ⟨m13, e13, e⟩ := of_b e
  obtain ⟨m59, e59, e⟩ := of_b e
  have e := of_ck e
  obtain ⟨m72, e72, e⟩ := of_b e
  have e := Option.some.inj e
  obtain ⟨m13', e13', k13, kp13⟩ := keep_loop (m := mm) (n := n) (d := d n) (by omega) h5
  have em : m13' = m13 := Option.some.inj (e13'.symm.trans e13)
  rw [em] at k13 kp13
  have f0 : m72 0 = (sto m59 3 n (nI (d n))) 0 := kf_l_X7_without_261_SFW _ e72 0 ⟨by decide, by decide⟩
  have q53 : m4 0 53 = m59 0 53 := by rw [← e, rd_j (by decide), f0, rd_o (by decide)]
  have q54 : m4 0 54 = m59 0 54 := by rw [← e, rd_j (by decide), f0, rd_o (by decide)]
  have w15 : WFr mm n (sto (sto m13 0 53 (-4)) 0 54 (-4)) := WFr_0 (WFr_0 (WFr_eq y.2.2.2.2.2.1 k13) (by omega)) (by omega)
  have k15 : KP mm n (d n) (sto (sto m13 0 53 (-4)) 0 54 (-4)) := KP_0 (KP_0 kp13 (by decide) (by decide)) (by decide) (by decide)
  have a53 : (sto (sto m13 0 53 (-4)) 0 54 (-4)) 0 53 = -4 := by rw [rd_j (by decide), rd_s]
  have a54 : (sto (sto m13 0 53 (-4)) 0 54 (-4)) 0 54 = -4 := rd_s
  generalize sto (sto m13 0 53 (-4)) 0 54 (-4) = m15 at e59 w15 k15 a53 a54
  have e59 : zlp FU (fun (q : Int32 × Mem) => t_X7_without_73 (nI n) (nI s) (nI (d n)) q.1 q.2) (nI 0, m15) = some m59 := e59
  obtain ⟨m42, m45, s3, s4, s5, s6, s7, s8, s9⟩ := zero_step (s := s) g y hn hs cr w15 k15
  by_cases z : m45 37 (10 * s + n) = 0
  · have t1 : t_X7_without_91 (nI n) (nI s) (nI (d n)) 0 (nI 0) m15 = some (.inl (nI 1, m45)) := by
      unfold t_X7_without_91
      rw [shl_5 h5, if_neg (nI_ge pp (by omega)), if_pos a53, bits_eq (by decide), bind_s, if_pos (show nI (pcb 0 10) = 0 from rfl), ck_p zn, ix_nI (n := n) (by omega)]
      simp only [bn]
      rw [s3, bind_s, s4, bind_s, p10, ck_p z60, ix_nI (n := 10 * s + n) (by omega), if_pos z, nI_s1]
    have L0 : l_X7_without_91 (nI n) (nI s) (nI (d n)) 0 FU 0 m15 = some m45 := (zlp_on (n := 999999) (f := fun (q : Int32 × Mem) => t_X7_without_91 (nI n) (nI s) (nI (d n)) 0 q.1 q.2) (a := (nI 0, m15)) (a2 := (nI 1, m45)) t1).trans (skip_0 h5 (2 ^ d n - 1) 1 m45 (by omega) (Nat.le_refl _) (s8.trans a53) 999999 (by omega))
    have T0 : t_X7_without_73 (nI n) (nI s) (nI (d n)) (nI 0) m15 = some (.inl (nI 1, m45)) := by
      have L0' : l_X7_without_91 (nI n) (nI s) (nI (d n)) (nI 0) FU 0 m15 = some m45 := L0
      unfold t_X7_without_73
      rw [if_neg (show ¬ (3 : Int32) ≤ nI 0 by decide), if_pos a53, L0', bind_s]
      simp only [bn]
      rw [nI_s1]
    have fm : FMX mx (sto m2 39 8 (nI n)) n := ⟨fun q q1 q2 q3 q4 => by rw [rd_o q1]; exact kx.1 q q1 q2 q3 q4, fun j j1 j2 j3 j4 => by rw [rd_j j3]; exact kx.2 j j1 j2, rd_s⟩
    have nf : ¬ bt (m2 40 s) n = true := fun q => (s7.mp q) z
    have e24 : m2 4 n = nI (d n) := by rw [kx.1 4 (by decide) (by decide) (by decide) (by decide)]; exact (x.1.2 n hn).1
    have fin : ∀ (κ : Nat) (yv : Int32) (m34 af : Mem), l_X2_surplusEdges_43 (nI n) (nI s) (nI (2 ^ d n)) FU (-4) 1 (sto m2 39 8 (nI n)) = some (yv, m34) → m59 = af → ANS (2 ^ d n) κ yv af → ∃ r4 m5 m4, s_X2_surplusEdges mx (nI n) (nI s) = some (r4, m5) ∧ s_X7_without mm (nI n) (nI s) = some m4 ∧ ((r4 = -4 ∧ m4 0 53 = -4 ∧ m4 0 54 = -4) ∨ ∃ v, v < 32 ∧ r4 = nI v ∧ m4 0 53 = nI (pcb v 10) ∧ m4 0 54 = nI v) := fun κ yv m34 af h43 haf an => by
      refine ⟨yv, sto (sto (sto m34 39 9 0) 39 4 0) 39 5 0, m4, ?_, e4, ?_⟩
      · unfold s_X2_surplusEdges
        rw [e2, bind_s, ck_p zs, ix_nI (n := s) (by omega), bit_v (by omega), if_neg nf, if_pos rfl, ck_p zn, ix_nI (n := n) (by omega), e24, shl_5 h5]
        simp only [bn]
        rw [h43, zb2_s, forget_eq, bind_s]
      · rw [q53, q54, haf]
        rcases an with ⟨a1, a2, a3⟩ | ⟨v, hv, a1, a2, a3, a4⟩
        · exact Or.inl ⟨a1, a2, a3⟩
        · exact Or.inr ⟨v, by omega, a1, by rw [a4]; exact a2, a3⟩
    obtain ⟨i1, m61, a1, z1, z2, f1, w1, k1, an1⟩ := mask_lock (κ := 1) R y a63 hn hs (by decide) (2 ^ d n - 1) 1 (-4) (sto m2 39 8 (nI n)) m45 (by omega) fm s5 s6 (Or.inl ⟨rfl, s8.trans a53, s9.trans a54⟩) FU 999999 (FU_lt (by omega)) (by omega)
    have L1 : l_X2_surplusEdges_58 (nI n) (nI s) (nI (2 ^ d n)) (nI 1) FU (-4) 1 (sto m2 39 8 (nI n)) = some (i1, m61) := z1
    have C1 : t_X2_surplusEdges_43 (nI n) (nI s) (nI (2 ^ d n)) (-4) (nI 1) (sto m2 39 8 (nI n)) = some (.inl (i1, nI 2, m61)) := by
      unfold t_X2_surplusEdges_43
      rw [if_neg (show ¬ (2 : Int32) < nI 1 by decide), if_pos rfl, L1, zb2_s]
      simp only [bn]
      rw [nI_s1]
    have M1 := ref_in h5 (by decide) (by decide) (s8.trans a53) z2
    have T1 : t_X7_without_73 (nI n) (nI s) (nI (d n)) (nI 1) m45 = some (.inl (nI 2, a1)) := by
      unfold t_X7_without_73
      rw [if_neg (show ¬ (3 : Int32) ≤ nI 1 by decide), if_pos (s8.trans a53), M1, bind_s]
      simp only [bn]
      rw [nI_s1]
    have G0 := zlp_on (n := 999999) (f := fun (q : Int32 × Mem) => t_X7_without_73 (nI n) (nI s) (nI (d n)) q.1 q.2) (a := (nI 0, m15)) (a2 := (nI 1, m45)) T0
    have G1 := zlp_on (n := 999998) (f := fun (q : Int32 × Mem) => t_X7_without_73 (nI n) (nI s) (nI (d n)) q.1 q.2) (a := (nI 1, m45)) (a2 := (nI 2, a1)) T1
    have H1 := zlp_on (n := 999999) (f := fun (q : Int32 × Int32 × Mem) => t_X2_surplusEdges_43 (nI n) (nI s) (nI (2 ^ d n)) q.1 q.2.1 q.2.2) (a := (-4, nI 1, sto m2 39 8 (nI n))) (a2 := (i1, nI 2, m61)) C1
    by_cases hf : i1 = -4
    · have an1' : i1 = -4 ∧ a1 0 53 = -4 ∧ a1 0 54 = -4 := by
        rcases an1 with h | ⟨v, hv, h, -⟩
        · exact h
        · rw [hf] at h
          exact absurd h.symm (nn4 (by omega))
      obtain ⟨i2, m62, a2, y1, y2, f2, w2, k2, an2⟩ := mask_lock (κ := 2) R y a63 hn hs (by decide) (2 ^ d n - 1) 1 i1 m61 a1 (by omega) f1 w1 k1 (Or.inl an1') FU 999999 (FU_lt (by omega)) (by omega)
      have L2 : l_X2_surplusEdges_58 (nI n) (nI s) (nI (2 ^ d n)) (nI 2) FU i1 1 m61 = some (i2, m62) := y1
      have C2 : t_X2_surplusEdges_43 (nI n) (nI s) (nI (2 ^ d n)) i1 (nI 2) m61 = some (.inl (i2, nI 3, m62)) := by
        unfold t_X2_surplusEdges_43
        rw [if_neg (show ¬ (2 : Int32) < nI 2 by decide), if_pos hf, L2, zb2_s]
        simp only [bn]
        rw [nI_s1]
      have C3 : t_X2_surplusEdges_43 (nI n) (nI s) (nI (2 ^ d n)) i2 (nI 3) m62 = some (.inr (i2, m62)) := by
        unfold t_X2_surplusEdges_43
        rw [if_pos (show (2 : Int32) < nI 3 by decide)]
      have M2 := ref_in h5 (by decide) (by decide) an1'.2.1 y2
      have T2 : t_X7_without_73 (nI n) (nI s) (nI (d n)) (nI 2) a1 = some (.inl (nI 3, a2)) := by
        unfold t_X7_without_73
        rw [if_neg (show ¬ (3 : Int32) ≤ nI 2 by decide), if_pos an1'.2.1, M2, bind_s]
        simp only [bn]
        rw [nI_s1]
      have T3 : t_X7_without_73 (nI n) (nI s) (nI (d n)) (nI 3) a2 = some (.inr a2) := by
        unfold t_X7_without_73
        rw [if_pos (show (3 : Int32) ≤ nI 3 by decide)]
      have G2 := zlp_on (n := 999997) (f := fun (q : Int32 × Mem) => t_X7_without_73 (nI n) (nI s) (nI (d n)) q.1 q.2) (a := (nI 2, a1)) (a2 := (nI 3, a2)) T2
      have G3 := zlp_off (n := 999996) (f := fun (q : Int32 × Mem) => t_X7_without_73 (nI n) (nI s) (nI (d n)) q.1 q.2) (a := (nI 3, a2)) T3
      have H2 := zlp_on (n := 999998) (f := fun (q : Int32 × Int32 × Mem) => t_X2_surplusEdges_43 (nI n) (nI s) (nI (2 ^ d n)) q.1 q.2.1 q.2.2) (a := (i1, nI 2, m61)) (a2 := (i2, nI 3, m62)) C2
      have H3 := zlp_off (n := 999997) (f := fun (q : Int32 × Int32 × Mem) => t_X2_surplusEdges_43 (nI n) (nI s) (nI (2 ^ d n)) q.1 q.2.1 q.2.2) (a := (i2, nI 3, m62)) C3
      exact fin 2 i2 m62 a2 (H1.trans (H2.trans H3)) (Option.some.inj (e59.symm.trans (G0.trans (G1.trans (G2.trans G3))))) an2
    · have a53' : ¬ a1 0 53 = -4 := by
        rcases an1 with h | ⟨v, hv, h, h2, -⟩
        · exact absurd h.1 hf
        · rw [h2]
          exact nn4 (by decide)
      have C2 : t_X2_surplusEdges_43 (nI n) (nI s) (nI (2 ^ d n)) i1 (nI 2) m61 = some (.inr (i1, m61)) := by
        unfold t_X2_surplusEdges_43
        rw [if_neg (show ¬ (2 : Int32) < nI 2 by decide), if_neg hf]
      have T2 : t_X7_without_73 (nI n) (nI s) (nI (d n)) (nI 2) a1 = some (.inr a1) := by
        unfold t_X7_without_73
        rw [if_neg (show ¬ (3 : Int32) ≤ nI 2 by decide), if_neg a53']
      have G2 := zlp_off (n := 999997) (f := fun (q : Int32 × Mem) => t_X7_without_73 (nI n) (nI s) (nI (d n)) q.1 q.2) (a := (nI 2, a1)) T2
      have H2 := zlp_off (n := 999998) (f := fun (q : Int32 × Int32 × Mem) => t_X2_surplusEdges_43 (nI n) (nI s) (nI (2 ^ d n)) q.1 q.2.1 q.2.2) (a := (i1, nI 2, m61)) C2
      exact fin 1 i1 m61 a1 (H1.trans H2) (Option.some.inj (e59.symm.trans (G0.trans (G1.trans G2)))) an1
  · have t1 : t_X7_without_91 (nI n) (nI s) (nI (d n)) (nI 0) (nI 0) m15 = some (.inl (nI 1, sto (sto m45 0 53 (nI 0)) 0 54 (nI 0))) := by
      unfold t_X7_without_91
      rw [shl_5 h5, if_neg (nI_ge pp (by omega)), if_pos a53, bits_eq (by decide), bind_s, if_pos (show nI (pcb 0 10) = nI 0 from rfl), ck_p zn, ix_nI (n := n) (by omega)]
      simp only [bn]
      rw [s3, bind_s, s4, bind_s, p10, ck_p z60, ix_nI (n := 10 * s + n) (by omega), if_neg z, nI_s1]
    have b53 : (sto (sto m45 0 53 (nI 0)) 0 54 (nI 0)) 0 53 = nI 0 := by rw [rd_j (by decide), rd_s]
    have b54 : (sto (sto m45 0 53 (nI 0)) 0 54 (nI 0)) 0 54 = nI 0 := rd_s
    generalize sto (sto m45 0 53 (nI 0)) 0 54 (nI 0) = m49 at t1 b53 b54
    have b4 : ¬ m49 0 53 = -4 := by rw [b53]; decide
    have t2 : t_X7_without_91 (nI n) (nI s) (nI (d n)) (nI 0) (nI 1) m49 = some (.inr m49) := by
      unfold t_X7_without_91
      rw [shl_5 h5, if_neg b4]
      by_cases q : nI (2 ^ d n) ≤ nI 1
      · rw [if_pos q]
      · rw [if_neg q]
    have L0 : l_X7_without_91 (nI n) (nI s) (nI (d n)) (nI 0) FU 0 m15 = some m49 := (zlp_on (n := 999999) (f := fun (q : Int32 × Mem) => t_X7_without_91 (nI n) (nI s) (nI (d n)) (nI 0) q.1 q.2) (a := (nI 0, m15)) (a2 := (nI 1, m49)) t1).trans (zlp_off (n := 999998) (f := fun (q : Int32 × Mem) => t_X7_without_91 (nI n) (nI s) (nI (d n)) (nI 0) q.1 q.2) (a := (nI 1, m49)) t2)
    have T0 : t_X7_without_73 (nI n) (nI s) (nI (d n)) (nI 0) m15 = some (.inl (nI 1, m49)) := by
      unfold t_X7_without_73
      rw [if_neg (show ¬ (3 : Int32) ≤ nI 0 by decide), if_pos a53, L0, bind_s]
      simp only [bn]
      rw [nI_s1]
    have T1 : t_X7_without_73 (nI n) (nI s) (nI (d n)) (nI 1) m49 = some (.inr m49) := by
      unfold t_X7_without_73
      rw [if_neg (show ¬ (3 : Int32) ≤ nI 1 by decide), if_neg b4]
    have G0 := zlp_on (n := 999999) (f := fun (q : Int32 × Mem) => t_X7_without_73 (nI n) (nI s) (nI (d n)) q.1 q.2) (a := (nI 0, m15)) (a2 := (nI 1, m49)) T0
    have G1 := zlp_off (n := 999998) (f := fun (q : Int32 × Mem) => t_X7_without_73 (nI n) (nI s) (nI (d n)) q.1 q.2) (a := (nI 1, m49)) T1
    have e49 : m59 = m49 := Option.some.inj (e59.symm.trans (G0.trans G1))
    refine ⟨0, m2, m4, ?_, e4, Or.inr ⟨0, by decide, rfl, by rw [q53, e49, b53]; rfl, by rw [q54, e49, b54]⟩⟩
    unfold s_X2_surplusEdges
    rw [e2, bind_s, ck_p zs, ix_nI (n := s) (by omega), bit_v (by omega), if_pos (s7.mpr z), if_neg (show ¬ (1 : Int32) = 0 by decide)]
theorem jc_tooManyE (cmp : Prop) {mx mm : Mem} (h : JC mx mm) : Hc_tooMany cmp JC mx mm := by
  intro n s
  obtain ⟨r, mx2, q, mm2, ex, ey, -, hj⟩ := jc_tooMany h n s
  refine ⟨r, mx2, q, mm2, ex, ey, fun _ => ?_, hj⟩
  obtain ⟨⟨⟨k, d, N, T, V, W, L, b, c, P, Z, g, hs, hL, x, y, t, l⟩, h9⟩, a63, hE⟩ := h
  obtain ⟨cx, cm⟩ := hE k d N T c P Z ⟨g, y.1, y.2.2.2.1⟩
  have hp := x_pairc g x y l
  have hc6 := y.2.2.2.1.2.1
  have h10 := g.1
  by_cases z : (0 ≤ n.toInt ∧ n.toInt < k) ∧ (0 ≤ s.toInt ∧ s.toInt < c)
  · have z0 := z
    obtain ⟨a, ha, rfl, ea⟩ := int_nI z.1.1
    obtain ⟨u, hu, rfl, eu⟩ := int_nI z.2.1
    obtain ⟨r4, m5, m4, e5, e4, v⟩ := many_val h9 a63 g x y l cx (show a < k by omega) (show u < c by omega)
    have v2 : s_X7_tooMany mm (nI a) (nI u) = some (m4 0 53, m4) := by
      unfold s_X7_tooMany
      rw [m_both g y]
      simp only [bind_s, if_bb]
      rw [if_pos z0, e4, bind_s]
    have w2 := (Prod.mk.inj (Option.some.inj (ey.symm.trans v2))).1
    have v1 : s_X6_tooMany mx (nI a) (nI u) = some (m4 0 53, m5) := by
      unfold s_X6_tooMany
      rw [hp]
      simp only [bind_s, if_bb]
      rw [if_pos z0, e5, zb2_s]
      rcases v with ⟨v1, v2, -⟩ | ⟨v, hv, v1, v2, -⟩
      · rw [v1, v2, if_neg (show ¬ (0 : Int32) ≤ -4 by decide)]
      · rw [v1, v2, if_pos (show (0 : Int32) ≤ nI v from nI_le (a := 0) (Nat.zero_le _) (by omega)), bc_10 v (by omega), bind_s]
    have w1 := (Prod.mk.inj (Option.some.inj (ex.symm.trans v1))).1
    exact w1.trans w2.symm
  · have v1 : s_X6_tooMany mx n s = some (-1, mx) := by
      unfold s_X6_tooMany
      rw [hp]
      simp only [bind_s, if_bb]
      rw [if_neg z]
    have v2 : s_X7_tooMany mm n s = some (-1, mm) := by
      unfold s_X7_tooMany
      rw [m_both g y]
      simp only [bind_s, if_bb]
      rw [if_neg z]
    have w1 := (Prod.mk.inj (Option.some.inj (ex.symm.trans v1))).1
    have w2 := (Prod.mk.inj (Option.some.inj (ey.symm.trans v2))).1
    exact w1.trans w2.symm
theorem jc_whichE (cmp : Prop) {mx mm : Mem} (h : JC mx mm) : Hc_which cmp JC mx mm := by
  intro n s
  obtain ⟨r, mx2, q, mm2, ex, ey, -, hj⟩ := jc_which h n s
  refine ⟨r, mx2, q, mm2, ex, ey, fun _ => ?_, hj⟩
  obtain ⟨⟨⟨k, d, N, T, V, W, L, b, c, P, Z, g, hs, hL, x, y, t, l⟩, h9⟩, a63, hE⟩ := h
  obtain ⟨cx, cm⟩ := hE k d N T c P Z ⟨g, y.1, y.2.2.2.1⟩
  have hp := x_pairc g x y l
  have hc6 := y.2.2.2.1.2.1
  have h10 := g.1
  by_cases z : (0 ≤ n.toInt ∧ n.toInt < k) ∧ (0 ≤ s.toInt ∧ s.toInt < c)
  · have z0 := z
    obtain ⟨a, ha, rfl, ea⟩ := int_nI z.1.1
    obtain ⟨u, hu, rfl, eu⟩ := int_nI z.2.1
    obtain ⟨r4, m5, m4, e5, e4, v⟩ := many_val h9 a63 g x y l cx (show a < k by omega) (show u < c by omega)
    have v2 : s_X7_which mm (nI a) (nI u) = some (m4 0 54, m4) := by
      unfold s_X7_which
      rw [m_both g y]
      simp only [bind_s, if_bb]
      rw [if_pos z0, e4, bind_s]
    have w2 := (Prod.mk.inj (Option.some.inj (ey.symm.trans v2))).1
    have v1 : s_X6_which mx (nI a) (nI u) = some (m4 0 54, m5) := by
      unfold s_X6_which
      rw [hp]
      simp only [bind_s, if_bb]
      rw [if_pos z0, e5, zb2_s]
      rcases v with ⟨v1, -, v2⟩ | ⟨v, hv, v1, -, v2⟩
      · rw [v1, v2, if_neg (show ¬ (0 : Int32) ≤ -4 by decide)]
      · rw [v1, v2, if_pos (show (0 : Int32) ≤ nI v from nI_le (a := 0) (Nat.zero_le _) (by omega))]
    have w1 := (Prod.mk.inj (Option.some.inj (ex.symm.trans v1))).1
    exact w1.trans w2.symm
  · have v1 : s_X6_which mx n s = some (-1, mx) := by
      unfold s_X6_which
      rw [hp]
      simp only [bind_s, if_bb]
      rw [if_neg z]
    have v2 : s_X7_which mm n s = some (-1, mm) := by
      unfold s_X7_which
      rw [m_both g y]
      simp only [bind_s, if_bb]
      rw [if_neg z]
    have w1 := (Prod.mk.inj (Option.some.inj (ex.symm.trans v1))).1
    have w2 := (Prod.mk.inj (Option.some.inj (ey.symm.trans v2))).1
    exact w1.trans w2.symm
