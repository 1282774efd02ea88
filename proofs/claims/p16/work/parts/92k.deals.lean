/-! dealt: what stands afterwards -/
theorem reset_42 (m : Mem) : ∃ m2, l_X2_leastPartOf_56 FU 0 m = some m2 ∧ ∀ i, i < 5 → m2 42 i = 63 := by
  unfold l_X2_leastPartOf_56
  refine forG 5 (fun j (a : Int32 × Mem) => a.1 = nI j ∧ ∀ i, i < j → a.2 42 i = 63) _ (fun j a hj ha => ?_) (fun a ha => ?_) FU 0 (0, m) (Nat.zero_le _) ⟨rfl, fun i hi => absurd hi (Nat.not_lt_zero i)⟩ (FU_lt (by omega))
  · obtain ⟨e1, hv⟩ := ha
    unfold t_X2_leastPartOf_56
    rw [e1, ix_nI (n := j) (by omega)]
    refine st_if (fun z => absurd z (nI_ge (b := 5) hj (by decide))) (fun _ => st_ck (zin_nI hj (by decide)) (st_n (st_n (st_l ⟨nI_s1, fun i hi => ?_⟩))))
    dsimp only
    by_cases e : i = j
    · rw [e]
      exact rd_s
    · rw [rd_j e]
      exact hv i (by omega)
  · unfold t_X2_leastPartOf_56
    rw [ha.1]
    exact ⟨_, if_pos (by decide), ha.2⟩
theorem fx_least {m : Mem} {n s i : Int32} {q : Int32 × Mem} (e : s_X2_leastPartOf m n s i = some q) : (∀ a, SFB a → q.2 a = m a) ∧ ∀ i, i < 5 → q.2 42 i = 63 := by
  refine ⟨kf_s_X2_leastPartOf_SFB _ e, ?_⟩
  unfold s_X2_leastPartOf at e
  obtain ⟨r2, -, e⟩ := of_b e
  obtain ⟨y14, m15, -, e⟩ := of_2 e
  obtain ⟨m22, e22, e⟩ := of_b e
  obtain ⟨m2, h2, v2⟩ := reset_42 m15
  have em : m22 = m2 := Option.some.inj (e22.symm.trans h2)
  rw [← Option.some.inj e]
  show ∀ i, i < 5 → m22 42 i = 63
  rw [em]
  exact v2
theorem fx_dealt {m : Mem} {n s i : Int32} {q : Int32 × Mem} (e : s_X6_dealt m n s i = some q) : q.2 = m ∨ ∃ m6, s_X2_readFits m = some m6 ∧ (∀ a, SFB a → q.2 a = m6 a) ∧ (q.2 42 = m6 42 ∨ ∀ i, i < 5 → q.2 42 i = 63) := by
  unfold s_X6_dealt at e
  obtain ⟨r2, -, e⟩ := of_b e
  by_cases c1 : r2 = 0
  · rw [if_pos c1] at e
    rw [← Option.some.inj e]
    exact Or.inl rfl
  rw [if_neg c1] at e
  obtain ⟨r4, -, e⟩ := of_b e
  by_cases c2 : r4 = 0
  · rw [if_pos c2] at e
    rw [← Option.some.inj e]
    exact Or.inl rfl
  rw [if_neg c2] at e
  obtain ⟨m6, e6, e⟩ := of_b e
  refine Or.inr ⟨m6, e6, ?_⟩
  have e := of_ck e
  by_cases c3 : (((m6 40 (Int32.toNatClampNeg s)) >>> (n &&& 31)) &&& 1) = 0
  · rw [if_pos c3] at e
    rw [← Option.some.inj e]
    exact ⟨fun _ _ => rfl, Or.inl rfl⟩
  rw [if_neg c3] at e
  obtain ⟨r9, -, e⟩ := of_b e
  by_cases c4 : ((r9 >>> (i &&& 31)) &&& 1) = 0
  · rw [if_pos c4] at e
    rw [← Option.some.inj e]
    exact ⟨fun _ _ => rfl, Or.inl rfl⟩
  rw [if_neg c4] at e
  obtain ⟨r11, m12, e11, e⟩ := of_2 e
  rw [← Option.some.inj e]
  obtain ⟨f1, f2⟩ := fx_least e11
  exact ⟨f1, Or.inr f2⟩
theorem fm_dealt {m : Mem} {n s i : Int32} {q : Int32 × Mem} (e : s_X7_dealt m n s i = some q) : q.2 = m ∨ ∃ m7, s_X7_read m = some m7 ∧ (q.2 = m7 ∨ ((∀ a, SFD a → q.2 a = m7 a) ∧ ∀ i, i < 5 → q.2 39 i = -4)) := by
  unfold s_X7_dealt at e
  obtain ⟨r2, -, e⟩ := of_b e
  by_cases c1 : r2 = 0
  · rw [if_pos c1] at e
    rw [← Option.some.inj e]
    exact Or.inl rfl
  rw [if_neg c1] at e
  have e := of_ck e
  obtain ⟨r5, -, e⟩ := of_b e
  by_cases c2 : r5 = 0
  · rw [if_pos c2] at e
    rw [← Option.some.inj e]
    exact Or.inl rfl
  rw [if_neg c2] at e
  obtain ⟨m7, e7, e⟩ := of_b e
  refine Or.inr ⟨m7, e7, ?_⟩
  have e := of_ck e
  by_cases c3 : (m7 37 (Int32.toNatClampNeg (((10 : Int32) * s) + n))) = 0
  · rw [if_pos c3] at e
    rw [← Option.some.inj e]
    exact Or.inl rfl
  rw [if_neg c3] at e
  have e := of_ck e
  obtain ⟨r11, -, e⟩ := of_b e
  by_cases c4 : r11 = 0
  · rw [if_pos c4] at e
    rw [← Option.some.inj e]
    exact Or.inl rfl
  rw [if_neg c4] at e
  obtain ⟨m13, e13, e⟩ := of_b e
  obtain ⟨m34, e34, e⟩ := of_b e
  have e := of_ck e
  simp only [bn] at e
  obtain ⟨m38, e38, e⟩ := of_b e
  refine Or.inr ?_
  rw [← Option.some.inj e]
  show (∀ a, SFD a → m38 a = m7 a) ∧ ∀ i, i < 5 → m38 39 i = -4
  obtain ⟨u1, p1, -, p3⟩ := free_eq m7
  obtain ⟨u2, q1, q2, q3⟩ := free_eq m34
  have w1 : m13 = u1 := Option.some.inj (e13.symm.trans p1)
  have w2 : m38 = u2 := Option.some.inj (e38.symm.trans q1)
  have f := kf_l_X7_dealt_78_SFD _ e34
  refine ⟨fun a ha => ?_, fun i hi => by rw [w2]; exact q2 i hi⟩
  rw [w2, q3 a ha.1]
  have f2 : m34 a = m13 a := f a ha
  rw [f2, w1]
  exact p3 a ha.1
theorem KPM_t {x y z : Mem} (h : KPM x y) (g : KPM y z) : KPM x z := ⟨fun r r1 r2 => (g.1 r r1 r2).trans (h.1 r r1 r2), g.2.1.trans h.2.1, g.2.2.trans h.2.2⟩
theorem jc_dealt {mx mm : Mem} (h : JC mx mm) : Hc_dealt False JC mx mm := by
  obtain ⟨⟨⟨k, d, N, T, V, W, L, b, c, P, Z, g, hs, hL, x, y, t, l⟩, h9⟩, a63, hE⟩ := h
  obtain ⟨cx, cm⟩ := hE k d N T c P Z ⟨g, y.1, y.2.2.2.1⟩
  intro n s i
  obtain ⟨⟨r, mx2⟩, ex, jx⟩ := x_dealt g x n s i
  obtain ⟨⟨q, mm2⟩, ey, iy⟩ := m_dealt g y n s i
  have HX : A63 mx2 ∧ CX mx2 mm c k d Z P := by
    have F : mx2 = mx ∨ ∃ m6, s_X2_readFits mx = some m6 ∧ (∀ a, SFB a → mx2 a = m6 a) ∧ (mx2 42 = m6 42 ∨ ∀ i, i < 5 → mx2 42 i = 63) := fx_dealt ex
    rcases F with e | ⟨m6, e6, fs, f42⟩
    · rw [e]
      exact ⟨a63, cx⟩
    · obtain ⟨m2, e2, kx, e42, cr⟩ := x_readg (rc_of g x y l h9) a63 cx
      have em : m6 = m2 := Option.some.inj (e6.symm.trans e2)
      rw [em] at fs f42
      refine ⟨?_, CX_k ⟨by rw [fs 39 ⟨by decide, by decide⟩], by rw [fs 39 ⟨by decide, by decide⟩], fs 40 ⟨by decide, by decide⟩, fs 41 ⟨by decide, by decide⟩⟩ KPM_r (Or.inr cr)⟩
      rcases f42 with f | f
      · exact A63_of (A63_of a63 e42) f
      · exact f
  have HM : KPM mm mm2 ∧ CM mm2 c k d Z P := by
    have F : mm2 = mm ∨ ∃ m7, s_X7_read mm = some m7 ∧ (mm2 = m7 ∨ ((∀ a, SFD a → mm2 a = m7 a) ∧ ∀ i, i < 5 → mm2 39 i = -4)) := fm_dealt ey
    rcases F with e | ⟨m7, e7, F⟩
    · rw [e]
      exact ⟨KPM_r, cm⟩
    · obtain ⟨m4, e4, i4, f4, g4, s4, t4⟩ := m_readg g y cm
      have em : m7 = m4 := Option.some.inj (e7.symm.trans e4)
      rw [em] at F
      have k4 := rdf_KPM f4
      rcases F with e | ⟨fs, ft⟩
      · rw [e]
        have ej : Jr m4 P 6 = Jr mm P 6 := Jr_e (k4.1 10 (by decide) (by decide)) (k4.1 11 (by decide) (by decide)) 6
        exact ⟨k4, Or.inr ⟨by rw [ej]; exact g4, s4, t4⟩⟩
      · have sd : ∀ a, a ≠ 39 → a ≠ 40 → mm2 a = m4 a := fun a a1 a2 => fs a ⟨a1, a2⟩
        have k5 : KPM m4 mm2 := ⟨fun r r1 r2 => sd r (by omega) (by omega), by rw [sd 0 (by decide) (by decide)], by rw [sd 0 (by decide) (by decide)]⟩
        have kt := KPM_t k4 k5
        have en : nrm mm2 P = nrm m4 P := by
          funext r
          by_cases q1 : r = 37
          · rw [nrm_3 (Or.inl q1), nrm_3 (Or.inl q1), q1, sd 37 (by decide) (by decide)]
          · by_cases q2 : r = 38
            · rw [nrm_3 (Or.inr q2), nrm_3 (Or.inr q2), q2, sd 38 (by decide) (by decide)]
            · exact nrm_e k5.1 k5.2.1 k5.2.2 r q1 q2
        have ej : Jr mm2 P 6 = Jr mm P 6 := Jr_e (kt.1 10 (by decide) (by decide)) (kt.1 11 (by decide) (by decide)) 6
        exact ⟨kt, Or.inr ⟨by rw [ej, en]; exact g4, by rw [en]; exact s4, ft⟩⟩
  exact ⟨_, _, _, _, ex, ey, fun f => f.elim, ⟨JK_f x t l (jf_SX jx) (kf_s_X7_dealt_SM _ ey) g hs hL (IX_j x jx) iy, (kg_s_X6_dealt_SX _ ex).trans h9⟩, HX.1, EX_of ⟨g, iy.1, iy.2.2.2.1⟩ (CX_k KPX_r HM.1 HX.2) HM.2⟩
