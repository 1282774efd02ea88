/-! dealt: the same answer -/
theorem rd_IW {mx mm m4 : Mem} (f4 : rdf mm m4) {s p : Nat} {z : Int32} : IW (img mx mm) s p z ↔ IW m4 s p z := by
  unfold IW
  rw [img_o (by decide) (by decide), f4.1 9 (by decide) (by decide) (by decide) (by decide) (by decide) (by decide)]
theorem nI_6s {s p : Nat} (h : s < 6) (hp : p < 6) : nI (6 * s + p) - (6 : Int32) * nI s = nI p := by
  rw [show (6 : Int32) = nI 6 from rfl, nI_mul, ← nI_add]
  rw [Int32.add_comm, Int32.add_sub_cancel]
theorem deal_val {mx mm : Mem} {k L b c n s i : Nat} {d N T P Z : Nat → Nat} {V W : Nat → Int32} (h9 : mx 39 9 = 0) (a63 : A63 mx) (g : GG k d N T) (x : IX mx k d N T V W L b) (y : IM mm k d N T V W L c P Z) (l : LC mx mm b c P) (cx : CX mx mm c k d Z P) (cm : CM mm c k d Z P) (hn : n < k) (hs : s < c) (hi : i < d n) : ∃ v, (∃ q, s_X6_dealt mx (nI n) (nI s) (nI i) = some q ∧ q.1 = v) ∧ ∃ q, s_X7_dealt mm (nI n) (nI s) (nI i) = some q ∧ q.1 = v := by
  have hp := x_pairc g x y l
  have hc6 := y.2.2.2.1.2.1
  have h10 := g.1
  have hd5 := (g.2 n hn).1
  have zn : zin (nI n) 10 = true := zin_nI (by omega) (by decide)
  have zs : zin (nI s) 6 = true := zin_nI (by omega) (by decide)
  have z60 : zin (nI (10 * s + n)) 60 = true := zin_nI (by omega) (by decide)
  have z50 : zin (nI (n * 5 + i)) 50 = true := zin_nI (by omega) (by decide)
  have hns : (0 ≤ (nI n).toInt ∧ (nI n).toInt < k) ∧ (0 ≤ (nI s).toInt ∧ (nI s).toInt < c) := by
    rw [nI_toInt (by omega), nI_toInt (by omega)]
    omega
  have hii : 0 ≤ (nI i).toInt ∧ (nI i).toInt < d n := by
    rw [nI_toInt (by omega)]
    omega
  have R := rc_of g x y l h9
  obtain ⟨m2, e2, kx, e42, cr⟩ := x_readg R a63 cx
  obtain ⟨m4, e4, i4, f4, g4, s4, t4⟩ := m_readg g y cm
  have R2 := RC_k R kx
  have RR := R2
  have R4 : RC m2 m4 k d N T V W b c P Z := RC_m R2 (rdf_KPM f4).1 (f4.2 0 (by decide)) (f4.2 7 (by decide))
  have ag := ag_fits hc6 h10 f4 cr.2.1 g4
  have hE := EG_of g y.1 hn
  have hE4 := EG_of g i4.1 hn
  have hS4 := i4.2.2.2.1
  obtain ⟨gx, xx, -⟩ := R
  have hX : s_X1_hasEdge mx (nI n) (nI i) = some (bb (0 ≤ (nI i).toInt ∧ (nI i).toInt < d n)) := X1_hasEdge_eq (xx.2 n hn).1 hd5 (by omega) (nI i)
  have hIn : s_X7_in (nI i).toInt64 0 (mm 3 n - 1).toInt64 = some (bb (0 ≤ (nI i).toInt ∧ (nI i).toInt < d n)) := by rw [hE.2.2.1, in_k (by omega)]
  by_cases w2 : m4 37 (10 * s + n) = 0
  · refine ⟨-2, ?_, ?_⟩
    · unfold s_X6_dealt
      rw [hp]
      simp only [bind_s, if_bb]
      rw [if_pos hns, hX]
      simp only [bind_s, if_bb]
      rw [if_pos hii, e2, bind_s, ck_p zs, ix_nI (n := s) (by omega), bit_v (by omega), if_neg (fun q => absurd w2 ((ag s n hs hn).mp q)), if_pos rfl]
      exact ⟨_, rfl, rfl⟩
    · unfold s_X7_dealt
      rw [m_both g y]
      simp only [bind_s, if_bb]
      rw [if_pos hns, ck_p zn, ix_nI (n := n) (by omega), hIn]
      simp only [bind_s, if_bb]
      rw [if_pos hii, e4, bind_s, p10, ck_p z60, ix_nI (n := 10 * s + n) (by omega), if_pos w2]
      exact ⟨_, rfl, rfl⟩
  · obtain ⟨-, ws2, ws3, ws4⟩ := WS_eq (m := img m2 mm) (RB_img ⟨g, y.1, y.2.2.2.1⟩ : RB (img m2 mm) k d N T c P Z).2.2 hs (EG_of g (RB_img ⟨g, y.1, y.2.2.2.1⟩ : RB (img m2 mm) k d N T c P Z).2.1 hn)
    have hwe := want_eq R2 hs hn
    have hw : ∀ j, j < d n → (bt (nI (WS (img m2 mm) s n)) j = true ↔ IW m4 s (P s) (m4 4 (n * 5 + j))) := fun j hj => by
      rw [bt_10 _ (by omega) j (by omega), ws4 j hj, rd_IW f4, img_o (by decide) (by decide), f4.1 4 (by decide) (by decide) (by decide) (by decide) (by decide) (by decide)]
    generalize WS (img m2 mm) s n = ws at hwe hw
    obtain ⟨r11, e11, v11⟩ := isWanted_eq (x := m4 4 (n * 5 + i)) hS4 hs
    by_cases w3 : IW m4 s (P s) (m4 4 (n * 5 + i))
    · obtain ⟨m13, e13, t13, f13⟩ := free_eq m4
      have hB4 := i4.2.2.2.2.2.1
      have hcan : canP m4 s n (d n) (Z s) 0 := by
        have := g4.2.1 s n hs hn (by rw [nrm_3 (Or.inl rfl)]; exact w2)
        exact (canP_n hd5 t4).mp this
      have hc13 : canP m13 s n (d n) (Z s) 0 := (canP_9 (fun a a1 _ => f13 a a1) (fun i hi => by rw [t13 i hi, t4 i hi]) hd5).mpr hcan
      have al : ALW m2 m13 s (P s) := fun p hp2 j hj => by
        have h6 := (hS4.2.2 s hs).1.1
        rw [A63_of a63 e42 j hj, b_63 p (by omega)]
        exact ⟨fun _ => Or.inl (t13 j hj), fun _ => rfl⟩
      obtain ⟨y2, mx3, a2, z1, z2, p, hpp, z3, z4⟩ := deal_lock R4 hs hn hB4 ag hi hw w3 (i + 1) 0 (-4) m2 m13 (by omega) ⟨fun _ _ _ => rfl, fun q q1 _ => f13 q q1, al⟩ (fun j _ hj => t13 j hj) hc13 (fun h => absurd h (Nat.not_lt_zero _)) FU FU (FU_lt (by omega)) (FU_lt (by omega))
      have hP6 := (hS4.2.2 s hs).1.1
      refine ⟨nI p, ?_, ?_⟩
      · obtain ⟨m22, e22, -⟩ := reset_42 mx3
        have eL : s_X2_leastPartOf m2 (nI n) (nI s) (nI i) = some (y2, m22) := by
          unfold s_X2_leastPartOf l_X2_leastPartOf_15
          rw [hwe, bind_s]
          have z1' : zlp FU (fun (q : Int32 × Int32 × Mem) => t_X2_leastPartOf_15 (nI n) (nI s) (nI i) (nI ws) q.1 q.2.1 q.2.2) (-4, 0, m2) = some (y2, mx3) := z1
          rw [z1', zb2_s, e22, bind_s]
        unfold s_X6_dealt
        rw [hp]
        simp only [bind_s, if_bb]
        rw [if_pos hns, hX]
        simp only [bind_s, if_bb]
        rw [if_pos hii, e2, bind_s, ck_p zs, ix_nI (n := s) (by omega), bit_v (by omega), if_pos ((ag s n hs hn).mpr w2), if_neg (show ¬ (1 : Int32) = 0 by decide), hwe, bind_s, bit_v (by omega), if_pos ((hw i hi).mpr w3), if_neg (show ¬ (1 : Int32) = 0 by decide), eL, zb2_s]
        exact ⟨_, rfl, z3⟩
      · obtain ⟨m38, e38, -⟩ := free_eq a2
        have eL : l_X7_dealt_78 (nI n) (nI s) (nI i) FU 0 m13 = some a2 := z2
        unfold s_X7_dealt
        rw [m_both g y]
        simp only [bind_s, if_bb]
        rw [if_pos hns, ck_p zn, ix_nI (n := n) (by omega), hIn]
        simp only [bind_s, if_bb]
        rw [if_pos hii, e4, bind_s, p10, ck_p z60, ix_nI (n := 10 * s + n) (by omega), if_neg w2, p5, ck_p z50, ix_nI (n := n * 5 + i) (by omega), e11, bind_s, if_neg (v11.mpr w3), e13, bind_s, eL, bind_s, ck_p (zin_nI (by omega) (by decide)), ix_nI (n := i) (by omega)]
        simp only [bn]
        rw [e38, bind_s]
        refine ⟨_, rfl, ?_⟩
        show a2 39 i - (6 : Int32) * nI s = nI p
        rw [z4, nI_6s (by omega) (by omega)]
    · refine ⟨-4, ?_, ?_⟩
      · unfold s_X6_dealt
        rw [hp]
        simp only [bind_s, if_bb]
        rw [if_pos hns, hX]
        simp only [bind_s, if_bb]
        rw [if_pos hii, e2, bind_s, ck_p zs, ix_nI (n := s) (by omega), bit_v (by omega), if_pos ((ag s n hs hn).mpr w2), if_neg (show ¬ (1 : Int32) = 0 by decide), hwe, bind_s, bit_v (by omega), if_neg (fun q => w3 ((hw i hi).mp q)), if_pos rfl]
        exact ⟨_, rfl, rfl⟩
      · have r0 : r11 = 0 := by
          by_cases q : r11 = 0
          · exact q
          · exact absurd (v11.mp q) w3
        unfold s_X7_dealt
        rw [m_both g y]
        simp only [bind_s, if_bb]
        rw [if_pos hns, ck_p zn, ix_nI (n := n) (by omega), hIn]
        simp only [bind_s, if_bb]
        rw [if_pos hii, e4, bind_s, p10, ck_p z60, ix_nI (n := 10 * s + n) (by omega), if_neg w2, p5, ck_p z50, ix_nI (n := n * 5 + i) (by omega), e11, bind_s, if_pos r0]
        exact ⟨_, rfl, rfl⟩
theorem jc_deals (cmp : Prop) {mx mm : Mem} (h : JC mx mm) : Hc_dealt cmp JC mx mm := by
  intro n s i
  obtain ⟨r, mx2, q, mm2, ex, ey, -, hj⟩ := jc_dealt h n s i
  refine ⟨r, mx2, q, mm2, ex, ey, fun _ => ?_, hj⟩
  obtain ⟨⟨⟨k, d, N, T, V, W, L, b, c, P, Z, g, hs, hL, x, y, t, l⟩, h9⟩, a63, hE⟩ := h
  obtain ⟨cx, cm⟩ := hE k d N T c P Z ⟨g, y.1, y.2.2.2.1⟩
  have hp := x_pairc g x y l
  have hc6 := y.2.2.2.1.2.1
  have h10 := g.1
  by_cases z : (0 ≤ n.toInt ∧ n.toInt < k) ∧ (0 ≤ s.toInt ∧ s.toInt < c)
  · obtain ⟨a, ha, rfl, ea⟩ := int_nI z.1.1
    obtain ⟨u, hu, rfl, eu⟩ := int_nI z.2.1
    have hak : a < k := by omega
    have huc : u < c := by omega
    have hd5 := (g.2 a hak).1
    by_cases zi : 0 ≤ i.toInt ∧ i.toInt < d a
    · obtain ⟨w, hw, rfl, ew⟩ := int_nI zi.1
      obtain ⟨v, ⟨q1, r1, v1⟩, q2, r2, v2⟩ := deal_val (n := a) (s := u) (i := w) h9 a63 g x y l cx cm hak huc (by omega)
      have w1 := Option.some.inj (ex.symm.trans r1)
      have w2 := Option.some.inj (ey.symm.trans r2)
      rw [← w1] at v1
      rw [← w2] at v2
      exact v1.trans v2.symm
    · have hE := EG_of g y.1 hak
      have v1 : s_X6_dealt mx (nI a) (nI u) i = some (-1, mx) := by
        unfold s_X6_dealt
        rw [hp]
        simp only [bind_s, if_bb]
        rw [if_pos z, X1_hasEdge_eq (x.1.2 a hak).1 hd5 (by omega) i]
        simp only [bind_s, if_bb]
        rw [if_neg zi]
      have v2 : s_X7_dealt mm (nI a) (nI u) i = some (-1, mm) := by
        unfold s_X7_dealt
        rw [m_both g y]
        simp only [bind_s, if_bb]
        rw [if_pos z, ck_p (zin_nI (by omega) (by decide)), ix_nI (n := a) (by omega), hE.2.2.1, in_k (by omega)]
        simp only [bind_s, if_bb]
        rw [if_neg zi]
      have w1 := (Prod.mk.inj (Option.some.inj (ex.symm.trans v1))).1
      have w2 := (Prod.mk.inj (Option.some.inj (ey.symm.trans v2))).1
      exact w1.trans w2.symm
  · have v1 : s_X6_dealt mx n s i = some (-1, mx) := by
      unfold s_X6_dealt
      rw [hp]
      simp only [bind_s, if_bb]
      rw [if_neg z]
    have v2 : s_X7_dealt mm n s i = some (-1, mm) := by
      unfold s_X7_dealt
      rw [m_both g y]
      simp only [bind_s, if_bb]
      rw [if_neg z]
    have w1 := (Prod.mk.inj (Option.some.inj (ex.symm.trans v1))).1
    have w2 := (Prod.mk.inj (Option.some.inj (ey.symm.trans v2))).1
    exact w1.trans w2.symm
