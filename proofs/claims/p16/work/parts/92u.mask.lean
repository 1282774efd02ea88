/-! one mask, on both sides -/
def FMX (mx m : Mem) (n : Nat) : Prop := (∀ q, q ≠ 39 → q ≠ 40 → q ≠ 41 → q ≠ 43 → m q = mx q) ∧ (∀ j, j ≠ 4 → j ≠ 5 → j ≠ 8 → j ≠ 9 → m 39 j = mx 39 j) ∧ m 39 8 = nI n
theorem RCQ_x {mx mm m2 : Mem} {k b c : Nat} {dx Nx Tx d N T P Z w : Nat → Nat} {V W : Nat → Int32} (R : RCQ mx mm k dx Nx Tx d N T V W b c P Z w) (h : XJ mx m2) : RCQ m2 mm k dx Nx Tx d N T V W b c P Z w := by
  obtain ⟨g, x, xv, hb, hj, y, yv, sh, lb, bk, lv, ac, ⟨gx, pr⟩, jv⟩ := R
  have hb2 := isb_e hb
  have h' : ∀ q, q < 40 → m2 q = mx q := fun q hq => h q (by omega) (by omega) (by omega)
  refine ⟨g, ?_, ?_, hb, by rw [h' 39 (by decide)]; exact hj, y, yv, sh, LB_f hb lb (fun a a1 a2 => h' a (by omega)) (fun _ _ _ => rfl), BK_c bk (h' (b + 7) (by omega)) (h' (b + 8) (by omega)) (fun _ _ _ => rfl), fun s hs => by rw [h' (b + 6) (by omega)]; exact lv s hs, ac, ⟨gx, fun n hn => ⟨?_, (pr n hn).2⟩⟩, JV_j jv ⟨fun a _ a2 a3 _ a5 => h a a2 a3 a5, fun j _ _ _ _ => by rw [h' 39 (by decide)]⟩⟩
  · unfold GX at *
    rw [h' 1 (by decide), h' 4 (by decide), h' 5 (by decide), h' 6 (by decide)]; exact x
  · unfold GV at *
    rw [h' 2 (by decide), h' 3 (by decide)]; exact xv
  · have := (pr n hn).1
    unfold s_X2_presentEdges at *
    rw [h' 39 (by decide), h' 4 (by decide)]
    exact this
theorem RGQ_of {mx mm : Mem} {k b c : Nat} {dx Nx Tx d N T P Z w : Nat → Nat} {V W : Nat → Int32} (R : RCQ mx mm k dx Nx Tx d N T V W b c P Z w) (a63 : A63 mx) (h39 : ∀ i, i < 5 → mm 39 i = -4) : RGQ mx mm k d N T b c P Z := by
  have R0 := R
  obtain ⟨g, x, xv, hb, hj, y, yv, sh, lb, bk, lv, ac, pr, jv⟩ := R
  exact ⟨g, ⟨x.1, trivial⟩, trivial, hb, hj, trivial, trivial, sh, ⟨lb.1, trivial⟩, trivial, trivial, trivial, trivial, fun m2 hx s n hs hn => suits_Q (sv := 0) (RCQ_x R0 hx) hs hn (Or.inl ⟨rfl, rfl⟩) (A63_of a63 (hx 42 (by decide) (by decide) (by decide))) h39⟩
theorem mask_step {mx mm m a : Mem} {k L b c n s w : Nat} {d N T P Z : Nat → Nat} {V W : Nat → Int32} (R : RC mx mm k d N T V W b c P Z) (h : IM mm k d N T V W L c P Z) (a63 : A63 mx) (hn : n < k) (hs : s < c) (hv : w < 2 ^ d n) (hm : FMX mx m n) (hw : WFr mm n a) (hk : KP mm n (d n) a) : ∃ m20 m42 m45, s_X2_readFits (sto (sto (sto m 39 9 (nI w)) 39 4 0) 39 5 0) = some m20 ∧ FMX mx m20 n ∧ l_X7_without_128 (nI n) (nI (d n)) (nI w) FU 0 (sto a 3 n 0) = some m42 ∧ s_X7_read (sto m42 0 6 0) = some m45 ∧ WFr mm n m45 ∧ KP mm n (d n) m45 ∧ (bt (m20 40 s) n = true ↔ ¬ m45 37 (10 * s + n) = 0) ∧ m45 0 53 = a 0 53 ∧ m45 0 54 = a 0 54 := by
  obtain ⟨g, x, xv, hb, hj, y, yv, sh, lb, bk, lv, ac, h39, jv⟩ := R
  have hb2 := isb_e hb
  have hc6 := sh.2.1
  have h10 := g.1
  have d5 := (g.2 n hn).1
  obtain ⟨m42, e42, k1, k2, k3, k4, k5⟩ := cut_loop g h hn hv hw hk
  have k1' := WFr_0 (j := 6) (x := 0) k1 (Or.inl rfl)
  have k2' := KP_0 (c := 0) (j := 6) (x := 0) k2 (by decide) (by decide)
  have k3' : (sto m42 0 6 0) 3 n = nI (dm (d n) w) := by rw [rd_o (by decide)]; exact k3
  have k4' : ∀ i, i < d n → w.testBit i = false → (sto m42 0 6 0) 4 (n * 5 + dm i w) = mm 4 (n * 5 + i) ∧ (sto m42 0 6 0) 5 (n * 5 + dm i w) = mm 5 (n * 5 + i) := fun i hi hb => by rw [rd_o (by decide), rd_o (by decide)]; exact k4 i hi hb
  have e06 : (sto m42 0 6 0) 0 6 = 0 := rd_s
  have e53 : (sto m42 0 6 0) 0 53 = a 0 53 := by rw [rd_j (by decide), k5 0 (by decide) (by decide) (by decide)]
  have e54 : (sto m42 0 6 0) 0 54 = a 0 54 := by rw [rd_j (by decide), k5 0 (by decide) (by decide) (by decide)]
  generalize e43 : sto m42 0 6 0 = m43 at k1' k2' k3' k4' e06 e53 e54
  have i43 := IM_cut g h hn hv k1' k3' k4' e06
  have g' := GG_cut g hn hv
  obtain ⟨m45, e45, i45, f4, g4, -, -⟩ := m_readg g' i43 (Or.inl e06)
  obtain ⟨w1, w2, w3, w4, w5⟩ := k1'
  have x18 : ∀ q, q ≠ 39 → q ≠ 40 → q ≠ 41 → q ≠ 43 → (sto (sto (sto m 39 9 (nI w)) 39 4 0) 39 5 0) q = mx q := fun q q1 q2 q3 q4 => by rw [rd_o q1, rd_o q1, rd_o q1]; exact hm.1 q q1 q2 q3 q4
  have x39 : ∀ j, j ≠ 4 → j ≠ 5 → j ≠ 8 → j ≠ 9 → (sto (sto (sto m 39 9 (nI w)) 39 4 0) 39 5 0) 39 j = mx 39 j := fun j j1 j2 j3 j4 => by rw [rd_j j2, rd_j j1, rd_j j4]; exact hm.2.1 j j1 j2 j3 j4
  have x398 : (sto (sto (sto m 39 9 (nI w)) 39 4 0) 39 5 0) 39 8 = nI n := by rw [rd_j (by decide), rd_j (by decide), rd_j (by decide)]; exact hm.2.2
  have x399 : (sto (sto (sto m 39 9 (nI w)) 39 4 0) 39 5 0) 39 9 = nI w := by rw [rd_j (by decide), rd_j (by decide), rd_s]
  have x394 : (sto (sto (sto m 39 9 (nI w)) 39 4 0) 39 5 0) 39 4 = 0 := by rw [rd_j (by decide), rd_s]
  generalize sto (sto (sto m 39 9 (nI w)) 39 4 0) 39 5 0 = m18 at x18 x39 x398 x399 x394 ⊢
  have ey : ∀ q, 6 ≤ q → q ≤ 18 → nrm m43 P q = mm q := fun q q1 q2 => by rw [nrm_a (by omega)]; exact w1 q (by omega) (by omega) (by omega) (by omega) (by omega)
  obtain ⟨l1, l2, l3⟩ := LC_f (mx2 := m18) (mm2 := nrm m43 P) hb ⟨lb, bk, lv⟩ (fun q q1 q2 => x18 q (by omega) (by omega) (by omega) (by omega)) ey
  have RQ1 : RCQ m18 (nrm m43 P) k d N T (up d n (dm (d n) w)) (cutN d N n w) (cutN d T n w) V W b c P Z (wf n w) := by
    refine ⟨g', ?_, ?_, hb, by rw [x39 1 (by decide) (by decide) (by decide) (by decide)]; exact hj, GM_n i43.1, by rw [nrm_a (by omega), nrm_a (by omega)]; exact i43.2.1, SH_n i43.2.2.2.1, l1, l2, l3, AC_n i43.2.2.2.2.1, ⟨g, fun z hz => ⟨?_, CMP_cut g hn hv hz⟩⟩, JV_j jv ⟨fun q q1 q2 q3 _ q5 => x18 q q1 q2 q3 q5, fun j j1 j2 j3 j4 => x39 j j1 j2 j3 j4⟩⟩
    · unfold GX at *
      rw [x18 1 (by decide) (by decide) (by decide) (by decide), x18 4 (by decide) (by decide) (by decide) (by decide), x18 5 (by decide) (by decide) (by decide) (by decide), x18 6 (by decide) (by decide) (by decide) (by decide)]; exact x
    · unfold GV at *
      rw [x18 2 (by decide) (by decide) (by decide) (by decide), x18 3 (by decide) (by decide) (by decide) (by decide)]; exact xv
    · have z5 := (g.2 z hz).1
      unfold s_X2_presentEdges
      rw [ck_p (zin_nI (by omega) (by decide)), ix_nI (n := z) (by omega), x18 4 (by decide) (by decide) (by decide) (by decide), (x.2 z hz).1, shl_5 z5, sub1_nI (Nat.pow_pos (by decide)), x398, x399]
      simp only [bn]
      unfold wf
      by_cases q : z = n
      · rw [if_pos q, if_pos (by rw [q]), q, (ex_a (d n) (by omega) w hv).2.2.1]
      · rw [if_neg q, if_neg (fun e => q ((nI_eq (by omega) (by omega)).mp e)), Nat.sub_zero]
  have ej : Jr m43 P 6 = Jr mm P 6 := Jr_e (w1 10 (by decide) (by decide) (by decide) (by decide) (by decide)) (w1 11 (by decide) (by decide) (by decide) (by decide) (by decide)) 6
  have a18 : A63 m18 := A63_of a63 (x18 42 (by decide) (by decide) (by decide) (by decide))
  obtain ⟨m20, e20, o1, o2, o3, o4, o5⟩ := x_readFitsQ (m0 := nrm m43 P) (RX_n g' i43.1 i43.2.2.2.1 i43.2.2.2.2.1) (fun n hn => EK_of g' (GM_n i43.1) hn) (RGQ_of RQ1 a18 (fun _ _ => rfl)) (fun s hs => Jr_5 (SH_RF i43.2.2.2.1) i43.2.2.2.2.1 hs) (fun s hs => by rw [x18 (b + 6) (by omega) (by omega) (by omega) (by omega), ej]; exact lv s hs) x394
  rw [img_nrm] at o4
  refine ⟨m20, m42, m45, e20, ⟨fun q q1 q2 q3 q4 => by rw [o1 q q1 q2 q4]; exact x18 q q1 q2 q3 q4, fun j j1 j2 j3 j4 => by rw [o2 j j1]; exact x39 j j1 j2 j3 j4, by rw [o2 8 (by decide)]; exact x398⟩, e42, by rw [e43]; exact e45, ⟨fun q q0 q3 q4 q5 q6 => ?_, fun j j6 j53 j54 => ?_, fun z hz => ?_, fun z i hz hi => ?_, i45.2.2.2.2.2.1⟩, ?_, ag_fits hc6 h10 f4 o4 g4 s n hs hn, ?_, ?_⟩
  · rw [f4.1 q q0 (by omega) (by omega) (by omega) (by omega) (by omega)]; exact w1 q q0 q3 q4 q5 q6
  · rw [f4.2 j j6]; exact w2 j j6 j53 j54
  · rw [f4.1 3 (by decide) (by decide) (by decide) (by decide) (by decide) (by decide)]; exact w3 z hz
  · rw [f4.1 4 (by decide) (by decide) (by decide) (by decide) (by decide) (by decide), f4.1 5 (by decide) (by decide) (by decide) (by decide) (by decide) (by decide)]; exact w4 z i hz hi
  · unfold KP
    rw [f4.1 42 (by decide) (by decide) (by decide) (by decide) (by decide) (by decide), f4.1 43 (by decide) (by decide) (by decide) (by decide) (by decide) (by decide)]
    exact k2'
  · rw [f4.2 53 (by decide)]; exact e53
  · rw [f4.2 54 (by decide)]; exact e54
