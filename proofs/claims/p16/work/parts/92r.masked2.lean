/-! whether a node suits a shape, with edges of it left out: the whole -/
theorem RCQ_43 {mx mm m2 : Mem} {k b c : Nat} {dx Nx Tx d N T P Z w : Nat → Nat} {V W : Nat → Int32} (R : RCQ mx mm k dx Nx Tx d N T V W b c P Z w) (h : ∀ a, a ≠ 43 → m2 a = mx a) : RCQ m2 mm k dx Nx Tx d N T V W b c P Z w := by
  obtain ⟨g, x, xv, hb, hj, y, yv, sh, lb, bk, lv, ac, ⟨gx, pr⟩, jv⟩ := R
  have hb2 := isb_e hb
  refine ⟨g, ?_, ?_, hb, by rw [h 39 (by decide)]; exact hj, y, yv, sh, LB_f hb lb (fun a a1 a2 => h a (by omega)) (fun _ _ _ => rfl), BK_c bk (h (b + 7) (by omega)) (h (b + 8) (by omega)) (fun _ _ _ => rfl), fun s hs => by rw [h (b + 6) (by omega)]; exact lv s hs, ac, ⟨gx, fun n hn => ⟨?_, (pr n hn).2⟩⟩, JV_j jv ⟨fun a _ _ _ _ a5 => h a a5, fun j _ _ _ _ => by rw [h 39 (by decide)]⟩⟩
  · unfold GX at *
    rw [h 1 (by decide), h 4 (by decide), h 5 (by decide), h 6 (by decide)]; exact x
  · unfold GV at *
    rw [h 2 (by decide), h 3 (by decide)]; exact xv
  · have := (pr n hn).1
    unfold s_X2_presentEdges at *
    rw [h 39 (by decide), h 4 (by decide)]
    exact this
theorem want_Q {mx mm : Mem} {k b c s n : Nat} {dx Nx Tx d N T P Z w : Nat → Nat} {V W : Nat → Int32} (R : RCQ mx mm k dx Nx Tx d N T V W b c P Z w) (hs : s < c) (hn : n < k) : s_X2_wantedEdges mx (nI n) (nI s) = some (nI (exm (dx n) (w n) (WS (img mx mm) s n))) := by
  have R0 := R
  obtain ⟨g, x, xv, hb, hj, y, yv, sh, lb, bk, lv, ac, ⟨gx, pr⟩, jv⟩ := R
  obtain ⟨pe, hw, ed, eNT⟩ := pr n hn
  have k10 := g.1
  have hc6 := sh.2.1
  obtain ⟨d5, hN, -⟩ := gx.2 n hn
  obtain ⟨x4, xe⟩ := x.2 n hn
  obtain ⟨y3, ye⟩ := y.2 n hn
  obtain ⟨-, -, -, g7, -⟩ := lb.2.1 s hs
  have d6 : dx n < 6 := by omega
  have zn : zin (nI n) 10 = true := zin_nI (by omega) (by decide)
  have zs : zin (nI s) 6 = true := zin_nI (by omega) (by decide)
  have w0 : WS (img mx mm) s n = WS mm s n := WS_r (fun a a1 a2 _ _ => img_o a1 a2)
  obtain ⟨-, w1, w2, w3⟩ := WS_eq sh hs (EG_of g y hn)
  rw [ed] at w1
  rw [w0]
  have E : ∃ r, s_X2_wantedEdges mx (nI n) (nI s) = some r ∧ r = nI (exm (dx n) (w n) (WS mm s n)) := by
    unfold s_X2_wantedEdges l_X2_wantedEdges_5
    rw [pe]
    refine ex_b (Q := fun r => ∃ v, v < 2 ^ dx n ∧ r = nI v ∧ ∀ i, i < dx n → (v.testBit i = true ↔ IW mm s (P s) (nI (Nx (n * 5 + i))))) ?_ (fun r hr => ?_)
    · refine forG (dx n) (fun j (a : Int32 × Int32) => a.2 = nI j ∧ ∃ v, v < 2 ^ j ∧ a.1 = nI v ∧ ∀ i, i < j → (v.testBit i = true ↔ IW mm s (P s) (nI (Nx (n * 5 + i))))) _ (fun j a hj2 ha => ?_) (fun a ha => ?_) FU 0 (0, 0) (Nat.zero_le _) ⟨rfl, 0, by decide, rfl, fun i hi => absurd hi (Nat.not_lt_zero i)⟩ (FU_lt (by omega))
      · obtain ⟨e2, v, hv, e1, hi⟩ := ha
        obtain ⟨hN10, hT⟩ := hN j hj2
        obtain ⟨x5, x6⟩ := xe j hj2
        have pj := Nat.pow_lt_pow_right (a := 2) (by decide) (show j < j + 1 by omega)
        have pd : 2 ^ j ≤ 32 := two_5 (by omega)
        have iw : bt (mx (b + 4) s) (Nx (n * 5 + j)) = true ↔ IW mm s (P s) (nI (Nx (n * 5 + j))) := by
          rw [g7 _ hN10]
          exact Iff.rfl
        unfold t_X2_wantedEdges_5
        rw [e1, e2, ix_nI (n := n) (by omega), x4, m5, ix_nI (n := n * 5 + j) (by omega), x5, ix_nI (n := s) (by omega)]
        refine st_ck zn (st_if (fun z => absurd z (nI_ge hj2 (by omega))) (fun _ => st_k hb hj (st_ck zs (st_ck (zin_nI (by omega) (by decide)) (st_if (fun z => ?_) (fun z => ?_))))))
        · have q := (bit_0 (by omega)).mp z
          refine st_n (st_l ⟨nI_s1, v, by omega, rfl, fun i hij => ?_⟩)
          by_cases e : i = j
          · subst e
            rw [tb_lt hv (Nat.le_refl _)]
            exact ⟨fun z => absurd z (by decide), fun z => by rw [iw.mpr z] at q; cases q⟩
          · exact hi i (by omega)
        · have q : bt (mx (b + 4) s) (Nx (n * 5 + j)) = true := by
            cases q : bt (mx (b + 4) s) (Nx (n * 5 + j))
            · exact absurd ((bit_0 (by omega)).mpr q) z
            · rfl
          refine st_n (st_n (st_l ⟨nI_s1, v ||| 2 ^ j, Nat.or_lt_two_pow (by omega) pj, ?_, fun i hij => ?_⟩))
          · dsimp only
            rw [shl_5 (by omega), nx_or]
          · rw [Nat.testBit_or, Nat.testBit_two_pow]
            by_cases e : i = j
            · subst e
              simp only [decide_true, Bool.or_true]
              exact ⟨fun _ => iw.mp q, fun _ => trivial⟩
            · rw [decide_eq_false (fun z => e z.symm), Bool.or_false]
              exact hi i (by omega)
      · obtain ⟨e2, v, hv, e1, hi⟩ := ha
        unfold t_X2_wantedEdges_5
        rw [e2, ix_nI (n := n) (by omega), x4, ck_p zn]
        exact ⟨_, if_pos (nI_le (Nat.le_refl _) (by omega)), v, hv, e1, hi⟩
    · obtain ⟨v, hv, e, hi⟩ := hr
      rw [bind_s, e, nx_and]
      refine ex_s ?_
      refine congrArg nI (Nat.eq_of_testBit_eq (fun i => ?_))
      rcases Nat.lt_or_ge i (dx n) with h | h
      · rw [Nat.testBit_and, (pres_b (dx n) d6 (w n) hw i h).2, (ex_t (dx n) d6 (w n) hw i h).2 _ w1]
        cases q : (w n).testBit i with
        | true => rw [Bool.not_true, Bool.and_false, Bool.false_and]
        | false =>
          have hlt : dm i (w n) < d n := by rw [ed]; exact ((ex_t (dx n) d6 (w n) hw i h).1 q).2
          have q1 := (eNT i h q).1
          dsimp only at q1
          have u := w3 (dm i (w n)) hlt
          rw [(ye _ hlt).1, q1] at u
          rw [Bool.not_false, Bool.and_true, Bool.true_and, Bool.eq_iff_iff, hi i h, u]
      · rw [tb_lt (mask_lt (dx n) d6 (w n) hw v hv) h, tb_lt ((ex_a (dx n) d6 (w n) hw).2.2.2 _ w1) h]
  obtain ⟨r, h1, h2⟩ := E
  rw [h1, h2]
theorem sets_Q {mx mm : Mem} {k b c s n tr : Nat} {dx Nx Tx d N T P Z w : Nat → Nat} {V W : Nat → Int32} {sv : Int32} (R : RCQ mx mm k dx Nx Tx d N T V W b c P Z w) (hs : s < c) (hn : n < k) (htr : (tr = 40 ∧ sv = 0) ∨ (tr = 41 ∧ sv = 1)) (a63 : A63 mx) (h39 : ∀ i, i < 5 → mm 39 i = -4) : ∃ r, s_X2_setsDealt mx (nI n) (nI s) tr = some r ∧ RNB (dx n) (w n) r.1 (DV (img mx mm) s n sv (d n) (Z s)) ∧ ∀ a, a ≠ 43 → r.2 a = mx a := by
  have R0 := R
  obtain ⟨g, x, xv, hb, hj, y, yv, sh, lb, bk, lv, ac, ⟨gx, pr⟩, jv⟩ := R
  obtain ⟨pe, hw, ed, eNT⟩ := pr n hn
  have d6 : dx n < 6 := by have := (gx.2 n hn).1; omega
  have hc6 := sh.2.1
  obtain ⟨⟨hP6, -, hR⟩, hZ, e13, hK⟩ := sh.2.2 s hs
  obtain ⟨S, fs, b1, b2, b3, b4⟩ := bk
  obtain ⟨f1, f2, z, ez, hz, hF⟩ := b4 s hs
  have zz : z = Z s := (nI_eq (by omega) (by omega)).mp (ez.symm.trans e13)
  subst zz
  have tot : ∀ (m2 : Mem) (p : Nat), (∀ a, a ≠ 43 → m2 a = mx a) → p < 6 → s_X2_setsTaken m2 (nI n) (nI (s * 6 + p)) tr = some ((s_X2_setsTaken mx (nI n) (nI (s * 6 + p)) tr).getD 0) := fun m2 p h hp => by
    obtain ⟨r1, e1, -⟩ := X_taken (tr := tr) jv hn (show s * 6 + p < 36 by omega)
    have same : s_X2_setsTaken m2 (nI n) (nI (s * 6 + p)) tr = s_X2_setsTaken mx (nI n) (nI (s * 6 + p)) tr := taken_43 hb hj htr h
    rw [same, e1]
    rfl
  obtain ⟨r, e, r1, r2⟩ := sets_run (F := fun p => (s_X2_setsTaken mx (nI n) (nI (s * 6 + p)) tr).getD 0) (S := S) (f := fs s) (q := fs (s + 1)) hb hj (show s < 6 by omega) ⟨b1 s (by omega), b1 (s + 1) (by omega), f1, by omega, fun i i1 i2 => b2 i (by omega)⟩ (fun m2 p h hp _ => tot m2 p h hp) (hF _).1
  refine ⟨r, e, ?_, r2⟩
  have K2 : ∀ j, j < Z s → KD (img mx mm) s (P s) j := fun j hj => KD_at (fun a a1 a2 => by rw [img_o (by omega) (by omega)]) (hK j hj)
  rw [r1, ← (hF _).2, DV_rr (show s < 6 by omega) hP6 K2]
  have e0 : din (img mx mm) s = din mm s := by
    funext jj
    show (if img mx mm 14 _ = 1 then _ else _) = (if mm 14 _ = 1 then _ else _)
    rw [img_o (by decide) (by decide)]
  rw [e0]
  unfold rr
  rw [Nat.sub_zero]
  have e1 : ∀ F a, rrn F (img mx mm) s 0 (Z s) a = rrn F mm s 0 (Z s) a := fun F a => rrn_c _ (fun x j x1 x2 _ _ => by rw [img_o (by omega) (by omega)]) a
  rw [e1, rr_F (F := fun p => (s_X2_setsTaken mx (nI n) (nI (s * 6 + p)) tr).getD 0) (F2 := fun i => if i < P s then (s_X2_setsTaken mx (nI n) (nI (s * 6 + i)) tr).getD 0 else 0) (show s < 6 by omega) hP6 (fun i hi => (if_pos hi).symm) (Z s) _ hK, rr_F (F := fun i => lfV (img mx mm) (6 * s + i) n sv 0 (d n)) (F2 := fun i => if i < P s then lfV (img mx mm) (6 * s + i) n sv 0 (d n) else 0) (show s < 6 by omega) hP6 (fun i hi => (if_pos hi).symm) (Z s) _ hK]
  refine RNB_rrn d6 hw (fun i => ?_) (Z s) 1 1 (din mm s) (din mm s) (RNB_1 d6 hw) (fun i => ?_)
  · by_cases hi : i < P s
    · rw [if_pos hi, if_pos hi]
      obtain ⟨r3, e3, q3⟩ := taken_Q R0 hs hn hi htr a63 h39
      rw [e3]
      exact q3
    · rw [if_neg hi, if_neg hi]
      exact RNB_0
  · unfold din
    by_cases q : mm 14 (160 * s + i) = 1
    · rw [if_pos q]; exact RNB_1 d6 hw
    · rw [if_neg q]; exact RNB_0
theorem suits_Q {mx mm : Mem} {k b c s n tr : Nat} {dx Nx Tx d N T P Z w : Nat → Nat} {V W : Nat → Int32} {sv : Int32} (R : RCQ mx mm k dx Nx Tx d N T V W b c P Z w) (hs : s < c) (hn : n < k) (htr : (tr = 40 ∧ sv = 0) ∨ (tr = 41 ∧ sv = 1)) (a63 : A63 mx) (h39 : ∀ i, i < 5 → mm 39 i = -4) : ∃ q, s_X2_suits mx (nI n) (nI s) tr = some q ∧ (q.1 = 0 ∨ q.1 = 1) ∧ (¬ q.1 = 0 ↔ canP (img mx mm) s n (d n) (Z s) sv) ∧ ∀ a, a ≠ 43 → q.2 a = mx a := by
  have R0 := R
  obtain ⟨g, x, xv, hb, hj, y, yv, sh, lb, bk, lv, ac, ⟨gx, pr⟩, jv⟩ := R
  obtain ⟨pe, hw, ed, eNT⟩ := pr n hn
  have hc6 := sh.2.1
  obtain ⟨-, -, g3, -, -⟩ := lb.2.1 s hs
  have d6 : dx n < 6 := by have := (gx.2 n hn).1; omega
  have zs : zin (nI s) 6 = true := zin_nI (by omega) (by decide)
  have w0 : WS (img mx mm) s n = WS mm s n := WS_r (fun a a1 a2 _ _ => img_o a1 a2)
  obtain ⟨-, w1, w2, w3⟩ := WS_eq sh hs (EG_of g y hn)
  have w1D := w1
  rw [ed] at w1D
  have i7 : img mx mm 7 s = mx (b + 3) s := by rw [img_o (by decide) (by decide), g3]
  have x32 := ex_32 d6 hw w1D
  have pD := Nat.pow_pos (a := 2) (n := dm (dx n) (w n)) (by decide)
  have p5 : 2 ^ dx n ≤ 32 := two_5 (by omega)
  obtain ⟨-, xF, -, -⟩ := ex_a (dx n) d6 (w n) hw
  unfold s_X2_suits
  rw [want_Q R0 hs hn, bind_s, w0]
  refine ex_k hb hj (ex_ck zs ?_)
  rw [ix_nI (n := s) (by omega)]
  have fin : (img mx mm 7 s = 0 ∨ WS mm s n = 2 ^ d n - 1) → ∃ q : Int32 × Mem, (zb2 (s_X2_setsDealt mx (nI n) (nI s) tr) fun r6 m7 => (if ((zus r6 (nI (exm (dx n) (w n) (WS mm s n)))) &&& 1) = 0 then (some (0, m7)) else (some (1, m7)))) = some q ∧ (q.1 = 0 ∨ q.1 = 1) ∧ (¬ q.1 = 0 ↔ canP (img mx mm) s n (d n) (Z s) sv) ∧ ∀ a, a ≠ 43 → q.2 a = mx a := fun hx => by
    refine ex_2 (sets_Q R0 hs hn htr a63 h39) (fun r6 m7 h => ?_)
    obtain ⟨h1, h2⟩ := h
    dsimp only at h1 h2
    have cp : canP (img mx mm) s n (d n) (Z s) sv ↔ bt r6 (exm (dx n) (w n) (WS mm s n)) = true := by
      rw [RNB_bt d6 hw h1 w1D]
      unfold canP
      rw [w0]
      exact ⟨fun z => z.2, fun z => ⟨hx, z⟩⟩
    refine ex_if (fun z => ex_s ⟨Or.inl rfl, ⟨fun q => absurd rfl q, fun q => ?_⟩, h2⟩) (fun z => ex_s ⟨Or.inr rfl, ⟨fun _ => ?_, fun _ => (show ¬ (1 : Int32) = 0 by decide)⟩, h2⟩)
    · have := (zus_1 x32).mp z
      rw [cp.mp q] at this
      cases this
    · refine cp.mpr ?_
      cases q : bt r6 (exm (dx n) (w n) (WS mm s n))
      · exact absurd ((zus_1 x32).mpr q) z
      · rfl
  refine ex_if (fun z => fin (Or.inl (i7.trans z))) (fun z => ?_)
  rw [pe, bind_s]
  refine ex_if (fun q => fin (Or.inr ?_)) (fun q => ex_s ⟨Or.inl rfl, ⟨fun w => absurd rfl w, fun w => ?_⟩, fun _ _ => rfl⟩)
  · have q := (nI_eq (by omega) (by omega)).mp q
    rw [← xF] at q
    rw [ed]
    exact (ex_p d6 hw w1D (by omega)).2.2.2 q
  · rcases w.1 with h | h
    · rw [i7] at h; exact absurd h z
    · rw [w0, ed] at h
      rw [h, xF] at q
      exact absurd rfl q
