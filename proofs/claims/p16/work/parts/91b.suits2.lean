/-! whether a node suits a shape: both alike -/
theorem RC_43 {mx mm m2 : Mem} {k b c : Nat} {d N T P Z : Nat → Nat} {V W : Nat → Int32} (R : RC mx mm k d N T V W b c P Z) (h : ∀ a, a ≠ 43 → m2 a = mx a) : RC m2 mm k d N T V W b c P Z := by
  obtain ⟨g, x, xv, hb, hj, y, yv, sh, lb, bk, lv, ac, h39, jv⟩ := R
  have hb2 := isb_e hb
  refine ⟨g, ?_, ?_, hb, by rw [h 39 (by decide)]; exact hj, y, yv, sh, LB_f hb lb (fun a a1 a2 => h a (by omega)) (fun _ _ _ => rfl), BK_c bk (h (b + 7) (by omega)) (h (b + 8) (by omega)) (fun _ _ _ => rfl), fun s hs => by rw [h (b + 6) (by omega)]; exact lv s hs, ac, by rw [h 39 (by decide)]; exact h39, JV_j jv ⟨fun a _ _ _ _ a5 => h a a5, fun j _ _ _ _ => by rw [h 39 (by decide)]⟩⟩
  · unfold GX at *
    rw [h 1 (by decide), h 4 (by decide), h 5 (by decide), h 6 (by decide)]; exact x
  · unfold GV at *
    rw [h 2 (by decide), h 3 (by decide)]; exact xv
theorem img_43 {mx mm m2 : Mem} (h : ∀ a, a ≠ 43 → m2 a = mx a) : img m2 mm = img mx mm := by
  unfold img
  rw [h 40 (by decide), h 41 (by decide)]
theorem mask_w : ∀ d, d ≤ 5 → ∀ w, w < 2 ^ d → nI w &&& nI (2 ^ d - 1) = nI w := by
  have h : ∀ d, d < 6 → ∀ w, w < 2 ^ d → nI w &&& nI (2 ^ d - 1) = nI w := by decide +kernel
  intro d hd w hw
  exact h d (by omega) w hw
theorem want_eq {mx mm : Mem} {k b c s n : Nat} {d N T P Z : Nat → Nat} {V W : Nat → Int32} (R : RC mx mm k d N T V W b c P Z) (hs : s < c) (hn : n < k) : s_X2_wantedEdges mx (nI n) (nI s) = some (nI (WS (img mx mm) s n)) := by
  have R0 := R
  obtain ⟨g, x, xv, hb, hj, y, yv, sh, lb, bk, lv, ac, h39, jv⟩ := R
  have k10 := g.1
  have hc6 := sh.2.1
  obtain ⟨d5, hN, -⟩ := g.2 n hn
  obtain ⟨x4, xe⟩ := x.2 n hn
  obtain ⟨y3, ye⟩ := y.2 n hn
  obtain ⟨-, -, -, g7, -⟩ := lb.2.1 s hs
  have zn : zin (nI n) 10 = true := zin_nI (by omega) (by decide)
  have zs : zin (nI s) 6 = true := zin_nI (by omega) (by decide)
  have w0 : WS (img mx mm) s n = WS mm s n := WS_r (fun a a1 a2 _ _ => img_o a1 a2)
  obtain ⟨-, w1, w2, w3⟩ := WS_eq sh hs (EG_of g y hn)
  rw [w0]
  have p5 := two_5 d5
  have E : ∃ r, s_X2_wantedEdges mx (nI n) (nI s) = some r ∧ r = nI (WS mm s n) := by
    unfold s_X2_wantedEdges l_X2_wantedEdges_5
    rw [pres_eq R0 hn]
    refine ex_b (Q := fun r => ∃ w, w < 2 ^ d n ∧ r = nI w ∧ ∀ i, i < d n → (w.testBit i = true ↔ IW mm s (P s) (mm 4 (n * 5 + i)))) ?_ (fun r hr => ?_)
    · refine forG (d n) (fun j (a : Int32 × Int32) => a.2 = nI j ∧ ∃ w, w < 2 ^ j ∧ a.1 = nI w ∧ ∀ i, i < j → (w.testBit i = true ↔ IW mm s (P s) (mm 4 (n * 5 + i)))) _ (fun j a hj2 ha => ?_) (fun a ha => ?_) FU 0 (0, 0) (Nat.zero_le _) ⟨rfl, 0, by decide, rfl, fun i hi => absurd hi (Nat.not_lt_zero i)⟩ (FU_lt (by omega))
      · obtain ⟨e2, w, hw, e1, hi⟩ := ha
        obtain ⟨hN10, hT⟩ := hN j hj2
        obtain ⟨x5, x6⟩ := xe j hj2
        obtain ⟨y4, y5⟩ := ye j hj2
        have pj := Nat.pow_lt_pow_right (a := 2) (by decide) (show j < j + 1 by omega)
        have pd : 2 ^ j ≤ 32 := two_5 (by omega)
        have iw : bt (mx (b + 4) s) (N (n * 5 + j)) = true ↔ IW mm s (P s) (mm 4 (n * 5 + j)) := by
          rw [y4, g7 _ hN10]
          exact Iff.rfl
        unfold t_X2_wantedEdges_5
        rw [e1, e2, ix_nI (n := n) (by omega), x4, m5, ix_nI (n := n * 5 + j) (by omega), x5, ix_nI (n := s) (by omega)]
        refine st_ck zn (st_if (fun z => absurd z (nI_ge hj2 (by omega))) (fun _ => st_k hb hj (st_ck zs (st_ck (zin_nI (by omega) (by decide)) (st_if (fun z => ?_) (fun z => ?_))))))
        · have q := (bit_0 (by omega)).mp z
          refine st_n (st_l ⟨nI_s1, w, by omega, rfl, fun i hij => ?_⟩)
          by_cases e : i = j
          · subst e
            rw [tb_lt hw (Nat.le_refl _)]
            exact ⟨fun z => absurd z (by decide), fun z => by rw [iw.mpr z] at q; cases q⟩
          · exact hi i (by omega)
        · have q : bt (mx (b + 4) s) (N (n * 5 + j)) = true := by
            cases q : bt (mx (b + 4) s) (N (n * 5 + j))
            · exact absurd ((bit_0 (by omega)).mpr q) z
            · rfl
          refine st_n (st_n (st_l ⟨nI_s1, w ||| 2 ^ j, Nat.or_lt_two_pow (by omega) pj, ?_, fun i hij => ?_⟩))
          · dsimp only
            rw [shl_5 (by omega), nx_or]
          · rw [Nat.testBit_or, Nat.testBit_two_pow]
            by_cases e : i = j
            · subst e
              simp only [decide_true, Bool.or_true]
              exact ⟨fun _ => iw.mp q, fun _ => trivial⟩
            · rw [decide_eq_false (fun z => e z.symm), Bool.or_false]
              exact hi i (by omega)
      · obtain ⟨e2, w, hw, e1, hi⟩ := ha
        unfold t_X2_wantedEdges_5
        rw [e2, ix_nI (n := n) (by omega), x4, ck_p zn]
        exact ⟨_, if_pos (nI_le (Nat.le_refl _) (by omega)), w, hw, e1, hi⟩
    · obtain ⟨w, hw, e, hi⟩ := hr
      rw [bind_s, e]
      refine ex_s ?_
      have ew : w = WS mm s n := by
        apply Nat.eq_of_testBit_eq
        intro i
        rcases Nat.lt_or_ge i (d n) with h | h
        · rw [Bool.eq_iff_iff, hi i h, w3 i h]
        · rw [tb_lt hw h, tb_lt w1 h]
      rw [ew]
      exact mask_w (d n) d5 _ w1
  obtain ⟨r, h1, h2⟩ := E
  rw [h1, h2]
theorem taken_43 {m m2 : Mem} {b tr : Nat} {sv x y : Int32} (hb : isb b) (hj : m 39 1 = nI b) (htr : (tr = 40 ∧ sv = 0) ∨ (tr = 41 ∧ sv = 1)) (h : ∀ a, a ≠ 43 → m2 a = m a) : s_X2_setsTaken m2 x y tr = s_X2_setsTaken m x y tr := by
  have hb2 := isb_e hb
  have Z1 : ∀ {α : Type} (k : Nat → Option α), zbk (m 39 1) k = k b := fun k => zbk_i hb hj
  have ht : m2 tr = m tr := h tr (by omega)
  have hp : ∀ u v, s_X2_passes m2 u v tr = s_X2_passes m u v tr := fun u v => by
    unfold s_X2_passes
    rw [h 39 (by decide)]
    simp only [Z1]
    rw [h (b + 10) (by omega), h (b + 11) (by omega), h (b + 12) (by omega), ht, h 40 (by decide), h 2 (by decide), h 3 (by decide)]
  have hl : ∀ r2 x3 i4 i5, t_X2_setsTaken_21 m2 x y tr r2 x3 i4 i5 = t_X2_setsTaken_21 m x y tr r2 x3 i4 i5 := fun r2 x3 i4 i5 => by
    unfold t_X2_setsTaken_21
    rw [h 39 (by decide)]
    simp only [Z1, hp]
    rw [h 4 (by decide), h 5 (by decide), h 6 (by decide), h 42 (by decide), h (b + 9) (by omega)]
  unfold s_X2_setsTaken l_X2_setsTaken_21 s_X2_presentEdges
  simp only [hl]
  rw [h 39 (by decide), h 4 (by decide)]
/-- the whole row, of all parts told -/
theorem sets_row {mx mm : Mem} {k b c s n tr : Nat} {d N T P Z : Nat → Nat} {V W : Nat → Int32} {sv : Int32} (R : RC mx mm k d N T V W b c P Z) (hs : s < c) (hn : n < k) (htr : (tr = 40 ∧ sv = 0) ∨ (tr = 41 ∧ sv = 1)) (al : ALW mx mm s (P s)) : ∃ r, s_X2_setsDealt mx (nI n) (nI s) tr = some r ∧ r.1 = DV (img mx mm) s n sv (d n) (Z s) ∧ ∀ a, a ≠ 43 → r.2 a = mx a := by
  have R0 := R
  obtain ⟨g, x, xv, hb, hj, y, yv, sh, lb, bk, lv, ac, h39, jv⟩ := R
  have hc6 := sh.2.1
  obtain ⟨⟨hP6, -, hR⟩, hZ, e13, hK⟩ := sh.2.2 s hs
  obtain ⟨S, fs, b1, b2, b3, b4⟩ := bk
  obtain ⟨f1, f2, z, ez, hz, hF⟩ := b4 s hs
  have zz : z = Z s := (nI_eq (by omega) (by omega)).mp (ez.symm.trans e13)
  subst zz
  have tot : ∀ (m2 : Mem) (p : Nat), (∀ a, a ≠ 43 → m2 a = mx a) → p < 6 → s_X2_setsTaken m2 (nI n) (nI (s * 6 + p)) tr = some ((s_X2_setsTaken mx (nI n) (nI (s * 6 + p)) tr).getD 0) := fun m2 p h hp => by
    have J2 := (RC_43 R0 h).2.2.2.2.2.2.2.2.2.2.2.2.2
    obtain ⟨r1, e1, -⟩ := X_taken (tr := tr) jv hn (show s * 6 + p < 36 by omega)
    have same : s_X2_setsTaken m2 (nI n) (nI (s * 6 + p)) tr = s_X2_setsTaken mx (nI n) (nI (s * 6 + p)) tr := taken_43 hb hj htr h
    rw [same, e1]
    rfl
  obtain ⟨r, e, r1, r2⟩ := sets_run (F := fun p => (s_X2_setsTaken mx (nI n) (nI (s * 6 + p)) tr).getD 0) (S := S) (f := fs s) (q := fs (s + 1)) hb hj (show s < 6 by omega) ⟨b1 s (by omega), b1 (s + 1) (by omega), f1, by omega, fun i i1 i2 => b2 i (by omega)⟩ (fun m2 p h hp _ => tot m2 p h hp) (hF _).1
  refine ⟨r, e, ?_, r2⟩
  have K2 : ∀ j, j < Z s → KD (img mx mm) s (P s) j := fun j hj => KD_at (fun a a1 a2 => by rw [img_o (by omega) (by omega)]) (hK j hj)
  rw [r1, ← (hF _).2, DV_rr (show s < 6 by omega) hP6 K2]
  have e0 : din (img mx mm) s = din mm s := by
    funext jj
    show (if img mx mm 14 _ = 1 then _ else _) = (if mm 14 _ = 1 then _ else _)
    rw [img_o (by decide) (by decide)]
  rw [e0]
  unfold rr
  rw [Nat.sub_zero]
  have e1 : ∀ F a, rrn F (img mx mm) s 0 (Z s) a = rrn F mm s 0 (Z s) a := fun F a => rrn_c _ (fun x j x1 x2 _ _ => by rw [img_o (by omega) (by omega)]) a
  rw [e1, rr_F (F := fun p => (s_X2_setsTaken mx (nI n) (nI (s * 6 + p)) tr).getD 0) (F2 := fun i => lfV (img mx mm) (6 * s + i) n sv 0 (d n)) (show s < 6 by omega) hP6 (fun i hi => by rw [taken_row R0 hs hn hi htr al]; rfl) (Z s) _ hK]
theorem suits_eq {mx mm : Mem} {k b c s n tr : Nat} {d N T P Z : Nat → Nat} {V W : Nat → Int32} {sv : Int32} (R : RC mx mm k d N T V W b c P Z) (hs : s < c) (hn : n < k) (htr : (tr = 40 ∧ sv = 0) ∨ (tr = 41 ∧ sv = 1)) (al : ALW mx mm s (P s)) : ∃ q, s_X2_suits mx (nI n) (nI s) tr = some q ∧ (q.1 = 0 ∨ q.1 = 1) ∧ (¬ q.1 = 0 ↔ canP (img mx mm) s n (d n) (Z s) sv) ∧ ∀ a, a ≠ 43 → q.2 a = mx a := by
  have R0 := R
  obtain ⟨g, x, xv, hb, hj, y, yv, sh, lb, bk, lv, ac, h39, jv⟩ := R
  have hc6 := sh.2.1
  obtain ⟨-, -, g3, -, -⟩ := lb.2.1 s hs
  obtain ⟨d5, -, -⟩ := g.2 n hn
  have zs : zin (nI s) 6 = true := zin_nI (by omega) (by decide)
  have w0 : WS (img mx mm) s n = WS mm s n := WS_r (fun a a1 a2 _ _ => img_o a1 a2)
  obtain ⟨-, w1, w2, w3⟩ := WS_eq sh hs (EG_of g y hn)
  have i7 : img mx mm 7 s = mx (b + 3) s := by rw [img_o (by decide) (by decide), g3]
  have pp : 0 < 2 ^ d n := Nat.pow_pos (by decide)
  have p5 := two_5 d5
  unfold s_X2_suits
  rw [want_eq R0 hs hn, bind_s, w0]
  refine ex_k hb hj (ex_ck zs ?_)
  rw [ix_nI (n := s) (by omega)]
  have fin : (img mx mm 7 s = 0 ∨ WS mm s n = 2 ^ d n - 1) → ∃ q : Int32 × Mem, (zb2 (s_X2_setsDealt mx (nI n) (nI s) tr) fun r6 m7 => (if ((zus r6 (nI (WS mm s n))) &&& 1) = 0 then (some (0, m7)) else (some (1, m7)))) = some q ∧ (q.1 = 0 ∨ q.1 = 1) ∧ (¬ q.1 = 0 ↔ canP (img mx mm) s n (d n) (Z s) sv) ∧ ∀ a, a ≠ 43 → q.2 a = mx a := fun hx => by
    refine ex_2 (sets_row R0 hs hn htr al) (fun r6 m7 h => ?_)
    obtain ⟨h1, h2⟩ := h
    dsimp only at h1 h2
    have cp : canP (img mx mm) s n (d n) (Z s) sv ↔ bt r6 (WS mm s n) = true := by
      unfold canP
      rw [w0, h1]
      exact ⟨fun z => z.2, fun z => ⟨hx, z⟩⟩
    refine ex_if (fun z => ex_s ⟨Or.inl rfl, ⟨fun q => absurd rfl q, fun q => ?_⟩, h2⟩) (fun z => ex_s ⟨Or.inr rfl, ⟨fun _ => ?_, fun _ => (show ¬ (1 : Int32) = 0 by decide)⟩, h2⟩)
    · have := (zus_1 w2).mp z
      rw [cp.mp q] at this
      cases this
    · refine cp.mpr ?_
      cases q : bt r6 (WS mm s n)
      · exact absurd ((zus_1 w2).mpr q) z
      · rfl
  refine ex_if (fun z => fin (Or.inl (i7.trans z))) (fun z => ?_)
  rw [pres_eq R0 hn, bind_s]
  refine ex_if (fun q => fin (Or.inr ?_)) (fun q => ex_s ⟨Or.inl rfl, ⟨fun w => absurd rfl w, fun w => ?_⟩, fun _ _ => rfl⟩)
  · exact (nI_eq (by omega) (by omega)).mp q
  · rcases w.1 with h | h
    · rw [i7] at h; exact absurd h z
    · rw [w0] at h; rw [h] at q; exact absurd rfl q
