/-! the reference's reading without some edges -/
def WFr (m : Mem) (n : Nat) (a : Mem) : Prop := (∀ b, b ≠ 0 → b ≠ 3 → b ≠ 4 → b ≠ 5 → b < 37 → a b = m b) ∧ (∀ j, j ≠ 6 → j ≠ 53 → j ≠ 54 → a 0 j = m 0 j) ∧ (∀ x, x ≠ n → a 3 x = m 3 x) ∧ (∀ x i, x ≠ n → i < 5 → a 4 (x * 5 + i) = m 4 (x * 5 + i) ∧ a 5 (x * 5 + i) = m 5 (x * 5 + i)) ∧ BL a
def KP (m : Mem) (n had : Nat) (a : Mem) : Prop := ∀ i, i < had → a 42 i = m 4 (n * 5 + i) ∧ a 43 i = m 5 (n * 5 + i)
theorem WFr_0 {m a : Mem} {n j : Nat} {x : Int32} (h : WFr m n a) (hj : j = 6 ∨ j = 53 ∨ j = 54) : WFr m n (sto a 0 j x) := by
  obtain ⟨h1, h2, h3, h4, h5⟩ := h
  refine ⟨fun b b0 b3 b4 b5 b6 => by rw [rd_o b0]; exact h1 b b0 b3 b4 b5 b6, fun i i6 i53 i54 => by rw [rd_j (by omega)]; exact h2 i i6 i53 i54, fun x hx => by rw [rd_o (by decide)]; exact h3 x hx, fun x i hx hi => by rw [rd_o (by decide), rd_o (by decide)]; exact h4 x i hx hi, ?_⟩
  unfold BL at *
  rw [rd_o (by decide), rd_o (by decide)]
  exact h5
theorem KP_0 {m a : Mem} {n had c j : Nat} {x : Int32} (h : KP m n had a) (h2 : c ≠ 42) (h3 : c ≠ 43) : KP m n had (sto a c j x) := by
  unfold KP at *
  rw [rd_o (fun e => h2 e.symm), rd_o (fun e => h3 e.symm)]
  exact h
theorem WFr_3 {m a : Mem} {n : Nat} {x : Int32} (h : WFr m n a) : WFr m n (sto a 3 n x) := by
  obtain ⟨h1, h2, h3, h4, h5⟩ := h
  refine ⟨fun b b0 b3 b4 b5 b6 => by rw [rd_o b3]; exact h1 b b0 b3 b4 b5 b6, fun i i6 i53 i54 => by rw [rd_o (by decide)]; exact h2 i i6 i53 i54, fun x hx => by rw [rd_j hx]; exact h3 x hx, fun x i hx hi => by rw [rd_o (by decide), rd_o (by decide)]; exact h4 x i hx hi, ?_⟩
  unfold BL at *
  rw [rd_o (by decide), rd_o (by decide)]
  exact h5
theorem WFr_4 {m a : Mem} {n q : Nat} {x : Int32} (h : WFr m n a) (hq : q < 5) : WFr m n (sto a 4 (n * 5 + q) x) := by
  obtain ⟨h1, h2, h3, h4, h5⟩ := h
  refine ⟨fun b b0 b3 b4 b5 b6 => by rw [rd_o b4]; exact h1 b b0 b3 b4 b5 b6, fun i i6 i53 i54 => by rw [rd_o (by decide)]; exact h2 i i6 i53 i54, fun x hx => by rw [rd_o (by decide)]; exact h3 x hx, fun x i hx hi => by rw [rd_j (by omega), rd_o (by decide)]; exact h4 x i hx hi, ?_⟩
  unfold BL at *
  rw [rd_o (by decide), rd_o (by decide)]
  exact h5
theorem WFr_5 {m a : Mem} {n q : Nat} {x : Int32} (h : WFr m n a) (hq : q < 5) : WFr m n (sto a 5 (n * 5 + q) x) := by
  obtain ⟨h1, h2, h3, h4, h5⟩ := h
  refine ⟨fun b b0 b3 b4 b5 b6 => by rw [rd_o b5]; exact h1 b b0 b3 b4 b5 b6, fun i i6 i53 i54 => by rw [rd_o (by decide)]; exact h2 i i6 i53 i54, fun x hx => by rw [rd_o (by decide)]; exact h3 x hx, fun x i hx hi => by rw [rd_o (by decide), rd_j (by omega)]; exact h4 x i hx hi, ?_⟩
  unfold BL at *
  rw [rd_o (by decide), rd_o (by decide)]
  exact h5
theorem WFr_k {m a : Mem} {n c j : Nat} {x : Int32} (h : WFr m n a) (hc : c = 42 ∨ c = 43) : WFr m n (sto a c j x) := by
  obtain ⟨h1, h2, h3, h4, h5⟩ := h
  refine ⟨fun b b0 b3 b4 b5 b6 => by rw [rd_o (by omega)]; exact h1 b b0 b3 b4 b5 b6, fun i i6 i53 i54 => by rw [rd_o (by omega)]; exact h2 i i6 i53 i54, fun x hx => by rw [rd_o (by omega)]; exact h3 x hx, fun x i hx hi => by rw [rd_o (by omega), rd_o (by omega)]; exact h4 x i hx hi, ?_⟩
  unfold BL at *
  rw [rd_o (by omega), rd_o (by omega)]
  exact h5
theorem X7_bits_all (x : Int32) : ∃ r, s_X7_bits x = some r ∧ True := by
  unfold s_X7_bits l_X7_bits_4
  refine ex_b (Q := fun _ => True) ?_ (fun y _ => ex_s trivial)
  refine forG 5 (fun j (a : Int32 × Int32) => a.2 = nI j) _ (fun j a hj ha => ?_) (fun a ha => ?_) FU 0 (0, 0) (Nat.zero_le _) rfl (FU_lt (by omega))
  · unfold t_X7_bits_4
    rw [ha]
    exact st_if (fun _ => st_r trivial) (fun _ => st_n (st_n (st_l nI_s1)))
  · unfold t_X7_bits_4
    rw [ha]
    exact ⟨_, if_pos (by decide), trivial⟩
theorem without_in {m a : Mem} {k L c n s had : Nat} {d N T P Z : Nat → Nat} {V W : Nat → Int32} {st : Int32} (g : GG k d N T) (h : IM m k d N T V W L c P Z) (hn : n < k) (hh : had = d n) (hw : WFr m n a) (hk : KP m n had a) : ∃ m42, l_X7_without_128 (nI n) (nI had) st FU 0 (sto a 3 n 0) = some m42 ∧ ∃ m2, s_X7_read (sto m42 0 6 0) = some m2 ∧ WFr m n m2 ∧ KP m n had m2 := by
  have h10 := g.1
  have h5 := (g.2 n hn).1
  have hE := EG_of g h.1 hn
  subst hh
  have s30 : (sto a 3 n 0) 3 n = nI 0 := rd_s
  have A : ∃ m42, l_X7_without_128 (nI n) (nI (d n)) st FU 0 (sto a 3 n 0) = some m42 ∧ (WFr m n m42 ∧ KP m n (d n) m42 ∧ ∃ q, q ≤ d n ∧ m42 3 n = nI q ∧ ∀ r, r < q → ∃ t, t < 10 ∧ m42 5 (n * 5 + r) = nI t) := by
    unfold l_X7_without_128
    refine forG (d n) (fun i (b : Int32 × Mem) => b.1 = nI i ∧ WFr m n b.2 ∧ KP m n (d n) b.2 ∧ ∃ q, q ≤ i ∧ b.2 3 n = nI q ∧ ∀ r, r < q → ∃ t, t < 10 ∧ b.2 5 (n * 5 + r) = nI t) _ (fun i b hi hb => ?_) (fun b hb => ?_) FU 0 (0, sto a 3 n 0) (Nat.zero_le _) ⟨rfl, WFr_3 hw, KP_0 hk (by decide) (by decide), 0, Nat.le_refl _, s30, fun r hr => absurd hr (Nat.not_lt_zero r)⟩ (FU_lt (by omega))
    · obtain ⟨e1, hw2, hk2, q, hq, e3, ht⟩ := hb
      unfold t_X7_without_128
      rw [e1, ix_nI (n := n) (by omega), e3, ix_nI (n := i) (by omega), p5, ix_nI (n := n * 5 + q) (by omega)]
      refine st_if (fun z => absurd z (nI_ge hi (by omega))) (fun _ => st_if (fun _ => ?_) (fun _ => st_n (st_l ⟨nI_s1, hw2, hk2, q, by omega, e3, ht⟩)))
      have zn : zin (nI n) 10 = true := zin_nI (by omega) (by decide)
      have zi : zin (nI i) 5 = true := zin_nI (by omega) (by decide)
      have zq : zin (nI (n * 5 + q)) 50 = true := zin_nI (by omega) (by decide)
      refine st_ck zn (st_ck zi (st_ck zq (st_n ?_)))
      have r3 : (sto b.2 4 (n * 5 + q) (b.2 42 i)) 3 n = nI q := by rw [rd_o (by decide)]; exact e3
      rw [r3, p5, ix_nI (n := n * 5 + q) (by omega)]
      refine st_ck zn (st_ck zi (st_ck zq (st_n ?_)))
      have r4 : (sto (sto b.2 4 (n * 5 + q) (b.2 42 i)) 5 (n * 5 + q) (sto b.2 4 (n * 5 + q) (b.2 42 i) 43 i)) 3 n = nI q := by rw [rd_o (by decide)]; exact r3
      rw [r4, nI_s1]
      refine st_ck zn (st_ck zn (st_n (st_n (st_l ⟨nI_s1, WFr_3 (WFr_5 (WFr_4 hw2 (by omega)) (by omega)), KP_0 (KP_0 (KP_0 hk2 (by decide) (by decide)) (by decide) (by decide)) (by decide) (by decide), q + 1, by omega, by dsimp only; exact rd_s, fun r hr => ?_⟩))))
      dsimp only
      rw [rd_o (by decide)]
      by_cases e : r = q
      · subst e
        rw [rd_s, rd_o (by decide), (hk2 i hi).2]
        exact hE.2.2.2 i hi
      · rw [rd_j (by omega), rd_o (by decide)]
        exact ht r (by omega)
    · obtain ⟨e1, hw2, hk2, hq⟩ := hb
      unfold t_X7_without_128
      rw [e1]
      refine ⟨_, if_pos (nI_le (Nat.le_refl _) (by omega)), hw2, hk2, hq⟩
  obtain ⟨m42, e42, h42⟩ := A
  refine ⟨m42, e42, ?_⟩
  · obtain ⟨hw2, hk2, q, hq, e3, ht⟩ := h42
    have hw3 := WFr_0 (j := 6) (x := 0) hw2 (Or.inl rfl)
    have hk3 := KP_0 (c := 0) (j := 6) (x := 0) hk2 (by decide) (by decide)
    obtain ⟨w1, w2, w3, w4, w5⟩ := id hw3
    have e33 : (sto m42 0 6 0) 3 n = nI q := by rw [rd_o (by decide)]; exact e3
    have e55 : ∀ r, r < q → ∃ t, t < 10 ∧ (sto m42 0 6 0) 5 (n * 5 + r) = nI t := fun r hr => by rw [rd_o (by decide)]; exact ht r hr
    have e06 : (sto m42 0 6 0) 0 6 = 0 := rd_s
    generalize sto m42 0 6 0 = m43 at hw3 hk3 w1 w2 w3 w4 w5 e33 e55 e06 ⊢
    have hS : SH m43 c P Z := SH_c (fun b b1 b2 => w1 b (by omega) (by omega) (by omega) (by omega) (by omega)) (w2 7 (by decide) (by decide) (by decide)) h.2.2.2.1
    have hA : AC m43 c P := AC_c (w1 10 (by decide) (by decide) (by decide) (by decide) (by decide)) (w1 11 (by decide) (by decide) (by decide) (by decide) (by decide)) h.2.2.2.2.1
    have hE2 : ∀ x, x < k → EG m43 x (up d n q x) := fun x hx => by
      by_cases e : x = n
      · subst e
        rw [up_s]
        exact ⟨by omega, by omega, e33, e55⟩
      · rw [up_o e]
        have hx5 := (g.2 x hx).1
        obtain ⟨a1, a2, a3, a4⟩ := EG_of g h.1 hx
        refine ⟨a1, a2, by rw [w3 x e]; exact a3, fun i hi => ?_⟩
        rw [(w4 x i e (by omega)).2]
        exact a4 i hi
    obtain ⟨m2, e, -, -, q3, q4, q5⟩ := read_eq (d := up d n q) hS hA h10 (by rw [w2 0 (by decide) (by decide) (by decide)]; exact h.1.1) hE2 w5 (Or.inl e06)
    refine ⟨m2, e, ⟨fun b b0 b3 b4 b5 b6 => ?_, fun j j6 j53 j54 => ?_, fun x hx => ?_, fun x i hx hi => ?_, q3⟩, ?_⟩
    · rw [q4 b b0 (by omega) (by omega) (by omega) (by omega) (by omega)]; exact w1 b b0 b3 b4 b5 b6
    · rw [q5 j j6]; exact w2 j j6 j53 j54
    · rw [q4 3 (by omega) (by omega) (by omega) (by omega) (by omega) (by omega)]; exact w3 x hx
    · rw [q4 4 (by omega) (by omega) (by omega) (by omega) (by omega) (by omega), q4 5 (by omega) (by omega) (by omega) (by omega) (by omega) (by omega)]; exact w4 x i hx hi
    · unfold KP
      rw [q4 42 (by omega) (by omega) (by omega) (by omega) (by omega) (by omega), q4 43 (by omega) (by omega) (by omega) (by omega) (by omega) (by omega)]
      exact hk3
theorem WFr_eq {m a : Mem} {n : Nat} (hB : BL m) (h : ∀ c, c ≠ 42 → c ≠ 43 → a c = m c) : WFr m n a := by
  refine ⟨fun b _ _ _ _ b6 => h b (by omega) (by omega), fun j _ _ _ => by rw [h 0 (by omega) (by omega)], fun x _ => by rw [h 3 (by omega) (by omega)], fun x i _ _ => by rw [h 4 (by omega) (by omega), h 5 (by omega) (by omega)]; exact ⟨rfl, rfl⟩, ?_⟩
  unfold BL at *
  rw [h 37 (by omega) (by omega), h 38 (by omega) (by omega)]
  exact hB
theorem without_eq {m : Mem} {k L c n s : Nat} {d N T P Z : Nat → Nat} {V W : Nat → Int32} (g : GG k d N T) (h : IM m k d N T V W L c P Z) (hn : n < k) (hs : s < c) : ∃ m2, s_X7_without m (nI n) (nI s) = some m2 ∧ IM m2 k d N T V W L c P Z := by
  have h10 := g.1
  have h5 := (g.2 n hn).1
  have hE := EG_of g h.1 hn
  have hc6 := h.2.2.2.1.2.1
  have zn : zin (nI n) 10 = true := zin_nI (by omega) (by decide)
  have t5 := two_5 h5
  unfold s_X7_without
  rw [ix_nI (n := n) (by omega), hE.2.2.1]
  refine ex_ck zn (ex_n (ex_b (Q := fun (m2 : Mem) => WFr m n m2 ∧ KP m n (d n) m2) ?_ (fun m13 h13 => ex_n (ex_n (ex_b (Q := fun (m2 : Mem) => WFr m n m2 ∧ KP m n (d n) m2) ?_ (fun m59 h59 => ex_ck zn (ex_n ?_)))))))
  · unfold l_X7_without_10
    refine forG (d n) (fun i (b : Int32 × Mem) => b.1 = nI i ∧ (∀ c, c ≠ 42 → c ≠ 43 → b.2 c = m c) ∧ KP m n i b.2) _ (fun i b hi hb => ?_) (fun b hb => ?_) FU 0 (0, m) (Nat.zero_le _) ⟨rfl, fun _ _ _ => rfl, fun i hi => absurd hi (Nat.not_lt_zero i)⟩ (FU_lt (by omega))
    · obtain ⟨e1, hw, hk⟩ := hb
      unfold t_X7_without_10
      rw [e1, p5, ix_nI (n := i) (by omega), ix_nI (n := n * 5 + i) (by omega)]
      have zi : zin (nI i) 5 = true := zin_nI (by omega) (by decide)
      have zq : zin (nI (n * 5 + i)) 50 = true := zin_nI (by omega) (by decide)
      refine st_if (fun z => absurd z (nI_ge hi (by omega))) (fun _ => st_ck zq (st_ck zi (st_n (st_ck zq (st_ck zi (st_n (st_n (st_l ⟨nI_s1, fun c c2 c3 => ?_, fun j hj => ?_⟩))))))))
      · dsimp only
        rw [rd_o c3, rd_o c2]
        exact hw c c2 c3
      · dsimp only
        rw [rd_o (a2 := 42) (by decide), rd_o (a2 := 5) (by decide), hw 4 (by decide) (by decide), hw 5 (by decide) (by decide)]
        by_cases e : j = i
        · subst e
          rw [rd_s, rd_s]
          exact ⟨rfl, rfl⟩
        · rw [rd_j e, rd_j e, rd_o (by decide)]
          exact hk j (by omega)
    · obtain ⟨e1, hw, hk⟩ := hb
      unfold t_X7_without_10
      rw [e1]
      exact ⟨_, if_pos (nI_le (Nat.le_refl _) (by omega)), WFr_eq h.2.2.2.2.2.1 hw, hk⟩
  · have h15 : WFr m n (sto (sto m13 0 53 (-4)) 0 54 (-4)) ∧ KP m n (d n) (sto (sto m13 0 53 (-4)) 0 54 (-4)) := ⟨WFr_0 (WFr_0 h13.1 (by omega)) (by omega), KP_0 (KP_0 h13.2 (by decide) (by decide)) (by decide) (by decide)⟩
    generalize sto (sto m13 0 53 (-4)) 0 54 (-4) = m15 at h15 ⊢
    unfold l_X7_without_73
    refine forG 3 (fun i (b : Int32 × Mem) => b.1 = nI i ∧ WFr m n b.2 ∧ KP m n (d n) b.2) _ (fun i b hi hb => ?_) (fun b hb => ?_) FU 0 (0, m15) (Nat.zero_le _) ⟨rfl, h15⟩ (FU_lt (by omega))
    · obtain ⟨e1, hw, hk⟩ := hb
      unfold t_X7_without_73
      rw [e1]
      refine st_if (fun z => absurd z (nI_ge (b := 3) hi (by decide))) (fun _ => st_if (fun _ => st_b (Q := fun (m2 : Mem) => WFr m n m2 ∧ KP m n (d n) m2) ?_ (fun m55 h55 => st_n (st_l ⟨nI_s1, h55⟩))) (fun _ => st_r ⟨hw, hk⟩))
      unfold l_X7_without_91
      refine forG (2 ^ d n) (fun x (b : Int32 × Mem) => b.1 = nI x ∧ WFr m n b.2 ∧ KP m n (d n) b.2) _ (fun x b hx hb => ?_) (fun b hb => ?_) FU 0 (0, b.2) (Nat.zero_le _) ⟨rfl, hw, hk⟩ (FU_lt (by omega))
      · obtain ⟨e2, hw2, hk2⟩ := hb
        unfold t_X7_without_91
        rw [e2, shl_5 h5, p10, ix_nI (n := n) (by omega)]
        refine st_if (fun z => absurd z (nI_ge hx (by omega))) (fun _ => st_if (fun _ => st_b (X7_bits_all _) (fun r21 _ => st_if (fun _ => st_ck zn ?_) (fun _ => st_n (st_l ⟨nI_s1, hw2, hk2⟩)))) (fun _ => st_r ⟨hw2, hk2⟩))
        obtain ⟨m42, e42, m45, e45, hw45, hk45⟩ := without_in (s := s) (st := nI x) g h hn rfl hw2 hk2
        refine st_n (st_b (Q := fun q => q = m42) ⟨_, e42, rfl⟩ (fun q hq => ?_))
        subst hq
        refine st_n (st_b (Q := fun q => q = m45) ⟨_, e45, rfl⟩ (fun q hq => ?_))
        subst hq
        refine st_ck (zin_nI (by omega) (by decide)) (st_if (fun _ => st_n (st_l ⟨nI_s1, hw45, hk45⟩)) (fun _ => st_n (st_n (st_n (st_l ⟨nI_s1, WFr_0 (WFr_0 hw45 (by omega)) (by omega), KP_0 (KP_0 hk45 (by decide) (by decide)) (by decide) (by decide)⟩)))))
      · obtain ⟨e2, hw2, hk2⟩ := hb
        unfold t_X7_without_91
        rw [e2, shl_5 h5]
        exact ⟨_, if_pos (nI_le (Nat.le_refl _) (by omega)), hw2, hk2⟩
    · obtain ⟨e1, hw, hk⟩ := hb
      unfold t_X7_without_73
      rw [e1]
      exact ⟨_, if_pos (by decide), hw, hk⟩
  · obtain ⟨hw, hk⟩ := h59
    refine ex_b (Q := fun (m2 : Mem) => WFr m n m2 ∧ m2 3 n = nI (d n) ∧ ∀ i, i < d n → m2 4 (n * 5 + i) = m 4 (n * 5 + i) ∧ m2 5 (n * 5 + i) = m 5 (n * 5 + i)) ?_ (fun m72 h72 => ex_n (ex_s ?_))
    · unfold l_X7_without_261
      have s30 : (sto m59 3 n (nI (d n))) 3 n = nI (d n) := rd_s
      refine forG (d n) (fun i (b : Int32 × Mem) => b.1 = nI i ∧ WFr m n b.2 ∧ KP m n (d n) b.2 ∧ b.2 3 n = nI (d n) ∧ ∀ j, j < i → b.2 4 (n * 5 + j) = m 4 (n * 5 + j) ∧ b.2 5 (n * 5 + j) = m 5 (n * 5 + j)) _ (fun i b hi hb => ?_) (fun b hb => ?_) FU 0 (0, sto m59 3 n (nI (d n))) (Nat.zero_le _) ⟨rfl, WFr_3 hw, KP_0 hk (by decide) (by decide), s30, fun j hj => absurd hj (Nat.not_lt_zero j)⟩ (FU_lt (by omega))
      · obtain ⟨e1, hw2, hk2, e3, hr⟩ := hb
        unfold t_X7_without_261
        rw [e1, p5, ix_nI (n := i) (by omega), ix_nI (n := n * 5 + i) (by omega)]
        have zi : zin (nI i) 5 = true := zin_nI (by omega) (by decide)
        have zq : zin (nI (n * 5 + i)) 50 = true := zin_nI (by omega) (by decide)
        refine st_if (fun z => absurd z (nI_ge hi (by omega))) (fun _ => st_ck zi (st_ck zq (st_n (st_ck zi (st_ck zq (st_n (st_n (st_l ⟨nI_s1, WFr_5 (WFr_4 hw2 (by omega)) (by omega), KP_0 (KP_0 hk2 (by decide) (by decide)) (by decide) (by decide), ?_, fun j hj => ?_⟩))))))))
        · dsimp only
          rw [rd_o (by decide), rd_o (by decide)]
          exact e3
        · dsimp only
          rw [rd_o (a2 := 4) (by decide), rd_o (a2 := 43) (by decide)]
          by_cases e : j = i
          · subst e
            rw [rd_s, rd_s]
            exact hk2 j (by omega)
          · rw [rd_j (by omega), rd_j (by omega), rd_o (by decide)]
            exact hr j (by omega)
      · obtain ⟨e1, hw2, hk2, e3, hr⟩ := hb
        unfold t_X7_without_261
        rw [e1]
        exact ⟨_, if_pos (nI_le (Nat.le_refl _) (by omega)), hw2, e3, hr⟩
    · obtain ⟨hw2, e3, hr⟩ := h72
      obtain ⟨w1, w2, w3, w4, w5⟩ := WFr_0 (j := 6) (x := 0) hw2 (Or.inl rfl)
      have e33 : (sto m72 0 6 0) 3 n = nI (d n) := by rw [rd_o (by decide)]; exact e3
      have err : ∀ i, i < d n → (sto m72 0 6 0) 4 (n * 5 + i) = m 4 (n * 5 + i) ∧ (sto m72 0 6 0) 5 (n * 5 + i) = m 5 (n * 5 + i) := fun i hi => by rw [rd_o (by decide), rd_o (by decide)]; exact hr i hi
      have e06 : (sto m72 0 6 0) 0 6 = 0 := rd_s
      generalize sto m72 0 6 0 = m73 at w1 w2 w3 w4 w5 e33 err e06 ⊢
      obtain ⟨h1, h2, h3, h4, h5', -, -⟩ := h
      refine ⟨⟨by rw [w2 0 (by decide) (by decide) (by decide)]; exact h1.1, fun x hx => ?_⟩, ?_, by rw [w2 37 (by decide) (by decide) (by decide)]; exact h3, SH_c (fun b b1 b2 => w1 b (by omega) (by omega) (by omega) (by omega) (by omega)) (w2 7 (by decide) (by decide) (by decide)) h4, AC_c (w1 10 (by decide) (by decide) (by decide) (by decide) (by decide)) (w1 11 (by decide) (by decide) (by decide) (by decide) (by decide)) h5', w5, Or.inl e06⟩
      · by_cases e : x = n
        · subst e
          refine ⟨e33, fun i hi => ?_⟩
          rw [(err i hi).1, (err i hi).2]
          exact (h1.2 x hx).2 i hi
        · have hx5 := (g.2 x hx).1
          refine ⟨by rw [w3 x e]; exact (h1.2 x hx).1, fun i hi => ?_⟩
          rw [(w4 x i e (by omega)).1, (w4 x i e (by omega)).2]
          exact (h1.2 x hx).2 i hi
      · rw [w1 1 (by decide) (by decide) (by decide) (by decide) (by decide), w1 2 (by decide) (by decide) (by decide) (by decide) (by decide)]
        exact h2
theorem m_tooMany {m : Mem} {k L c : Nat} {d N T P Z : Nat → Nat} {V W : Nat → Int32} (g : GG k d N T) (h : IM m k d N T V W L c P Z) (n s : Int32) : (∃ q, s_X7_tooMany m n s = some q ∧ IM q.2 k d N T V W L c P Z) ∧ ∃ q, s_X7_which m n s = some q ∧ IM q.2 k d N T V W L c P Z := by
  unfold s_X7_tooMany s_X7_which
  rw [m_both g h]
  simp only [bind_s, if_bb]
  by_cases z : (0 ≤ n.toInt ∧ n.toInt < k) ∧ (0 ≤ s.toInt ∧ s.toInt < c)
  · rw [if_pos z, if_pos z]
    obtain ⟨a, ha, rfl, ea⟩ := int_nI z.1.1
    obtain ⟨t, ht, rfl, et⟩ := int_nI z.2.1
    exact ⟨ex_b (without_eq g h (by omega) (by omega)) (fun m4 h4 => ex_s h4), ex_b (without_eq g h (by omega) (by omega)) (fun m4 h4 => ex_s h4)⟩
  · rw [if_neg z, if_neg z]
    exact ⟨ex_s h, ex_s h⟩
