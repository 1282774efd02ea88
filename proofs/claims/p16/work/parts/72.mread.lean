/-! the reference's reading of a text: a part, and its count -/
def PK (c : Nat) (m : Mem) (L : Nat) (m2 : Mem) : Prop := DF c m L m2 ∧ ∀ a, a = 21 ∨ a = 27 ∨ (28 ≤ a ∧ a ≤ 32) → m2 a = m a
theorem PK_t {c : Nat} {x y z : Mem} {L : Nat} (h : PK c x L y) (g : PK c y L z) : PK c x L z := ⟨DF_t h.1 g.1, fun a ha => (g.2 a ha).trans (h.2 a ha)⟩
theorem PK_TK {c : Nat} {m m2 : Mem} {L : Nat} (h : TK m L m2) : PK c m L m2 := ⟨DF_TK h, fun a ha => h.2.1.1 a (by omega)⟩
theorem PK_c {c a i : Nat} {m : Mem} {L : Nat} {x : Int32} (h : TA m L) (ha : 22 ≤ a ∧ a ≤ 26) : PK c m L (sto m a i x) := ⟨DF_c h (by omega), fun b hb => rd_o (by omega)⟩
theorem next_k {m : Mem} {L : Nat} (h : TA m L) (h0 : m 0 42 = 0) (h1 : ¬ m 0 40 = 0) : ∃ m2, s_X7_next m = some m2 ∧ TK m L m2 ∧ mu m2 < mu m := by
  obtain ⟨m2, e, t, f, u⟩ := next_eq h
  have h2 : 2 ≤ mu m := by rw [mu_2 h0 h1]; omega
  have := u h2
  exact ⟨m2, e, ⟨t, f, by omega⟩, this⟩
theorem TA_0 {m : Mem} {L : Nat} (h : TA m L) (b : ¬ m 0 42 = 0) : ¬ m 0 42 ≤ 0 := fun z => b (Int32.le_antisymm z h.2.2.1)
theorem readPart_eq {m : Mem} {c p z i L : Nat} (h : TA m L) (h21 : m 0 21 = nI c) (hc : c < 6) (h0 : m 0 42 = 0) (hD : DC m c p z) (hi : i < z) : ∃ m2, s_X7_readPart m (nI (160 * c + i)) = some m2 ∧ DF c m L m2 ∧ mu m2 < mu m ∧ (m2 0 42 = 0 → DC m2 c (p + 1) z) ∧ m2 28 = m 28 := by
  have hz : z ≤ 160 := hD.2.2.2.1
  have mu1 := mu_1 h0
  have w2 : ¬ (2 : Int32) = 0 := by decide
  have w5 : ¬ (5 : Int32) = 0 := by decide
  have w1 : ¬ (1 : Int32) = 0 := by decide
  have z6 : zin (nI c) 6 = true := zin_nI hc (by decide)
  have zk : zin (nI (160 * c + i)) 960 = true := zin_nI (by omega) (by decide)
  unfold s_X7_readPart
  refine ex_b (Q := fun (m1 : Mem) => m1 = m ∨ (TK m L m1 ∧ ¬ m1 0 42 = 0)) ?_ (fun m1 q1 => ?_)
  · rw [if_pos h0, in_09, bind_s, if_bb]
    exact ex_if (fun _ => ex_s (Or.inl rfl)) (fun _ => fl_bind (Or.inr ⟨TK_fl h (by decide), fl_b (by decide)⟩))
  refine ex_b (Q := fun (m2 : Mem) => (m2 = m ∧ p < 6) ∨ (TK m L m2 ∧ ¬ m2 0 42 = 0)) ?_ (fun m2 q2 => ?_)
  · rcases q1 with e | ⟨k, b⟩
    · rw [e, if_pos h0, h21, ix_nI (n := c) (by omega), hD.1]
      refine ex_ck z6 (ex_if (fun _ => fl_bind (Or.inr ⟨TK_fl h (by decide), fl_b (by decide)⟩)) (fun hne => ex_s (Or.inl ⟨rfl, ?_⟩)))
      have h6 := hD.2.1
      have : p ≠ 6 := fun q => hne (by rw [q]; rfl)
      omega
    · rw [if_neg b]
      exact ex_s (Or.inr ⟨k, b⟩)
  rcases q2 with ⟨e, hp⟩ | ⟨k, b⟩
  · rw [e, if_pos (show m 0 42 ≤ 0 by rw [h0]; decide), h21, ck_p z6, ix_nI (n := c) (by omega), hD.1, p6]
    have zx : zin (nI (6 * c + p)) 36 = true := zin_nI (by omega) (by decide)
    refine ex_n (ex_ck zk (ex_n ?_))
    rw [rd_o (show (0 : Nat) ≠ 32 by decide), h21, rd_o (show (21 : Nat) ≠ 32 by decide), ix_nI (n := c) (by omega), hD.1, nI_s1, ix_nI (n := 160 * c + i) (by omega), ix_nI (n := 6 * c + p) (by omega)]
    refine ex_ck z6 (ex_ck z6 (ex_n ?_))
    have D9 : DF c m L (sto (sto m 32 (160 * c + i) (nI (6 * c + p))) 21 c (nI (p + 1))) := by
      have d1 : DF c m L (sto m 32 (160 * c + i) (nI (6 * c + p))) := DF_c h (by omega)
      exact DF_t d1 (DF_c d1.1 (by omega))
    have C9 : DC (sto (sto m 32 (160 * c + i) (nI (6 * c + p))) 21 c (nI (p + 1))) c (p + 1) z := by
      obtain ⟨d1, d2, d3, d4, d5⟩ := hD
      refine ⟨rd_s, by omega, by rw [rd_o (by decide), rd_o (by decide)]; exact d3, d4, fun j hj => ?_⟩
      have q := KD_p (Nat.le_add_right p 1) (d5 j hj)
      by_cases ej : j = i
      · subst ej
        have s5 : dk (sto (sto m 32 (160 * c + j) (nI (6 * c + p))) 21 c (nI (p + 1))) 18 (160 * c + j) = nI (6 * c + p) := by
          show (sto (sto m 32 (160 * c + j) (nI (6 * c + p))) 21 c (nI (p + 1))) 32 (160 * c + j) = nI (6 * c + p)
          rw [rd_o (by decide), rd_s]
        have so : ∀ a, 14 ≤ a → a ≤ 17 → dk (sto (sto m 32 (160 * c + j) (nI (6 * c + p))) 21 c (nI (p + 1))) a = dk m a := fun a a1 a2 => by
          show (sto (sto m 32 (160 * c + j) (nI (6 * c + p))) 21 c (nI (p + 1))) (a + 14) = m (a + 14)
          rw [rd_o (by omega), rd_o (by omega)]
        unfold KD at *
        rw [s5, so 14 (by decide) (by decide), so 15 (by decide) (by decide), so 16 (by decide) (by decide), so 17 (by decide) (by decide)]
        rcases q with q | q | ⟨q1, q2, q3, q4⟩
        · exact Or.inl q
        · exact Or.inr (Or.inl q)
        · exact Or.inr (Or.inr ⟨q1, q2, Or.inr ⟨p, by omega, rfl⟩, q4⟩)
      · refine KD_at (fun a a1 a2 => ?_) q
        show (sto (sto m 32 (160 * c + i) (nI (6 * c + p))) 21 c (nI (p + 1))) (a + 14) (160 * c + j) = m (a + 14) (160 * c + j)
        rw [rd_o (by omega)]
        by_cases ea : a + 14 = 32
        · rw [ea, rd_j (by omega)]
        · rw [rd_o ea]
    have e9 : (sto (sto m 32 (160 * c + i) (nI (6 * c + p))) 21 c (nI (p + 1))) 28 = m 28 := by rw [rd_o (by decide), rd_o (by decide)]
    have u9 : mu (sto (sto m 32 (160 * c + i) (nI (6 * c + p))) 21 c (nI (p + 1))) = mu m := by
      have : (sto (sto m 32 (160 * c + i) (nI (6 * c + p))) 21 c (nI (p + 1))) 0 = m 0 := by rw [rd_o (by decide), rd_o (by decide)]
      exact mu_same (by rw [this]) (by rw [this]) (by rw [this])
    generalize sto (sto m 32 (160 * c + i) (nI (6 * c + p))) 21 c (nI (p + 1)) = m9 at D9 C9 e9 u9 ⊢
    refine ex_2 (taken_eq D9.1 w2) (fun r11 m12 q => ?_)
    obtain ⟨k12, s12, -, -⟩ := q
    dsimp only at k12 s12
    have u12 := s12 (by omega)
    refine ex_ck zx (ex_n (ex_ck zx (ex_n (ex_ck zx (ex_n (ex_ck zx (ex_n ?_)))))))
    refine ex_w (P := fun (r : Mem) => PK c m12 L r) ?_ (fun r k => ⟨DF_t D9 (DF_t (DF_TK k12) k.1), by have := k.1.2.2.1; omega, fun _ => DC_c (fun a ha => (k.2 a ha).trans (k12.2.1.1 a (by omega))) C9, ?_⟩)
    rotate_left
    · rw [k.2 28 (by omega), k12.2.1.1 28 (by decide)]; exact e9
    have k20 : PK c m12 L (sto (sto (sto (sto m12 22 (6 * c + p) r11) 24 (6 * c + p) 0) 25 (6 * c + p) 0) 26 (6 * c + p) 0) := by
      have a1 : PK c m12 L (sto m12 22 (6 * c + p) r11) := PK_c k12.1 (by omega)
      have a2 := PK_t a1 (PK_c (a := 24) (i := 6 * c + p) (x := 0) a1.1.1 (by omega))
      have a3 := PK_t a2 (PK_c (a := 25) (i := 6 * c + p) (x := 0) a2.1.1 (by omega))
      exact PK_t a3 (PK_c (a := 26) (i := 6 * c + p) (x := 0) a3.1.1 (by omega))
    generalize sto (sto (sto (sto m12 22 (6 * c + p) r11) 24 (6 * c + p) 0) 25 (6 * c + p) 0) 26 (6 * c + p) 0 = m20 at k20 ⊢
    have REF : m20 0 42 = 0 ∧ m20 0 40 = 4 → ∃ r, ((s_X7_is m20 64).bind fun r26 => (((if r26 = 0 then (some 2) else (some 1)) : Option (Int32)).bind fun y27 => ck (zin (nI (6 * c + p)) 36 = true) (bn (sto m20 23 (6 * c + p) y27) fun m29 => (s_X7_next m29).bind fun m31 => zb2 (s_X7_taken m31 1) fun r33 m34 => ck (zin (nI (6 * c + p)) 36 = true) (bn (sto m34 24 (6 * c + p) r33) fun m36 => ck (zin (nI (6 * c + p)) 36 = true) (bn (sto m36 26 (6 * c + p) (m36 0 44)) fun m38 => some m38))))) = some r ∧ PK c m12 L r := fun hh => by
      rw [is_eq, bind_s]
      refine ex_b (Q := fun _ => True) (ex_if (fun _ => ex_s trivial) (fun _ => ex_s trivial)) (fun y27 _ => ex_ck zx (ex_n ?_))
      have a1 := PK_t k20 (PK_c (a := 23) (i := 6 * c + p) (x := y27) k20.1.1 (by omega))
      have e0 : (sto m20 23 (6 * c + p) y27) 0 = m20 0 := rd_o (by decide)
      obtain ⟨m31, e31, k31, -⟩ := next_k a1.1.1 (by rw [e0]; exact hh.1) (by rw [e0, hh.2]; decide)
      rw [e31, bind_s]
      have a2 := PK_t a1 (PK_TK k31)
      refine ex_2 (taken_eq k31.1 w1) (fun r33 m34 q => ex_ck zx (ex_n (ex_ck zx (ex_n (ex_s ?_)))))
      obtain ⟨k34, -⟩ := q
      dsimp only at k34
      have a3 := PK_t a2 (PK_TK k34)
      have a4 := PK_t a3 (PK_c (a := 24) (i := 6 * c + p) (x := r33) a3.1.1 (by omega))
      exact PK_t a4 (PK_c a4.1.1 (by omega))
    rw [is_eq, bind_s, if_bb]
    refine ex_if (fun zd => ?_) (fun _ => ?_)
    · refine ex_ck zx (ex_n ?_)
      have a1 := PK_t k20 (PK_c (a := 23) (i := 6 * c + p) (x := 0) k20.1.1 (by omega))
      have e0 : (sto m20 23 (6 * c + p) 0) 0 = m20 0 := rd_o (by decide)
      obtain ⟨m31, e31, k31, -⟩ := next_k a1.1.1 (by rw [e0]; exact zd.1) (by rw [e0, zd.2.1]; decide)
      rw [e31, bind_s]
      exact ex_s (PK_t a1 (PK_TK k31))
    · rw [is_eq m20 64, bind_s, if_bb]
      rw [is_eq m20 64, bind_s] at REF
      refine ex_if (fun zd => ?_) (fun _ => ?_)
      · rw [bind_s]; exact REF ⟨zd.1, zd.2.1⟩
      · rw [is_eq m20 33, bind_s, if_bb]
        refine ex_if (fun zd => ?_) (fun _ => ?_)
        · rw [bind_s]; exact REF ⟨zd.1, zd.2.1⟩
        · refine ex_ck zx (ex_n ?_)
          have a1 := PK_t k20 (PK_c (a := 23) (i := 6 * c + p) (x := 3) k20.1.1 (by omega))
          refine ex_2 (taken_eq a1.1.1 w2) (fun r45 m46 q => ex_ck zx (ex_n ?_))
          obtain ⟨k46, -⟩ := q
          dsimp only at k46
          have a2 := PK_t a1 (PK_TK k46)
          have a3 := PK_t a2 (PK_c (a := 24) (i := 6 * c + p) (x := r45) a2.1.1 (by omega))
          refine ex_2 (taken_eq a3.1.1 w5) (fun r50 m51 q => ?_)
          obtain ⟨k51, -⟩ := q
          dsimp only at k51
          have a4 := PK_t a3 (PK_TK k51)
          have EN : ∀ x, PK c m12 L x → ∃ r, (zb2 (s_X7_taken x 2) fun r58 m59 => ck (zin (nI (6 * c + p)) 36 = true) (bn (sto m59 25 (6 * c + p) r58) fun m61 => some m61)) = some r ∧ PK c m12 L r := fun x hx => by
            refine ex_2 (taken_eq hx.1.1 w2) (fun r58 m59 q => ex_ck zx (ex_n (ex_s ?_)))
            obtain ⟨k59, -⟩ := q
            dsimp only at k59
            have b1 := PK_t hx (PK_TK k59)
            exact PK_t b1 (PK_c b1.1.1 (by omega))
          refine ex_if (fun _ => ex_if (fun _ => ex_ck zx (ex_if (fun _ => EN _ a4) (fun _ => ?_))) (fun _ => EN _ a4)) (fun _ => EN _ a4)
          rw [fails_eq, bind_s]
          exact EN _ (PK_t a4 (PK_TK (TK_fl a4.1.1 (by decide))))
  · rw [if_neg (TA_0 k.1 b)]
    exact ex_s ⟨DF_TK k, by rw [mu_b b]; exact mu1, fun a => absurd a b, k.2.1.1 28 (by decide)⟩
theorem DC_s {m : Mem} {c p z i a v : Nat} (ha : a = 30 ∨ a = 31) (hv : v ≤ 5) (h : DC m c p z) : DC (sto m a (160 * c + i) (nI v)) c p z := by
  obtain ⟨h1, h2, h3, h4, h5⟩ := h
  refine ⟨by rw [rd_o (by omega)]; exact h1, h2, by rw [rd_o (by omega)]; exact h3, h4, fun j hj => ?_⟩
  have q := h5 j hj
  by_cases ej : j = i
  · subst ej
    have so : ∀ b, b + 14 ≠ a → dk (sto m a (160 * c + j) (nI v)) b = dk m b := fun b hb => by
      show (sto m a (160 * c + j) (nI v)) (b + 14) = m (b + 14)
      rw [rd_o hb]
    have s14 := so 14 (by omega)
    have s15 := so 15 (by omega)
    have s18 := so 18 (by omega)
    unfold KD at q
    unfold KD
    rw [s14, s15, s18]
    rcases q with q | q | ⟨q1, q2, q3, q4, q5⟩
    · exact Or.inl q
    · exact Or.inr (Or.inl q)
    · refine Or.inr (Or.inr ⟨q1, q2, q3, ?_⟩)
      rcases ha with rfl | rfl
      · rw [so 17 (by decide)]
        exact ⟨⟨v, hv, rd_s⟩, q5⟩
      · rw [so 16 (by decide)]
        exact ⟨q4, ⟨v, hv, rd_s⟩⟩
  · refine KD_at (fun b b1 b2 => ?_) q
    show (sto m a (160 * c + i) (nI v)) (b + 14) (160 * c + j) = m (b + 14) (160 * c + j)
    by_cases eb : b + 14 = a
    · rw [eb, rd_j (by omega)]
    · rw [rd_o eb]
theorem readCount_eq {m : Mem} {c p z i L : Nat} (h : TA m L) (hc : c < 6) (hi : i < z) (hz : z ≤ 160) (hD : m 0 42 = 0 → DC m c p z) : ∃ m2, s_X7_readCount m (nI (160 * c + i)) = some m2 ∧ DF c m L m2 ∧ (m2 0 42 = 0 → DC m2 c p z) ∧ m2 28 = m 28 := by
  have zk : zin (nI (160 * c + i)) 960 = true := zin_nI (by omega) (by decide)
  have A : ∀ x, DF c m L x → (x 0 42 = 0 → DC x c p z) → x 28 = m 28 → ∃ r, (zb2 (s_X7_number x 0 5) fun r27 m28 => ck (zin (nI (160 * c + i)) 960 = true) (bn (sto m28 31 (160 * c + i) r27) fun m30 => (s_X7_taken2 m30 93).bind fun m32 => some m32)) = some r ∧ DF c m L r ∧ (r 0 42 = 0 → DC r c p z) ∧ r 28 = m 28 := fun x hx hdx h28 => by
    refine ex_2 (number_eq hx.1) (fun r27 m28 q => ex_ck zk (ex_n ?_))
    obtain ⟨k, -, v⟩ := q
    dsimp only at k v
    have d1 := DF_t hx (DF_TK k)
    have d2 := DF_t d1 (DF_c (c := c) (a := 31) (i := 160 * c + i) (x := r27) d1.1 (by omega))
    refine ex_b (taken2_eq d2.1) (fun r q => ex_s ?_)
    obtain ⟨k2, -⟩ := q
    refine ⟨DF_t d2 (DF_TK k2), fun r0 => ?_, by rw [k2.2.1.1 28 (by decide), rd_o (by decide), k.2.1.1 28 (by decide)]; exact h28⟩
    have e0 : (sto m28 31 (160 * c + i) r27) 0 42 = m28 0 42 := by rw [rd_o (by decide)]
    have f1 : m28 0 42 = 0 := by
      by_cases q : m28 0 42 = 0
      · exact q
      · exact absurd r0 (k2.2.1.2.2 (by rw [e0]; exact q))
    have f2 : x 0 42 = 0 := by
      by_cases q : x 0 42 = 0
      · exact q
      · exact absurd f1 (k.2.1.2.2 q)
    obtain ⟨w, hw, ew⟩ := v f1
    rw [ew] at k2
    exact DC_tf k2.2.1 (DC_s (by omega) hw (DC_tf k.2.1 (hdx f2)))
  unfold s_X7_readCount
  rw [is_eq, bind_s, if_bb]
  refine ex_if (fun zd => ?_) (fun _ => ex_s ⟨DF_r h, hD, rfl⟩)
  obtain ⟨m4, e4, k4, -⟩ := next_k h zd.1 (by rw [zd.2.1]; decide)
  rw [e4, bind_s]
  refine ex_2 (number_eq k4.1) (fun r6 m7 q => ex_ck zk (ex_n ?_))
  obtain ⟨k7, -, v7⟩ := q
  dsimp only at k7 v7
  rw [ix_nI (n := 160 * c + i) (by omega)]
  have d7 := DF_t (DF_TK (c := c) k4) (DF_TK k7)
  have d9 := DF_t d7 (DF_c (c := c) (a := 30) (i := 160 * c + i) (x := r6) d7.1 (by omega))
  have c9 : (sto m7 30 (160 * c + i) r6) 0 42 = 0 → DC (sto m7 30 (160 * c + i) r6) c p z := fun q => by
    rw [rd_o (by decide)] at q
    obtain ⟨w, hw, ew⟩ := v7 q
    rw [ew]
    exact DC_s (by omega) hw (DC_tf k7.2.1 (DC_tf k4.2.1 (hD zd.1)))
  have s9 : (sto m7 30 (160 * c + i) r6) 28 = m 28 := by rw [rd_o (by decide), k7.2.1.1 28 (by decide), k4.2.1.1 28 (by decide)]
  generalize sto m7 30 (160 * c + i) r6 = m9 at d9 c9 s9 ⊢
  refine ex_if (fun _ => ex_if (fun _ => ?_) (fun _ => A _ d9 c9 s9)) (fun _ => A _ d9 c9 s9)
  refine ex_b (Q := fun _ => True) ⟨_, in_spec _ _ _, trivial⟩ (fun r25 _ => ex_if (fun _ => A _ d9 c9 s9) (fun _ => ex_ck zk (ex_if (fun _ => A _ d9 c9 s9) (fun _ => ?_))))
  rw [fails_eq, bind_s]
  have kf := TK_fl (x := 3) (y := m9 0 39) d9.1 (by decide)
  exact A _ (DF_t d9 (DF_TK kf)) (fun q => absurd q (fl_b (by decide))) (by rw [kf.2.1.1 28 (by decide)]; exact s9)
