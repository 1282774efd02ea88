/-! the reference's reading of a text: a shape -/
def OF (m m2 : Mem) : Prop := (∀ a, a ≠ 0 → a < 19 ∨ a = 33 ∨ 36 < a → m2 a = m a) ∧ ∀ j, j ≠ 21 → j ≠ 37 → j < 38 ∨ 44 < j → m2 0 j = m 0 j
theorem OF_r {m : Mem} : OF m m := ⟨fun _ _ _ => rfl, fun _ _ _ _ => rfl⟩
theorem OF_t {x y z : Mem} (h : OF x y) (g : OF y z) : OF x z := ⟨fun a a0 a1 => (g.1 a a0 a1).trans (h.1 a a0 a1), fun j j0 j1 j2 => (g.2 j j0 j1 j2).trans (h.2 j j0 j1 j2)⟩
theorem OF_d {c : Nat} {m m2 : Mem} (h : dfr c m m2) : OF m m2 := ⟨fun a a0 a1 => h.1 a a0 (by omega), fun j _ _ j2 => h.2.1 j j2⟩
theorem OF_tf {m m2 : Mem} (h : tf m m2) : OF m m2 := OF_d (dfr_tf (c := 0) h)
def DS (m : Mem) (c : Nat) (P Z : Nat → Nat) : Prop := ∀ s, s < c → DC m s (P s) (Z s)
theorem DC_dfr {m m2 : Mem} {c s p z : Nat} (g : dfr c m m2) (hs : s < c) (h : DC m s p z) : DC m2 s p z := by
  obtain ⟨h1, h2, h3, h4, h5⟩ := h
  obtain ⟨g1, g2, g3⟩ := g.2.2.2 s hs
  exact ⟨by rw [g1]; exact h1, h2, by rw [g2]; exact h3, h4, fun j hj => KD_at (fun a a1 a2 => g3 (a + 14) j (by omega) (by omega) (by omega)) (h5 j hj)⟩
def RP (m : Mem) (L : Nat) (r : Mem) : Prop := TA r L ∧ OF m r ∧ mu r < mu m ∧ ∃ c, c ≤ 6 ∧ r 0 21 = nI c ∧ (r 0 42 = 0 → ∃ P Z, DS r c P Z)
theorem s21 {m : Mem} {L : Nat} {x : Int32} (h : TA m L) : TA (sto m 0 21 x) L ∧ OF m (sto m 0 21 x) ∧ mu (sto m 0 21 x) = mu m := by
  obtain ⟨h1, h2, h0, a, h3, h6⟩ := h
  exact ⟨⟨h1, by rw [rd_j (by decide)]; exact h2, by rw [rd_j (by decide)]; exact h0, a, by rw [rd_j (by decide)]; exact h3, h6⟩, ⟨fun b b0 _ => rd_o b0, fun j j0 _ _ => rd_j j0⟩, mu_same (rd_j (by decide)) (rd_j (by decide)) (rd_j (by decide))⟩
theorem known_eq {m : Mem} {c L : Nat} (h : TA m L) (h21 : m 0 21 = nI c) (hc : c ≤ 6) {m2 : Mem} (h2 : m2 = m ∨ (TK m L m2 ∧ ¬ m2 0 42 = 0)) : ∃ r, l_X7_readShape_51 FU 0 m2 = some r ∧ ((r = m ∧ m2 = m) ∨ (TK m L r ∧ ¬ r 0 42 = 0)) := by
  unfold l_X7_readShape_51
  have e21 : ∀ x, TK m L x → x 0 21 = nI c := fun x hx => by rw [hx.2.1.2.1 21 (by decide)]; exact h21
  refine forG c (fun j (a : Int32 × Mem) => a.1 = nI j ∧ ((a.2 = m ∧ m2 = m) ∨ (TK m L a.2 ∧ ¬ a.2 0 42 = 0))) _ (fun j a hj ha => ?_) (fun a ha => ?_) FU 0 (0, m2) (Nat.zero_le _) ⟨rfl, h2.elim (fun e => Or.inl ⟨e, e⟩) Or.inr⟩ (FU_lt (by omega))
  · obtain ⟨e1, ha⟩ := ha
    have q21 : a.2 0 21 = nI c := ha.elim (fun e => by rw [e.1]; exact h21) (fun k => e21 _ k.1)
    unfold t_X7_readShape_51
    rw [e1, q21]
    refine st_if (fun z => absurd z (nI_ge hj (by omega))) (fun _ => ?_)
    rcases ha with e | ⟨k, b⟩
    · rw [e.1]
      refine st_if (fun _ => st_ck (zin_nI (by omega) (by decide)) (st_if (fun _ => ?_) (fun _ => st_n (st_l ⟨nI_s1, Or.inl ⟨rfl, e.2⟩⟩)))) (fun _ => st_r (Or.inl ⟨rfl, e.2⟩))
      rw [fails_eq, bind_s]
      exact st_n (st_l ⟨nI_s1, Or.inr ⟨TK_fl h (by decide), fl_b (by decide)⟩⟩)
    · rw [if_neg b]
      exact st_r (Or.inr ⟨k, b⟩)
  · obtain ⟨e1, ha⟩ := ha
    have q21 : a.2 0 21 = nI c := ha.elim (fun e => by rw [e.1]; exact h21) (fun k => e21 _ k.1)
    unfold t_X7_readShape_51
    rw [e1, q21]
    exact ⟨_, if_pos (nI_le (Nat.le_refl _) (by omega)), ha⟩
theorem readShape_eq {m : Mem} {L c : Nat} {P Z : Nat → Nat} (h : TA m L) (h21 : m 0 21 = nI c) (hc : c ≤ 6) (h0 : m 0 42 = 0) (hD : DS m c P Z) : ∃ m2, s_X7_readShape m = some m2 ∧ RP m L m2 := by
  have mu1 := mu_1 h0
  have w1 : ¬ (1 : Int32) = 0 := by decide
  have dead : ∀ x, TK m L x → ¬ x 0 42 = 0 → RP m L x := fun x k b => ⟨k.1, OF_tf k.2.1, by rw [mu_b b]; omega, c, hc, by rw [k.2.1.2.1 21 (by decide)]; exact h21, fun q => absurd q b⟩
  unfold s_X7_readShape
  refine ex_b (Q := fun (m1 : Mem) => (m1 = m ∧ m 0 40 = 1) ∨ (TK m L m1 ∧ ¬ m1 0 42 = 0)) ?_ (fun m1 q1 => ?_)
  · rw [if_pos h0]
    exact ex_if (fun e => ex_s (Or.inl ⟨rfl, e⟩)) (fun _ => fl_bind (Or.inr ⟨TK_fl h (by decide), fl_b (by decide)⟩))
  refine ex_b (Q := fun (m2 : Mem) => (m2 = m ∧ m 0 40 = 1 ∧ c < 6) ∨ (TK m L m2 ∧ ¬ m2 0 42 = 0)) ?_ (fun m2 q2 => ?_)
  · rcases q1 with ⟨e, g⟩ | ⟨k, b⟩
    · rw [e, if_pos h0, h21]
      refine ex_if (fun _ => fl_bind (Or.inr ⟨TK_fl h (by decide), fl_b (by decide)⟩)) (fun hne => ex_s (Or.inl ⟨rfl, g, ?_⟩))
      have : c ≠ 6 := fun q => hne (by rw [q]; rfl)
      omega
    · rw [if_neg b]
      exact ex_s (Or.inr ⟨k, b⟩)
  refine ex_b (known_eq h h21 hc (q2.elim (fun e => Or.inl e.1) Or.inr)) (fun m13 q3 => ?_)
  have q4 : (m13 = m ∧ m 0 40 = 1 ∧ c < 6) ∨ (TK m L m13 ∧ ¬ m13 0 42 = 0) := by
    rcases q3 with ⟨e, e2⟩ | k
    · rcases q2 with ⟨-, g⟩ | ⟨-, b⟩
      · exact Or.inl ⟨e, g⟩
      · rw [e2] at b; exact absurd h0 b
    · exact Or.inr k
  rcases q4 with ⟨e, h1, hc6⟩ | ⟨k, b⟩
  · rw [e, if_pos (show m 0 42 ≤ 0 by rw [h0]; decide), h21, ix_nI (n := c) (by omega)]
    have z6 : zin (nI c) 6 = true := zin_nI hc6 (by decide)
    refine ex_2 (taken_eq h w1) (fun r15 m16 q => ex_ck z6 (ex_n ?_))
    obtain ⟨k16, s16, -, -⟩ := q
    dsimp only at k16 s16
    have u16 := s16 mu1
    have f0 : DF c m L m16 := DF_TK k16
    have f1 := DF_t f0 (DF_c (c := c) (a := 19) (i := c) (x := r15) f0.1 (by omega))
    have D21 : ∀ {x : Mem}, DF c m L x → x 0 21 = nI c := fun hx => FR_21 (FR_D hx) h21
    rw [D21 f1, ix_nI (n := c) (by omega)]
    refine ex_ck z6 (ex_n ?_)
    have f2 := DF_t f1 (DF_c (c := c) (a := 27) (i := c) (x := 0) f1.1 (by omega))
    rw [D21 f2, ix_nI (n := c) (by omega)]
    refine ex_ck z6 (ex_n ?_)
    have f3 := DF_t f2 (DF_c (c := c) (a := 21) (i := c) (x := 0) f2.1 (by omega))
    rw [D21 f3, ix_nI (n := c) (by omega)]
    refine ex_ck z6 (ex_n ?_)
    have f4 := DF_t f3 (DF_c (c := c) (a := 20) (i := c) (x := vp_nar .boolean 0) f3.1 (by omega))
    have d4 : DC (sto (sto (sto (sto m16 19 c r15) 27 c 0) 21 c 0) 20 c (vp_nar .boolean 0)) c 0 0 := ⟨by rw [rd_o (by decide), rd_s]; rfl, by omega, by rw [rd_o (by decide), rd_o (by decide), rd_s]; rfl, by omega, fun j hj => absurd hj (Nat.not_lt_zero _)⟩
    have u4 : mu (sto (sto (sto (sto m16 19 c r15) 27 c 0) 21 c 0) 20 c (vp_nar .boolean 0)) < mu m := by
      have e0 : (sto (sto (sto (sto m16 19 c r15) 27 c 0) 21 c 0) 20 c (vp_nar .boolean 0)) 0 = m16 0 := by rw [rd_o (by decide), rd_o (by decide), rd_o (by decide), rd_o (by decide)]
      rw [mu_same (m := m16) (by rw [e0]) (by rw [e0]) (by rw [e0])]
      exact u16
    generalize sto (sto (sto (sto m16 19 c r15) 27 c 0) 21 c 0) 20 c (vp_nar .boolean 0) = m24 at f4 d4 u4 ⊢
    refine ex_b (taken2_eq f4.1) (fun m26 q => ?_)
    obtain ⟨k26, -⟩ := q
    have f5 : FR c m L m26 := FR_t (FR_D f4) (FR_TK k26)
    have d5 : DC m26 c 0 0 := DC_tf k26.2.1 d4
    have u5 : mu m26 < mu m := by have := k26.2.2; omega
    refine ex_b (Q := fun (x : Mem) => FR c m L x ∧ mu x < mu m ∧ (x 0 42 = 0 → ∃ p z, DC x c p z)) ?_ (fun m27 q => ?_)
    · have AN : ∃ r, ((s_X7_readAny m26).bind fun m46 => some m46) = some r ∧ FR c m L r ∧ mu r < mu m ∧ (r 0 42 = 0 → ∃ p z, DC r c p z) := ex_b (readAny_eq f5.1 (FR_21 f5 h21) hc6 d5) (fun r hr => ex_s ⟨FR_t f5 hr.1, by have := hr.1.2.2; omega, hr.2⟩)
      have SA : ∃ r, (some m26 : Option Mem) = some r ∧ FR c m L r ∧ mu r < mu m ∧ (r 0 42 = 0 → ∃ p z, DC r c p z) := ex_s ⟨f5, u5, fun _ => ⟨0, 0, d5⟩⟩
      refine ex_if (fun _ => ?_) (fun _ => SA)
      rw [is_eq, bind_s, if_bb]
      exact ex_if (fun _ => AN) (fun _ => ex_if (fun _ => AN) (fun _ => SA))
    obtain ⟨f6, u6, d6⟩ := q
    have EN : ∀ x, FR c m L x → mu x < mu m → (x 0 42 = 0 → ∃ p z, DC x c p z) → ∃ r, ((s_X7_taken2 x 59).bind fun m29 => bn (sto m29 0 21 ((m29 0 21) + 1)) fun m30 => some m30) = some r ∧ RP m L r := fun x fx ux dx => by
      refine ex_b (taken2_eq fx.1) (fun m29 q => ex_n (ex_s ?_))
      obtain ⟨k, -⟩ := q
      have g := FR_t fx (FR_TK k)
      rw [FR_21 g h21, nI_s1]
      obtain ⟨t1, t2, t3⟩ := s21 (x := nI (c + 1)) g.1
      refine ⟨t1, OF_t (OF_d g.2.1) t2, by rw [t3]; have := k.2.2; omega, c + 1, by omega, rd_s, fun q => ?_⟩
      rw [rd_j (by decide)] at q
      have qx : x 0 42 = 0 := by
        by_cases e : x 0 42 = 0
        · exact e
        · exact absurd q (k.2.1.2.2 e)
      obtain ⟨p, z, dc⟩ := dx qx
      refine ⟨fun s => if s = c then p else P s, fun s => if s = c then z else Z s, fun s hs => ?_⟩
      refine DC_c (m := m29) (fun a ha => rd_o (by omega)) ?_
      by_cases e : s = c
      · dsimp only
        rw [if_pos e, if_pos e, e]
        exact DC_tf k.2.1 dc
      · dsimp only
        rw [if_neg e, if_neg e]
        exact DC_dfr g.2.1 (by omega) (hD s (by omega))
    refine ex_if (fun z0 => ex_if (fun z3 => ?_) (fun _ => EN _ f6 u6 d6)) (fun _ => EN _ f6 u6 d6)
    rw [FR_21 f6 h21, ix_nI (n := c) (by omega)]
    refine ex_ck z6 (ex_n ?_)
    have g7 : DF c m27 L (sto m27 20 c (vp_nar .boolean 1)) := DF_c f6.1 (by omega)
    have e7 : (sto m27 20 c (vp_nar .boolean 1)) 0 = m27 0 := rd_o (by decide)
    obtain ⟨m37, e37, k37, -⟩ := next_k g7.1 (by rw [e7]; exact z0) (by rw [e7, z3]; decide)
    rw [e37, bind_s]
    refine EN _ (FR_t f6 (FR_t (FR_D g7) (FR_TK k37))) (by have := k37.2.2; have := g7.2.2.1; omega) (fun _ => ?_)
    obtain ⟨p, z, dc⟩ := d6 z0
    exact ⟨p, z, DC_tf k37.2.1 (DC_u (by omega) dc)⟩
  · rw [if_neg (TA_0 k.1 b)]
    exact ex_s (dead _ k b)
