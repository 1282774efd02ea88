/-! the reference reads a text: to its end, and what it holds then -/
theorem text_eq {m : Mem} {L : Nat} (hL : L ≤ 400) (h37 : m 0 37 = nI L) : ∃ m5, s_X7_next (sto (sto (sto m 0 42 0) 0 38 0) 0 21 0) = some m5 ∧ ∃ m13, l_X7_shapes_21 FU 1 m5 = some m13 ∧ TA m13 L ∧ OF m m13 ∧ ∃ c, c ≤ 6 ∧ m13 0 21 = nI c ∧ (m13 0 42 = 0 → ∃ P Z, DS m13 c P Z) := by
  have t3 : TA (sto (sto (sto m 0 42 0) 0 38 0) 0 21 0) L := ⟨hL, by rw [rd_j (by decide), rd_j (by decide), rd_j (by decide)]; exact h37, by rw [rd_j (by decide), rd_j (by decide), rd_s]; decide, 0, by rw [rd_j (by decide), rd_s]; rfl, Nat.zero_le _⟩
  have o3 : OF m (sto (sto (sto m 0 42 0) 0 38 0) 0 21 0) := ⟨fun a a0 _ => by rw [rd_o a0, rd_o a0, rd_o a0], fun j j0 _ j1 => by rw [rd_j j0, rd_j (by omega), rd_j (by omega)]⟩
  have e3 : (sto (sto (sto m 0 42 0) 0 38 0) 0 21 0) 0 21 = nI 0 := rd_s
  generalize sto (sto (sto m 0 42 0) 0 38 0) 0 21 0 = m3 at t3 o3 e3 ⊢
  obtain ⟨m5, e5, t5, f5, -⟩ := next_eq t3
  refine ⟨m5, e5, ?_⟩
  unfold l_X7_shapes_21
  refine zlp_run (fun (a : Int32 × Mem) => TA a.2 L ∧ OF m a.2 ∧ ∃ c, c ≤ 6 ∧ a.2 0 21 = nI c ∧ (a.2 0 42 = 0 → ∃ P Z, DS a.2 c P Z)) _ (fun (a : Int32 × Mem) => mu a.2) (fun a ha => Or.symm ?_) FU (1, m5) ⟨t5, OF_t o3 (OF_tf f5), 0, by omega, by dsimp only; rw [f5.2.1 21 (by decide)]; exact e3, fun _ => ⟨fun _ => 0, fun _ => 0, fun s hs => absurd hs (Nat.not_lt_zero _)⟩⟩ (FU_lt (by have := mu_le (m := m5); dsimp only; omega))
  unfold t_X7_shapes_21
  refine st_if (fun _ => st_r ha) (fun _ => st_if (fun h0 => ?_) (fun _ => st_r ha))
  obtain ⟨t, o, c, hc, e21, hD⟩ := ha
  obtain ⟨P, Z, D⟩ := hD h0
  obtain ⟨r, er, tr, or, lt, cr⟩ := readShape_eq t e21 hc h0 D
  rw [er, bind_s]
  exact st_if (fun _ => st_l ⟨⟨tr, OF_t o or, cr⟩, lt⟩) (fun _ => st_l ⟨⟨tr, OF_t o or, cr⟩, lt⟩)
theorem IM_of {m m2 : Mem} {k L c : Nat} {d N T P Z : Nat → Nat} {V W : Nat → Int32} (h : IM m k d N T V W L c P Z) (e : ∀ a, a ≠ 0 → a < 19 ∨ 36 < a → m2 a = m a) (e0 : ∀ j, j ≠ 21 → j ≠ 37 → j < 38 ∨ 44 < j → m2 0 j = m 0 j) (e7 : m2 0 37 = nI 0) : IM m2 k d N T V W 0 c P Z := by
  obtain ⟨h1, h2, h3, h4, h5, h6, h7⟩ := h
  refine ⟨?_, ?_, e7, SH_c (fun a a1 a2 => e a (by omega) (by omega)) (e0 7 (by decide) (by decide) (by decide)) h4, AC_c (e 10 (by decide) (by decide)) (e 11 (by decide) (by decide)) h5, ?_, ?_⟩
  · unfold GM
    rw [e0 0 (by decide) (by decide) (by decide), e 3 (by decide) (by decide), e 4 (by decide) (by decide), e 5 (by decide) (by decide)]
    exact h1
  · rw [e 1 (by decide) (by decide), e 2 (by decide) (by decide)]; exact h2
  · unfold BL at *
    rw [e 37 (by decide) (by decide), e 38 (by decide) (by decide)]
    exact h6
  · unfold RI at *
    rw [e0 6 (by decide) (by decide) (by decide), e 39 (by decide) (by decide)]
    rcases h7 with h | ⟨a, b⟩
    · exact Or.inl h
    · refine Or.inr ⟨fun s n hs hn hne => ?_, b⟩
      rw [e 37 (by decide) (by decide)] at hne
      exact (canP_g (fun a a1 a2 => e a (by omega) (by omega)) (e 37 (by decide) (by decide)) (e 38 (by decide) (by decide)) (e 39 (by decide) (by decide))).mpr (a s n hs hn hne)
theorem m_shapes {m : Mem} {k L c : Nat} {d N T P Z : Nat → Nat} {V W : Nat → Int32} (hL : L ≤ 400) (h : IM m k d N T V W L c P Z) : ∃ q, s_X7_shapes m = some q ∧ ∃ c P Z, IM q.2 k d N T V W 0 c P Z := by
  unfold s_X7_shapes
  refine ex_n (ex_n (ex_n ?_))
  obtain ⟨m5, e5, m13, e13, t13, o13, c2, hc2, e21, hD⟩ := text_eq hL h.2.2.1
  rw [e5, bind_s, e13, bind_s]
  refine ex_b (Q := fun (m14 : Mem) => (∀ a, a ≠ 0 → a < 19 ∨ 36 < a → m14 a = m a) ∧ (∀ j, j ≠ 21 → j ≠ 37 → j < 38 ∨ 44 < j → m14 0 j = m 0 j) ∧ 0 ≤ m14 0 42 ∧ m14 0 21 = nI c2 ∧ (m14 0 42 = 0 → ∃ P Z, DS m14 c2 P Z ∧ RS m14 c2 P (fun x _ => x < c2) ∧ ∃ R : Nat → Nat → Prop, (∀ x y z, x < c2 → y < c2 → z < c2 → R x y → R y z → R x z) ∧ (∀ s i t, s < c2 → i < P s → t < c2 → (m14 23 (6 * s + i) = 1 ∨ m14 23 (6 * s + i) = 2) → m14 24 (6 * s + i) = nI t → R s t) ∧ ∀ s i t, s < c2 → i < P s → t < c2 → m14 23 (6 * s + i) = 2 → m14 24 (6 * s + i) = nI t → ¬ R t s)) ?_ (fun m14 q => ?_)
  · refine ex_if (fun h0 => ?_) (fun hb => ex_s ⟨fun a a0 a1 => o13.1 a a0 (by omega), o13.2, t13.2.2.1, e21, fun q => absurd q hb⟩)
    obtain ⟨P2, Z2, D⟩ := hD h0
    refine ex_b (settle_eq e21 hc2 (fun s hs => ⟨(D s hs).2.1, (D s hs).1⟩) t13.2.2.1) (fun m74 q => ex_s ?_)
    obtain ⟨q1, q2, q3, q4⟩ := q
    exact ⟨fun a a0 a1 => by rw [q1 a a0 (by omega) (by omega)]; exact o13.1 a a0 (by omega), fun j j0 j1 j2 => by rw [q2 j (by omega) (by omega)]; exact o13.2 j j0 j1 j2, q3, by rw [q2 21 (by decide) (by decide)]; exact e21, fun z => ⟨P2, Z2, fun s hs => DC_c (fun a ha => q1 a (by omega) (by omega) (by omega)) (D s hs), q4 z⟩⟩
  obtain ⟨q1, q2, q3, q4, q5⟩ := q
  refine ex_n ?_
  have a15 : ∀ a, a ≠ 0 → (sto m14 0 37 0) a = m14 a := fun a a0 => rd_o a0
  have j15 : ∀ j, j ≠ 37 → (sto m14 0 37 0) 0 j = m14 0 j := fun j j0 => rd_j j0
  have e15 : (sto m14 0 37 0) 0 37 = nI 0 := rd_s
  generalize sto m14 0 37 0 = m15 at a15 j15 e15 ⊢
  refine ex_if (fun z => ?_) (fun _ => ex_s ⟨c, P, Z, IM_of h (fun a a0 a1 => by dsimp only; rw [a15 a a0]; exact q1 a a0 a1) (fun j j0 j1 j2 => by dsimp only; rw [j15 j j1]; exact q2 j j0 j1 j2) e15⟩)
  rw [j15 42 (by decide)] at z
  obtain ⟨P2, Z2, D, RR, R, R1, R2, R3⟩ := q5 (Int32.le_antisymm z q3)
  refine ex_n ?_
  have e16 : ∀ a, a ≠ 0 → (sto m15 0 7 (m15 0 21)) a = m14 a := fun a a0 => by rw [rd_o a0]; exact a15 a a0
  have j16 : ∀ j, j ≠ 7 → (sto m15 0 7 (m15 0 21)) 0 j = m15 0 j := fun j j0 => rd_j j0
  have n16 : (sto m15 0 7 (m15 0 21)) 0 7 = nI c2 := by rw [rd_s, j15 21 (by decide)]; exact q4
  generalize sto m15 0 7 (m15 0 21) = m16 at e16 j16 n16 ⊢
  obtain ⟨m33, e33, o33, v33⟩ := copy_1 n16 hc2
  obtain ⟨m50, e50, o50, v50⟩ := copy_2 (m := m33)
  obtain ⟨m70, e70, o70, v70⟩ := copy_3 (m := m50)
  rw [e33, bind_s, e50, bind_s, e70, bind_s]
  refine ex_n (ex_s ⟨c2, P2, Z2, ?_⟩)
  dsimp only
  have lo : ∀ a, a ≠ 0 → a < 6 ∨ 18 < a → (sto m70 0 6 0) a = m14 a := fun a a0 a1 => by rw [rd_o a0, o70 a (by omega), o50 a (by omega), o33 a (by omega) (by omega) (by omega) (by omega)]; exact e16 a a0
  have f0 : ∀ j, j ≠ 6 → (sto m70 0 6 0) 0 j = m16 0 j := fun j j0 => by rw [rd_j j0, o70 0 (by omega), o50 0 (by omega), o33 0 (by omega) (by omega) (by omega) (by omega)]
  have w8 : ∀ s, s < c2 → (sto m70 0 6 0) 8 s = m14 21 s ∧ (sto m70 0 6 0) 13 s = m14 27 s := fun s hs => by
    obtain ⟨-, -, v3, v4⟩ := v33 s hs
    rw [rd_o (by decide), rd_o (by decide), o70 8 (by omega), o70 13 (by omega), o50 8 (by omega), o50 13 (by omega), v3, v4, e16 21 (by decide), e16 27 (by decide)]
    exact ⟨rfl, rfl⟩
  have w10 : ∀ s, s < 36 → (sto m70 0 6 0) 10 s = m14 23 s ∧ (sto m70 0 6 0) 11 s = m14 24 s := fun s hs => by
    obtain ⟨-, v2, v3, -⟩ := v50 s hs
    rw [rd_o (by decide), rd_o (by decide), o70 10 (by omega), o70 11 (by omega), v2, v3, o33 23 (by omega) (by omega) (by omega) (by omega), o33 24 (by omega) (by omega) (by omega) (by omega), e16 23 (by decide), e16 24 (by decide)]
    exact ⟨rfl, rfl⟩
  have w14 : ∀ a s, 14 ≤ a → a ≤ 18 → s < 960 → (sto m70 0 6 0) a s = m14 (a + 14) s := fun a s a1 a2 hs => by
    obtain ⟨v1, v2, v3, v4, v5⟩ := v70 s hs
    have x : ∀ b, 28 ≤ b → m50 b = m14 b := fun b hb => by rw [o50 b (by omega), o33 b (by omega) (by omega) (by omega) (by omega)]; exact e16 b (by omega)
    rw [rd_o (by omega)]
    have ha : a = 14 ∨ a = 15 ∨ a = 16 ∨ a = 17 ∨ a = 18 := by omega
    rcases ha with rfl | rfl | rfl | rfl | rfl
    · rw [v1, x 28 (by decide)]
    · rw [v2, x 29 (by decide)]
    · rw [v3, x 30 (by decide)]
    · rw [v4, x 31 (by decide)]
    · rw [v5, x 32 (by decide)]
  have n6 : (sto m70 0 6 0) 0 6 = 0 := rd_s
  generalize sto m70 0 6 0 = mf at lo f0 w8 w10 w14 n6 ⊢
  obtain ⟨h1, h2, h3, h4, h5, h6, h7⟩ := h
  have up0 : ∀ j, j ≠ 6 → j ≠ 7 → j ≠ 21 → j ≠ 37 → j < 38 ∨ 44 < j → mf 0 j = m 0 j := fun j j0 j1 j2 j3 j4 => by rw [f0 j j0, j16 j j1, j15 j j3]; exact q2 j j2 j3 j4
  have upc : ∀ a, a ≠ 0 → a < 6 ∨ 36 < a → mf a = m a := fun a a0 a1 => by rw [lo a a0 (by omega)]; exact q1 a a0 (by omega)
  have rr : ∀ s i, s < c2 → i < P2 s → 6 * s + i < 36 := fun s i hs hi => by
    have := (D s hs).2.1
    omega
  refine ⟨?_, ?_, by rw [f0 37 (by decide), j16 37 (by decide)]; exact e15, ⟨by rw [f0 7 (by decide)]; exact n16, hc2, fun s hs => ?_⟩, ⟨R, R1, fun s t w hs ht hE => ?_, fun s t hs ht hE => ?_⟩, ?_, Or.inl n6⟩
  · unfold GM
    rw [up0 0 (by decide) (by decide) (by decide) (by decide) (by decide), upc 3 (by decide) (by decide), upc 4 (by decide) (by decide), upc 5 (by decide) (by decide)]
    exact h1
  · rw [upc 1 (by decide) (by decide), upc 2 (by decide) (by decide)]; exact h2
  · obtain ⟨d1, d2, d3, d4, d5⟩ := D s hs
    obtain ⟨u1, u2⟩ := w8 s hs
    refine ⟨⟨d2, by rw [u1]; exact d1, fun i hi hn => ?_⟩, d4, by rw [u2]; exact d3, fun j hj => ?_⟩
    · obtain ⟨x1, x2⟩ := w10 (6 * s + i) (rr s i hs hi)
      rw [x1] at hn
      rw [x2]
      exact RR s i hs hs hi hn
    · exact KD_at (fun a a1 a2 => w14 a (160 * s + j) a1 a2 (by omega)) (d5 j hj)
  · obtain ⟨i, hi, ei, hw⟩ := hE
    obtain ⟨x1, x2⟩ := w10 (6 * s + i) (rr s i hs hi)
    rw [x1] at hw
    rw [x2] at ei
    exact R2 s i t hs hi ht (hw.elim (fun q => Or.inl q.1) (fun q => Or.inr q.1)) ei
  · obtain ⟨i, hi, ei, hw⟩ := hE
    obtain ⟨x1, x2⟩ := w10 (6 * s + i) (rr s i hs hi)
    rw [x1] at hw
    rw [x2] at ei
    exact R3 s i t hs hi ht (hw.elim (fun q => absurd q.2 (by decide)) (fun q => q.1)) ei
  · unfold BL at *
    rw [upc 37 (by decide) (by decide), upc 38 (by decide) (by decide)]
    exact h6
