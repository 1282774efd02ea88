/-! the reference's reading of a text: tokens are taken -/
def TK (m : Mem) (L : Nat) (m2 : Mem) : Prop := TA m2 L ∧ tf m m2 ∧ mu m2 ≤ mu m
def TS (m m2 : Mem) : Prop := 1 ≤ mu m → mu m2 < mu m
theorem TK_r {m : Mem} {L : Nat} (h : TA m L) : TK m L m := ⟨h, tf_r, Nat.le_refl _⟩
theorem TK_t {a b c : Mem} {L : Nat} (h : TK a L b) (g : TK b L c) : TK a L c := ⟨g.1, tf_t h.2.1 g.2.1, Nat.le_trans g.2.2 h.2.2⟩
theorem TK_fl {m : Mem} {L : Nat} {x y : Int32} (h : TA m L) (hx : 0 < x) : TK m L (fl m x y) := ⟨fl_TA hx h, fl_tf hx, by rw [mu_b (fl_b hx)]; exact Nat.zero_le _⟩
theorem is_eq (m : Mem) (a : Int32) : s_X7_is m a = some (bb (m 0 42 = 0 ∧ m 0 40 = 4 ∧ m 0 41 = a)) := by
  unfold s_X7_is
  by_cases h1 : m 0 42 = 0
  · rw [if_pos h1]
    by_cases h2 : m 0 40 = 4
    · rw [if_pos h2]
      by_cases h3 : m 0 41 = a
      · rw [if_pos h3, bb_t ⟨h1, h2, h3⟩]
      · rw [if_neg h3, bb_f (fun z => h3 z.2.2)]
    · rw [if_neg h2, bb_f (fun z => h2 z.2.1)]
  · rw [if_neg h1, bb_f (fun z => h1 z.1)]
theorem s44 {m : Mem} {L : Nat} {x : Int32} (h : TA m L) : TA (sto m 0 44 x) L ∧ tf m (sto m 0 44 x) ∧ mu (sto m 0 44 x) = mu m := by
  obtain ⟨h1, h2, h0, a, h3, h6⟩ := h
  refine ⟨⟨h1, by rw [rd_j (by decide)]; exact h2, by rw [rd_j (by decide)]; exact h0, a, by rw [rd_j (by decide)]; exact h3, h6⟩, ⟨fun c hc => by rw [rd_o hc], fun j hj => by rw [rd_j (by omega)], fun z => by rw [rd_j (by decide)]; exact z⟩, mu_same (rd_j (by decide)) (rd_j (by decide)) (rd_j (by decide))⟩
theorem taken_eq {m : Mem} {L : Nat} {w : Int32} (h : TA m L) (hw : ¬ w = 0) : ∃ q, s_X7_taken m w = some q ∧ TK m L q.2 ∧ TS m q.2 ∧ q.1 = m 0 41 ∧ (q.2 0 42 = 0 → m 0 42 = 0 ∧ m 0 40 = w) := by
  unfold s_X7_taken
  by_cases h0 : m 0 42 = 0
  · by_cases h1 : m 0 40 = w
    · rw [if_pos h0, if_pos h1, bind_s]
      refine ex_n (ex_n ?_)
      obtain ⟨t, f, u⟩ := s44 (x := m 0 39) h
      rw [if_pos (show (sto m 0 44 (m 0 39)) 0 42 = 0 by rw [rd_j (by decide)]; exact h0)]
      obtain ⟨m5, e5, t5, f5, u5⟩ := next_eq t
      rw [e5, bind_s]
      have h2 : 2 ≤ mu m := by rw [mu_2 h0 (by rw [h1]; exact hw)]; omega
      have h3 := u5 (by omega)
      exact ex_s ⟨⟨t5, tf_t f f5, by dsimp only; omega⟩, fun _ => by dsimp only; omega, rfl, fun _ => ⟨h0, h1⟩⟩
    · rw [if_pos h0, if_neg h1, fails_eq, bind_s, bind_s]
      refine ex_n (ex_n ?_)
      have k := TK_fl (x := 2) (y := m 0 39) h (by decide)
      obtain ⟨t, f, u⟩ := s44 (x := (fl m 2 (m 0 39)) 0 39) k.1
      have b : ¬ (fl m 2 (m 0 39)) 0 42 = 0 := fl_b (by decide)
      have b2 : ¬ (sto (fl m 2 (m 0 39)) 0 44 ((fl m 2 (m 0 39)) 0 39)) 0 42 = 0 := by rw [rd_j (by decide)]; exact b
      rw [if_neg b2]
      have z := mu_b b2
      exact ex_s ⟨⟨t, tf_t k.2.1 f, by dsimp only; omega⟩, fun _ => by dsimp only; omega, fl_j (by decide) (by decide), fun q => absurd q b2⟩
  · rw [if_neg h0, bind_s]
    refine ex_n (ex_n ?_)
    obtain ⟨t, f, u⟩ := s44 (x := m 0 39) h
    have b2 : ¬ (sto m 0 44 (m 0 39)) 0 42 = 0 := by rw [rd_j (by decide)]; exact h0
    rw [if_neg b2]
    have z := mu_b h0
    exact ex_s ⟨⟨t, f, by dsimp only; omega⟩, fun _ => by omega, rfl, fun q => absurd q b2⟩
theorem taken2_eq {m : Mem} {L : Nat} {a : Int32} (h : TA m L) : ∃ m2, s_X7_taken2 m a = some m2 ∧ TK m L m2 ∧ TS m m2 := by
  unfold s_X7_taken2
  rw [is_eq]
  by_cases h0 : m 0 42 = 0
  · rw [if_pos h0, bind_s, if_bb]
    by_cases h1 : m 0 42 = 0 ∧ m 0 40 = 4 ∧ m 0 41 = a
    · rw [if_pos h1, bind_s, if_pos h0]
      obtain ⟨m5, e5, t5, f5, u5⟩ := next_eq h
      rw [e5, bind_s]
      have h2 : 2 ≤ mu m := by rw [mu_2 h0 (by rw [h1.2.1]; decide)]; omega
      have h3 := u5 h2
      exact ex_s ⟨⟨t5, f5, by omega⟩, fun _ => h3⟩
    · rw [if_neg h1, fails_eq, bind_s, bind_s]
      have b : ¬ (fl m 2 (m 0 39)) 0 42 = 0 := fl_b (by decide)
      rw [if_neg b]
      have k := TK_fl (x := 2) (y := m 0 39) h (by decide)
      have z := mu_b b
      exact ex_s ⟨k, fun _ => by omega⟩
  · rw [if_neg h0, bind_s, if_neg h0]
    have z := mu_b h0
    exact ex_s ⟨TK_r h, fun _ => by omega⟩
theorem number_eq {m : Mem} {L : Nat} (h : TA m L) : ∃ q, s_X7_number m 0 5 = some q ∧ TK m L q.2 ∧ TS m q.2 ∧ (q.2 0 42 = 0 → ∃ v, v ≤ 5 ∧ q.1 = nI v) := by
  have w2 : ¬ (2 : Int32) = 0 := by decide
  unfold s_X7_number
  obtain ⟨q, e, k, s, v, z⟩ := taken_eq h w2
  by_cases h0 : m 0 42 = 0
  · rw [if_pos h0]
    by_cases h1 : m 0 40 = 2
    · rw [if_pos h1, in_i, bind_s]
      by_cases h2 : 0 ≤ m 0 41 ∧ m 0 41 ≤ 5
      · rw [if_pos h2, if_neg (by decide), e]
        refine ex_s ⟨k, s, fun _ => ?_⟩
        obtain ⟨v1, v2⟩ := h2
        have v3 := le_i.mp v1
        have v4 := le_i.mp v2
        rw [toInt_0] at v3
        obtain ⟨j, hj, ej, ej2⟩ := int_nI v3
        have v5 : (5 : Int32).toInt = 5 := by decide
        exact ⟨j, by omega, by rw [← ej]; exact v⟩
      · rw [if_neg h2, if_pos rfl, fails_eq, bind_s]
        have kf := TK_fl (x := 3) (y := m 0 39) h (by decide)
        have b : ¬ (fl m 3 (m 0 39)) 0 42 = 0 := fl_b (by decide)
        obtain ⟨q2, e2, k2, s2, v2, z2⟩ := taken_eq kf.1 w2
        rw [e2]
        have y := mu_b b
        have y2 := k2.2.2
        have y3 := mu_1 h0
        exact ex_s ⟨TK_t kf k2, fun _ => by dsimp only; omega, fun a => absurd (z2 a).1 b⟩
    · rw [if_neg h1, e]
      exact ex_s ⟨k, s, fun a => absurd (z a).2 h1⟩
  · rw [if_neg h0, e]
    exact ex_s ⟨k, s, fun a => absurd (z a).1 h0⟩
