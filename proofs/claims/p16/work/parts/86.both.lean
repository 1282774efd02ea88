/-! both readers, token by token -/
theorem b_id {α : Type} {o : Option α} : (o.bind fun a => some a) = o := by cases o <;> rfl
theorem tt_0 {m : Mem} (h : m 9 2 = 0) : s_X4_takeToken m = s_X4_takeShapeWord m := by
  unfold s_X4_takeToken
  rw [h, if_pos rfl, b_id]
theorem tt_1 {m : Mem} (h : m 9 2 = 1) : s_X4_takeToken m = s_X4_takeSign m 61 2 := by
  unfold s_X4_takeToken
  rw [h, if_neg (by decide), if_pos rfl, b_id]
theorem tt_2 {m : Mem} (h : m 9 2 = 2) : s_X4_takeToken m = s_X4_takeBody m := by
  unfold s_X4_takeToken
  rw [h, if_neg (by decide), if_neg (by decide), if_pos rfl, b_id]
theorem tt_3 {m : Mem} (h : m 9 2 = 3) : s_X4_takeToken m = s_X4_takeOne m := by
  unfold s_X4_takeToken
  rw [h, if_neg (by decide), if_neg (by decide), if_neg (by decide), if_pos rfl, b_id]
theorem tt_4 {m : Mem} (h : m 9 2 = 4) : s_X4_takeToken m = s_X4_takeTest m := by
  unfold s_X4_takeToken
  rw [h, if_neg (by decide), if_neg (by decide), if_neg (by decide), if_neg (by decide), if_pos rfl, b_id]
theorem tt_5 {m : Mem} (h : m 9 2 = 5) : s_X4_takeToken m = s_X4_takeReference m := by
  unfold s_X4_takeToken
  rw [h, if_neg (by decide), if_neg (by decide), if_neg (by decide), if_neg (by decide), if_neg (by decide), if_pos rfl, b_id]
theorem tt_6 {m : Mem} (h : m 9 2 = 6) : s_X4_takeToken m = s_X4_takeSign m 5 7 := by
  unfold s_X4_takeToken
  rw [h, if_neg (by decide), if_neg (by decide), if_neg (by decide), if_neg (by decide), if_neg (by decide), if_neg (by decide), if_pos rfl, b_id]
theorem tt_7 {m : Mem} (h : m 9 2 = 7) : s_X4_takeToken m = s_X4_takeLastNumber m := by
  unfold s_X4_takeToken
  rw [h, if_neg (by decide), if_neg (by decide), if_neg (by decide), if_neg (by decide), if_neg (by decide), if_neg (by decide), if_neg (by decide), if_pos rfl, b_id]
theorem tt_8 {m : Mem} (h : m 9 2 = 8) : s_X4_takeToken m = s_X4_takeBehindOne m := by
  unfold s_X4_takeToken
  rw [h, if_neg (by decide), if_neg (by decide), if_neg (by decide), if_neg (by decide), if_neg (by decide), if_neg (by decide), if_neg (by decide), if_neg (by decide), if_pos rfl, b_id]
theorem tt_9 {m : Mem} (h : m 9 2 = 9) : s_X4_takeToken m = s_X4_takeLeast m := by
  unfold s_X4_takeToken
  rw [h, if_neg (by decide), if_neg (by decide), if_neg (by decide), if_neg (by decide), if_neg (by decide), if_neg (by decide), if_neg (by decide), if_neg (by decide), if_neg (by decide), if_pos rfl, b_id]
theorem tt_10 {m : Mem} (h : m 9 2 = 10) : s_X4_takeToken m = s_X4_takeMost m := by
  unfold s_X4_takeToken
  rw [h, if_neg (by decide), if_neg (by decide), if_neg (by decide), if_neg (by decide), if_neg (by decide), if_neg (by decide), if_neg (by decide), if_neg (by decide), if_neg (by decide), if_neg (by decide), if_pos rfl, b_id]
theorem tt_11 {m : Mem} (h : m 9 2 = 11) : s_X4_takeToken m = s_X4_takeSign m 93 12 := by
  unfold s_X4_takeToken
  rw [h, if_neg (by decide), if_neg (by decide), if_neg (by decide), if_neg (by decide), if_neg (by decide), if_neg (by decide), if_neg (by decide), if_neg (by decide), if_neg (by decide), if_neg (by decide), if_neg (by decide), if_pos rfl, b_id]
theorem tt_12 {m : Mem} (h : m 9 2 = 12) : s_X4_takeToken m = s_X4_takeBehindItem m := by
  unfold s_X4_takeToken
  rw [h, if_neg (by decide), if_neg (by decide), if_neg (by decide), if_neg (by decide), if_neg (by decide), if_neg (by decide), if_neg (by decide), if_neg (by decide), if_neg (by decide), if_neg (by decide), if_neg (by decide), if_neg (by decide), if_pos rfl, b_id]
theorem tt_13 {m : Mem} (h : m 9 2 = 13) : s_X4_takeToken m = s_X4_takeSign m 59 0 := by
  unfold s_X4_takeToken
  rw [h, if_neg (by decide), if_neg (by decide), if_neg (by decide), if_neg (by decide), if_neg (by decide), if_neg (by decide), if_neg (by decide), if_neg (by decide), if_neg (by decide), if_neg (by decide), if_neg (by decide), if_neg (by decide), if_neg (by decide), b_id]
theorem fail_eq (m : Mem) (k : Int32) : s_X4_fail m k = some (sto (sto m 9 8 k) 9 9 (m 10 3)) := by
  show some (sto (sto m 9 8 k) 9 9 ((sto m 9 8 k) 10 3)) = _
  rw [rd_o (by decide)]
theorem fl_v {m : Mem} {x y : Int32} (h : m 0 42 = 0) : fl m x y 0 43 = y := by
  unfold fl
  rw [if_pos h, rd_s]
def TOK (L i : Nat) (mx mm m1 : Mem) : Prop := s_X5_advance mx = some m1 ∧ (∀ c, c ≠ 10 → m1 c = mx c) ∧ TR m1 mm ∧ mm 0 42 = 0 ∧ mx 9 8 = 0 ∧ ¬ mx 9 2 = 14 ∧ (mx 7 1 = nI L ∧ mm 0 37 = nI L ∧ TPE mx mm ∧ L ≤ 400) ∧ ∃ a, m1 10 1 = nI a ∧ mm 0 38 = nI a ∧ a ≤ L ∧ i ≤ a ∧ (mm 0 40 = 0 ∨ i < a)
def FLD (i : Nat) (mx : Mem) (p : Int32) : Prop := ∃ j mf, XS i mx j mf ∧ ¬ mf 9 8 = 0 ∧ mf 9 9 = p
theorem FLD_t {i j : Nat} {mx m2 : Mem} {p : Int32} (h : XS i mx j m2) (g : FLD j m2 p) : FLD i mx p := by
  obtain ⟨k, mf, g1, g2⟩ := g
  exact ⟨k, mf, XS_t h g1, g2⟩
theorem KT_1 {S v K : Int32} (h : KT S v K) : ¬ K = 1 := by
  rintro rfl
  rcases h with ⟨-, h⟩ | ⟨-, h⟩ | ⟨-, h⟩ | ⟨-, h⟩ | ⟨-, h, g⟩ | ⟨-, h⟩
  · exact absurd h (by decide)
  · exact absurd h (by decide)
  · exact absurd h (by decide)
  · exact absurd h (by decide)
  · rw [← h] at g
    unfold sgn at g
    revert g
    decide
  · exact absurd h (by decide)
theorem KT_s {S v K s : Int32} (h : KT S v K) (hs : sgn s) : (S = 4 ∧ v = s) ↔ K = s := by
  have n : ∀ k : Int32, ¬ sgn k → ¬ k = s := fun k hk e => hk (by rw [e]; exact hs)
  have n0 := n 0 (by unfold sgn; decide)
  have n2 := n 2 (by unfold sgn; decide)
  have n3 := n 3 (by unfold sgn; decide)
  have n4 := n 4 (by unfold sgn; decide)
  have n5 := n 5 (by unfold sgn; decide)
  rcases h with ⟨h, e⟩ | ⟨h, e⟩ | ⟨h, e⟩ | ⟨h, e⟩ | ⟨h, e, g⟩ | ⟨h, e⟩
  · rw [e, h]; exact ⟨fun z => absurd z.1 (by decide), fun z => absurd z n0⟩
  · rw [e, h]; exact ⟨fun z => absurd z.1 (by decide), fun z => absurd z n2⟩
  · rw [e, h]; exact ⟨fun z => absurd z.1 (by decide), fun z => absurd z n3⟩
  · rw [e, h]; exact ⟨fun z => absurd z.1 (by decide), fun z => absurd z n4⟩
  · rw [e, h]; exact ⟨fun z => z.2, fun z => ⟨rfl, z⟩⟩
  · rw [e, h]; exact ⟨fun z => absurd z.1 (by decide), fun z => absurd z n5⟩
theorem KT_w {S v K : Int32} (h : KT S v K) : (S = 0 ↔ K = 0) ∧ (S = 1 ↔ K = 2) ∧ (S = 2 ↔ K = 3) ∧ (S = 3 ↔ K = 4) ∧ (S = 5 ↔ K = 5) := by
  rcases h with ⟨h, e⟩ | ⟨h, e⟩ | ⟨h, e⟩ | ⟨h, e⟩ | ⟨h, e, g⟩ | ⟨h, e⟩
  · rw [e, h]; decide
  · rw [e, h]; decide
  · rw [e, h]; decide
  · rw [e, h]; decide
  · have n : ∀ k : Int32, ¬ sgn k → ¬ K = k := fun k hk q => hk (by rw [← q, e]; exact g)
    have n0 := n 0 (by unfold sgn; decide)
    have n2 := n 2 (by unfold sgn; decide)
    have n3 := n 3 (by unfold sgn; decide)
    have n4 := n 4 (by unfold sgn; decide)
    have n5 := n 5 (by unfold sgn; decide)
    rw [h]
    exact ⟨⟨fun z => absurd z (by decide), fun z => absurd z n0⟩, ⟨fun z => absurd z (by decide), fun z => absurd z n2⟩, ⟨fun z => absurd z (by decide), fun z => absurd z n3⟩, ⟨fun z => absurd z (by decide), fun z => absurd z n4⟩, ⟨fun z => absurd z (by decide), fun z => absurd z n5⟩⟩
  · rw [e, h]; decide
theorem TOK_is {L i : Nat} {mx mm m1 : Mem} {s : Int32} (h : TOK L i mx mm m1) (hs : sgn s) : (mm 0 42 = 0 ∧ mm 0 40 = 4 ∧ mm 0 41 = s) ↔ m1 10 2 = s := by
  rw [← KT_s h.2.2.1.1 hs]
  exact ⟨fun z => z.2, fun z => ⟨h.2.2.2.1, z⟩⟩
theorem TOK_m {L i : Nat} {mx mm m1 m2 : Mem} (h : TOK L i mx mm m1) (e : ∀ j, j = 37 ∨ (38 ≤ j ∧ j ≤ 42) → m2 0 j = mm 0 j) (e33 : m2 33 = mm 33) : TOK L i mx m2 m1 := by
  obtain ⟨h1, h2, h3, h4, h5, h6, ⟨h7, h8, h9, hL⟩, a, h10, h11, h12⟩ := h
  refine ⟨h1, h2, ?_, by rw [e 42 (by omega)]; exact h4, h5, h6, ⟨h7, by rw [e 37 (by omega)]; exact h8, fun p hp => by rw [e33]; exact h9 p hp, hL⟩, a, h10, by rw [e 38 (by omega)]; exact h11, by rw [e 40 (by omega)]; exact h12⟩
  unfold TR at *
  rw [e 40 (by omega), e 41 (by omega), e 39 (by omega)]
  exact h3
theorem tk_next {L i : Nat} {mx mm m1 m2 mn : Mem} (h : TOK L i mx mm m1) (hS : ¬ mm 0 40 = 0) (ht : s_X4_takeToken m1 = some m2) (e10 : m2 10 = m1 10) (e7 : m2 7 = m1 7) (e8 : m2 8 = m1 8) (f8 : m2 9 8 = 0) (f14 : ¬ m2 9 2 = 14) (g0 : ∀ j, j = 37 ∨ j = 38 ∨ j = 42 → mn 0 j = mm 0 j) (g33 : mn 33 = mm 33) : ∃ mm2, s_X7_next mn = some mm2 ∧ (∀ c, c ≠ 0 → mm2 c = mn c) ∧ (∀ j, j < 38 ∨ 43 < j → mm2 0 j = mn 0 j) ∧ ((mm2 0 42 = 0 ∧ XS i mx (i + 1) m2 ∧ ∃ m3, TOK L (i + 1) m2 mm2 m3) ∨ (¬ mm2 0 42 = 0 ∧ FLD i mx (mm2 0 43))) := by
  obtain ⟨h1, h2, h3, h4, h5, h6, ⟨h7, h8, h9, hL⟩, a, h10, h11, h12, h13, h14⟩ := h
  have hia : i < a := h14.resolve_left hS
  have X1 : XS i mx (i + 1) m2 := XS_1 (by omega) h5 h6 h1 (KT_1 h3.1) ht
  have q7 : m2 7 1 = nI L := by rw [e7, h2 7 (by decide)]; exact h7
  have qT : TPE m2 mn := fun p hp => by rw [e8, h2 8 (by decide), g33]; exact h9 p hp
  have n37 : mn 0 37 = nI L := by rw [g0 37 (by omega)]; exact h8
  obtain ⟨mx3, mm2, ea, en, t1, t2, t3, t4⟩ := tok_eq (mx := m2) (mm := mn) hL q7 n37 qT h12 (by rw [e10]; exact h10) (by rw [g0 38 (by omega)]; exact h11) (by rw [g0 42 (by omega)]; exact h4)
  refine ⟨mm2, en, t2, t3, ?_⟩
  rcases t4 with ⟨o1, o2, b, o3, o4, o5, o6, o7⟩ | ⟨o1, o2, o3⟩
  · refine Or.inl ⟨o1, X1, mx3, ea, t1, o2, o1, f8, f14, ⟨q7, by rw [t3 37 (by omega)]; exact n37, fun p hp => by rw [t2 33 (by decide)]; exact qT p hp, hL⟩, b, o3, o4, o5, by omega, o6.elim Or.inl (fun z => Or.inr (by omega))⟩
  · refine Or.inr ⟨by rw [o1]; decide, i + 1 + 1, sto (sto mx3 9 8 1) 9 9 (mx3 10 3), XS_t X1 (XS_b (by omega) f8 f14 ea o2), by rw [rd_j (by decide), rd_s]; decide, by rw [rd_s]; exact o3⟩
theorem tk_fail {L i : Nat} {mx mm m1 mf : Mem} {k : Int32} (h : TOK L i mx mm m1) (hk : ¬ k = 0) (ht : s_X4_takeToken m1 = some (sto (sto mf 9 8 k) 9 9 (m1 10 3))) : FLD i mx (mm 0 39) := by
  obtain ⟨h1, h2, h3, h4, h5, h6, ⟨h7, h8, h9, hL⟩, a, h10, h11, h12, h13, h14⟩ := h
  exact ⟨i + 1, _, XS_1 (by omega) h5 h6 h1 (KT_1 h3.1) ht, by rw [rd_j (by decide), rd_s]; exact hk, by rw [rd_s]; exact h3.2.2.1⟩
/-! what both hold of the parts -/
def PEs (mx mm : Mem) (b s P : Nat) : Prop := P ≤ 6 ∧ mm 21 s = nI P ∧ mx (b + 2) s = nI P ∧ mx (b + 1) s = mm 19 s ∧ mx (b + 3) s = vp_nar .boolean (mm 20 s) ∧ mx (b + 5) s = 0 ∧ mx (b + 6) s = 0 ∧ (∀ k, k < 10 → (bt (mx (b + 4) s) k = true ↔ ∃ i, i < P ∧ mm 22 (6 * s + i) = nI k)) ∧ ∀ i, i < P → mx (b + 9) (6 * s + i) = mm 22 (6 * s + i) ∧ mx (b + 10) (6 * s + i) = mm 23 (6 * s + i) ∧ mx (b + 11) (6 * s + i) = mm 24 (6 * s + i) ∧ mx (b + 12) (6 * s + i) = mm 25 (6 * s + i) ∧ mx (b + 13) (6 * s + i) = mm 26 (6 * s + i) ∧ ∃ q, q < 1000 ∧ mm 26 (6 * s + i) = nI q
def PE (mx mm : Mem) (b c : Nat) (P : Nat → Nat) : Prop := ∀ s, s < c → PEs mx mm b s (P s)
theorem PEs_c {mx mm mx2 mm2 : Mem} {b s P : Nat} (ex : ∀ a, b + 1 ≤ a → a ≤ b + 6 → mx2 a s = mx a s) (ey : ∀ a, 19 ≤ a → a ≤ 21 → mm2 a s = mm a s) (ex2 : ∀ a i, b + 9 ≤ a → a ≤ b + 13 → i < 6 → mx2 a (6 * s + i) = mx a (6 * s + i)) (ey2 : ∀ a i, 22 ≤ a → a ≤ 26 → i < 6 → mm2 a (6 * s + i) = mm a (6 * s + i)) (h : PEs mx mm b s P) : PEs mx2 mm2 b s P := by
  obtain ⟨h1, h2, h3, h4, h5, h6, h7, h8, h9⟩ := h
  refine ⟨h1, ?_, ?_, ?_, ?_, ?_, ?_, fun k hk => ?_, fun i hi => ?_⟩
  · rw [ey 21 (by omega) (by omega)]; exact h2
  · rw [ex (b + 2) (by omega) (by omega)]; exact h3
  · rw [ex (b + 1) (by omega) (by omega), ey 19 (by omega) (by omega)]; exact h4
  · rw [ex (b + 3) (by omega) (by omega), ey 20 (by omega) (by omega)]; exact h5
  · rw [ex (b + 5) (by omega) (by omega)]; exact h6
  · rw [ex (b + 6) (by omega) (by omega)]; exact h7
  · rw [ex (b + 4) (by omega) (by omega), h8 k hk]
    exact ⟨fun ⟨i, hi, e⟩ => ⟨i, hi, by rw [ey2 22 i (by omega) (by omega) (by omega)]; exact e⟩, fun ⟨i, hi, e⟩ => ⟨i, hi, by rw [← ey2 22 i (by omega) (by omega) (by omega)]; exact e⟩⟩
  · obtain ⟨g1, g2, g3, g4, g5, g6⟩ := h9 i hi
    rw [ex2 (b + 9) i (by omega) (by omega) (by omega), ex2 (b + 10) i (by omega) (by omega) (by omega), ex2 (b + 11) i (by omega) (by omega) (by omega), ex2 (b + 12) i (by omega) (by omega) (by omega), ex2 (b + 13) i (by omega) (by omega) (by omega), ey2 22 i (by omega) (by omega) (by omega), ey2 23 i (by omega) (by omega) (by omega), ey2 24 i (by omega) (by omega) (by omega), ey2 25 i (by omega) (by omega) (by omega), ey2 26 i (by omega) (by omega) (by omega)]
    exact ⟨g1, g2, g3, g4, g5, g6⟩
