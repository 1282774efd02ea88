/-! the first module's tokens, and its machine of states -/
def RQ (m : Mem) (b L : Nat) : Prop := (∃ c, PB m b c) ∧ (∃ q, q ≤ 406 ∧ m 10 1 = nI q) ∧ m 7 1 = nI L ∧ L ≤ 400
def S10 (m : Mem) : Prop := m 9 2 = 10 → ∃ q, q ≤ 5 ∧ m 9 7 = nI q
def TQ (b L : Nat) (m m2 : Mem) : Prop := RQ m2 b L ∧ S10 m2 ∧ pf b m m2
theorem RQ_b {m : Mem} {b L : Nat} (h : RQ m b L) : isb b ∧ m 9 1 = nI b := by
  obtain ⟨⟨c, p1, p2, -⟩, -⟩ := h
  exact ⟨p1, p2⟩
theorem RQ_9 {m : Mem} {b L j : Nat} {x : Int32} (h : RQ m b L) (hj : j ≠ 1) : RQ (sto m 9 j x) b L := by
  have hb := isb_e (RQ_b h).1
  obtain ⟨⟨c, hP⟩, h2, h3, h4⟩ := h
  refine ⟨⟨c, PB_cell hP (fun _ => hj) (by omega) (by omega) (by omega) (by omega)⟩, ?_, ?_, h4⟩
  · rw [rd_o (by decide)]; exact h2
  · rw [rd_o (by decide)]; exact h3
theorem RQ_10 {m : Mem} {b L j : Nat} {x : Int32} (h : RQ m b L) (hj : j ≠ 1) : RQ (sto m 10 j x) b L := by
  have hb := isb_e (RQ_b h).1
  obtain ⟨⟨c, hP⟩, h2, h3, h4⟩ := h
  refine ⟨⟨c, PB_cell hP (fun e => absurd e (by decide)) (by omega) (by omega) (by omega) (by omega)⟩, ?_, ?_, h4⟩
  · rw [rd_j (fun e => hj e.symm)]; exact h2
  · rw [rd_o (by decide)]; exact h3
theorem RQ_n {m : Mem} {b L q : Nat} (h : RQ m b L) (hq : q ≤ 406) : RQ (sto m 10 1 (nI q)) b L := by
  have hb := isb_e (RQ_b h).1
  obtain ⟨⟨c, hP⟩, h2, h3, h4⟩ := h
  refine ⟨⟨c, PB_cell hP (fun e => absurd e (by decide)) (by omega) (by omega) (by omega) (by omega)⟩, ⟨q, hq, rd_s⟩, ?_, h4⟩
  rw [rd_o (by decide)]; exact h3
theorem RQ_pg {m m2 : Mem} {b L : Nat} (h : RQ m b L) (hP : ∃ c, PB m2 b c) (g : pg b m m2) : RQ m2 b L := by
  have hb := isb_e (RQ_b h).1
  obtain ⟨-, h2, h3, h4⟩ := h
  refine ⟨hP, ?_, ?_, h4⟩
  · rw [g 10 (by omega)]; exact h2
  · rw [g 7 (by omega)]; exact h3
theorem S10_pg {m m2 : Mem} {b : Nat} (hb : isb b) (h : S10 m) (g : pg b m m2) : S10 m2 := by
  have hb := isb_e hb
  unfold S10
  rw [g 9 (by omega)]
  exact h
theorem S10_j {m : Mem} {j : Nat} {x : Int32} (h : S10 m) (h2 : j ≠ 2) (h7 : j ≠ 7) : S10 (sto m 9 j x) := by
  unfold S10
  rw [rd_j (fun e => h2 e.symm), rd_j (fun e => h7 e.symm)]
  exact h
theorem S10_x {m : Mem} {x : Int32} (h : x ≠ 10) : S10 (sto m 9 2 x) := by
  intro e
  rw [rd_s] at e
  exact absurd e h
theorem S10_10 {m : Mem} {j : Nat} {x : Int32} (h : S10 m) : S10 (sto m 10 j x) := by
  unfold S10
  rw [rd_o (by decide)]
  exact h
theorem TQ_2 {m m2 : Mem} {b L : Nat} {x : Int32} (h : RQ m2 b L) (p : pf b m m2) (hx : x ≠ 10) : TQ b L m (sto m2 9 2 x) := ⟨RQ_9 h (by decide), S10_x hx, pf_t p pf_9⟩
theorem X_fail {m : Mem} {b L : Nat} {k : Int32} (h : RQ m b L) (s : S10 m) : ∃ m2, s_X4_fail m k = some m2 ∧ TQ b L m m2 := by
  unfold s_X4_fail
  exact ex_n (ex_n (ex_s ⟨RQ_9 (RQ_9 h (by decide)) (by decide), S10_j (S10_j s (by decide) (by decide)) (by decide) (by decide), pf_t pf_9 pf_9⟩))
theorem X_fail8 {m : Mem} {k : Int32} : ∃ m2, s_X4_fail m k = some m2 ∧ m2 9 8 = k := by
  unfold s_X4_fail
  refine ex_n (ex_n (ex_s ?_))
  rw [rd_j (by decide), rd_s]
theorem X_numFrom {m : Mem} {b L : Nat} {lo hi : Int32} (h : RQ m b L) (s : S10 m) : ∃ q, s_X4_isNumberFrom m lo hi = some q ∧ TQ b L m q.2 ∧ (¬ q.1 = 0 → q.2 = m ∧ lo ≤ m 10 4 ∧ m 10 4 ≤ hi) := by
  have F : ∀ {k : Int32}, ¬ k = 0 → ∃ m2, (s_X4_fail m k) = some m2 ∧ TQ b L m m2 ∧ ¬ m2 9 8 = 0 := fun {k} hk => by
    obtain ⟨m2, e, hq⟩ := X_fail (k := k) h s
    obtain ⟨m3, e3, h3⟩ := X_fail8 (m := m) (k := k)
    rw [e] at e3
    cases e3
    exact ⟨m2, e, hq, by rw [h3]; exact hk⟩
  have R : TQ b L m m := ⟨h, s, pf_r⟩
  unfold s_X4_isNumberFrom
  refine ex_b (Q := fun m2 => TQ b L m m2 ∧ ((¬ m2 9 8 = 0) ∨ (m2 = m ∧ lo ≤ m 10 4 ∧ m 10 4 ≤ hi))) ?_ (fun m1 h1 => ex_if (fun h8 => ex_s ⟨h1.1, fun _ => h1.2.resolve_left (fun z => z h8)⟩) (fun _ => ex_s ⟨h1.1, fun z => absurd rfl z⟩))
  refine ex_if (fun _ => ex_if (fun _ => ?_) (fun h1 => ex_if (fun h2 => ex_s ⟨R, Or.inr ⟨rfl, Int32.not_lt.mp h1, h2⟩⟩) (fun _ => ?_))) (fun _ => ?_)
  · exact ex_b (F (k := 3) (by decide)) (fun m2 h2 => ex_s ⟨h2.1, Or.inl h2.2⟩)
  · exact ex_b (F (k := 3) (by decide)) (fun m2 h2 => ex_s ⟨h2.1, Or.inl h2.2⟩)
  · exact ex_b (F (k := 2) (by decide)) (fun m2 h2 => ex_s ⟨h2.1, Or.inl h2.2⟩)
theorem X_takeSign {m : Mem} {b L : Nat} {k x : Int32} (h : RQ m b L) (s : S10 m) (hx : x ≠ 10) : ∃ m2, s_X4_takeSign m k x = some m2 ∧ TQ b L m m2 := by
  unfold s_X4_takeSign
  exact ex_if (fun _ => ex_n (ex_s (TQ_2 h pf_r hx))) (fun _ => ex_b (X_fail h s) (fun _ q => ex_s q))
theorem X_takeShapeWord {m : Mem} {b L : Nat} (h : RQ m b L) (s : S10 m) : ∃ m2, s_X4_takeShapeWord m = some m2 ∧ TQ b L m m2 := by
  obtain ⟨hb, hj⟩ := RQ_b h
  obtain ⟨⟨c, hP⟩, -⟩ := id h
  unfold s_X4_takeShapeWord
  refine ex_if (fun _ => ex_k hb hj (ex_if (fun _ => ?_) (fun _ => ex_n (ex_s (TQ_2 h pf_r (by decide)))))) (fun _ => ?_)
  · exact ex_if (fun _ => ex_k hb hj (ex_if (fun _ => ex_k hb hj (ex_b (X_shapeOf hP) (fun r _ => ex_if (fun _ => ex_k hb hj (ex_b (X_open hP) (fun m3 h3 => ex_n (ex_s (TQ_2 (RQ_pg h h3.1 h3.2) (pg_pf h3.2) (by decide)))))) (fun _ => ex_b (X_fail h s) (fun _ q => ex_s q))))) (fun _ => ex_b (X_fail h s) (fun _ q => ex_s q)))) (fun _ => ex_b (X_fail h s) (fun _ q => ex_s q))
  · exact ex_if (fun _ => ex_k hb hj (ex_if (fun _ => ex_k hb hj (ex_b (X_shapeOf hP) (fun r _ => ex_if (fun _ => ex_k hb hj (ex_b (X_open hP) (fun m3 h3 => ex_n (ex_s (TQ_2 (RQ_pg h h3.1 h3.2) (pg_pf h3.2) (by decide)))))) (fun _ => ex_b (X_fail h s) (fun _ q => ex_s q))))) (fun _ => ex_b (X_fail h s) (fun _ q => ex_s q)))) (fun _ => ex_b (X_fail h s) (fun _ q => ex_s q))
theorem X_takeOpening {m : Mem} {b L : Nat} (h : RQ m b L) (s : S10 m) : ∃ m2, s_X4_takeOpening m = some m2 ∧ TQ b L m m2 := by
  unfold s_X4_takeOpening
  exact ex_if (fun _ => ex_n (ex_n (ex_s (TQ_2 (RQ_9 h (by decide)) pf_9 (by decide))))) (fun _ => ex_b (X_fail h s) (fun _ q => ex_s q))
theorem X_takeOne {m : Mem} {b L : Nat} (h : RQ m b L) (s : S10 m) : ∃ m2, s_X4_takeOne m = some m2 ∧ TQ b L m m2 := by
  obtain ⟨hb, hj⟩ := RQ_b h
  obtain ⟨⟨c, hP⟩, -⟩ := id h
  unfold s_X4_takeOne
  refine ex_if (fun _ => ex_b (X_takeOpening h s) (fun _ q => ex_s q)) (fun _ => ex_if (fun _ => ex_if (fun _ => ex_b (X_fail h s) (fun _ q => ex_s q)) (fun _ => ex_if (fun _ => ex_k hb hj (ex_b (X_room hP) (fun r _ => ex_if (fun _ => ex_b (X_fail h s) (fun _ q => ex_s q)) (fun _ => ex_k hb hj (ex_b (X_addPart hP) (fun m3 h3 => ex_n (ex_s ?_))))))) (fun _ => ex_b (X_fail h s) (fun _ q => ex_s q)))) (fun _ => ex_b (X_fail h s) (fun _ q => ex_s q)))
  exact TQ_2 (RQ_pg h ⟨c, h3.1⟩ h3.2) (pg_pf h3.2) (by decide)
theorem X_takeShapeEnd {m : Mem} {b L : Nat} (h : RQ m b L) (s : S10 m) : ∃ m2, s_X4_takeShapeEnd m = some m2 ∧ TQ b L m m2 := by
  obtain ⟨hb, hj⟩ := RQ_b h
  obtain ⟨⟨c, hP⟩, -⟩ := id h
  unfold s_X4_takeShapeEnd
  refine ex_if (fun _ => ex_k hb hj (ex_b (X_close hP) (fun m3 h3 => ex_n (ex_s ?_)))) (fun _ => ex_b (X_takeSign h s (by decide)) (fun _ q => ex_s q))
  exact TQ_2 (RQ_pg h ⟨c, h3.1⟩ h3.2) (pg_pf h3.2) (by decide)
theorem X_takeBody {m : Mem} {b L : Nat} (h : RQ m b L) (s : S10 m) : ∃ m2, s_X4_takeBody m = some m2 ∧ TQ b L m m2 := by
  unfold s_X4_takeBody
  exact ex_if (fun _ => ex_b (X_takeOne h s) (fun _ q => ex_s q)) (fun _ => ex_if (fun _ => ex_b (X_takeOne h s) (fun _ q => ex_s q)) (fun _ => ex_b (X_takeShapeEnd h s) (fun _ q => ex_s q)))
theorem X_takeTest {m : Mem} {b L : Nat} (h : RQ m b L) (s : S10 m) : ∃ m2, s_X4_takeTest m = some m2 ∧ TQ b L m m2 := by
  obtain ⟨hb, hj⟩ := RQ_b h
  obtain ⟨⟨c, hP⟩, -⟩ := id h
  unfold s_X4_takeTest
  have G : ∀ {j : Nat} {x y : Int32}, j ≠ 1 → y ≠ 10 → TQ b L m (sto (sto m 9 j x) 9 2 y) := fun h1 h2 => TQ_2 (RQ_9 h h1) pf_9 h2
  refine ex_if (fun _ => ex_k hb hj (ex_b (X_tell hP) (fun m3 h3 => ex_n (ex_s (TQ_2 (RQ_pg h ⟨c, h3.1⟩ h3.2) (pg_pf h3.2) (by decide)))))) (fun _ => ?_)
  refine ex_if (fun _ => ex_if (fun _ => ex_n (ex_n (ex_s (G (by decide) (by decide))))) (fun _ => ex_n (ex_n (ex_s (G (by decide) (by decide)))))) (fun _ => ?_)
  refine ex_if (fun _ => ex_if (fun _ => ex_n (ex_n (ex_s (G (by decide) (by decide))))) (fun _ => ex_n (ex_n (ex_s (G (by decide) (by decide)))))) (fun _ => ?_)
  exact ex_if (fun _ => ex_n (ex_n (ex_s (G (by decide) (by decide))))) (fun _ => ex_b (X_fail h s) (fun _ q => ex_s q))
theorem X_takeReference {m : Mem} {b L : Nat} (h : RQ m b L) (s : S10 m) : ∃ m2, s_X4_takeReference m = some m2 ∧ TQ b L m m2 := by
  obtain ⟨hb, hj⟩ := RQ_b h
  obtain ⟨⟨c, hP⟩, -⟩ := id h
  unfold s_X4_takeReference
  exact ex_if (fun _ => ex_k hb hj (ex_b (X_tell hP) (fun m3 h3 => ex_n (ex_s (TQ_2 (RQ_pg h ⟨c, h3.1⟩ h3.2) (pg_pf h3.2) (by decide)))))) (fun _ => ex_b (X_fail h s) (fun _ q => ex_s q))
theorem X_takeLastNumber {m : Mem} {b L : Nat} (h : RQ m b L) (s : S10 m) : ∃ m2, s_X4_takeLastNumber m = some m2 ∧ TQ b L m m2 := by
  unfold s_X4_takeLastNumber
  refine ex_2 (X_numFrom h s) (fun r m3 hq => ex_if (fun _ => ex_s hq.1) (fun hr => ?_))
  have e : m3 = m := (hq.2 hr).1
  subst e
  obtain ⟨hb, hj⟩ := RQ_b h
  obtain ⟨⟨c, hP⟩, -⟩ := id h
  exact ex_k hb hj (ex_b (X_tell hP) (fun m3 h3 => ex_n (ex_s (TQ_2 (RQ_pg h ⟨c, h3.1⟩ h3.2) (pg_pf h3.2) (by decide)))))
theorem stok_0 {k : Int32} (h : k = 2 ∨ k = 3) : stok (k * 64 + 0) := by
  rcases h with rfl | rfl <;> exact ⟨by decide, by decide⟩
theorem X_settleComma {m : Mem} {b L : Nat} (h : RQ m b L) (s : S10 m) : ∃ m2, s_X4_settleComma m = some m2 ∧ TQ b L m m2 := by
  obtain ⟨hb, hj⟩ := RQ_b h
  obtain ⟨⟨c, hP⟩, -⟩ := id h
  unfold s_X4_settleComma
  refine ex_if (fun _ => ex_s ⟨h, s, pf_r⟩) (fun _ => ex_k hb hj (ex_b (X_addStep hP (stok_0 (Or.inl rfl))) (fun m3 h3 => ex_n (ex_s ?_))))
  exact ⟨RQ_9 (RQ_pg h ⟨c, h3.1⟩ h3.2) (by decide), S10_j (S10_pg hb s h3.2) (by decide) (by decide), pf_t (pg_pf h3.2) pf_9⟩
theorem X_settleBar {m : Mem} {b L : Nat} (h : RQ m b L) (s : S10 m) : ∃ m2, s_X4_settleBar m = some m2 ∧ TQ b L m m2 := by
  obtain ⟨hb, hj⟩ := RQ_b h
  obtain ⟨⟨c, hP⟩, -⟩ := id h
  unfold s_X4_settleBar
  refine ex_if (fun _ => ex_s ⟨h, s, pf_r⟩) (fun _ => ex_k hb hj (ex_b (X_addStep hP (stok_0 (Or.inr rfl))) (fun m3 h3 => ex_n (ex_s ?_))))
  exact ⟨RQ_9 (RQ_pg h ⟨c, h3.1⟩ h3.2) (by decide), S10_j (S10_pg hb s h3.2) (by decide) (by decide), pf_t (pg_pf h3.2) pf_9⟩
theorem TQ_t {m1 m2 m3 : Mem} {b L : Nat} (p : pf b m1 m2) (h : TQ b L m2 m3) : TQ b L m1 m3 := ⟨h.1, h.2.1, pf_t p h.2.2⟩
theorem X_takeBehindItem {m : Mem} {b L : Nat} (h : RQ m b L) (s : S10 m) : ∃ m2, s_X4_takeBehindItem m = some m2 ∧ TQ b L m m2 := by
  unfold s_X4_takeBehindItem
  refine ex_n (ex_b (Q := fun _ => True) (ex_if (fun _ => ex_if (fun _ => ex_s trivial) (fun _ => ex_if (fun _ => ex_s trivial) (fun _ => ex_s trivial))) (fun _ => ex_if (fun _ => ex_s trivial) (fun _ => ex_s trivial))) (fun y _ => ?_))
  refine ex_if (fun _ => ?_) (fun _ => ex_if (fun _ => ?_) (fun _ => ex_if (fun _ => ex_b (X_fail h s) (fun _ q => ex_s q)) (fun _ => ?_)))
  · exact ex_b (X_settleComma h s) (fun m4 h4 => ex_if (fun _ => ex_n (ex_n (ex_s (TQ_2 (RQ_9 h4.1 (by decide)) (pf_t h4.2.2 pf_9) (by decide))))) (fun _ => ex_b (X_settleBar h4.1 h4.2.1) (fun m6 h6 => ex_if (fun _ => ex_n (ex_n (ex_s (TQ_2 (RQ_9 h6.1 (by decide)) (pf_t h4.2.2 (pf_t h6.2.2 pf_9)) (by decide))))) (fun _ => ex_if (fun _ => ex_n (ex_n (ex_s (TQ_2 (RQ_9 h6.1 (by decide)) (pf_t h4.2.2 (pf_t h6.2.2 pf_9)) (by decide))))) (fun _ => ex_b (X_takeShapeEnd h6.1 h6.2.1) (fun m8 h8 => ex_s (TQ_t (pf_t h4.2.2 h6.2.2) h8)))))))
  · exact ex_b (X_settleComma h s) (fun m4 h4 => ex_if (fun _ => ex_n (ex_n (ex_s (TQ_2 (RQ_9 h4.1 (by decide)) (pf_t h4.2.2 pf_9) (by decide))))) (fun _ => ex_b (X_settleBar h4.1 h4.2.1) (fun m6 h6 => ex_if (fun _ => ex_n (ex_n (ex_s (TQ_2 (RQ_9 h6.1 (by decide)) (pf_t h4.2.2 (pf_t h6.2.2 pf_9)) (by decide))))) (fun _ => ex_if (fun _ => ex_n (ex_n (ex_s (TQ_2 (RQ_9 h6.1 (by decide)) (pf_t h4.2.2 (pf_t h6.2.2 pf_9)) (by decide))))) (fun _ => ex_b (X_takeShapeEnd h6.1 h6.2.1) (fun m8 h8 => ex_s (TQ_t (pf_t h4.2.2 h6.2.2) h8)))))))
  · exact ex_b (X_settleComma h s) (fun m4 h4 => ex_if (fun _ => ex_n (ex_n (ex_s (TQ_2 (RQ_9 h4.1 (by decide)) (pf_t h4.2.2 pf_9) (by decide))))) (fun _ => ex_b (X_settleBar h4.1 h4.2.1) (fun m6 h6 => ex_if (fun _ => ex_n (ex_n (ex_s (TQ_2 (RQ_9 h6.1 (by decide)) (pf_t h4.2.2 (pf_t h6.2.2 pf_9)) (by decide))))) (fun _ => ex_if (fun _ => ex_n (ex_n (ex_s (TQ_2 (RQ_9 h6.1 (by decide)) (pf_t h4.2.2 (pf_t h6.2.2 pf_9)) (by decide))))) (fun _ => ex_b (X_takeShapeEnd h6.1 h6.2.1) (fun m8 h8 => ex_s (TQ_t (pf_t h4.2.2 h6.2.2) h8)))))))
theorem X_takeBehindOne {m : Mem} {b L : Nat} (h : RQ m b L) (s : S10 m) : ∃ m2, s_X4_takeBehindOne m = some m2 ∧ TQ b L m m2 := by
  unfold s_X4_takeBehindOne
  exact ex_if (fun _ => ex_n (ex_s (TQ_2 h pf_r (by decide)))) (fun _ => ex_b (X_takeBehindItem h s) (fun _ q => ex_s q))
theorem i05 {x : Int32} (h0 : 0 ≤ x) (h5 : x ≤ 5) : ∃ q, q ≤ 5 ∧ x = nI q := by
  have a0 := le_i.mp h0
  rw [toInt_0] at a0
  obtain ⟨q, hq, e, et⟩ := int_nI a0
  have a5 := le_i.mp h5
  rw [et, show (5 : Int32).toInt = 5 from rfl] at a5
  exact ⟨q, by omega, e⟩
theorem X_takeLeast {m : Mem} {b L : Nat} (h : RQ m b L) (s : S10 m) : ∃ m2, s_X4_takeLeast m = some m2 ∧ TQ b L m m2 := by
  unfold s_X4_takeLeast
  refine ex_2 (X_numFrom h s) (fun r m3 hq => ex_if (fun _ => ex_s hq.1) (fun hr => ex_n (ex_n (ex_s ?_))))
  obtain ⟨e, h0, h5⟩ := hq.2 hr
  have e : m3 = m := e
  subst e
  refine ⟨RQ_9 (RQ_9 h (by decide)) (by decide), fun _ => ?_, pf_t pf_9 pf_9⟩
  rw [rd_j (by decide), rd_s]
  exact i05 h0 h5
theorem X_takeMost {m : Mem} {b L : Nat} (h : RQ m b L) (s : S10 m) (h10 : m 9 2 = 10) : ∃ m2, s_X4_takeMost m = some m2 ∧ TQ b L m m2 := by
  unfold s_X4_takeMost
  refine ex_2 (X_numFrom h s) (fun r m3 hq => ex_if (fun _ => ex_s hq.1) (fun hr => ?_))
  obtain ⟨e, h0, h5⟩ := hq.2 hr
  have e : m3 = m := e
  subst e
  obtain ⟨hb, hj⟩ := RQ_b h
  obtain ⟨⟨c, hP⟩, -⟩ := id h
  obtain ⟨q, hq5, eq⟩ := s h10
  rw [eq] at h0
  have z : (0 : Int32) ≤ m3 10 4 := Int32.le_trans (show (0 : Int32) ≤ nI q from nI_le (a := 0) (by omega) (by omega)) h0
  obtain ⟨w, hw5, ew⟩ := i05 z h5
  have hst : stok ((1 : Int32) * 64 + (nI q * 8 + nI w)) := by
    have e0 : (1 : Int32) * 64 + (nI q * 8 + nI w) = nI (64 + (q * 8 + w)) := by
      rw [show (8 : Int32) = nI 8 from rfl, nI_mul, nI_add, show (1 : Int32) * 64 = nI 64 from rfl, nI_add]
    rw [e0]
    unfold stok
    rw [nI_toInt (by omega)]
    exact ⟨by omega, fun z => by omega⟩
  rw [eq, ew]
  exact ex_k hb hj (ex_b (X_addStep hP hst) (fun m5 h5 => ex_n (ex_s (TQ_2 (RQ_pg h ⟨c, h5.1⟩ h5.2) (pg_pf h5.2) (by decide)))))
theorem X_takeToken {m : Mem} {b L : Nat} (h : RQ m b L) (s : S10 m) : ∃ m2, s_X4_takeToken m = some m2 ∧ TQ b L m m2 := by
  have T : ∀ {o : Option Mem}, (∃ m2, o = some m2 ∧ TQ b L m m2) → ∃ m2, (o.bind fun m3 => some m3) = some m2 ∧ TQ b L m m2 := fun h => ex_b h (fun _ q => ex_s q)
  unfold s_X4_takeToken
  refine ex_if (fun _ => T (X_takeShapeWord h s)) (fun _ => ex_if (fun _ => T (X_takeSign h s (by decide))) (fun _ => ex_if (fun _ => T (X_takeBody h s)) (fun _ => ex_if (fun _ => T (X_takeOne h s)) (fun _ => ?_))))
  refine ex_if (fun _ => T (X_takeTest h s)) (fun _ => ex_if (fun _ => T (X_takeReference h s)) (fun _ => ex_if (fun _ => T (X_takeSign h s (by decide))) (fun _ => ex_if (fun _ => T (X_takeLastNumber h s)) (fun _ => ?_))))
  refine ex_if (fun _ => T (X_takeBehindOne h s)) (fun _ => ex_if (fun _ => T (X_takeLeast h s)) (fun _ => ex_if (fun h10 => T (X_takeMost h s h10)) (fun _ => ?_)))
  exact ex_if (fun _ => T (X_takeSign h s (by decide))) (fun _ => ex_if (fun _ => T (X_takeBehindItem h s)) (fun _ => T (X_takeSign h s (by decide))))
/-! tokens -/
theorem X_byteAt {m : Mem} {x : Int32} : ∃ r, s_X3_byteAt m x = some r ∧ True := by
  unfold s_X3_byteAt
  refine ex_if (fun _ => ex_s trivial) (fun h0 => ex_if (fun _ => ex_s trivial) (fun _ => ex_if (fun _ => ex_s trivial) (fun h4 => ex_ck (zin_i ?_ ?_) (ex_s trivial))))
  · have := le_i.mp (Int32.not_lt.mp h0); rwa [toInt_0] at this
  · have := lt_i.mp (Int32.not_le.mp h4)
    rwa [show (400 : Int32).toInt = 400 from rfl] at this
theorem X_isFigure {x : Int32} : ∃ r, s_X5_isFigure x = some r ∧ True := by
  unfold s_X5_isFigure
  exact ex_if (fun _ => ex_s trivial) (fun _ => ex_if (fun _ => ex_s trivial) (fun _ => ex_s trivial))
theorem X_isSign {x : Int32} : ∃ r, s_X5_isSign x = some r ∧ True := by
  unfold s_X5_isSign
  exact ex_if (fun _ => ex_s trivial) (fun _ => ex_if (fun _ => ex_s trivial) (fun _ => ex_if (fun _ => ex_s trivial) (fun _ => ex_if (fun _ => ex_s trivial) (fun _ => ex_if (fun _ => ex_s trivial) (fun _ => ex_if (fun _ => ex_s trivial) (fun _ => ex_if (fun _ => ex_s trivial) (fun _ => ex_if (fun _ => ex_s trivial) (fun _ => ex_if (fun _ => ex_s trivial) (fun _ => ex_if (fun _ => ex_s trivial) (fun _ => ex_if (fun _ => ex_s trivial) (fun _ => ex_s trivial)))))))))))
theorem len_6 : s_J0_length_8abf5 = some 6 := by decide
theorem X_closedText {m : Mem} : ∃ r, s_X5_isClosedText m = some r ∧ True := by
  unfold s_X5_isClosedText l_X5_isClosedText_2
  refine forG 6 (fun j a => a = nI j) _ (fun j a hj ha => ?_) (fun a ha => ?_) FU 0 0 (Nat.zero_le _) rfl (FU_lt (by omega))
  · unfold t_X5_isClosedText_2
    rw [len_6, ha]
    refine st_b (Q := fun r => r = 6) ⟨_, rfl, rfl⟩ (fun r hr => ?_)
    subst hr
    refine st_if (fun z => absurd z (nI_ge (b := 6) hj (by decide))) (fun _ => st_b X_byteAt (fun r5 _ => st_b (Q := fun _ => True) ?_ (fun r7 _ => st_if (fun _ => st_n (st_l nI_s1)) (fun _ => st_r trivial))))
    rcases (show j = 0 ∨ j = 1 ∨ j = 2 ∨ j = 3 ∨ j = 4 ∨ j = 5 by omega) with rfl | rfl | rfl | rfl | rfl | rfl
    · exact ⟨99, by decide, trivial⟩
    · exact ⟨108, by decide, trivial⟩
    · exact ⟨111, by decide, trivial⟩
    · exact ⟨115, by decide, trivial⟩
    · exact ⟨101, by decide, trivial⟩
    · exact ⟨100, by decide, trivial⟩
  · unfold t_X5_isClosedText_2
    rw [len_6, ha]
    exact ⟨1, (bind_s).trans (if_pos (show (6 : Int32) ≤ nI 6 by decide)), trivial⟩
/-- what a token may change -/
theorem X_become {m : Mem} {b L q w : Nat} {k : Int32} (h : RQ m b L) (s : S10 m) (hp : m 10 3 = nI q) (hq : q + w ≤ 406) : ∃ m2, s_X5_become m k (nI w) = some m2 ∧ TQ b L m m2 := by
  unfold s_X5_become
  refine ex_n (ex_n (ex_s ?_))
  have e : (sto m 10 2 k) 10 3 = nI q := by rw [rd_j (by decide)]; exact hp
  rw [e, nI_add]
  exact ⟨RQ_n (RQ_10 h (by decide)) (by omega), S10_10 (S10_10 s), pf_t pf_10 pf_10⟩
theorem X_readNumber {m : Mem} {b L q : Nat} (h : RQ m b L) (s : S10 m) (hp : m 10 3 = nI q) (hq : q ≤ 400) : ∃ m2, s_X5_readNumber m = some m2 ∧ TQ b L m m2 := by
  unfold s_X5_readNumber
  refine ex_b X_byteAt (fun r _ => ex_b (Q := fun _ => True) (ex_if (fun _ => ex_s trivial) (fun _ => ex_s trivial)) (fun y3 _ => ?_))
  refine ex_b (Q := fun y => ∃ g, g ≤ 1 ∧ y = nI (q + g)) (ex_if (fun _ => ex_s ⟨0, by omega, hp⟩) (fun _ => ex_s ⟨1, by omega, by rw [hp]; exact nI_s1⟩)) (fun y4 h4 => ?_)
  obtain ⟨g, hg, e4⟩ := h4
  refine ex_2 (Q := fun z => ∃ i, i ≤ 5 ∧ z.1 = nI i) ?_ (fun y17 y18 hz => ?_)
  · unfold l_X5_readNumber_45
    refine forG 5 (fun j a => a.1 = nI j) _ (fun j a hj ha => ?_) (fun a ha => ?_) FU 0 (0, 0) (Nat.zero_le _) rfl (FU_lt (by omega))
    · unfold t_X5_readNumber_45
      rw [ha]
      refine st_if (fun _ => st_r ⟨j, by omega, rfl⟩) (fun _ => st_b X_byteAt (fun r8 _ => st_b X_isFigure (fun r10 _ => st_if (fun _ => st_r ⟨j, by omega, rfl⟩) (fun _ => st_b X_byteAt (fun r12 _ => st_n (st_n (st_l nI_s1)))))))
    · unfold t_X5_readNumber_45
      rw [ha]
      exact ⟨_, if_pos (by decide), 5, by omega, rfl⟩
  · obtain ⟨i, hi, e17⟩ := hz
    have e17 : y17 = nI i := e17
    refine ex_b (Q := fun _ => True) (ex_if (fun _ => ex_s trivial) (fun _ => ex_s trivial)) (fun y19 _ => ex_n ?_)
    have e3 : (sto m 10 4 y19) 10 3 = nI q := by rw [rd_j (by decide)]; exact hp
    have ew : y4 - (sto m 10 4 y19) 10 3 + y17 = nI (g + i) := by
      rw [e3, e4, e17, pk_sub (by omega), show q + g - q = g by omega, nI_add]
    rw [ew]
    have F : ∀ {k : Int32}, ∃ m2, ((s_X5_become (sto m 10 4 y19) k (nI (g + i))).bind fun m3 => some m3) = some m2 ∧ TQ b L m m2 := fun {k} => ex_b (X_become (RQ_10 h (by decide)) (S10_10 s) e3 (by omega)) (fun m3 h3 => ex_s (TQ_t pf_10 h3))
    exact ex_if (fun _ => F) (fun _ => ex_if (fun _ => F) (fun _ => F))
theorem X_byteAt0 {m : Mem} {x : Int32} : ∃ r, s_X3_byteAt m x = some r ∧ (0 ≤ r → ¬ m 7 1 ≤ x) := by
  obtain ⟨r, h, -⟩ := X_byteAt (m := m) (x := x)
  refine ⟨r, h, fun h0 hle => ?_⟩
  unfold s_X3_byteAt at h
  by_cases h1 : x < 0
  · rw [if_pos h1] at h
    rw [← Option.some.inj h] at h0
    exact absurd h0 (by decide)
  · rw [if_neg h1, if_pos hle] at h
    rw [← Option.some.inj h] at h0
    exact absurd h0 (by decide)
theorem X_advance {m : Mem} {b L : Nat} (h : RQ m b L) (s : S10 m) : ∃ m2, s_X5_advance m = some m2 ∧ TQ b L m m2 := by
  obtain ⟨-, ⟨n, hn, en⟩, hL, hL4⟩ := id h
  unfold s_X5_advance
  refine ex_n (ex_b (Q := fun y => ∃ q, q ≤ 406 ∧ y = nI q) ?_ (fun y8 h8 => ?_))
  · unfold l_X5_advance_5
    rw [en]
    rcases Nat.lt_or_ge L n with hlt | hge
    · refine forG 1 (fun j a => a = nI n) _ (fun j a hj ha => ?_) (fun a ha => ?_) FU 0 (nI n) (Nat.zero_le _) rfl (FU_lt (by omega))
      · unfold t_X5_advance_5
        rw [ha, hL]
        exact Or.inr ⟨_, if_pos (nI_le (by omega) (by omega)), n, hn, rfl⟩
      · unfold t_X5_advance_5
        rw [ha, hL]
        exact ⟨_, if_pos (nI_le (by omega) (by omega)), n, hn, rfl⟩
    · refine forG L (fun j a => a = nI j) _ (fun j a hj ha => ?_) (fun a ha => ?_) FU n (nI n) hge rfl (FU_lt (by omega))
      · unfold t_X5_advance_5
        rw [ha, hL]
        exact st_if (fun z => absurd z (nI_ge hj (by omega))) (fun _ => st_b X_byteAt (fun r _ => st_if (fun _ => st_n (st_l nI_s1)) (fun _ => st_r ⟨j, by omega, rfl⟩)))
      · unfold t_X5_advance_5
        rw [ha, hL]
        exact ⟨_, if_pos (nI_le (Nat.le_refl _) (by omega)), L, by omega, rfl⟩
  · obtain ⟨q, hq, rfl⟩ := h8
    refine ex_n ?_
    generalize hm9 : sto m 10 3 (nI q) = m9
    have e3 : m9 10 3 = nI q := by rw [← hm9]; exact rd_s
    have e7 : m9 7 1 = nI L := by rw [← hm9, rd_o (by decide)]; exact hL
    have h9 : RQ m9 b L := by rw [← hm9]; exact RQ_10 h (by decide)
    have s9 : S10 m9 := by rw [← hm9]; exact S10_10 s
    have p9 : pf b m m9 := by rw [← hm9]; exact pf_10
    have BE : ∀ {k : Int32} {w : Nat}, q + w ≤ 406 → ∃ m2, ((s_X5_become m9 k (nI w)).bind fun m3 => some m3) = some m2 ∧ TQ b L m m2 := fun {k w} hw => ex_b (X_become h9 s9 e3 hw) (fun m3 h3 => ex_s (TQ_t p9 h3))
    refine ex_b X_byteAt0 (fun r11 hr => ex_if (fun h0 => ?_) (fun _ => BE (k := 0) (w := 0) (by omega)))
    have hqL : q < L := by
      have := hr h0
      rw [e7] at this
      rcases Nat.lt_or_ge q L with h | h
      · exact h
      · exact absurd (nI_le h (by omega)) this
    have RN : ∃ m2, ((s_X5_readNumber m9).bind fun m3 => some m3) = some m2 ∧ TQ b L m m2 := ex_b (X_readNumber h9 s9 e3 (by omega)) (fun m3 h3 => ex_s (TQ_t p9 h3))
    have LN : ∀ {k : Int32}, ∃ m2, ((s_J0_length_8abf5).bind fun r49 => (s_X5_become m9 k r49).bind fun m51 => some m51) = some m2 ∧ TQ b L m m2 := fun {k} => ex_b (Q := fun r => r = 6) ⟨6, len_6, rfl⟩ (fun r hr => by subst hr; exact BE (k := k) (w := 6) (by omega))
    have SG : ∃ m2, ((s_X5_isSign r11).bind fun r17 => (if r17 = 0 then ((s_X5_become m9 1 1).bind fun m19 => some m19) else ((s_X5_become m9 r11 1).bind fun m21 => some m21))) = some m2 ∧ TQ b L m m2 := ex_b X_isSign (fun r _ => ex_if (fun _ => BE (k := 1) (w := 1) (by omega)) (fun _ => BE (k := r11) (w := 1) (by omega)))
    refine ex_if (fun _ => ?_) (fun _ => ex_if (fun _ => ?_) (fun _ => ?_))
    · exact ex_if (fun _ => RN) (fun _ => ex_b X_isFigure (fun r _ => ex_if (fun _ => ex_if (fun _ => ex_b X_closedText (fun r47 _ => ex_if (fun _ => LN) (fun _ => LN))) (fun _ => ex_if (fun _ => ex_b X_byteAt (fun r24 _ => ex_if (fun _ => ex_b X_byteAt (fun r33 _ => ex_if (fun _ => BE (k := 5) (w := 3) (by omega)) (fun _ => SG))) (fun _ => SG))) (fun _ => SG))) (fun _ => RN)))
    · exact ex_if (fun _ => RN) (fun _ => ex_b X_isFigure (fun r _ => ex_if (fun _ => ex_if (fun _ => ex_b X_closedText (fun r47 _ => ex_if (fun _ => LN) (fun _ => LN))) (fun _ => ex_if (fun _ => ex_b X_byteAt (fun r24 _ => ex_if (fun _ => ex_b X_byteAt (fun r33 _ => ex_if (fun _ => BE (k := 5) (w := 3) (by omega)) (fun _ => SG))) (fun _ => SG))) (fun _ => SG))) (fun _ => RN)))
    · refine ex_n (ex_b (X_become (w := 1) (RQ_10 h9 (by decide)) (S10_10 s9) (q := q) ?_ (by omega)) (fun m3 h3 => ex_s (TQ_t (pf_t p9 pf_10) h3)))
      rw [rd_j (by decide)]
      exact e3
/-! the whole text -/
theorem X_linkShapes {m : Mem} {b L : Nat} (h : RQ m b L) : ∃ m2, s_X4_linkShapes m = some m2 ∧ RQ m2 b L ∧ pf b m m2 := by
  obtain ⟨hb, hj⟩ := RQ_b h
  obtain ⟨⟨c, hP⟩, -⟩ := id h
  unfold s_X4_linkShapes
  refine ex_k hb hj (ex_2 (X_link hP) (fun r3 m4 h4 => ?_))
  obtain ⟨hP4, g4⟩ := h4
  have h4 := RQ_pg h ⟨c, hP4⟩ g4
  refine ex_if (fun _ => ex_k hb (RQ_b h4).2 (ex_b (X_reach hP4) (fun m7 h7 => ?_))) (fun _ => ex_n (ex_n (ex_s ⟨RQ_9 (RQ_9 h4 (by decide)) (by decide), pf_t (pg_pf g4) (pf_t pf_9 pf_9)⟩)))
  obtain ⟨hP7, g7⟩ := h7
  have h7 := RQ_pg h4 ⟨c, hP7⟩ g7
  have p7 := pf_t (pg_pf g4) (pg_pf g7)
  refine ex_k hb (RQ_b h7).2 (ex_b (X_circle hP7) (fun r10 _ => ex_if (fun _ => ex_k hb (RQ_b h7).2 (ex_b (X_levels hP7) (fun m13 h13 => ex_s ⟨RQ_pg h7 ⟨c, h13.1⟩ h13.2, pf_t p7 (pg_pf h13.2)⟩))) (fun _ => ex_n (ex_n (ex_s ⟨RQ_9 (RQ_9 h7 (by decide)) (by decide), pf_t p7 (pf_t pf_9 pf_9)⟩)))))
/-- a text's cells, before it is read anew -/
def B0 (m : Mem) (b : Nat) : Prop := (∃ c, BI m b c) ∧ (∃ q, q ≤ 146 ∧ m b 1 = nI q) ∧ ∃ q, q < 36 ∧ m b 2 = nI q
theorem X_clear {m : Mem} {b : Nat} (hb : isb b) (hj : m 9 1 = nI b) (h : B0 m b) : ∃ m2, s_X0_clear m b = some m2 ∧ PB m2 b 0 ∧ pg b m m2 := by
  obtain ⟨⟨c, hB⟩, h1, h2⟩ := h
  have hP : PB m b c := ⟨hb, hj, hB, h1, h2⟩
  have hbb := isb_e hb
  unfold s_X0_clear
  refine ex_n (ex_n (ex_n (ex_ck (by decide) (ex_n (ex_s ⟨?_, ?_⟩)))))
  · exact PB_s7 (p := 0) (PB_2 (q := 0) (PB_1 (q := 0) (PB_0 (c2 := 0) hP (by omega) (fun s hs => absurd hs (by omega))) (by omega)) (by omega)) (by omega)
  · exact pg_t pg_b0 (pg_t pg_b0 (pg_t pg_b0 (pg_b (by omega))))
theorem X_readText {m : Mem} {b L : Nat} (hb : isb b) (h0 : B0 m b) (hL : m 7 1 = nI L) (hL4 : L ≤ 400) : ∃ m2, s_X4_readText m b = some m2 ∧ RQ m2 b L ∧ pf b m m2 := by
  have hbb := isb_e hb
  unfold s_X4_readText
  refine ex_n (ex_k hb rd_s (ex_b (X_clear hb rd_s ?_) (fun m4 h4 => ?_)))
  · obtain ⟨⟨c, hB⟩, h1, h2⟩ := h0
    unfold B0 BI at *
    rw [rd_o (a2 := b) (by omega), rd_o (a2 := b + 2) (by omega), rd_o (a2 := b + 7) (by omega), rd_o (a2 := b + 8) (by omega)]
    exact ⟨⟨c, hB⟩, h1, h2⟩
  · obtain ⟨hP4, g4⟩ := h4
    have p4 : pf b m m4 := pf_t pf_9 (pg_pf g4)
    have hL2 : m4 7 1 = nI L := by rw [p4 7 (by decide) (by decide) (by omega)]; exact hL
    have h6 : RQ (sto m4 10 1 0) b L := ⟨⟨0, PB_cell hP4 (fun e => absurd e (by decide)) (by omega) (by omega) (by omega) (by omega)⟩, ⟨0, by omega, rd_s⟩, by rw [rd_o (by decide)]; exact hL2, hL4⟩
    unfold s_X5_rewind
    refine ex_b (Q := fun m6 => m6 = sto m4 10 1 0) ⟨_, rfl, rfl⟩ (fun m6 e6 => ?_)
    subst e6
    refine ex_n (ex_n (ex_n (ex_n (ex_n (ex_n (ex_b (Q := fun m2 => RQ m2 b L ∧ pf b m m2) ?_ (fun m27 h27 => ex_if (fun _ => ex_b (X_linkShapes h27.1) (fun m29 h29 => ex_s ⟨h29.1, pf_t h27.2 h29.2⟩)) (fun _ => ex_s h27))))))))
    have h12 := RQ_9 (j := 9) (x := 0) (RQ_9 (j := 8) (x := 0) (RQ_9 (j := 5) (x := 0) (RQ_9 (j := 4) (x := 0) (RQ_9 (j := 3) (x := 0) (RQ_9 (j := 2) (x := 0) h6 (by decide)) (by decide)) (by decide)) (by decide)) (by decide)) (by decide)
    have s12 : S10 (sto (sto (sto (sto (sto (sto (sto m4 10 1 0) 9 2 0) 9 3 0) 9 4 0) 9 5 0) 9 8 0) 9 9 0) := S10_j (S10_j (S10_j (S10_j (S10_j (S10_x (by decide)) (by decide) (by decide)) (by decide) (by decide)) (by decide) (by decide)) (by decide) (by decide)) (by decide) (by decide)
    have p12 : pf b m (sto (sto (sto (sto (sto (sto (sto m4 10 1 0) 9 2 0) 9 3 0) 9 4 0) 9 5 0) 9 8 0) 9 9 0) := pf_t p4 (pf_t pf_10 (pf_t pf_9 (pf_t pf_9 (pf_t pf_9 (pf_t pf_9 (pf_t pf_9 pf_9))))))
    unfold l_X4_readText_51
    refine forG 401 (fun j a => a.1 = nI j ∧ TQ b L m a.2) _ (fun j a hj ha => ?_) (fun a ha => ?_) FU 0 (0, _) (Nat.zero_le _) ⟨rfl, h12, s12, p12⟩ (FU_lt (by omega))
    · obtain ⟨e1, h14, s14, p14⟩ := ha
      unfold t_X4_readText_51
      rw [e1]
      refine st_if (fun _ => st_r ⟨h14, p14⟩) (fun _ => st_if (fun _ => st_if (fun _ => st_r ⟨h14, p14⟩) (fun _ => st_b (X_advance h14 s14) (fun m16 h16 => ?_))) (fun _ => st_r ⟨h14, p14⟩))
      refine st_if (fun _ => st_b (X_fail h16.1 h16.2.1) (fun m21 h21 => st_n (st_l ⟨nI_s1, TQ_t (pf_t p14 h16.2.2) h21⟩))) (fun _ => st_b (X_takeToken h16.1 h16.2.1) (fun m18 h18 => st_n (st_l ⟨nI_s1, TQ_t (pf_t p14 h16.2.2) h18⟩)))
    · unfold t_X4_readText_51
      rw [ha.1]
      exact ⟨_, if_pos (by decide), ha.2.1, ha.2.2.2⟩
