/-! what a call that changes something forgets -/
theorem of_b {α β : Type} {o : Option α} {f : α → Option β} {q : β} (e : o.bind f = some q) : ∃ a, o = some a ∧ f a = some q := by
  cases h : o with
  | none => rw [h] at e; cases e
  | some a => rw [h] at e; exact ⟨a, rfl, e⟩
theorem of_2 {α β γ : Type} {o : Option (α × β)} {f : α → β → Option γ} {q : γ} (e : zb2 o f = some q) : ∃ a b, o = some (a, b) ∧ f a b = some q := by
  cases h : o with
  | none => rw [h] at e; cases e
  | some a => rw [h] at e; exact ⟨a.1, a.2, rfl, e⟩
theorem of_ck {α : Type} {b : Prop} [Decidable b] {k : Option α} {q : α} (e : ck b k = some q) : k = some q := by
  by_cases h : b
  · rw [ck_p h] at e; exact e
  · exfalso
    have : ck b k = none := if_neg h
    rw [this] at e
    cases e
def NNG (r : Int32) : Prop := ¬ r = -1 ∧ ¬ r = -2 ∧ ¬ r = -3
theorem nng {x : Nat} (h : x < 2 ^ 31) : NNG (nI x) := by
  have t := nI_toInt h
  refine ⟨fun z => ?_, fun z => ?_, fun z => ?_⟩
  · rw [z, show (-1 : Int32).toInt = -1 from rfl] at t; omega
  · rw [z, show (-2 : Int32).toInt = -2 from rfl] at t; omega
  · rw [z, show (-3 : Int32).toInt = -3 from rfl] at t; omega
def CLX (m : Mem) : Prop := m 39 4 = 0 ∧ m 39 5 = 0
theorem CLX_of {m m2 : Mem} (h : m2 39 = (sto (sto m 39 4 0) 39 5 0) 39) : CLX m2 := by
  unfold CLX
  rw [h, rd_j (show (4 : Nat) ≠ 5 by decide), rd_s, rd_s]
  exact ⟨rfl, rfl⟩
theorem sj39 : SJ 39 := by unfold SJ; decide
theorem fl_node {m m2 : Mem} {a b r : Int32} (e : s_X6_node m a b = some (r, m2)) (h : NNG r) : CLX m2 := by
  unfold s_X6_node at e
  by_cases c : m 1 0 < 10
  · rw [if_pos c, show s_X2_forget m = some (sto (sto m 39 4 0) 39 5 0) from rfl, bind_s] at e
    obtain ⟨r4, m5, e5, e⟩ := of_2 e
    have f := kf_s_X1_addNode_SJ _ e5 39 sj39
    have e := (Prod.mk.inj (Option.some.inj e)).2
    rw [← e]
    exact CLX_of f
  · rw [if_neg c] at e
    exact absurd (Prod.mk.inj (Option.some.inj e)).1.symm h.2.2
theorem fl_value {m m2 : Mem} {a b c r : Int32} (e : s_X6_value m a b c = some (r, m2)) (h : NNG r) : CLX m2 := by
  unfold s_X6_value at e
  obtain ⟨r2, -, e⟩ := of_b e
  by_cases c : r2 = 0
  · rw [if_pos c] at e
    exact absurd (Prod.mk.inj (Option.some.inj e)).1.symm h.1
  · rw [if_neg c, show s_X2_forget m = some (sto (sto m 39 4 0) 39 5 0) from rfl, bind_s] at e
    obtain ⟨m6, e6, e⟩ := of_b e
    have f := kf_s_X1_setValue_SJ _ e6 39 sj39
    have e := (Prod.mk.inj (Option.some.inj e)).2
    rw [← e]
    exact CLX_of f
theorem fl_edge {m m2 : Mem} {a b c r : Int32} (e : s_X6_edge m a b c = some (r, m2)) (h : NNG r) : CLX m2 := by
  unfold s_X6_edge at e
  obtain ⟨r2, -, e⟩ := of_b e
  by_cases c1 : r2 = 0
  · rw [if_pos c1] at e
    exact absurd (Prod.mk.inj (Option.some.inj e)).1.symm h.1
  rw [if_neg c1] at e
  obtain ⟨r4, -, e⟩ := of_b e
  by_cases c2 : r4 < 0
  · rw [if_pos c2] at e
    by_cases c3 : 40 ≤ m 1 1
    · rw [if_pos c3] at e
      exact absurd (Prod.mk.inj (Option.some.inj e)).1.symm h.2.2
    · rw [if_neg c3] at e
      have e := of_ck e
      by_cases c4 : m 4 (Int32.toNatClampNeg a) < 5
      · rw [if_pos c4, show s_X2_forget m = some (sto (sto m 39 4 0) 39 5 0) from rfl, bind_s] at e
        obtain ⟨m9, e9, e⟩ := of_b e
        have f := kf_s_X1_addEdge_SJ _ e9 39 sj39
        have e := (Prod.mk.inj (Option.some.inj e)).2
        rw [← e]
        exact CLX_of f
      · rw [if_neg c4] at e
        exact absurd (Prod.mk.inj (Option.some.inj e)).1.symm h.2.2
  · rw [if_neg c2] at e
    exact absurd (Prod.mk.inj (Option.some.inj e)).1.symm h.2.1
theorem fl_cut {m m2 : Mem} {a b c r : Int32} (e : s_X6_cut m a b c = some (r, m2)) (h : NNG r) : CLX m2 := by
  unfold s_X6_cut at e
  obtain ⟨r2, -, e⟩ := of_b e
  by_cases c1 : r2 = 0
  · rw [if_pos c1] at e
    exact absurd (Prod.mk.inj (Option.some.inj e)).1.symm h.1
  rw [if_neg c1] at e
  obtain ⟨r4, -, e⟩ := of_b e
  by_cases c2 : 0 ≤ r4
  · rw [if_pos c2, show s_X2_forget m = some (sto (sto m 39 4 0) 39 5 0) from rfl, bind_s] at e
    obtain ⟨m8, e8, e⟩ := of_b e
    have f := kf_s_X1_removeEdge_SJ _ e8 39 sj39
    have e := (Prod.mk.inj (Option.some.inj e)).2
    rw [← e]
    exact CLX_of f
  · rw [if_neg c2] at e
    exact absurd (Prod.mk.inj (Option.some.inj e)).1.symm h.2.1
theorem fl_reset {m m2 : Mem} {r : Int32} (e : s_X6_reset m = some (r, m2)) : CLX m2 := by
  unfold s_X6_reset at e
  simp only [bn] at e
  obtain ⟨m3, -, e⟩ := of_b e
  rw [show s_X2_forget m3 = some (sto (sto m3 39 4 0) 39 5 0) from rfl, bind_s] at e
  have e := (Prod.mk.inj (Option.some.inj e)).2
  rw [← e]
  exact CLX_of (rd_o (by decide))
theorem fm_node {m m2 : Mem} {a b r : Int32} (e : s_X7_node m a b = some (r, m2)) (h : NNG r) : m2 0 6 = 0 := by
  unfold s_X7_node at e
  simp only [bn] at e
  by_cases c : m 0 0 = 10
  · rw [if_pos c] at e
    exact absurd (Prod.mk.inj (Option.some.inj e)).1.symm h.2.2
  · rw [if_neg c] at e
    have e := of_ck (of_ck (of_ck e))
    have e := (Prod.mk.inj (Option.some.inj e)).2
    rw [← e, rd_s]
theorem fm_value {m m2 : Mem} {a b c r : Int32} (e : s_X7_value m a b c = some (r, m2)) (h : NNG r) : m2 0 6 = 0 := by
  unfold s_X7_value at e
  simp only [bn] at e
  obtain ⟨r2, -, e⟩ := of_b e
  by_cases c1 : r2 = 0
  · rw [if_pos c1] at e
    exact absurd (Prod.mk.inj (Option.some.inj e)).1.symm h.1
  · rw [if_neg c1] at e
    have e := of_ck (of_ck e)
    have e := (Prod.mk.inj (Option.some.inj e)).2
    rw [← e, rd_s]
theorem fm_cut {m m2 : Mem} {a b c r : Int32} (e : s_X7_cut m a b c = some (r, m2)) (h : NNG r) : m2 0 6 = 0 := by
  unfold s_X7_cut at e
  simp only [bn] at e
  obtain ⟨r2, -, e⟩ := of_b e
  by_cases c1 : r2 = 0
  · rw [if_pos c1] at e
    exact absurd (Prod.mk.inj (Option.some.inj e)).1.symm h.1
  rw [if_neg c1] at e
  obtain ⟨r4, -, e⟩ := of_b e
  by_cases c2 : r4 = 0
  · rw [if_pos c2] at e
    exact absurd (Prod.mk.inj (Option.some.inj e)).1.symm h.1
  rw [if_neg c2] at e
  obtain ⟨r6, -, e⟩ := of_b e
  by_cases c3 : r6 = 0
  · rw [if_pos c3] at e
    exact absurd (Prod.mk.inj (Option.some.inj e)).1.symm h.1
  rw [if_neg c3] at e
  obtain ⟨r8, -, e⟩ := of_b e
  by_cases c4 : r8 = 0
  · rw [if_pos c4] at e
    exact absurd (Prod.mk.inj (Option.some.inj e)).1.symm h.2.1
  rw [if_neg c4] at e
  have e := of_ck (of_ck e)
  obtain ⟨r13, -, e⟩ := of_b e
  obtain ⟨m25, -, e⟩ := of_b e
  obtain ⟨r28, -, e⟩ := of_b e
  have e := (Prod.mk.inj (Option.some.inj e)).2
  rw [← e, rd_s]
theorem fm_edge {m m2 : Mem} {a b c r : Int32} (e : s_X7_edge m a b c = some (r, m2)) (h : NNG r) : m2 0 6 = 0 := by
  unfold s_X7_edge at e
  simp only [bn] at e
  obtain ⟨r2, -, e⟩ := of_b e
  by_cases c1 : r2 = 0
  · rw [if_pos c1] at e
    exact absurd (Prod.mk.inj (Option.some.inj e)).1.symm h.1
  rw [if_neg c1] at e
  obtain ⟨r4, -, e⟩ := of_b e
  by_cases c2 : r4 = 0
  · rw [if_pos c2] at e
    exact absurd (Prod.mk.inj (Option.some.inj e)).1.symm h.1
  rw [if_neg c2] at e
  obtain ⟨r6, -, e⟩ := of_b e
  by_cases c3 : r6 = 0
  · rw [if_pos c3] at e
    exact absurd (Prod.mk.inj (Option.some.inj e)).1.symm h.1
  rw [if_neg c3] at e
  obtain ⟨r8, -, e⟩ := of_b e
  by_cases c4 : r8 = 0
  · rw [if_pos c4] at e
    have e := of_ck e
    by_cases c5 : m 3 (Int32.toNatClampNeg a) = 5
    · rw [if_pos c5] at e
      exact absurd (Prod.mk.inj (Option.some.inj e)).1.symm h.2.2
    rw [if_neg c5] at e
    obtain ⟨r11, -, e⟩ := of_b e
    by_cases c6 : r11 = 40
    · rw [if_pos c6] at e
      exact absurd (Prod.mk.inj (Option.some.inj e)).1.symm h.2.2
    rw [if_neg c6] at e
    obtain ⟨r13, -, e⟩ := of_b e
    have e := of_ck e
    obtain ⟨m26, -, e⟩ := of_b e
    have e := of_ck (of_ck (of_ck (of_ck e)))
    obtain ⟨r40, -, e⟩ := of_b e
    have e := (Prod.mk.inj (Option.some.inj e)).2
    rw [← e, rd_s]
  · rw [if_neg c4] at e
    exact absurd (Prod.mk.inj (Option.some.inj e)).1.symm h.2.1
theorem fm_reset {m m2 : Mem} {r : Int32} (e : s_X7_reset m = some (r, m2)) : m2 0 6 = 0 := by
  unfold s_X7_reset at e
  simp only [bn] at e
  have e := (Prod.mk.inj (Option.some.inj e)).2
  rw [← e, rd_s]
