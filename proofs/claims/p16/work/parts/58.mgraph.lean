/-! the reference's nodes and edges -/
theorem M_placeOf {m : Mem} {n a t D : Nat} {N T : Nat → Nat} (hn : n < 10) (hD : D ≤ 5) (h3 : m 3 n = nI D) (hv : ∀ i, i < D → m 4 (n * 5 + i) = nI (N (n * 5 + i)) ∧ m 5 (n * 5 + i) = nI (T (n * 5 + i)) ∧ N (n * 5 + i) < 10 ∧ T (n * 5 + i) < 10) (ha : a < 10) (ht : t < 10) : ∃ r, s_X7_placeOf m (nI n) (nI a) (nI t) = some r ∧ ∃ p, p ≤ D ∧ r = nI p ∧ (∀ i, i < p → LTp (N (n * 5 + i)) (T (n * 5 + i)) a t) ∧ (p < D → ¬ LTp (N (n * 5 + p)) (T (n * 5 + p)) a t) := by
  have zn : zin (nI n) 10 = true := zin_nI hn (by decide)
  unfold s_X7_placeOf l_X7_placeOf_3
  refine ex_b (Q := fun r => ∃ p, p ≤ D ∧ r = nI p ∧ (∀ i, i < p → LTp (N (n * 5 + i)) (T (n * 5 + i)) a t) ∧ (p < D → ¬ LTp (N (n * 5 + p)) (T (n * 5 + p)) a t)) ?_ (fun y hy => ex_s hy)
  refine forG D (fun j y => y = nI j ∧ ∀ i, i < j → LTp (N (n * 5 + i)) (T (n * 5 + i)) a t) _ (fun j y hj hy => ?_) (fun y hy => ?_) FU 0 0 (Nat.zero_le _) ⟨rfl, fun i hi => absurd hi (Nat.not_lt_zero i)⟩ (FU_lt (by omega))
  · obtain ⟨e, hl⟩ := hy
    obtain ⟨e4, e5, b4, b5⟩ := hv j hj
    unfold t_X7_placeOf_3
    rw [e, ix_nI (n := n) (by omega), h3, p5, ix_nI (n := n * 5 + j) (by omega), e4, e5]
    have z50 : zin (nI (n * 5 + j)) 50 = true := zin_nI (by omega) (by decide)
    have nx : LTp (N (n * 5 + j)) (T (n * 5 + j)) a t → ∀ i, i < j + 1 → LTp (N (n * 5 + i)) (T (n * 5 + i)) a t := fun h i hi => by
      by_cases e2 : i = j
      · subst e2; exact h
      · exact hl i (by omega)
    refine st_ck zn (st_if (fun z => absurd z (nI_ge hj (by omega))) (fun _ => st_ck z50 (st_if (fun h1 => ?_) (fun h1 => st_ck z50 (st_if (fun h2 => st_ck z50 (st_if (fun h3 => ?_) (fun h3 => ?_))) (fun h2 => ?_))))))
    · have := (nI_ltI (by omega) (by omega)).mp h1
      exact st_n (st_l ⟨nI_s1, nx (Or.inl this)⟩)
    · have q2 := (nI_eq (by omega) (by omega)).mp h2
      have q3 := (nI_leI (by omega) (by omega)).mp h3
      exact st_r ⟨j, by omega, rfl, hl, fun _ z => by unfold LTp at z; omega⟩
    · have q2 := (nI_eq (by omega) (by omega)).mp h2
      have q3 : ¬ t ≤ T (n * 5 + j) := fun z => h3 (nI_le z (by omega))
      exact st_n (st_l ⟨nI_s1, nx (Or.inr ⟨q2, by omega⟩)⟩)
    · have q1 : ¬ N (n * 5 + j) < a := fun z => h1 (nI_lt z (by omega))
      have q2 : ¬ N (n * 5 + j) = a := fun z => h2 (by rw [z])
      exact st_r ⟨j, by omega, rfl, hl, fun _ z => by unfold LTp at z; omega⟩
  · obtain ⟨e, hl⟩ := hy
    unfold t_X7_placeOf_3
    rw [e, ix_nI (n := n) (by omega), h3, ck_p zn]
    exact ⟨_, if_pos (nI_le (Nat.le_refl _) (by omega)), D, Nat.le_refl _, rfl, hl, fun z => absurd z (Nat.lt_irrefl _)⟩
theorem M_rows {m : Mem} {k n : Nat} {d N T : Nat → Nat} (g : GG k d N T) (x : GM m k d N T) (hn : n < k) : n < 10 ∧ d n ≤ 5 ∧ m 3 n = nI (d n) ∧ ∀ i, i < d n → m 4 (n * 5 + i) = nI (N (n * 5 + i)) ∧ m 5 (n * 5 + i) = nI (T (n * 5 + i)) ∧ N (n * 5 + i) < 10 ∧ T (n * 5 + i) < 10 := by
  have h10 := g.1
  obtain ⟨h5, hv, -⟩ := g.2 n hn
  obtain ⟨x4, xv⟩ := x.2 n hn
  exact ⟨by omega, h5, x4, fun i hi => ⟨(xv i hi).1, (xv i hi).2, (hv i hi).1, by have := (hv i hi).2; omega⟩⟩
theorem M_isThere {m : Mem} {k n a t : Nat} {d N T : Nat → Nat} (g : GG k d N T) (x : GM m k d N T) (hn : n < k) (ha : a < 10) (ht : t < 10) : ∃ r, s_X7_isThere m (nI n) (nI a) (nI t) = some r ∧ (¬ r = 0 ↔ ∃ i, i < d n ∧ N (n * 5 + i) = a ∧ T (n * 5 + i) = t) := by
  obtain ⟨hn10, h5, e3, hv⟩ := M_rows g x hn
  unfold s_X7_isThere
  refine ex_b (M_placeOf hn10 h5 e3 hv ha ht) (fun r2 hr => ex_ck (zin_nI hn10 (by decide)) ?_)
  obtain ⟨p, hp, rfl, hl, hg⟩ := hr
  rw [ix_nI (n := n) (by omega), e3, p5, ix_nI (n := n * 5 + p) (by omega)]
  have un : ∀ i, i < d n → N (n * 5 + i) = a → T (n * 5 + i) = t → i = p ∧ p < d n := fun i hi h1 h2 => by
    rcases Nat.lt_trichotomy i p with h | h | h
    · have := hl i h
      rw [h1, h2] at this
      exact absurd this LTp_i
    · exact ⟨h, by omega⟩
    · have := GG_lt g hn h hi
      rw [h1, h2] at this
      exact absurd this (hg (by omega))
  have z50 : p < d n → zin (nI (n * 5 + p)) 50 = true := fun _ => zin_nI (by omega) (by decide)
  refine ex_if (fun h => ex_s ⟨fun z => absurd rfl z, fun z => ?_⟩) (fun h => ?_)
  · obtain ⟨i, hi, h1, h2⟩ := z
    have := (nI_leI (by omega) (by omega)).mp h
    have := (un i hi h1 h2).2
    omega
  · have hpd : p < d n := by
      rcases Nat.lt_or_ge p (d n) with h1 | h1
      · exact h1
      · exact absurd (nI_le h1 (by omega)) h
    obtain ⟨e4, e5, b4, b5⟩ := hv p hpd
    rw [e4, e5]
    refine ex_ck (z50 hpd) (ex_if (fun h1 => ex_ck (z50 hpd) (ex_if (fun h2 => ex_s ⟨fun _ => ⟨p, hpd, (nI_eq (by omega) (by omega)).mp h1, (nI_eq (by omega) (by omega)).mp h2⟩, fun _ => by decide⟩) (fun h2 => ex_s ⟨fun z => absurd rfl z, fun z => ?_⟩))) (fun h1 => ex_s ⟨fun z => absurd rfl z, fun z => ?_⟩))
    · obtain ⟨i, hi, q1, q2⟩ := z
      have := (un i hi q1 q2).1
      subst this
      exact absurd (by rw [q2]) h2
    · obtain ⟨i, hi, q1, q2⟩ := z
      have := (un i hi q1 q2).1
      subst this
      exact absurd (by rw [q1]) h1
theorem in_09 {y : Int32} : s_X7_in y.toInt64 0 9 = some (bb (0 ≤ y.toInt ∧ y.toInt < (10 : Nat))) := by
  rw [show (0 : Int64) = (0 : Int32).toInt64 from rfl, show (9 : Int64) = (9 : Int32).toInt64 from by decide, in_i]
  unfold bb
  have e : (0 ≤ y ∧ y ≤ 9) ↔ (0 ≤ y.toInt ∧ y.toInt < (10 : Nat)) := by
    rw [le_i, le_i, toInt_0, show (9 : Int32).toInt = 9 from rfl]
    constructor <;> rintro ⟨a, b⟩ <;> exact ⟨a, by omega⟩
  simp only [e]
theorem m_edge_bad {m : Mem} {k L c : Nat} {d N T P Z : Nat → Nat} {V W : Nat → Int32} {x y z : Int32} (g : GG k d N T) (h : IM m k d N T V W L c P Z) (hn : ¬ ((0 ≤ x.toInt ∧ x.toInt < k) ∧ (0 ≤ y.toInt ∧ y.toInt < (10 : Nat)) ∧ (0 ≤ z.toInt ∧ z.toInt < k))) : s_X7_edge m x y z = some (-1, m) ∧ s_X7_cut m x y z = some (-1, m) := by
  unfold s_X7_edge s_X7_cut
  rw [X7_isNode_eq h.1.1 g.1, X7_isNode_eq h.1.1 g.1, in_09]
  simp only [bind_s, if_bb]
  by_cases h1 : 0 ≤ x.toInt ∧ x.toInt < k
  · rw [if_pos h1, if_pos h1]
    by_cases h2 : 0 ≤ y.toInt ∧ y.toInt < (10 : Nat)
    · rw [if_pos h2, if_pos h2]
      by_cases h3 : 0 ≤ z.toInt ∧ z.toInt < k
      · exact absurd ⟨h1, h2, h3⟩ hn
      · rw [if_neg h3, if_neg h3]
        exact ⟨rfl, rfl⟩
    · rw [if_neg h2, if_neg h2]
      exact ⟨rfl, rfl⟩
  · rw [if_neg h1, if_neg h1]
    exact ⟨rfl, rfl⟩
/-- a change of nodes and edges -/
theorem IM_graph {m m2 : Mem} {k k2 L c : Nat} {d N T d2 N2 T2 P Z : Nat → Nat} {V W V2 W2 : Nat → Int32} (h : IM m k d N T V W L c P Z) (hG : GM m2 k2 d2 N2 T2) (hV : GV (m2 1) (m2 2) k2 V2 W2) (e : ∀ a, 5 < a → m2 a = m a) (e0 : ∀ j, j ≠ 0 → j ≠ 6 → m2 0 j = m 0 j) (e6 : m2 0 6 = 0) : IM m2 k2 d2 N2 T2 V2 W2 L c P Z := by
  obtain ⟨h1, h2, h3, h4, h5, h6, -⟩ := h
  refine ⟨hG, hV, by rw [e0 37 (by decide) (by decide)]; exact h3, SH_c (fun a a1 a2 => e a (by omega)) (e0 7 (by decide) (by decide)) h4, AC_c (e 10 (by decide)) (e 11 (by decide)) h5, ?_, Or.inl e6⟩
  unfold BL at *
  rw [e 37 (by decide), e 38 (by decide)]
  exact h6
