/-! small laws of the plain functions -/
theorem zlp_on {α β : Type} {n : Nat} {f : α → Option (α ⊕ β)} {a a2 : α} (h : f a = some (.inl a2)) : zlp (n + 1) f a = zlp n f a2 := by rw [zlp]; simp only [h]
theorem zlp_off {α β : Type} {n : Nat} {f : α → Option (α ⊕ β)} {a : α} {b : β} (h : f a = some (.inr b)) : zlp (n + 1) f a = some b := by rw [zlp]; simp only [h]
theorem FU_5 : FU = 999995 + 5 := rfl
theorem upd_s {f : Nat → Int32} {k : Nat} {x : Int32} : upd f k x k = x := pk_us
theorem zin_nI {k n : Nat} (h : k < n) (hn : n < 2 ^ 31) : zin (nI k) n = true := by
  rw [zin_iff, nI_toInt (by omega)]
  omega
theorem zbk_11 {α : Type} {k : Nat → Option α} : zbk 11 k = k 11 := if_pos rfl
theorem zbk_25 {α : Type} {k : Nat → Option α} : zbk 25 k = k 25 := by unfold zbk; rw [if_neg (by decide), if_pos rfl]
theorem ck_p {α : Type} {b : Prop} [Decidable b] {k : Option α} (h : b) : ck b k = k := if_pos h
theorem of_map1 {β : Type} {o : Option (Int32 × β)} {r : Int32} (h : o.map (fun q => q.1) = some r) : ∃ m, o = some (r, m) := by
  cases o with
  | none => cases h
  | some q => exact ⟨q.2, by obtain ⟨a, b⟩ := q; exact congrArg (fun z => some (z, b)) (Option.some.inj h)⟩
/-! the tape -/
theorem app_step {v i : Int32} {m : Mem} {k : Nat} (hi : ¬ i < 0) (hk : m 7 1 = nI k) (h : k < 400) : t_X3_append_3 v i m = some (.inl (i + (-8), sto (sto m 8 k (vp_nar .byte (zus v i).toInt8.toInt32)) 7 1 (nI (k + 1)))) := by
  unfold t_X3_append_3
  rw [if_neg hi, hk, if_neg (show ¬ (400 : Int32) ≤ nI k from nI_ge (b := 400) h (by decide)), ck_p (zin_nI h (by decide))]
  simp only [bn]
  rw [nI_clamp (by omega), sto_other (show (7 : Nat) ≠ 8 by decide), hk, ← nI_succ]
theorem append_eq {m : Mem} {v : Int32} {k : Nat} (hk : m 7 1 = nI k) (h : k + 4 ≤ 400) : ∃ m2, s_X3_append m v = some m2 ∧ m2 7 1 = nI (k + 4) ∧ (∀ c, c ≠ 7 → c ≠ 8 → m2 c = m c) ∧ (∀ j, j ≠ 1 → m2 7 j = m 7 j) := by
  unfold s_X3_append l_X3_append_3
  rw [FU_5]
  have st : ∀ (m : Mem) (k : Nat) (x : Int32), (sto (sto m 8 k x) 7 1 (nI (k + 1))) 7 1 = nI (k + 1) := fun m k x => by rw [sto_same, pk_us]
  have so : ∀ (m : Mem) (k : Nat) (x : Int32) (c : Nat), c ≠ 7 → c ≠ 8 → (sto (sto m 8 k x) 7 1 (nI (k + 1))) c = m c := fun m k x c h7 h8 => by rw [sto_other h7, sto_other h8]
  have sj : ∀ (m : Mem) (k : Nat) (x : Int32) (j : Nat), j ≠ 1 → (sto (sto m 8 k x) 7 1 (nI (k + 1))) 7 j = m 7 j := fun m k x j hj => by rw [sto_same, pk_un hj, sto_other (by decide)]
  rw [zlp_on (app_step (i := 24) (by decide) hk (by omega)), show (24 : Int32) + (-8) = 16 by decide]
  rw [zlp_on (app_step (i := 16) (by decide) (st _ _ _) (by omega)), show (16 : Int32) + (-8) = 8 by decide]
  rw [zlp_on (app_step (i := 8) (by decide) (st _ _ _) (by omega)), show (8 : Int32) + (-8) = 0 by decide]
  rw [zlp_on (app_step (i := 0) (by decide) (st _ _ _) (by omega)), show (0 : Int32) + (-8) = -8 by decide]
  rw [zlp_off (show t_X3_append_3 v (-8) _ = some (.inr _) by unfold t_X3_append_3; rw [if_pos (by decide)])]
  simp only [Option.bind_some]
  refine ⟨_, rfl, ?_, fun c h7 h8 => ?_, fun j hj => ?_⟩
  · exact (show _ = nI (k + 1 + 1 + 1 + 1) by rw [sto_same, pk_us])
  · rw [so _ _ _ c h7 h8, so _ _ _ c h7 h8, so _ _ _ c h7 h8, so _ _ _ c h7 h8]
  · rw [sj _ _ _ j hj, sj _ _ _ j hj, sj _ _ _ j hj, sj _ _ _ j hj]
theorem nI_20le {k : Nat} (h : k ≤ 400) : (nI k + 20 ≤ 400) ↔ k + 20 ≤ 400 := by
  rw [show (20 : Int32) = nI 20 from rfl, show (400 : Int32) = nI 400 from rfl, nI_add, nI_leI (by omega) (by decide)]
theorem X6_feed_eq {m : Mem} {k : Nat} (hk : m 7 1 = nI k) (hk4 : k ≤ 400) (a b c d e : Int32) : (k + 20 ≤ 400 → ∃ m2, s_X6_feed m a b c d e = some (nI (k + 20), m2) ∧ m2 7 1 = nI (k + 20) ∧ (∀ c, c ≠ 7 → c ≠ 8 → m2 c = m c)) ∧ (¬ k + 20 ≤ 400 → s_X6_feed m a b c d e = some (-3, m)) := by
  refine ⟨fun h => ?_, fun h => ?_⟩
  · unfold s_X6_feed
    rw [hk, if_pos ((nI_20le hk4).mpr h)]
    obtain ⟨m1, e1, k1, o1, -⟩ := append_eq (v := a) hk (by omega)
    obtain ⟨m2, e2, k2, o2, -⟩ := append_eq (v := b) k1 (by omega)
    obtain ⟨m3, e3, k3, o3, -⟩ := append_eq (v := c) k2 (by omega)
    obtain ⟨m4, e4, k4, o4, -⟩ := append_eq (v := d) k3 (by omega)
    obtain ⟨m5, e5, k5, o5, -⟩ := append_eq (v := e) k4 (by omega)
    rw [e1]; simp only [Option.bind_some]
    rw [e2]; simp only [Option.bind_some]
    rw [e3]; simp only [Option.bind_some]
    rw [e4]; simp only [Option.bind_some]
    rw [e5]; simp only [Option.bind_some]
    refine ⟨m5, by rw [k5], k5, fun q h7 h8 => ?_⟩
    rw [o5 q h7 h8, o4 q h7 h8, o3 q h7 h8, o2 q h7 h8, o1 q h7 h8]
  · unfold s_X6_feed
    rw [hk, if_neg (fun z => h ((nI_20le hk4).mp z))]
theorem put_step {v i : Int32} {m : Mem} {k : Nat} (hi : ¬ i < 0) (hk : m 0 37 = nI k) (h : k < 400) : t_X7_put_3 v i m = some (.inl (i + (-8), sto (sto m 33 k ((v >>> (i &&& 31)) &&& 255)) 0 37 (nI (k + 1)))) := by
  unfold t_X7_put_3
  rw [if_neg hi, hk, ck_p (zin_nI h (by decide))]
  simp only [bn]
  rw [nI_clamp (by omega), sto_other (show (0 : Nat) ≠ 33 by decide), hk, ← nI_succ]
theorem put_eq {m : Mem} {v : Int32} {k : Nat} (hk : m 0 37 = nI k) (h : k + 4 ≤ 400) : ∃ m2, s_X7_put m v = some m2 ∧ m2 0 37 = nI (k + 4) ∧ (∀ c, c ≠ 0 → c ≠ 33 → m2 c = m c) ∧ (∀ j, j ≠ 37 → m2 0 j = m 0 j) := by
  unfold s_X7_put l_X7_put_3
  rw [FU_5]
  have st : ∀ (m : Mem) (k : Nat) (x : Int32), (sto (sto m 33 k x) 0 37 (nI (k + 1))) 0 37 = nI (k + 1) := fun m k x => by rw [sto_same, pk_us]
  have so : ∀ (m : Mem) (k : Nat) (x : Int32) (c : Nat), c ≠ 0 → c ≠ 33 → (sto (sto m 33 k x) 0 37 (nI (k + 1))) c = m c := fun m k x c h7 h8 => by rw [sto_other h7, sto_other h8]
  have sj : ∀ (m : Mem) (k : Nat) (x : Int32) (j : Nat), j ≠ 37 → (sto (sto m 33 k x) 0 37 (nI (k + 1))) 0 j = m 0 j := fun m k x j hj => by rw [sto_same, pk_un hj, sto_other (by decide)]
  rw [zlp_on (put_step (i := 24) (by decide) hk (by omega)), show (24 : Int32) + (-8) = 16 by decide]
  rw [zlp_on (put_step (i := 16) (by decide) (st _ _ _) (by omega)), show (16 : Int32) + (-8) = 8 by decide]
  rw [zlp_on (put_step (i := 8) (by decide) (st _ _ _) (by omega)), show (8 : Int32) + (-8) = 0 by decide]
  rw [zlp_on (put_step (i := 0) (by decide) (st _ _ _) (by omega)), show (0 : Int32) + (-8) = -8 by decide]
  rw [zlp_off (show t_X7_put_3 v (-8) _ = some (.inr _) by unfold t_X7_put_3; rw [if_pos (by decide)])]
  simp only [Option.bind_some]
  refine ⟨_, rfl, ?_, fun c h7 h8 => ?_, fun j hj => ?_⟩
  · exact (show _ = nI (k + 1 + 1 + 1 + 1) by rw [sto_same, pk_us])
  · rw [so _ _ _ c h7 h8, so _ _ _ c h7 h8, so _ _ _ c h7 h8, so _ _ _ c h7 h8]
  · rw [sj _ _ _ j hj, sj _ _ _ j hj, sj _ _ _ j hj, sj _ _ _ j hj]
theorem X7_feed_eq {m : Mem} {k : Nat} (hk : m 0 37 = nI k) (hk4 : k ≤ 400) (a b c d e : Int32) : (k + 20 ≤ 400 → ∃ m2, s_X7_feed m a b c d e = some (nI (k + 20), m2) ∧ m2 0 37 = nI (k + 20) ∧ (∀ c, c ≠ 0 → c ≠ 33 → m2 c = m c) ∧ (∀ j, j ≠ 37 → m2 0 j = m 0 j)) ∧ (¬ k + 20 ≤ 400 → s_X7_feed m a b c d e = some (-3, m)) := by
  refine ⟨fun h => ?_, fun h => ?_⟩
  · unfold s_X7_feed
    rw [hk, if_pos ((nI_20le hk4).mpr h)]
    obtain ⟨m1, e1, k1, o1, j1⟩ := put_eq (v := a) hk (by omega)
    obtain ⟨m2, e2, k2, o2, j2⟩ := put_eq (v := b) k1 (by omega)
    obtain ⟨m3, e3, k3, o3, j3⟩ := put_eq (v := c) k2 (by omega)
    obtain ⟨m4, e4, k4, o4, j4⟩ := put_eq (v := d) k3 (by omega)
    obtain ⟨m5, e5, k5, o5, j5⟩ := put_eq (v := e) k4 (by omega)
    rw [e1]; simp only [Option.bind_some]
    rw [e2]; simp only [Option.bind_some]
    rw [e3]; simp only [Option.bind_some]
    rw [e4]; simp only [Option.bind_some]
    rw [e5]; simp only [Option.bind_some]
    refine ⟨m5, by rw [k5], k5, fun q h7 h8 => ?_, fun j hj => ?_⟩
    · rw [o5 q h7 h8, o4 q h7 h8, o3 q h7 h8, o2 q h7 h8, o1 q h7 h8]
    · rw [j5 j hj, j4 j hj, j3 j hj, j2 j hj, j1 j hj]
  · unfold s_X7_feed
    rw [hk, if_neg (fun z => h ((nI_20le hk4).mp z))]
/-! numbers between -/
theorem in_spec (a lo hi : Int64) : s_X7_in a lo hi = some (if lo ≤ a ∧ a ≤ hi then 1 else 0) := by
  unfold s_X7_in lg_cmp
  by_cases h1 : lo ≤ a
  · have h2 : ¬ ((if a > lo then (1 : Int32) else if a = lo then 0 else -1) < 0) := by
      by_cases h3 : a > lo
      · rw [if_pos h3]; decide
      · have h4 : a = lo := by
          have h5 : a.toInt ≤ lo.toInt := by
            have := Int64.not_lt.mp h3
            exact Int64.le_iff_toInt_le.mp this
          have h6 := Int64.le_iff_toInt_le.mp h1
          exact Int64.toInt_inj.mp (by omega)
        rw [if_neg h3, if_pos h4]; decide
    rw [if_neg h2]
    by_cases h7 : a ≤ hi
    · have h8 : ¬ (0 < (if a > hi then (1 : Int32) else if a = hi then 0 else -1)) := by
        rw [if_neg (Int64.not_lt.mpr h7)]
        by_cases h9 : a = hi
        · rw [if_pos h9]; decide
        · rw [if_neg h9]; decide
      rw [if_neg h8, if_pos ⟨h1, h7⟩]
    · rw [if_pos (by rw [if_pos (Int64.not_le.mp h7)]; decide), if_neg (fun z => h7 z.2)]
  · have h2 : a < lo := Int64.not_le.mp h1
    have h3 : ¬ a > lo := Int64.not_lt.mpr (Int64.le_of_lt h2)
    have h4 : ¬ a = lo := fun e => by rw [e] at h2; exact Int64.lt_irrefl h2
    rw [if_neg h3, if_neg h4, if_pos (by decide), if_neg (fun z => h1 z.1)]
theorem in_i (a lo hi : Int32) : s_X7_in a.toInt64 lo.toInt64 hi.toInt64 = some (if lo ≤ a ∧ a ≤ hi then 1 else 0) := by
  rw [in_spec]
  have h : ∀ x y : Int32, x.toInt64 ≤ y.toInt64 ↔ x ≤ y := fun x y => by
    rw [Int64.le_iff_toInt_le, Int32.le_iff_toInt_le, Int32.toInt_toInt64, Int32.toInt_toInt64]
  simp only [h]
def bb (p : Prop) [Decidable p] : Int32 := if p then 1 else 0
theorem bb_t {p : Prop} [Decidable p] (h : p) : bb p = 1 := if_pos h
theorem bb_f {p : Prop} [Decidable p] (h : ¬ p) : bb p = 0 := if_neg h
theorem bb_0 {p : Prop} [Decidable p] : bb p = 0 ↔ ¬ p := by
  unfold bb
  by_cases h : p
  · rw [if_pos h]; exact ⟨fun e => absurd e (by decide), fun e => absurd h e⟩
  · rw [if_neg h]; exact ⟨fun _ => h, fun _ => rfl⟩
theorem bb_z {p : Prop} [Decidable p] : bb p = 0 ∨ bb p = 1 := by
  by_cases h : p
  · exact Or.inr (bb_t h)
  · exact Or.inl (bb_f h)
theorem lt_i {x y : Int32} : x < y ↔ x.toInt < y.toInt := Int32.lt_iff_toInt_lt
theorem le_i {x y : Int32} : x ≤ y ↔ x.toInt ≤ y.toInt := Int32.le_iff_toInt_le
theorem toInt_0 : (0 : Int32).toInt = 0 := rfl
theorem X1_hasNode_eq {m : Mem} {n : Int32} {k : Nat} (hk : m 1 0 = nI k) (h : k ≤ 10) : s_X1_hasNode m n = some (bb (0 ≤ n.toInt ∧ n.toInt < k)) := by
  unfold s_X1_hasNode
  have hkt : (nI k).toInt = k := nI_toInt (by omega)
  by_cases h1 : n < 0
  · have := lt_i.mp h1
    rw [toInt_0] at this
    rw [if_pos h1, bb_f (by omega)]
  · have h1' : 0 ≤ n.toInt := by have := Int32.not_lt.mp h1; have := le_i.mp this; rwa [toInt_0] at this
    rw [if_neg h1, hk]
    by_cases h2 : nI k ≤ n
    · have := le_i.mp h2
      rw [hkt] at this
      rw [if_pos h2, bb_f (by omega)]
    · have h2' : n.toInt < k := by
        have := lt_i.mp (Int32.not_le.mp h2)
        rwa [hkt] at this
      have h3 : ¬ (10 : Int32) ≤ n := fun z => by
        have := le_i.mp z
        have h10 : (10 : Int32).toInt = 10 := rfl
        omega
      rw [if_neg h2, if_neg h3, bb_t ⟨h1', h2'⟩]
theorem X0_hasShape_eq {m : Mem} {b : Nat} {n : Int32} {k : Nat} (hk : m b 0 = nI k) (h : k ≤ 6) : s_X0_hasShape m b n = some (bb (0 ≤ n.toInt ∧ n.toInt < k)) := by
  unfold s_X0_hasShape
  have hkt : (nI k).toInt = k := nI_toInt (by omega)
  by_cases h1 : n < 0
  · have := lt_i.mp h1
    rw [toInt_0] at this
    rw [if_pos h1, bb_f (by omega)]
  · have h1' : 0 ≤ n.toInt := by have := Int32.not_lt.mp h1; have := le_i.mp this; rwa [toInt_0] at this
    rw [if_neg h1, hk]
    by_cases h2 : nI k ≤ n
    · have := le_i.mp h2
      rw [hkt] at this
      rw [if_pos h2, bb_f (by omega)]
    · have h2' : n.toInt < k := by
        have := lt_i.mp (Int32.not_le.mp h2)
        rwa [hkt] at this
      have h3 : ¬ (6 : Int32) ≤ n := fun z => by
        have := le_i.mp z
        have h10 : (6 : Int32).toInt = 6 := rfl
        omega
      rw [if_neg h2, if_neg h3, bb_t ⟨h1', h2'⟩]
theorem sub1_toInt {k : Nat} (h : k ≤ 1000) : (nI k - 1).toInt = (k : Int) - 1 := by
  have := pk_sub_toInt (a := k) (b := 1) (by omega) (by decide)
  exact this
theorem in_k {x : Int32} {k : Nat} (h : k ≤ 1000) : s_X7_in x.toInt64 0 (nI k - 1).toInt64 = some (bb (0 ≤ x.toInt ∧ x.toInt < k)) := by
  rw [show (0 : Int64) = (0 : Int32).toInt64 from rfl, in_i]
  unfold bb
  have e : (0 ≤ x ∧ x ≤ nI k - 1) ↔ (0 ≤ x.toInt ∧ x.toInt < k) := by
    rw [le_i, le_i, sub1_toInt h, toInt_0]
    constructor <;> rintro ⟨a, b⟩ <;> exact ⟨a, by omega⟩
  simp only [e]
theorem X7_isNode_eq {m : Mem} {n : Int32} {k : Nat} (hk : m 0 0 = nI k) (h : k ≤ 10) : s_X7_isNode m n = some (bb (0 ≤ n.toInt ∧ n.toInt < k)) := by
  unfold s_X7_isNode
  rw [hk, in_k (by omega)]
  simp only [Option.bind_some]
  rw [ck_p bb_z]
theorem X7_isShape_eq {m : Mem} {n : Int32} {k : Nat} (hk : m 0 7 = nI k) (h : k ≤ 6) : s_X7_isShape m n = some (bb (0 ≤ n.toInt ∧ n.toInt < k)) := by
  unfold s_X7_isShape
  rw [hk, in_k (by omega)]
  simp only [Option.bind_some]
  rw [ck_p bb_z]
theorem if_bb {α : Type} {p : Prop} [Decidable p] {a b : α} : (if bb p = 0 then a else b) = if p then b else a := by
  by_cases h : p
  · rw [if_neg (by rw [bb_t h]; decide), if_pos h]
  · rw [if_pos (bb_f h), if_neg h]
theorem X6_isPair_eq {m : Mem} {n s : Int32} {k c b : Nat} (hk : m 1 0 = nI k) (h : k ≤ 10) (hb : isb b) (h4 : m 0 4 = nI b) (hc : m b 0 = nI c) (h6 : c ≤ 6) : s_X6_isPair m n s = some (bb ((0 ≤ n.toInt ∧ n.toInt < k) ∧ (0 ≤ s.toInt ∧ s.toInt < c))) := by
  unfold s_X6_isPair
  rw [X1_hasNode_eq hk h]
  simp only [Option.bind_some, if_bb]
  have hz : ∀ (f : Nat → Option Int32), zbk (m 0 4) f = f b := fun f => by
    rw [h4]
    rcases hb with rfl | rfl
    · exact zbk_11
    · exact zbk_25
  by_cases h1 : 0 ≤ n.toInt ∧ n.toInt < k
  · rw [if_pos h1, hz, X0_hasShape_eq hc h6]
    simp only [Option.bind_some, if_bb]
    by_cases h2 : 0 ≤ s.toInt ∧ s.toInt < c
    · rw [if_pos h2, bb_t ⟨h1, h2⟩]
    · rw [if_neg h2, bb_f (fun z => h2 z.2)]
  · rw [if_neg h1, bb_f (fun z => h1 z.1)]
theorem X7_areBoth_eq {m : Mem} {n s : Int32} {k c : Nat} (hk : m 0 0 = nI k) (h : k ≤ 10) (hc : m 0 7 = nI c) (h6 : c ≤ 6) : s_X7_areBoth m n s = some (bb ((0 ≤ n.toInt ∧ n.toInt < k) ∧ (0 ≤ s.toInt ∧ s.toInt < c))) := by
  unfold s_X7_areBoth
  rw [X7_isNode_eq hk h]
  simp only [Option.bind_some, if_bb]
  by_cases h1 : 0 ≤ n.toInt ∧ n.toInt < k
  · rw [if_pos h1, X7_isShape_eq hc h6]
    simp only [Option.bind_some, if_bb]
    by_cases h2 : 0 ≤ s.toInt ∧ s.toInt < c
    · rw [if_pos h2, bb_t ⟨h1, h2⟩]
    · rw [if_neg h2, bb_f (fun z => h2 z.2)]
  · rw [if_neg h1, bb_f (fun z => h1 z.1)]
/-! nodes -/
theorem forget_eq (m : Mem) : s_X2_forget m = some (sto (sto m 39 4 0) 39 5 0) := rfl
theorem fgt_o {m : Mem} {c : Nat} (h : c ≠ 39) : (sto (sto m 39 4 0) 39 5 0) c = m c := by rw [sto_other h, sto_other h]
theorem X1_addNode_eq {m : Mem} {z v : Int32} {k : Nat} (hk : m 1 0 = nI k) (h : k < 10) : s_X1_addNode m z v = some (nI k, sto (sto (sto (sto m 1 0 (nI (k + 1))) 4 k 0) 2 k (vp_nar .boolean z)) 3 k v) := by
  unfold s_X1_addNode s_X1_setValue
  simp only [bn]
  rw [hk]
  have hz : zin (nI k) 10 = true := zin_nI h (by decide)
  rw [ck_p hz, ck_p hz, ck_p hz, nI_clamp (by omega), ← nI_succ]
  rfl
theorem X6_node_eq {m : Mem} {z v : Int32} {k : Nat} (hk : m 1 0 = nI k) (h : k ≤ 10) : (k < 10 → s_X6_node m z v = some (nI k, sto (sto (sto (sto (sto (sto m 39 4 0) 39 5 0) 1 0 (nI (k + 1))) 4 k 0) 2 k (vp_nar .boolean z)) 3 k v)) ∧ (k = 10 → s_X6_node m z v = some (-3, m)) := by
  have hlt : (nI k < 10) ↔ k < 10 := by rw [show (10 : Int32) = nI 10 from rfl, nI_ltI (by omega) (by decide)]
  refine ⟨fun h1 => ?_, fun h1 => ?_⟩
  · unfold s_X6_node
    rw [hk, if_pos (hlt.mpr h1), forget_eq]
    simp only [Option.bind_some]
    rw [X1_addNode_eq (m := sto (sto m 39 4 0) 39 5 0) (k := k) (by rw [fgt_o (by decide)]; exact hk) h1]
    rfl
  · unfold s_X6_node
    rw [hk, if_neg (fun z => by have := hlt.mp z; omega)]
theorem X7_node_eq {m : Mem} {z v : Int32} {k : Nat} (hk : m 0 0 = nI k) (h : k ≤ 10) : (k < 10 → s_X7_node m z v = some (nI k, sto (sto (sto (sto (sto m 1 k (vp_nar .boolean z)) 2 k v) 3 k 0) 0 0 (nI (k + 1))) 0 6 0)) ∧ (k = 10 → s_X7_node m z v = some (-3, m)) := by
  have heq : (nI k = 10) ↔ k = 10 := by rw [show (10 : Int32) = nI 10 from rfl, nI_eq (by omega) (by decide)]
  refine ⟨fun h1 => ?_, fun h1 => ?_⟩
  · unfold s_X7_node
    rw [hk, if_neg (fun z => by have := heq.mp z; omega)]
    simp only [bn]
    have hz : zin (nI k) 10 = true := zin_nI h1 (by decide)
    have o1 : ∀ (x : Int32) (j : Nat), (sto m 1 j x) 0 0 = nI k := fun x j => by rw [sto_other (by decide)]; exact hk
    have o2 : ∀ (x y : Int32) (j i : Nat), (sto (sto m 1 j x) 2 i y) 0 0 = nI k := fun x y j i => by rw [sto_other (by decide)]; exact o1 x j
    have o3 : ∀ (x y w : Int32) (j i l : Nat), (sto (sto (sto m 1 j x) 2 i y) 3 l w) 0 0 = nI k := fun x y w j i l => by rw [sto_other (by decide)]; exact o2 x y j i
    rw [ck_p hz, o1, ck_p hz, o2, ck_p hz, o3, nI_clamp (by omega), ← nI_succ]
    have e : (sto (sto (sto (sto (sto m 1 k (vp_nar .boolean z)) 2 k v) 3 k 0) 0 0 (nI (k + 1))) 0 6 0) 0 0 = nI (k + 1) := by
      rw [sto_same, pk_un (by decide), sto_same, pk_us]
    rw [e, nI_pred]
  · unfold s_X7_node
    rw [hk, if_pos (heq.mpr h1)]
