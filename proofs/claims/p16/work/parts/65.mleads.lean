/-! who leads to whom -/
def LD (m : Mem) (a b : Nat) : Prop := ¬ m 36 (6 * a + b) = 0
theorem p6' (a b : Nat) : (6 : Int32) * nI a + nI b = nI (6 * a + b) := p6 a b
theorem LD_set {m : Mem} {a b a2 b2 : Nat} {x : Int32} (hb : b < 6) (hb2 : b2 < 6) : LD (sto m 36 (6 * a + b) x) a2 b2 ↔ (a2 = a ∧ b2 = b ∧ ¬ x = 0) ∨ (¬ (a2 = a ∧ b2 = b) ∧ LD m a2 b2) := by
  unfold LD
  by_cases e : 6 * a2 + b2 = 6 * a + b
  · have h1 : a2 = a := by omega
    have h2 : b2 = b := by omega
    subst h1; subst h2
    rw [rd_s]
    exact ⟨fun h => Or.inl ⟨rfl, rfl, h⟩, fun h => h.elim (fun h => h.2.2) (fun h => absurd ⟨rfl, rfl⟩ h.1)⟩
  · rw [rd_j e]
    have : ¬ (a2 = a ∧ b2 = b) := fun h => e (by rw [h.1, h.2])
    exact ⟨fun h => Or.inr ⟨this, h⟩, fun h => h.elim (fun h => absurd ⟨h.1, h.2.1⟩ this) (fun h => h.2)⟩
theorem leads_in {m0 : Mem} {c x a : Nat} (hc : c ≤ 6) (hx : x < c) (ha : a < c) : ∃ m2, l_X7_findLeads_178 (nI c) (nI x) (nI a) FU 0 m0 = some m2 ∧ (∀ q, q ≠ 36 → m2 q = m0 q) ∧ ∀ p q, p < 6 → q < 6 → (LD m2 p q ↔ LD m0 p q ∨ (p = a ∧ q < c ∧ LD m0 a x ∧ LD m0 x q)) := by
  unfold l_X7_findLeads_178
  refine forG c (fun b (y : Int32 × Mem) => y.1 = nI b ∧ (∀ q, q ≠ 36 → y.2 q = m0 q) ∧ ∀ p q, p < 6 → q < 6 → (LD y.2 p q ↔ LD m0 p q ∨ (p = a ∧ q < b ∧ LD m0 a x ∧ LD m0 x q))) _ (fun b y hb hy => ?_) (fun y hy => ?_) FU 0 (0, m0) (Nat.zero_le _) ⟨rfl, fun _ _ => rfl, fun p q _ _ => ⟨Or.inl, fun h => h.elim id (fun h => absurd h.2.1 (Nat.not_lt_zero _))⟩⟩ (FU_lt (by omega))
  · obtain ⟨e1, ho, hL⟩ := hy
    have r1 : LD y.2 a b ↔ LD m0 a b := by
      rw [hL a b (by omega) (by omega)]
      exact ⟨fun h => h.elim id (fun h => absurd h.2.1 (Nat.lt_irrefl _)), Or.inl⟩
    have r2 : LD y.2 a x ↔ LD m0 a x := by
      rw [hL a x (by omega) (by omega)]
      exact ⟨fun h => h.elim id (fun h => h.2.2.1), Or.inl⟩
    have r3 : LD y.2 x b ↔ LD m0 x b := by
      rw [hL x b (by omega) (by omega)]
      exact ⟨fun h => h.elim id (fun h => absurd h.2.1 (Nat.lt_irrefl _)), Or.inl⟩
    have nx : ∀ {v : Int32}, (¬ v = 0 ↔ LD m0 a b ∨ (LD m0 a x ∧ LD m0 x b)) → (∀ q, q ≠ 36 → (sto y.2 36 (6 * a + b) v) q = m0 q) ∧ ∀ p q, p < 6 → q < 6 → (LD (sto y.2 36 (6 * a + b) v) p q ↔ LD m0 p q ∨ (p = a ∧ q < b + 1 ∧ LD m0 a x ∧ LD m0 x q)) := fun {v} hv => by
      refine ⟨fun q hq => by rw [rd_o hq]; exact ho q hq, fun p q hp hq => ?_⟩
      rw [LD_set (by omega) hq, hv, hL p q hp hq]
      by_cases e : p = a ∧ q = b
      · obtain ⟨rfl, rfl⟩ := e
        constructor
        · rintro (⟨-, -, h | ⟨h1, h2⟩⟩ | ⟨h, -⟩)
          · exact Or.inl h
          · exact Or.inr ⟨rfl, by omega, h1, h2⟩
          · exact absurd ⟨rfl, rfl⟩ h
        · rintro (h | ⟨-, -, h1, h2⟩)
          · exact Or.inl ⟨rfl, rfl, Or.inl h⟩
          · exact Or.inl ⟨rfl, rfl, Or.inr ⟨h1, h2⟩⟩
      · constructor
        · rintro (⟨h1, h2, -⟩ | ⟨-, h | ⟨h1, h2, h3⟩⟩)
          · exact absurd ⟨h1, h2⟩ e
          · exact Or.inl h
          · exact Or.inr ⟨h1, by omega, h3⟩
        · rintro (h | ⟨h1, h2, h3⟩)
          · exact Or.inr ⟨e, Or.inl h⟩
          · exact Or.inr ⟨e, Or.inr ⟨h1, by have : ¬ q = b := fun z => e ⟨h1, z⟩
                                            omega, h3⟩⟩
    unfold t_X7_findLeads_178
    rw [e1, p6, p6, p6, ix_nI (n := 6 * a + b) (by omega), ix_nI (n := 6 * a + x) (by omega), ix_nI (n := 6 * x + b) (by omega)]
    have z1 : zin (nI (6 * a + b)) 36 = true := zin_nI (by omega) (by decide)
    have z2 : zin (nI (6 * a + x)) 36 = true := zin_nI (by omega) (by decide)
    have z3 : zin (nI (6 * x + b)) 36 = true := zin_nI (by omega) (by decide)
    have v0 : vp_nar .boolean 0 = 0 := by decide
    have v1 : vp_nar .boolean 1 = 1 := by decide
    rw [v0, v1]
    refine st_if (fun z => absurd z (nI_ge hb (by omega))) (fun _ => st_ck z1 (st_if (fun h1 => st_ck z2 (st_if (fun h2 => st_ck z1 (st_n (st_n (st_l ⟨nI_s1, nx ?_⟩)))) (fun h2 => st_ck z3 (st_if (fun h3 => st_ck z1 (st_n (st_n (st_l ⟨nI_s1, nx ?_⟩)))) (fun h3 => st_ck z1 (st_n (st_n (st_l ⟨nI_s1, nx ?_⟩)))))))) (fun h1 => st_ck z1 (st_n (st_n (st_l ⟨nI_s1, nx ?_⟩))))))
    · exact ⟨fun z => absurd rfl z, fun z => z.elim (fun z => absurd h1 (r1.mpr z)) (fun z => absurd h2 (r2.mpr z.1))⟩
    · exact ⟨fun z => absurd rfl z, fun z => z.elim (fun z => absurd h1 (r1.mpr z)) (fun z => absurd h3 (r3.mpr z.2))⟩
    · exact ⟨fun _ => Or.inr ⟨r2.mp h2, r3.mp h3⟩, fun _ => by decide⟩
    · exact ⟨fun _ => Or.inl (r1.mp h1), fun _ => by decide⟩
  · obtain ⟨e1, ho, hL⟩ := hy
    unfold t_X7_findLeads_178
    rw [e1]
    exact ⟨_, if_pos (nI_le (Nat.le_refl _) (by omega)), ho, hL⟩
theorem leads_mid {m0 : Mem} {c x : Nat} (hc : c ≤ 6) (hx : x < c) : ∃ m2, l_X7_findLeads_169 (nI c) (nI x) FU 0 m0 = some m2 ∧ (∀ q, q ≠ 36 → m2 q = m0 q) ∧ ∀ p q, p < 6 → q < 6 → (LD m2 p q ↔ LD m0 p q ∨ (p < c ∧ q < c ∧ LD m0 p x ∧ LD m0 x q)) := by
  unfold l_X7_findLeads_169
  refine forG c (fun a (y : Int32 × Mem) => y.1 = nI a ∧ (∀ q, q ≠ 36 → y.2 q = m0 q) ∧ ∀ p q, p < 6 → q < 6 → (LD y.2 p q ↔ LD m0 p q ∨ (p < a ∧ q < c ∧ LD m0 p x ∧ LD m0 x q))) _ (fun a y ha hy => ?_) (fun y hy => ?_) FU 0 (0, m0) (Nat.zero_le _) ⟨rfl, fun _ _ => rfl, fun p q _ _ => ⟨Or.inl, fun h => h.elim id (fun h => absurd h.1 (Nat.not_lt_zero _))⟩⟩ (FU_lt (by omega))
  · obtain ⟨e1, ho, hL⟩ := hy
    have r2 : LD y.2 a x ↔ LD m0 a x := by
      rw [hL a x (by omega) (by omega)]
      exact ⟨fun h => h.elim id (fun h => h.2.2.1), Or.inl⟩
    have r3 : ∀ q, q < 6 → (LD y.2 x q ↔ LD m0 x q) := fun q hq => by
      rw [hL x q (by omega) hq]
      exact ⟨fun h => h.elim id (fun h => h.2.2.2), Or.inl⟩
    unfold t_X7_findLeads_169
    rw [e1]
    refine st_if (fun z => absurd z (nI_ge ha (by omega))) (fun _ => st_b (leads_in hc hx ha) (fun m73 h => st_n (st_l ⟨nI_s1, fun q hq => by dsimp only; rw [h.1 q hq]; exact ho q hq, fun p q hp hq => ?_⟩)))
    dsimp only
    rw [h.2 p q hp hq, hL p q hp hq, r2, r3 q hq]
    constructor
    · rintro ((h1 | ⟨h1, h2⟩) | ⟨h1, h2, h3⟩)
      · exact Or.inl h1
      · exact Or.inr ⟨by omega, h2⟩
      · subst h1; exact Or.inr ⟨by omega, h2, h3⟩
    · rintro (h1 | ⟨h1, h2, h3⟩)
      · exact Or.inl (Or.inl h1)
      · by_cases e : p = a
        · subst e; exact Or.inr ⟨rfl, h2, h3⟩
        · exact Or.inl (Or.inr ⟨by omega, h2, h3⟩)
  · obtain ⟨e1, ho, hL⟩ := hy
    unfold t_X7_findLeads_169
    rw [e1]
    exact ⟨_, if_pos (nI_le (Nat.le_refl _) (by omega)), ho, hL⟩
theorem leads_all {m0 : Mem} {c : Nat} (hc : c ≤ 6) : ∃ m2, l_X7_findLeads_161 (nI c) FU 0 m0 = some m2 ∧ (∀ q, q ≠ 36 → m2 q = m0 q) ∧ (∀ p q, p < c → q < c → LD m0 p q → LD m2 p q) ∧ ∀ p x q, p < c → x < c → q < c → LD m2 p x → LD m2 x q → LD m2 p q := by
  unfold l_X7_findLeads_161
  refine forG c (fun x (y : Int32 × Mem) => y.1 = nI x ∧ (∀ q, q ≠ 36 → y.2 q = m0 q) ∧ (∀ p q, p < c → q < c → LD m0 p q → LD y.2 p q) ∧ ∀ p z q, p < c → z < x → q < c → LD y.2 p z → LD y.2 z q → LD y.2 p q) _ (fun x y hx hy => ?_) (fun y hy => ?_) FU 0 (0, m0) (Nat.zero_le _) ⟨rfl, fun _ _ => rfl, fun _ _ _ _ h => h, fun p z q _ h => absurd h (Nat.not_lt_zero _)⟩ (FU_lt (by omega))
  · obtain ⟨e1, ho, hi, ht⟩ := hy
    unfold t_X7_findLeads_161
    rw [e1]
    refine st_if (fun z => absurd z (nI_ge hx (by omega))) (fun _ => st_b (leads_mid hc hx) (fun m76 h => st_n (st_l ⟨nI_s1, fun q hq => by dsimp only; rw [h.1 q hq]; exact ho q hq, fun p q hp hq hl => ?_, fun p z q hp hz hq h1 h2 => ?_⟩)))
    · dsimp only
      rw [h.2 p q (by omega) (by omega)]
      exact Or.inl (hi p q hp hq hl)
    · dsimp only at h1 h2 ⊢
      rw [h.2 _ _ (by omega) (by omega)] at h1 h2 ⊢
      have hzc : z < c := by omega
      by_cases e : z = x
      · subst e
        have g1 : LD y.2 p z := h1.elim id (fun h => h.2.2.1)
        have g2 : LD y.2 z q := h2.elim id (fun h => h.2.2.2)
        exact Or.inr ⟨hp, hq, g1, g2⟩
      · have hzx : z < x := by omega
        rcases h1 with h1 | ⟨-, -, a1, a2⟩
        · rcases h2 with h2 | ⟨-, -, b1, b2⟩
          · exact Or.inl (ht p z q hp hzx hq h1 h2)
          · exact Or.inr ⟨hp, hq, ht p z x hp hzx hx h1 b1, b2⟩
        · rcases h2 with h2 | ⟨-, -, b1, b2⟩
          · exact Or.inr ⟨hp, hq, a1, ht x z q hx hzx hq a2 h2⟩
          · exact Or.inr ⟨hp, hq, a1, b2⟩
  · obtain ⟨e1, ho, hi, ht⟩ := hy
    unfold t_X7_findLeads_161
    rw [e1]
    exact ⟨_, if_pos (nI_le (Nat.le_refl _) (by omega)), ho, hi, ht⟩
