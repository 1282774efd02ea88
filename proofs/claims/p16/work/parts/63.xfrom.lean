/-! the first module's from -/
theorem x_from {m : Mem} {k L b : Nat} {d N T : Nat → Nat} {V W : Nat → Int32} (g : GG k d N T) (h : IX m k d N T V W L b) (n i w : Int32) : s_X6_from m n i w = some (fromA k d N T n i w) := by
  have h10 := g.1
  unfold s_X6_from fromA
  rw [X1_hasNode_eq h.1.1 h10]
  simp only [bind_s, if_bb]
  by_cases z : 0 ≤ n.toInt ∧ n.toInt < k
  · rw [if_pos z, if_pos z]
    obtain ⟨a, ha, rfl, ea⟩ := int_nI z.1
    have hak : a < k := by omega
    have h5 := (g.2 a hak).1
    obtain ⟨x4, xv⟩ := h.1.2 a hak
    have hE : s_X1_hasEdge m (nI a) i = some (bb (0 ≤ i.toInt ∧ i.toInt < (d a : Nat))) := by
      unfold s_X1_hasEdge
      rw [ix_nI (n := a) (by omega), x4, ck_p (zin_nI (by omega) (by decide))]
      have hkt : (nI (d a)).toInt = d a := nI_toInt (by omega)
      by_cases h1 : i < 0
      · have := lt_i.mp h1
        rw [toInt_0] at this
        rw [if_pos h1, bb_f (by omega)]
      · have h1' : 0 ≤ i.toInt := by have := le_i.mp (Int32.not_lt.mp h1); rwa [toInt_0] at this
        rw [if_neg h1]
        by_cases h2 : nI (d a) ≤ i
        · have := le_i.mp h2
          rw [hkt] at this
          rw [if_pos h2, bb_f (by omega)]
        · have h2' : i.toInt < d a := by
            have := lt_i.mp (Int32.not_le.mp h2)
            rwa [hkt] at this
          have h3 : ¬ (5 : Int32) ≤ i := fun z => by
            have := le_i.mp z
            rw [show (5 : Int32).toInt = 5 from rfl] at this
            omega
          rw [if_neg h2, if_neg h3, bb_t ⟨h1', h2'⟩]
    rw [hE, ix_n (by omega)]
    simp only [bind_s, if_bb]
    by_cases zi : 0 ≤ i.toInt ∧ i.toInt < (d a : Nat)
    · rw [if_pos zi, if_pos zi]
      obtain ⟨j, hj, rfl, ej⟩ := int_nI zi.1
      obtain ⟨e4, e5⟩ := xv j (by omega)
      have z50 : zin (nI (a * 5 + j)) 50 = true := zin_nI (by omega) (by decide)
      simp only [bn]
      rw [m5, ck_p z50, ck_p z50, ix_nI (n := a * 5 + j) (by omega), e4, e5, ix_n (by omega)]
      by_cases w0 : w = 0
      · rw [if_pos w0, if_pos w0]
      · by_cases w1 : w = 1
        · rw [if_neg w0, if_neg w0, if_pos w1, if_pos w1]
        · rw [if_neg w0, if_neg w0, if_neg w1, if_neg w1]
    · rw [if_neg zi, if_neg zi]
  · rw [if_neg z, if_neg z]
