/-! the reference's calls that only tell -/
def fromA (k : Nat) (d N T : Nat → Nat) (n i w : Int32) : Int32 := if 0 ≤ n.toInt ∧ n.toInt < k then (if 0 ≤ i.toInt ∧ i.toInt < (d (ix n) : Nat) then (if w = 0 then nI (N (ix n * 5 + ix i)) else if w = 1 then nI (T (ix n * 5 + ix i)) else -1) else -1) else -1
theorem in_01 {y : Int32} : s_X7_in y.toInt64 0 1 = some (bb (y = 0 ∨ y = 1)) := by
  rw [show (0 : Int64) = (0 : Int32).toInt64 from rfl, show (1 : Int64) = (1 : Int32).toInt64 from by decide, in_i]
  unfold bb
  have e : (0 ≤ y ∧ y ≤ 1) ↔ (y = 0 ∨ y = 1) := by
    rw [le_i, le_i, toInt_0, show (1 : Int32).toInt = 1 from rfl]
    constructor
    · rintro ⟨a, b⟩
      rcases (show y.toInt = 0 ∨ y.toInt = 1 by omega) with h | h
      · exact Or.inl (Int32.toInt_inj.mp h)
      · exact Or.inr (Int32.toInt_inj.mp h)
    · rintro (h | h) <;> rw [h] <;> decide
  simp only [e]
theorem m_from {m : Mem} {k L c : Nat} {d N T P Z : Nat → Nat} {V W : Nat → Int32} (g : GG k d N T) (h : IM m k d N T V W L c P Z) (n i w : Int32) : s_X7_from m n i w = some (fromA k d N T n i w) := by
  have h10 := g.1
  unfold s_X7_from fromA
  rw [X7_isNode_eq h.1.1 h10]
  simp only [bind_s, if_bb]
  by_cases z : 0 ≤ n.toInt ∧ n.toInt < k
  · rw [if_pos z, if_pos z]
    obtain ⟨a, ha, rfl, ea⟩ := int_nI z.1
    have hak : a < k := by omega
    obtain ⟨hn10, h5, e3, hv⟩ := M_rows g h.1 hak
    rw [ck_p (zin_nI (by omega) (by decide)), ix_nI (n := a) (by omega), e3, in_k (by omega), ix_n (by omega)]
    simp only [bind_s, if_bb]
    by_cases zi : 0 ≤ i.toInt ∧ i.toInt < (d a : Nat)
    · rw [if_pos zi, if_pos zi, in_01]
      obtain ⟨j, hj, rfl, ej⟩ := int_nI zi.1
      obtain ⟨e4, e5, -, -⟩ := hv j (by omega)
      simp only [bind_s, if_bb]
      have z50 : zin (nI (a * 5 + j)) 50 = true := zin_nI (by omega) (by decide)
      rw [p5, ck_p z50, ck_p z50, ix_nI (n := a * 5 + j) (by omega), e4, e5, ix_n (by omega)]
      by_cases w0 : w = 0
      · rw [if_pos (Or.inl w0), if_pos w0, if_pos w0]
      · by_cases w1 : w = 1
        · rw [if_pos (Or.inr w1), if_neg w0, if_neg w0, if_pos w1]
        · rw [if_neg (fun q => q.elim w0 w1), if_neg w0, if_neg w1]
    · rw [if_neg zi, if_neg zi]
  · rw [if_neg z, if_neg z]
theorem m_told {m : Mem} {k L c : Nat} {d N T P Z : Nat → Nat} {V W : Nat → Int32} (h : IM m k d N T V W L c P Z) (n s : Int32) : ∃ r, s_X7_told m n s = some r ∧ True := by
  have hc6 := h.2.2.2.1.2.1
  unfold s_X7_told
  rw [X7_isShape_eq h.2.2.2.1.1 hc6]
  simp only [bind_s, if_bb]
  refine ex_if (fun z => ex_b (Q := fun _ => True) ⟨_, in_spec _ _ _, trivial⟩ (fun r4 _ => ex_if (fun _ => ex_s trivial) (fun _ => ?_))) (fun _ => ex_s trivial)
  have zz : zin n 6 = true := zin_i z.1 (by omega)
  exact ex_if (fun _ => ex_ck zz (ex_s trivial)) (fun _ => ex_if (fun _ => ex_ck zz (ex_s trivial)) (fun _ => ex_ck zz (ex_if (fun _ => ex_s trivial) (fun _ => ex_s trivial))))
