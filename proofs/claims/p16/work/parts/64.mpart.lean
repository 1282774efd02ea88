/-! the reference's part -/
theorem m_part {m : Mem} {k L c : Nat} {d N T P Z : Nat → Nat} {V W : Nat → Int32} (h : IM m k d N T V W L c P Z) (n s w : Int32) : ∃ r, s_X7_part m n s w = some r ∧ True := by
  have hc6 := h.2.2.2.1.2.1
  unfold s_X7_part
  rw [X7_isShape_eq h.2.2.2.1.1 hc6]
  simp only [bind_s, if_bb]
  refine ex_if (fun z => ?_) (fun _ => ex_s trivial)
  obtain ⟨a, ha, rfl, ea⟩ := int_nI z.1
  obtain ⟨⟨hP6, e8, -⟩, -⟩ := h.2.2.2.1.2.2 a (by omega)
  rw [ix_nI (n := a) (by omega), e8, in_k (by omega)]
  refine ex_ck (zin_nI (by omega) (by decide)) ?_
  simp only [bind_s, if_bb]
  refine ex_if (fun z2 => ex_b (Q := fun _ => True) ⟨_, in_spec _ _ _, trivial⟩ (fun r4 _ => ex_if (fun _ => ex_s trivial) (fun _ => ex_n ?_))) (fun _ => ex_s trivial)
  obtain ⟨t, ht, rfl, et⟩ := int_nI z2.1
  rw [p6]
  have zz : zin (nI (6 * a + t)) 36 = true := zin_nI (by omega) (by decide)
  exact ex_if (fun _ => ex_ck zz (ex_s trivial)) (fun _ => ex_if (fun _ => ex_ck zz (ex_s trivial)) (fun _ => ex_if (fun _ => ex_ck zz (ex_s trivial)) (fun _ => ex_ck zz (ex_s trivial))))
