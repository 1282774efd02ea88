/-! a frame of the loop that puts the edges back -/
def SFW (a : Nat) : Prop := a ≠ 4 ∧ a ≠ 5
theorem nSFW_4 : ¬ SFW 4 := by unfold SFW; decide
theorem nSFW_5 : ¬ SFW 5 := by unfold SFW; decide
theorem kf_l_X7_without_261_SFW {a1 : Int32} {x2 : Int32} {n : Nat} {i62z : Int32} {m63z : Mem} : kp SFW m63z (fun (q : Mem) => q) (l_X7_without_261 a1 x2 n i62z m63z) := by
  unfold l_X7_without_261
  refine kp_l (g := (fun (q : Int32 × Mem) => q.2)) (fun aa ha => ?_) _ _ kq_r
  obtain ⟨i62, m63⟩ := aa
  have hb : kq SFW m63z m63 := ha
  show kp SFW m63z (Sum.elim (fun (q : Int32 × Mem) => q.2) (fun (q : Mem) => q)) (t_X7_without_261 a1 x2 i62 m63)
  unfold t_X7_without_261
  exact (kp_if (kp_sr hb) (kp_ck (kp_ck (kp_n (kp_ck (kp_ck (kp_n (kp_n (kp_sl (kq_sto (kq_sto hb nSFW_4) nSFW_5))))))))))
