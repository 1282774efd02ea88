/-! frames of the calls that deal or leave out -/
def SFB (a : Nat) : Prop := a ≠ 42 ∧ a ≠ 43
def SFD (a : Nat) : Prop := a ≠ 39 ∧ a ≠ 40
def SFK (a : Nat) : Prop := (1 ≤ a ∧ a ≤ 2) ∨ (6 ≤ a ∧ a ≤ 18)
theorem nSFB_42 : ¬ SFB 42 := by unfold SFB; decide
theorem nSFB_43 : ¬ SFB 43 := by unfold SFB; decide
theorem nSFD_39 : ¬ SFD 39 := by unfold SFD; decide
theorem nSFD_40 : ¬ SFD 40 := by unfold SFD; decide
theorem nSFK_0 : ¬ SFK 0 := by unfold SFK; decide
theorem nSFK_3 : ¬ SFK 3 := by unfold SFK; decide
theorem nSFK_37 : ¬ SFK 37 := by unfold SFK; decide
theorem nSFK_38 : ¬ SFK 38 := by unfold SFK; decide
theorem nSFK_39 : ¬ SFK 39 := by unfold SFK; decide
theorem nSFK_4 : ¬ SFK 4 := by unfold SFK; decide
theorem nSFK_40 : ¬ SFK 40 := by unfold SFK; decide
theorem nSFK_41 : ¬ SFK 41 := by unfold SFK; decide
theorem nSFK_42 : ¬ SFK 42 := by unfold SFK; decide
theorem nSFK_43 : ¬ SFK 43 := by unfold SFK; decide
theorem nSFK_5 : ¬ SFK 5 := by unfold SFK; decide
theorem kf_l_X2_setsDealt_14_SFB {a1 : Int32} {a2 : Int32} {tr3 : Nat} {n : Nat} {i4z : Int32} {i5z : Int32} {m6z : Mem} : kp SFB m6z (fun (q : Int32 × Mem) => q.2) (l_X2_setsDealt_14 a1 a2 tr3 n i4z i5z m6z) := by
  unfold l_X2_setsDealt_14
  refine kp_l (g := (fun (q : Int32 × Int32 × Mem) => q.2.2)) (fun aa ha => ?_) _ _ kq_r
  obtain ⟨i4, i5, m6⟩ := aa
  have hb : kq SFB m6z m6 := ha
  show kp SFB m6z (Sum.elim (fun (q : Int32 × Int32 × Mem) => q.2.2) (fun (q : Int32 × Mem) => q.2)) (t_X2_setsDealt_14 a1 a2 tr3 i4 i5 m6)
  unfold t_X2_setsDealt_14
  exact (kp_k (fun _ _ => (kp_ck (kp_if (kp_sr hb) (kp_k (fun _ _ => (kp_if (kp_sr hb) (kp_k (fun _ _ => (kp_ck (kp_n (kp_n (kp_if (kp_if (kp_n (kp_sl hb)) (kp_b (fun _ => (kp_ck (kp_n (kp_n (kp_n (kp_sl (kq_sto hb nSFB_43))))))))) (kp_if (kp_if (kp_n (kp_sl hb)) (kp_ck (kp_b (fun _ => (kp_ck (kp_n (kp_n (kp_sl (kq_sto hb nSFB_43))))))))) (kp_if (kp_if (kp_n (kp_sl hb)) (kp_n (kp_ck (kp_ck (kp_b (fun _ => (kp_ck (kp_n (kp_n (kp_sl (kq_sto hb nSFB_43))))))))))) (kp_if (kp_n (kp_sl hb)) (kp_n (kp_ck (kp_ck (kp_ck (kp_n (kp_n (kp_sl (kq_sto hb nSFB_43))))))))))))))))))))))))
theorem kf_s_X2_setsDealt_SFB {m : Mem} {a1 : Int32} {a2 : Int32} {tr3 : Nat} : kp SFB m (fun (q : Int32 × Mem) => q.2) (s_X2_setsDealt m a1 a2 tr3) := by
  unfold s_X2_setsDealt
  exact (kp_k (fun _ _ => (kp_ck (kp_n (kp_2m (kp_t kq_r kf_l_X2_setsDealt_14_SFB) (fun _ _ hm54 => (kp_if (kp_s hm54) (kp_ck (kp_s hm54)))))))))
theorem kf_s_X2_suits_SFB {m : Mem} {a1 : Int32} {a2 : Int32} {tr3 : Nat} : kp SFB m (fun (q : Int32 × Mem) => q.2) (s_X2_suits m a1 a2 tr3) := by
  unfold s_X2_suits
  exact (kp_b (fun _ => (kp_k (fun _ _ => (kp_ck (kp_if (kp_2m (kp_t kq_r kf_s_X2_setsDealt_SFB) (fun _ _ hm7 => (kp_if (kp_s hm7) (kp_s hm7)))) (kp_b (fun _ => (kp_if (kp_2m (kp_t kq_r kf_s_X2_setsDealt_SFB) (fun _ _ hm13 => (kp_if (kp_s hm13) (kp_s hm13)))) (kp_s kq_r))))))))))
theorem kf_l_X2_bindToLeastPart_3_SFB {a1 : Int32} {a2 : Int32} {a3 : Int32} {n : Nat} {i1z : Int32} {m2z : Mem} : kp SFB m2z (fun (q : Int32 × Mem) => q.2) (l_X2_bindToLeastPart_3 a1 a2 a3 n i1z m2z) := by
  unfold l_X2_bindToLeastPart_3
  refine kp_l (g := (fun (q : Int32 × Mem) => q.2)) (fun aa ha => ?_) _ _ kq_r
  obtain ⟨i1, m2⟩ := aa
  have hb : kq SFB m2z m2 := ha
  show kp SFB m2z (Sum.elim (fun (q : Int32 × Mem) => q.2) (fun (q : Int32 × Mem) => q.2)) (t_X2_bindToLeastPart_3 a1 a2 a3 i1 m2)
  unfold t_X2_bindToLeastPart_3
  exact (kp_k (fun _ _ => (kp_ck (kp_if (kp_sr hb) (kp_ck (kp_n (kp_2m (kp_t (kq_sto hb nSFB_42) kf_s_X2_suits_SFB) (fun _ _ hm9 => (kp_if (kp_n (kp_sl hm9)) (kp_sr hm9))))))))))
theorem kf_s_X2_bindToLeastPart_SFB {m : Mem} {a1 : Int32} {a2 : Int32} {a3 : Int32} : kp SFB m (fun (q : Int32 × Mem) => q.2) (s_X2_bindToLeastPart m a1 a2 a3) := by
  unfold s_X2_bindToLeastPart
  exact (kp_t kq_r kf_l_X2_bindToLeastPart_3_SFB)
theorem kf_l_X2_leastPartOf_15_SFB {a1 : Int32} {a2 : Int32} {a3 : Int32} {r2 : Int32} {n : Nat} {i3z : Int32} {i4z : Int32} {m5z : Mem} : kp SFB m5z (fun (q : Int32 × Mem) => q.2) (l_X2_leastPartOf_15 a1 a2 a3 r2 n i3z i4z m5z) := by
  unfold l_X2_leastPartOf_15
  refine kp_l (g := (fun (q : Int32 × Int32 × Mem) => q.2.2)) (fun aa ha => ?_) _ _ kq_r
  obtain ⟨i3, i4, m5⟩ := aa
  have hb : kq SFB m5z m5 := ha
  show kp SFB m5z (Sum.elim (fun (q : Int32 × Int32 × Mem) => q.2.2) (fun (q : Int32 × Mem) => q.2)) (t_X2_leastPartOf_15 a1 a2 a3 r2 i3 i4 m5)
  unfold t_X2_leastPartOf_15
  exact (kp_if (kp_sr hb) (kp_if (kp_sr hb) (kp_if (kp_n (kp_sl hb)) (kp_2m (kp_t hb kf_s_X2_bindToLeastPart_SFB) (fun _ _ hm9 => (kp_n (kp_sl hm9)))))))
theorem kf_l_X2_leastPartOf_56_SFB {n : Nat} {i16z : Int32} {m17z : Mem} : kp SFB m17z (fun (q : Mem) => q) (l_X2_leastPartOf_56 n i16z m17z) := by
  unfold l_X2_leastPartOf_56
  refine kp_l (g := (fun (q : Int32 × Mem) => q.2)) (fun aa ha => ?_) _ _ kq_r
  obtain ⟨i16, m17⟩ := aa
  have hb : kq SFB m17z m17 := ha
  show kp SFB m17z (Sum.elim (fun (q : Int32 × Mem) => q.2) (fun (q : Mem) => q)) (t_X2_leastPartOf_56 i16 m17)
  unfold t_X2_leastPartOf_56
  exact (kp_if (kp_sr hb) (kp_ck (kp_n (kp_n (kp_sl (kq_sto hb nSFB_42))))))
theorem kf_s_X2_leastPartOf_SFB {m : Mem} {a1 : Int32} {a2 : Int32} {a3 : Int32} : kp SFB m (fun (q : Int32 × Mem) => q.2) (s_X2_leastPartOf m a1 a2 a3) := by
  unfold s_X2_leastPartOf
  exact (kp_b (fun _ => (kp_2m (kp_t kq_r kf_l_X2_leastPartOf_15_SFB) (fun _ _ hm15 => (kp_bM (kp_t hm15 kf_l_X2_leastPartOf_56_SFB) (fun _ hm22 => (kp_s hm22)))))))
theorem kf_l_X7_dealtTo_10_SFD {a1 : Int32} {x1 : Int32} {n : Nat} {i2z : Int32} {m3z : Mem} : kp SFD m3z (fun (q : Mem) => q) (l_X7_dealtTo_10 a1 x1 n i2z m3z) := by
  unfold l_X7_dealtTo_10
  refine kp_l (g := (fun (q : Int32 × Mem) => q.2)) (fun aa ha => ?_) _ _ kq_r
  obtain ⟨i2, m3⟩ := aa
  have hb : kq SFD m3z m3 := ha
  show kp SFD m3z (Sum.elim (fun (q : Int32 × Mem) => q.2) (fun (q : Mem) => q)) (t_X7_dealtTo_10 a1 x1 i2 m3)
  unfold t_X7_dealtTo_10
  exact (kp_ck (kp_if (kp_sr hb) (kp_ck (kp_if (kp_ck (kp_n (kp_n (kp_sl (kq_sto hb nSFD_40))))) (kp_ck (kp_n (kp_n (kp_sl (kq_sto hb nSFD_40)))))))))
theorem kf_l_X7_dealtTo_66_SFD {a2 : Int32} {a3 : Int32} {x1 : Int32} {n : Nat} {i17z : Int32} {i18z : Int32} {m19z : Mem} : kp SFD m19z (fun (q : Int32 × Mem) => q.2) (l_X7_dealtTo_66 a2 a3 x1 n i17z i18z m19z) := by
  unfold l_X7_dealtTo_66
  refine kp_l (g := (fun (q : Int32 × Int32 × Mem) => q.2.2)) (fun aa ha => ?_) _ _ kq_r
  obtain ⟨i17, i18, m19⟩ := aa
  have hb : kq SFD m19z m19 := ha
  show kp SFD m19z (Sum.elim (fun (q : Int32 × Int32 × Mem) => q.2.2) (fun (q : Int32 × Mem) => q.2)) (t_X7_dealtTo_66 a2 a3 x1 i17 i18 m19)
  unfold t_X7_dealtTo_66
  exact (kp_if (kp_sr hb) (kp_ck (kp_b (fun _ => (kp_ck (kp_if (kp_ck (kp_n (kp_ck (kp_n (kp_b (fun _ => (kp_ck (kp_ck (kp_ck (kp_b (fun _ => (kp_b (fun _ => (kp_ck (kp_n (kp_n (kp_sl (kq_sto hb nSFD_40)))))))))))))))))) (kp_ck (kp_if (kp_ck (kp_ck (kp_ck (kp_n (kp_n (kp_sl (kq_sto hb nSFD_40))))))) (kp_if (kp_ck (kp_n (kp_n (kp_sl hb)))) (kp_ck (kp_ck (kp_n (kp_n (kp_sl (kq_sto hb nSFD_40)))))))))))))))
theorem kf_s_X7_dealtTo_SFD {m : Mem} {a1 : Int32} {a2 : Int32} {a3 : Int32} : kp SFD m (fun (q : Int32 × Mem) => q.2) (s_X7_dealtTo m a1 a2 a3) := by
  unfold s_X7_dealtTo
  exact (kp_n (kp_bM (kp_t kq_r kf_l_X7_dealtTo_10_SFD) (fun _ hm14 => (kp_ck (kp_n (kp_2m (kp_t hm14 kf_l_X7_dealtTo_66_SFD) (fun _ _ hm78 => (kp_s hm78))))))))
theorem kf_s_X7_can_SFD {m : Mem} {a1 : Int32} {a2 : Int32} {a3 : Int32} : kp SFD m (fun (q : Int32 × Mem) => q.2) (s_X7_can m a1 a2 a3) := by
  unfold s_X7_can
  exact (kp_b (fun _ => (kp_ck (kp_if (kp_2m (kp_t kq_r kf_s_X7_dealtTo_SFD) (fun _ _ hm6 => (kp_if (kp_s hm6) (kp_s hm6)))) (kp_ck (kp_if (kp_2m (kp_t kq_r kf_s_X7_dealtTo_SFD) (fun _ _ hm11 => (kp_if (kp_s hm11) (kp_s hm11)))) (kp_s kq_r)))))))
theorem kf_l_X7_dealt_114_SFD {a1 : Int32} {a2 : Int32} {i14 : Int32} {n : Nat} {m22z : Mem} : kp SFD m22z (fun (q : Mem) => q) (l_X7_dealt_114 a1 a2 i14 n m22z) := by
  unfold l_X7_dealt_114
  refine kp_l (g := (fun (q : Mem) => q)) (fun m22 ha => ?_) _ _ kq_r
  have hb : kq SFD m22z m22 := ha
  show kp SFD m22z (Sum.elim (fun (q : Mem) => q) (fun (q : Mem) => q)) (t_X7_dealt_114 a1 a2 i14 m22)
  unfold t_X7_dealt_114
  exact (kp_2m (kp_t hb kf_s_X7_can_SFD) (fun _ _ hm25 => (kp_if (kp_ck (kp_ck (kp_n (kp_sl (kq_sto hm25 nSFD_39))))) (kp_sr hm25))))
theorem kf_l_X7_dealt_78_SFD {a1 : Int32} {a2 : Int32} {a3 : Int32} {n : Nat} {i14z : Int32} {m15z : Mem} : kp SFD m15z (fun (q : Mem) => q) (l_X7_dealt_78 a1 a2 a3 n i14z m15z) := by
  unfold l_X7_dealt_78
  refine kp_l (g := (fun (q : Int32 × Mem) => q.2)) (fun aa ha => ?_) _ _ kq_r
  obtain ⟨i14, m15⟩ := aa
  have hb : kq SFD m15z m15 := ha
  show kp SFD m15z (Sum.elim (fun (q : Int32 × Mem) => q.2) (fun (q : Mem) => q)) (t_X7_dealt_78 a1 a2 a3 i14 m15)
  unfold t_X7_dealt_78
  exact (kp_if (kp_sr hb) (kp_ck (kp_b (fun _ => (kp_if (kp_n (kp_sl hb)) (kp_ck (kp_n (kp_bM (kp_t (kq_sto hb nSFD_39) kf_l_X7_dealt_114_SFD) (fun _ hm30 => (kp_n (kp_sl hm30)))))))))))
theorem kf_l_X7_free_2_SFK {n : Nat} {i1z : Int32} {m2z : Mem} : kp SFK m2z (fun (q : Mem) => q) (l_X7_free_2 n i1z m2z) := by
  unfold l_X7_free_2
  refine kp_l (g := (fun (q : Int32 × Mem) => q.2)) (fun aa ha => ?_) _ _ kq_r
  obtain ⟨i1, m2⟩ := aa
  have hb : kq SFK m2z m2 := ha
  show kp SFK m2z (Sum.elim (fun (q : Int32 × Mem) => q.2) (fun (q : Mem) => q)) (t_X7_free_2 i1 m2)
  unfold t_X7_free_2
  exact (kp_if (kp_sr hb) (kp_ck (kp_n (kp_n (kp_sl (kq_sto hb nSFK_39))))))
theorem kf_s_X7_free_SFK {m : Mem} : kp SFK m (fun (q : Mem) => q) (s_X7_free m) := by
  unfold s_X7_free
  exact (kp_bM (kp_t kq_r kf_l_X7_free_2_SFK) (fun _ hm7 => (kp_s hm7)))
theorem kf_l_X7_findRanks_2_SFK {n : Nat} {i1z : Int32} {m2z : Mem} : kp SFK m2z (fun (q : Mem) => q) (l_X7_findRanks_2 n i1z m2z) := by
  unfold l_X7_findRanks_2
  refine kp_l (g := (fun (q : Int32 × Mem) => q.2)) (fun aa ha => ?_) _ _ kq_r
  obtain ⟨i1, m2⟩ := aa
  have hb : kq SFK m2z m2 := ha
  show kp SFK m2z (Sum.elim (fun (q : Int32 × Mem) => q.2) (fun (q : Mem) => q)) (t_X7_findRanks_2 i1 m2)
  unfold t_X7_findRanks_2
  exact (kp_if (kp_sr hb) (kp_ck (kp_n (kp_n (kp_sl (kq_sto hb nSFK_41))))))
theorem kf_l_X7_findRanks_43_SFK {i10 : Int32} {n : Nat} {i12z : Int32} {m13z : Mem} : kp SFK m13z (fun (q : Mem) => q) (l_X7_findRanks_43 i10 n i12z m13z) := by
  unfold l_X7_findRanks_43
  refine kp_l (g := (fun (q : Int32 × Mem) => q.2)) (fun aa ha => ?_) _ _ kq_r
  obtain ⟨i12, m13⟩ := aa
  have hb : kq SFK m13z m13 := ha
  show kp SFK m13z (Sum.elim (fun (q : Int32 × Mem) => q.2) (fun (q : Mem) => q)) (t_X7_findRanks_43 i10 i12 m13)
  unfold t_X7_findRanks_43
  exact (kp_ck (kp_if (kp_sr hb) (kp_n (kp_ck (kp_if (kp_ck (kp_ck (kp_ck (kp_b (fun _ => (kp_n (kp_ck (kp_if (kp_ck (kp_ck (kp_n (kp_n (kp_sl (kq_sto hb nSFK_41)))))) (kp_ck (kp_n (kp_n (kp_sl (kq_sto hb nSFK_41))))))))))))) (kp_ck (kp_if (kp_ck (kp_ck (kp_ck (kp_b (fun _ => (kp_n (kp_ck (kp_if (kp_ck (kp_ck (kp_n (kp_n (kp_sl (kq_sto hb nSFK_41)))))) (kp_ck (kp_n (kp_n (kp_sl (kq_sto hb nSFK_41))))))))))))) (kp_n (kp_sl hb)))))))))
theorem kf_l_X7_findRanks_33_SFK {n : Nat} {i10z : Int32} {m11z : Mem} : kp SFK m11z (fun (q : Mem) => q) (l_X7_findRanks_33 n i10z m11z) := by
  unfold l_X7_findRanks_33
  refine kp_l (g := (fun (q : Int32 × Mem) => q.2)) (fun aa ha => ?_) _ _ kq_r
  obtain ⟨i10, m11⟩ := aa
  have hb : kq SFK m11z m11 := ha
  show kp SFK m11z (Sum.elim (fun (q : Int32 × Mem) => q.2) (fun (q : Mem) => q)) (t_X7_findRanks_33 i10 m11)
  unfold t_X7_findRanks_33
  exact (kp_if (kp_sr hb) (kp_bM (kp_t hb kf_l_X7_findRanks_43_SFK) (fun _ hm52 => (kp_n (kp_sl hm52)))))
theorem kf_l_X7_findRanks_25_SFK {n : Nat} {i8z : Int32} {m9z : Mem} : kp SFK m9z (fun (q : Mem) => q) (l_X7_findRanks_25 n i8z m9z) := by
  unfold l_X7_findRanks_25
  refine kp_l (g := (fun (q : Int32 × Mem) => q.2)) (fun aa ha => ?_) _ _ kq_r
  obtain ⟨i8, m9⟩ := aa
  have hb : kq SFK m9z m9 := ha
  show kp SFK m9z (Sum.elim (fun (q : Int32 × Mem) => q.2) (fun (q : Mem) => q)) (t_X7_findRanks_25 i8 m9)
  unfold t_X7_findRanks_25
  exact (kp_if (kp_sr hb) (kp_bM (kp_t hb kf_l_X7_findRanks_33_SFK) (fun _ hm55 => (kp_n (kp_sl hm55)))))
theorem kf_s_X7_findRanks_SFK {m : Mem} : kp SFK m (fun (q : Mem) => q) (s_X7_findRanks m) := by
  unfold s_X7_findRanks
  exact (kp_bM (kp_t kq_r kf_l_X7_findRanks_2_SFK) (fun _ hm7 => (kp_bM (kp_t hm7 kf_l_X7_findRanks_25_SFK) (fun _ hm58 => (kp_s hm58)))))
theorem kf_l_X7_dealtTo_10_SFK {a1 : Int32} {x1 : Int32} {n : Nat} {i2z : Int32} {m3z : Mem} : kp SFK m3z (fun (q : Mem) => q) (l_X7_dealtTo_10 a1 x1 n i2z m3z) := by
  unfold l_X7_dealtTo_10
  refine kp_l (g := (fun (q : Int32 × Mem) => q.2)) (fun aa ha => ?_) _ _ kq_r
  obtain ⟨i2, m3⟩ := aa
  have hb : kq SFK m3z m3 := ha
  show kp SFK m3z (Sum.elim (fun (q : Int32 × Mem) => q.2) (fun (q : Mem) => q)) (t_X7_dealtTo_10 a1 x1 i2 m3)
  unfold t_X7_dealtTo_10
  exact (kp_ck (kp_if (kp_sr hb) (kp_ck (kp_if (kp_ck (kp_n (kp_n (kp_sl (kq_sto hb nSFK_40))))) (kp_ck (kp_n (kp_n (kp_sl (kq_sto hb nSFK_40)))))))))
theorem kf_l_X7_dealtTo_66_SFK {a2 : Int32} {a3 : Int32} {x1 : Int32} {n : Nat} {i17z : Int32} {i18z : Int32} {m19z : Mem} : kp SFK m19z (fun (q : Int32 × Mem) => q.2) (l_X7_dealtTo_66 a2 a3 x1 n i17z i18z m19z) := by
  unfold l_X7_dealtTo_66
  refine kp_l (g := (fun (q : Int32 × Int32 × Mem) => q.2.2)) (fun aa ha => ?_) _ _ kq_r
  obtain ⟨i17, i18, m19⟩ := aa
  have hb : kq SFK m19z m19 := ha
  show kp SFK m19z (Sum.elim (fun (q : Int32 × Int32 × Mem) => q.2.2) (fun (q : Int32 × Mem) => q.2)) (t_X7_dealtTo_66 a2 a3 x1 i17 i18 m19)
  unfold t_X7_dealtTo_66
  exact (kp_if (kp_sr hb) (kp_ck (kp_b (fun _ => (kp_ck (kp_if (kp_ck (kp_n (kp_ck (kp_n (kp_b (fun _ => (kp_ck (kp_ck (kp_ck (kp_b (fun _ => (kp_b (fun _ => (kp_ck (kp_n (kp_n (kp_sl (kq_sto hb nSFK_40)))))))))))))))))) (kp_ck (kp_if (kp_ck (kp_ck (kp_ck (kp_n (kp_n (kp_sl (kq_sto hb nSFK_40))))))) (kp_if (kp_ck (kp_n (kp_n (kp_sl hb)))) (kp_ck (kp_ck (kp_n (kp_n (kp_sl (kq_sto hb nSFK_40)))))))))))))))
theorem kf_s_X7_dealtTo_SFK {m : Mem} {a1 : Int32} {a2 : Int32} {a3 : Int32} : kp SFK m (fun (q : Int32 × Mem) => q.2) (s_X7_dealtTo m a1 a2 a3) := by
  unfold s_X7_dealtTo
  exact (kp_n (kp_bM (kp_t kq_r kf_l_X7_dealtTo_10_SFK) (fun _ hm14 => (kp_ck (kp_n (kp_2m (kp_t hm14 kf_l_X7_dealtTo_66_SFK) (fun _ _ hm78 => (kp_s hm78))))))))
theorem kf_s_X7_can_SFK {m : Mem} {a1 : Int32} {a2 : Int32} {a3 : Int32} : kp SFK m (fun (q : Int32 × Mem) => q.2) (s_X7_can m a1 a2 a3) := by
  unfold s_X7_can
  exact (kp_b (fun _ => (kp_ck (kp_if (kp_2m (kp_t kq_r kf_s_X7_dealtTo_SFK) (fun _ _ hm6 => (kp_if (kp_s hm6) (kp_s hm6)))) (kp_ck (kp_if (kp_2m (kp_t kq_r kf_s_X7_dealtTo_SFK) (fun _ _ hm11 => (kp_if (kp_s hm11) (kp_s hm11)))) (kp_s kq_r)))))))
theorem kf_l_X7_changes_17_SFK {a1 : Int32} {a2 : Int32} {i2 : Int32} {n : Nat} {i4z : Int32} {i5z : Int32} {m6z : Mem} : kp SFK m6z (fun (q : Int32 × Mem) => q.2) (l_X7_changes_17 a1 a2 i2 n i4z i5z m6z) := by
  unfold l_X7_changes_17
  refine kp_l (g := (fun (q : Int32 × Int32 × Mem) => q.2.2)) (fun aa ha => ?_) _ _ kq_r
  obtain ⟨i4, i5, m6⟩ := aa
  have hb : kq SFK m6z m6 := ha
  show kp SFK m6z (Sum.elim (fun (q : Int32 × Int32 × Mem) => q.2.2) (fun (q : Int32 × Mem) => q.2)) (t_X7_changes_17 a1 a2 i2 i4 i5 m6)
  unfold t_X7_changes_17
  exact (kp_if (kp_sr hb) (kp_ck (kp_if (kp_n (kp_if (kp_ck (kp_if (kp_n (kp_sl hb)) (kp_2m (kp_t hb kf_s_X7_can_SFK) (fun _ _ hm13 => (kp_if (kp_if (kp_ck (kp_n (kp_ck (kp_n (kp_n (kp_sl (kq_sto (kq_sto hm13 nSFK_37) nSFK_38))))))) (kp_ck (kp_ck (kp_n (kp_ck (kp_n (kp_n (kp_sl (kq_sto (kq_sto hm13 nSFK_37) nSFK_38))))))))) (kp_n (kp_sl hm13))))))) (kp_ck (kp_if (kp_2m (kp_t hb kf_s_X7_can_SFK) (fun _ _ hm33 => (kp_if (kp_n (kp_sl hm33)) (kp_if (kp_ck (kp_n (kp_ck (kp_n (kp_n (kp_sl (kq_sto (kq_sto hm33 nSFK_37) nSFK_38))))))) (kp_ck (kp_ck (kp_n (kp_ck (kp_n (kp_n (kp_sl (kq_sto (kq_sto hm33 nSFK_37) nSFK_38)))))))))))) (kp_n (kp_sl hb)))))) (kp_sr hb))))
theorem kf_l_X7_changes_5_SFK {a1 : Int32} {a2 : Int32} {n : Nat} {i1z : Int32} {i2z : Int32} {m3z : Mem} : kp SFK m3z (fun (q : Int32 × Mem) => q.2) (l_X7_changes_5 a1 a2 n i1z i2z m3z) := by
  unfold l_X7_changes_5
  refine kp_l (g := (fun (q : Int32 × Int32 × Mem) => q.2.2)) (fun aa ha => ?_) _ _ kq_r
  obtain ⟨i1, i2, m3⟩ := aa
  have hb : kq SFK m3z m3 := ha
  show kp SFK m3z (Sum.elim (fun (q : Int32 × Int32 × Mem) => q.2.2) (fun (q : Int32 × Mem) => q.2)) (t_X7_changes_5 a1 a2 i1 i2 m3)
  unfold t_X7_changes_5
  exact (kp_if (kp_sr hb) (kp_2m (kp_t hb kf_l_X7_changes_17_SFK) (fun _ _ hm53 => (kp_n (kp_sl hm53)))))
theorem kf_s_X7_changes_SFK {m : Mem} {a1 : Int32} {a2 : Int32} : kp SFK m (fun (q : Int32 × Mem) => q.2) (s_X7_changes m a1 a2) := by
  unfold s_X7_changes
  exact (kp_2m (kp_t kq_r kf_l_X7_changes_5_SFK) (fun _ _ hm57 => (kp_ck (kp_s hm57))))
theorem kf_l_X7_read_23_SFK {n : Nat} {i6z : Int32} {m7z : Mem} : kp SFK m7z (fun (q : Mem) => q) (l_X7_read_23 n i6z m7z) := by
  unfold l_X7_read_23
  refine kp_l (g := (fun (q : Int32 × Mem) => q.2)) (fun aa ha => ?_) _ _ kq_r
  obtain ⟨i6, m7⟩ := aa
  have hb : kq SFK m7z m7 := ha
  show kp SFK m7z (Sum.elim (fun (q : Int32 × Mem) => q.2) (fun (q : Mem) => q)) (t_X7_read_23 i6 m7)
  unfold t_X7_read_23
  exact (kp_if (kp_sr hb) (kp_ck (kp_n (kp_ck (kp_n (kp_n (kp_sl (kq_sto (kq_sto hb nSFK_37) nSFK_38))))))))
theorem kf_l_X7_read_59_SFK {i15 : Int32} {n : Nat} {i17z : Int32} {m18z : Mem} : kp SFK m18z (fun (q : Mem) => q) (l_X7_read_59 i15 n i17z m18z) := by
  unfold l_X7_read_59
  refine kp_l (g := (fun (q : Int32 × Mem) => q.2)) (fun aa ha => ?_) _ _ kq_r
  obtain ⟨i17, m18⟩ := aa
  have hb : kq SFK m18z m18 := ha
  show kp SFK m18z (Sum.elim (fun (q : Int32 × Mem) => q.2) (fun (q : Mem) => q)) (t_X7_read_59 i15 i17 m18)
  unfold t_X7_read_59
  exact (kp_if (kp_sr hb) (kp_2m (kp_t hb kf_s_X7_changes_SFK) (fun _ _ hm21 => (kp_sl hm21))))
theorem kf_l_X7_read_51_SFK {n : Nat} {i15z : Int32} {m16z : Mem} : kp SFK m16z (fun (q : Mem) => q) (l_X7_read_51 n i15z m16z) := by
  unfold l_X7_read_51
  refine kp_l (g := (fun (q : Int32 × Mem) => q.2)) (fun aa ha => ?_) _ _ kq_r
  obtain ⟨i15, m16⟩ := aa
  have hb : kq SFK m16z m16 := ha
  show kp SFK m16z (Sum.elim (fun (q : Int32 × Mem) => q.2) (fun (q : Mem) => q)) (t_X7_read_51 i15 m16)
  unfold t_X7_read_51
  exact (kp_if (kp_sr hb) (kp_bM (kp_t hb kf_l_X7_read_59_SFK) (fun _ hm23 => (kp_n (kp_sl hm23)))))
theorem kf_l_X7_read_89_SFK {i27 : Int32} {n : Nat} {i29z : Int32} {m30z : Mem} : kp SFK m30z (fun (q : Mem) => q) (l_X7_read_89 i27 n i29z m30z) := by
  unfold l_X7_read_89
  refine kp_l (g := (fun (q : Int32 × Mem) => q.2)) (fun aa ha => ?_) _ _ kq_r
  obtain ⟨i29, m30⟩ := aa
  have hb : kq SFK m30z m30 := ha
  show kp SFK m30z (Sum.elim (fun (q : Int32 × Mem) => q.2) (fun (q : Mem) => q)) (t_X7_read_89 i27 i29 m30)
  unfold t_X7_read_89
  exact (kp_if (kp_sr hb) (kp_2m (kp_t hb kf_s_X7_changes_SFK) (fun _ _ hm33 => (kp_sl hm33))))
theorem kf_l_X7_read_81_SFK {n : Nat} {i27z : Int32} {m28z : Mem} : kp SFK m28z (fun (q : Mem) => q) (l_X7_read_81 n i27z m28z) := by
  unfold l_X7_read_81
  refine kp_l (g := (fun (q : Int32 × Mem) => q.2)) (fun aa ha => ?_) _ _ kq_r
  obtain ⟨i27, m28⟩ := aa
  have hb : kq SFK m28z m28 := ha
  show kp SFK m28z (Sum.elim (fun (q : Int32 × Mem) => q.2) (fun (q : Mem) => q)) (t_X7_read_81 i27 m28)
  unfold t_X7_read_81
  exact (kp_if (kp_sr hb) (kp_bM (kp_t hb kf_l_X7_read_89_SFK) (fun _ hm35 => (kp_n (kp_sl hm35)))))
theorem kf_s_X7_read_SFK {m : Mem} : kp SFK m (fun (q : Mem) => q) (s_X7_read m) := by
  unfold s_X7_read
  exact (kp_if (kp_n (kp_bM (kp_t (kq_sto kq_r nSFK_0) kf_s_X7_free_SFK) (fun _ hm3 => (kp_bM (kp_t hm3 kf_s_X7_findRanks_SFK) (fun _ hm5 => (kp_bM (kp_t hm5 kf_l_X7_read_23_SFK) (fun _ hm14 => (kp_bM (kp_t hm14 kf_l_X7_read_51_SFK) (fun _ hm26 => (kp_bM (kp_t hm26 kf_l_X7_read_81_SFK) (fun _ hm38 => (kp_s hm38)))))))))))) (kp_s kq_r))
theorem kf_l_X7_without_10_SFK {a1 : Int32} {x2 : Int32} {n : Nat} {i3z : Int32} {m4z : Mem} : kp SFK m4z (fun (q : Mem) => q) (l_X7_without_10 a1 x2 n i3z m4z) := by
  unfold l_X7_without_10
  refine kp_l (g := (fun (q : Int32 × Mem) => q.2)) (fun aa ha => ?_) _ _ kq_r
  obtain ⟨i3, m4⟩ := aa
  have hb : kq SFK m4z m4 := ha
  show kp SFK m4z (Sum.elim (fun (q : Int32 × Mem) => q.2) (fun (q : Mem) => q)) (t_X7_without_10 a1 x2 i3 m4)
  unfold t_X7_without_10
  exact (kp_if (kp_sr hb) (kp_ck (kp_ck (kp_n (kp_ck (kp_ck (kp_n (kp_n (kp_sl (kq_sto (kq_sto hb nSFK_42) nSFK_43))))))))))
theorem kf_l_X7_without_128_SFK {a1 : Int32} {x2 : Int32} {i18 : Int32} {n : Nat} {i25z : Int32} {m26z : Mem} : kp SFK m26z (fun (q : Mem) => q) (l_X7_without_128 a1 x2 i18 n i25z m26z) := by
  unfold l_X7_without_128
  refine kp_l (g := (fun (q : Int32 × Mem) => q.2)) (fun aa ha => ?_) _ _ kq_r
  obtain ⟨i25, m26⟩ := aa
  have hb : kq SFK m26z m26 := ha
  show kp SFK m26z (Sum.elim (fun (q : Int32 × Mem) => q.2) (fun (q : Mem) => q)) (t_X7_without_128 a1 x2 i18 i25 m26)
  unfold t_X7_without_128
  exact (kp_if (kp_sr hb) (kp_if (kp_ck (kp_ck (kp_ck (kp_n (kp_ck (kp_ck (kp_ck (kp_n (kp_ck (kp_ck (kp_n (kp_n (kp_sl (kq_sto (kq_sto (kq_sto hb nSFK_4) nSFK_5) nSFK_3)))))))))))))) (kp_n (kp_sl hb))))
theorem kf_l_X7_without_91_SFK {a1 : Int32} {a2 : Int32} {x2 : Int32} {i16 : Int32} {n : Nat} {i18z : Int32} {m19z : Mem} : kp SFK m19z (fun (q : Mem) => q) (l_X7_without_91 a1 a2 x2 i16 n i18z m19z) := by
  unfold l_X7_without_91
  refine kp_l (g := (fun (q : Int32 × Mem) => q.2)) (fun aa ha => ?_) _ _ kq_r
  obtain ⟨i18, m19⟩ := aa
  have hb : kq SFK m19z m19 := ha
  show kp SFK m19z (Sum.elim (fun (q : Int32 × Mem) => q.2) (fun (q : Mem) => q)) (t_X7_without_91 a1 a2 x2 i16 i18 m19)
  unfold t_X7_without_91
  exact (kp_if (kp_sr hb) (kp_if (kp_b (fun _ => (kp_if (kp_ck (kp_n (kp_bM (kp_t (kq_sto hb nSFK_3) kf_l_X7_without_128_SFK) (fun _ hm42 => (kp_n (kp_bM (kp_t (kq_sto hm42 nSFK_0) kf_s_X7_read_SFK) (fun _ hm45 => (kp_ck (kp_if (kp_n (kp_sl hm45)) (kp_n (kp_n (kp_n (kp_sl (kq_sto (kq_sto hm45 nSFK_0) nSFK_0)))))))))))))) (kp_n (kp_sl hb))))) (kp_sr hb)))
theorem kf_l_X7_without_73_SFK {a1 : Int32} {a2 : Int32} {x2 : Int32} {n : Nat} {i16z : Int32} {m17z : Mem} : kp SFK m17z (fun (q : Mem) => q) (l_X7_without_73 a1 a2 x2 n i16z m17z) := by
  unfold l_X7_without_73
  refine kp_l (g := (fun (q : Int32 × Mem) => q.2)) (fun aa ha => ?_) _ _ kq_r
  obtain ⟨i16, m17⟩ := aa
  have hb : kq SFK m17z m17 := ha
  show kp SFK m17z (Sum.elim (fun (q : Int32 × Mem) => q.2) (fun (q : Mem) => q)) (t_X7_without_73 a1 a2 x2 i16 m17)
  unfold t_X7_without_73
  exact (kp_if (kp_sr hb) (kp_if (kp_bM (kp_t hb kf_l_X7_without_91_SFK) (fun _ hm55 => (kp_n (kp_sl hm55)))) (kp_sr hb)))
theorem kf_l_X7_without_261_SFK {a1 : Int32} {x2 : Int32} {n : Nat} {i62z : Int32} {m63z : Mem} : kp SFK m63z (fun (q : Mem) => q) (l_X7_without_261 a1 x2 n i62z m63z) := by
  unfold l_X7_without_261
  refine kp_l (g := (fun (q : Int32 × Mem) => q.2)) (fun aa ha => ?_) _ _ kq_r
  obtain ⟨i62, m63⟩ := aa
  have hb : kq SFK m63z m63 := ha
  show kp SFK m63z (Sum.elim (fun (q : Int32 × Mem) => q.2) (fun (q : Mem) => q)) (t_X7_without_261 a1 x2 i62 m63)
  unfold t_X7_without_261
  exact (kp_if (kp_sr hb) (kp_ck (kp_ck (kp_n (kp_ck (kp_ck (kp_n (kp_n (kp_sl (kq_sto (kq_sto hb nSFK_4) nSFK_5))))))))))
theorem kf_s_X7_without_SFK {m : Mem} {a1 : Int32} {a2 : Int32} : kp SFK m (fun (q : Mem) => q) (s_X7_without m a1 a2) := by
  unfold s_X7_without
  exact (kp_ck (kp_n (kp_bM (kp_t kq_r kf_l_X7_without_10_SFK) (fun _ hm13 => (kp_n (kp_n (kp_bM (kp_t (kq_sto (kq_sto hm13 nSFK_0) nSFK_0) kf_l_X7_without_73_SFK) (fun _ hm59 => (kp_ck (kp_n (kp_bM (kp_t (kq_sto hm59 nSFK_3) kf_l_X7_without_261_SFK) (fun _ hm72 => (kp_n (kp_s (kq_sto hm72 nSFK_0)))))))))))))))
theorem kf_s_X7_tooMany_SFK {m : Mem} {a1 : Int32} {a2 : Int32} : kp SFK m (fun (q : Int32 × Mem) => q.2) (s_X7_tooMany m a1 a2) := by
  unfold s_X7_tooMany
  exact (kp_b (fun _ => (kp_if (kp_s kq_r) (kp_bM (kp_t kq_r kf_s_X7_without_SFK) (fun _ hm4 => (kp_s hm4))))))
theorem kf_s_X7_which_SFK {m : Mem} {a1 : Int32} {a2 : Int32} : kp SFK m (fun (q : Int32 × Mem) => q.2) (s_X7_which m a1 a2) := by
  unfold s_X7_which
  exact (kp_b (fun _ => (kp_if (kp_s kq_r) (kp_bM (kp_t kq_r kf_s_X7_without_SFK) (fun _ hm4 => (kp_s hm4))))))
