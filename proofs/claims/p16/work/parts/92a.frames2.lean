/-! more frames -/
def SJ (a : Nat) : Prop := 39 ≤ a ∧ a ≤ 42
def SA (a : Nat) : Prop := a = 42
def SL (a : Nat) : Prop := a ≠ 36
theorem nSA_0 : ¬ SA 0 := by unfold SA; decide
theorem nSA_1 : ¬ SA 1 := by unfold SA; decide
theorem nSA_2 : ¬ SA 2 := by unfold SA; decide
theorem nSA_3 : ¬ SA 3 := by unfold SA; decide
theorem nSA_39 : ¬ SA 39 := by unfold SA; decide
theorem nSA_4 : ¬ SA 4 := by unfold SA; decide
theorem nSA_40 : ¬ SA 40 := by unfold SA; decide
theorem nSA_41 : ¬ SA 41 := by unfold SA; decide
theorem nSA_43 : ¬ SA 43 := by unfold SA; decide
theorem nSA_5 : ¬ SA 5 := by unfold SA; decide
theorem nSA_6 : ¬ SA 6 := by unfold SA; decide
theorem nSA_7 : ¬ SA 7 := by unfold SA; decide
theorem nSJ_1 : ¬ SJ 1 := by unfold SJ; decide
theorem nSJ_2 : ¬ SJ 2 := by unfold SJ; decide
theorem nSJ_3 : ¬ SJ 3 := by unfold SJ; decide
theorem nSJ_4 : ¬ SJ 4 := by unfold SJ; decide
theorem nSJ_5 : ¬ SJ 5 := by unfold SJ; decide
theorem nSJ_6 : ¬ SJ 6 := by unfold SJ; decide
theorem nSL_36 : ¬ SL 36 := by unfold SL; decide
theorem kf_l_X1_addEdge_17_SJ {a2 : Int32} {a3 : Int32} {x3 : Int32} {n : Nat} {i4z : Int32} {m5z : Mem} : kp SJ m5z (fun (q : Int32 × Mem) => q.2) (l_X1_addEdge_17 a2 a3 x3 n i4z m5z) := by
  unfold l_X1_addEdge_17
  refine kp_l (g := (fun (q : Int32 × Mem) => q.2)) (fun aa ha => ?_) _ _ kq_r
  obtain ⟨i4, m5⟩ := aa
  have hb : kq SJ m5z m5 := ha
  show kp SJ m5z (Sum.elim (fun (q : Int32 × Mem) => q.2) (fun (q : Int32 × Mem) => q.2)) (t_X1_addEdge_17 a2 a3 x3 i4 m5)
  unfold t_X1_addEdge_17
  exact (kp_if (kp_sr hb) (kp_b (fun _ => (kp_if (kp_sr hb) (kp_ck (kp_ck (kp_n (kp_ck (kp_ck (kp_n (kp_n (kp_sl (kq_sto (kq_sto hb nSJ_5) nSJ_6)))))))))))))
theorem kf_s_X1_addEdge_SJ {m : Mem} {a1 : Int32} {a2 : Int32} {a3 : Int32} : kp SJ m (fun (q : Mem) => q) (s_X1_addEdge m a1 a2 a3) := by
  unfold s_X1_addEdge
  exact (kp_ck (kp_n (kp_n (kp_2m (kp_t kq_r kf_l_X1_addEdge_17_SJ) (fun _ _ hm18 => (kp_ck (kp_n (kp_ck (kp_n (kp_ck (kp_ck (kp_n (kp_n (kp_s (kq_sto (kq_sto (kq_sto (kq_sto hm18 nSJ_5) nSJ_6) nSJ_4) nSJ_1)))))))))))))))
theorem kf_s_X1_setValue_SJ {m : Mem} {a1 : Int32} {a2 : Int32} {a3 : Int32} : kp SJ m (fun (q : Mem) => q) (s_X1_setValue m a1 a2 a3) := by
  unfold s_X1_setValue
  exact (kp_ck (kp_n (kp_ck (kp_n (kp_s (kq_sto (kq_sto kq_r nSJ_2) nSJ_3))))))
theorem kf_s_X1_addNode_SJ {m : Mem} {a1 : Int32} {a2 : Int32} : kp SJ m (fun (q : Int32 × Mem) => q.2) (s_X1_addNode m a1 a2) := by
  unfold s_X1_addNode
  exact (kp_n (kp_n (kp_ck (kp_n (kp_bM (kp_t (kq_sto (kq_sto kq_r nSJ_1) nSJ_4) kf_s_X1_setValue_SJ) (fun _ hm6 => (kp_s hm6)))))))
theorem kf_s_X1_clear_SJ {m : Mem} : kp SJ m (fun (q : Mem) => q) (s_X1_clear m) := by
  unfold s_X1_clear
  exact (kp_n (kp_n (kp_s (kq_sto (kq_sto kq_r nSJ_1) nSJ_1))))
theorem kf_l_X1_removeEdge_9_SJ {a1 : Int32} {x1 : Int32} {n : Nat} {i3z : Int32} {m4z : Mem} : kp SJ m4z (fun (q : Mem) => q) (l_X1_removeEdge_9 a1 x1 n i3z m4z) := by
  unfold l_X1_removeEdge_9
  refine kp_l (g := (fun (q : Int32 × Mem) => q.2)) (fun aa ha => ?_) _ _ kq_r
  obtain ⟨i3, m4⟩ := aa
  have hb : kq SJ m4z m4 := ha
  show kp SJ m4z (Sum.elim (fun (q : Int32 × Mem) => q.2) (fun (q : Mem) => q)) (t_X1_removeEdge_9 a1 x1 i3 m4)
  unfold t_X1_removeEdge_9
  exact (kp_ck (kp_if (kp_sr hb) (kp_ck (kp_ck (kp_n (kp_ck (kp_ck (kp_n (kp_n (kp_sl (kq_sto (kq_sto hb nSJ_5) nSJ_6)))))))))))
theorem kf_s_X1_removeEdge_SJ {m : Mem} {a1 : Int32} {a2 : Int32} : kp SJ m (fun (q : Mem) => q) (s_X1_removeEdge m a1 a2) := by
  unfold s_X1_removeEdge
  exact (kp_n (kp_n (kp_bM (kp_t kq_r kf_l_X1_removeEdge_9_SJ) (fun _ hm14 => (kp_ck (kp_ck (kp_n (kp_n (kp_s (kq_sto (kq_sto hm14 nSJ_4) nSJ_1))))))))))
theorem kf_l_X1_addEdge_17_SA {a2 : Int32} {a3 : Int32} {x3 : Int32} {n : Nat} {i4z : Int32} {m5z : Mem} : kp SA m5z (fun (q : Int32 × Mem) => q.2) (l_X1_addEdge_17 a2 a3 x3 n i4z m5z) := by
  unfold l_X1_addEdge_17
  refine kp_l (g := (fun (q : Int32 × Mem) => q.2)) (fun aa ha => ?_) _ _ kq_r
  obtain ⟨i4, m5⟩ := aa
  have hb : kq SA m5z m5 := ha
  show kp SA m5z (Sum.elim (fun (q : Int32 × Mem) => q.2) (fun (q : Int32 × Mem) => q.2)) (t_X1_addEdge_17 a2 a3 x3 i4 m5)
  unfold t_X1_addEdge_17
  exact (kp_if (kp_sr hb) (kp_b (fun _ => (kp_if (kp_sr hb) (kp_ck (kp_ck (kp_n (kp_ck (kp_ck (kp_n (kp_n (kp_sl (kq_sto (kq_sto hb nSA_5) nSA_6)))))))))))))
theorem kf_s_X1_addEdge_SA {m : Mem} {a1 : Int32} {a2 : Int32} {a3 : Int32} : kp SA m (fun (q : Mem) => q) (s_X1_addEdge m a1 a2 a3) := by
  unfold s_X1_addEdge
  exact (kp_ck (kp_n (kp_n (kp_2m (kp_t kq_r kf_l_X1_addEdge_17_SA) (fun _ _ hm18 => (kp_ck (kp_n (kp_ck (kp_n (kp_ck (kp_ck (kp_n (kp_n (kp_s (kq_sto (kq_sto (kq_sto (kq_sto hm18 nSA_5) nSA_6) nSA_4) nSA_1)))))))))))))))
theorem kf_s_X1_setValue_SA {m : Mem} {a1 : Int32} {a2 : Int32} {a3 : Int32} : kp SA m (fun (q : Mem) => q) (s_X1_setValue m a1 a2 a3) := by
  unfold s_X1_setValue
  exact (kp_ck (kp_n (kp_ck (kp_n (kp_s (kq_sto (kq_sto kq_r nSA_2) nSA_3))))))
theorem kf_s_X1_addNode_SA {m : Mem} {a1 : Int32} {a2 : Int32} : kp SA m (fun (q : Int32 × Mem) => q.2) (s_X1_addNode m a1 a2) := by
  unfold s_X1_addNode
  exact (kp_n (kp_n (kp_ck (kp_n (kp_bM (kp_t (kq_sto (kq_sto kq_r nSA_1) nSA_4) kf_s_X1_setValue_SA) (fun _ hm6 => (kp_s hm6)))))))
theorem kf_s_X1_clear_SA {m : Mem} : kp SA m (fun (q : Mem) => q) (s_X1_clear m) := by
  unfold s_X1_clear
  exact (kp_n (kp_n (kp_s (kq_sto (kq_sto kq_r nSA_1) nSA_1))))
theorem kf_l_X1_removeEdge_9_SA {a1 : Int32} {x1 : Int32} {n : Nat} {i3z : Int32} {m4z : Mem} : kp SA m4z (fun (q : Mem) => q) (l_X1_removeEdge_9 a1 x1 n i3z m4z) := by
  unfold l_X1_removeEdge_9
  refine kp_l (g := (fun (q : Int32 × Mem) => q.2)) (fun aa ha => ?_) _ _ kq_r
  obtain ⟨i3, m4⟩ := aa
  have hb : kq SA m4z m4 := ha
  show kp SA m4z (Sum.elim (fun (q : Int32 × Mem) => q.2) (fun (q : Mem) => q)) (t_X1_removeEdge_9 a1 x1 i3 m4)
  unfold t_X1_removeEdge_9
  exact (kp_ck (kp_if (kp_sr hb) (kp_ck (kp_ck (kp_n (kp_ck (kp_ck (kp_n (kp_n (kp_sl (kq_sto (kq_sto hb nSA_5) nSA_6)))))))))))
theorem kf_s_X1_removeEdge_SA {m : Mem} {a1 : Int32} {a2 : Int32} : kp SA m (fun (q : Mem) => q) (s_X1_removeEdge m a1 a2) := by
  unfold s_X1_removeEdge
  exact (kp_n (kp_n (kp_bM (kp_t kq_r kf_l_X1_removeEdge_9_SA) (fun _ hm14 => (kp_ck (kp_ck (kp_n (kp_n (kp_s (kq_sto (kq_sto hm14 nSA_4) nSA_1))))))))))
theorem kf_s_X2_forget_SA {m : Mem} : kp SA m (fun (q : Mem) => q) (s_X2_forget m) := by
  unfold s_X2_forget
  exact (kp_n (kp_n (kp_s (kq_sto (kq_sto kq_r nSA_39) nSA_39))))
theorem kf_l_X2_setsDealt_14_SA {a1 : Int32} {a2 : Int32} {tr3 : Nat} {n : Nat} {i4z : Int32} {i5z : Int32} {m6z : Mem} : kp SA m6z (fun (q : Int32 × Mem) => q.2) (l_X2_setsDealt_14 a1 a2 tr3 n i4z i5z m6z) := by
  unfold l_X2_setsDealt_14
  refine kp_l (g := (fun (q : Int32 × Int32 × Mem) => q.2.2)) (fun aa ha => ?_) _ _ kq_r
  obtain ⟨i4, i5, m6⟩ := aa
  have hb : kq SA m6z m6 := ha
  show kp SA m6z (Sum.elim (fun (q : Int32 × Int32 × Mem) => q.2.2) (fun (q : Int32 × Mem) => q.2)) (t_X2_setsDealt_14 a1 a2 tr3 i4 i5 m6)
  unfold t_X2_setsDealt_14
  exact (kp_k (fun _ _ => (kp_ck (kp_if (kp_sr hb) (kp_k (fun _ _ => (kp_if (kp_sr hb) (kp_k (fun _ _ => (kp_ck (kp_n (kp_n (kp_if (kp_if (kp_n (kp_sl hb)) (kp_b (fun _ => (kp_ck (kp_n (kp_n (kp_n (kp_sl (kq_sto hb nSA_43))))))))) (kp_if (kp_if (kp_n (kp_sl hb)) (kp_ck (kp_b (fun _ => (kp_ck (kp_n (kp_n (kp_sl (kq_sto hb nSA_43))))))))) (kp_if (kp_if (kp_n (kp_sl hb)) (kp_n (kp_ck (kp_ck (kp_b (fun _ => (kp_ck (kp_n (kp_n (kp_sl (kq_sto hb nSA_43))))))))))) (kp_if (kp_n (kp_sl hb)) (kp_n (kp_ck (kp_ck (kp_ck (kp_n (kp_n (kp_sl (kq_sto hb nSA_43))))))))))))))))))))))))
theorem kf_s_X2_setsDealt_SA {m : Mem} {a1 : Int32} {a2 : Int32} {tr3 : Nat} : kp SA m (fun (q : Int32 × Mem) => q.2) (s_X2_setsDealt m a1 a2 tr3) := by
  unfold s_X2_setsDealt
  exact (kp_k (fun _ _ => (kp_ck (kp_n (kp_2m (kp_t kq_r kf_l_X2_setsDealt_14_SA) (fun _ _ hm54 => (kp_if (kp_s hm54) (kp_ck (kp_s hm54)))))))))
theorem kf_s_X2_suits_SA {m : Mem} {a1 : Int32} {a2 : Int32} {tr3 : Nat} : kp SA m (fun (q : Int32 × Mem) => q.2) (s_X2_suits m a1 a2 tr3) := by
  unfold s_X2_suits
  exact (kp_b (fun _ => (kp_k (fun _ _ => (kp_ck (kp_if (kp_2m (kp_t kq_r kf_s_X2_setsDealt_SA) (fun _ _ hm7 => (kp_if (kp_s hm7) (kp_s hm7)))) (kp_b (fun _ => (kp_if (kp_2m (kp_t kq_r kf_s_X2_setsDealt_SA) (fun _ _ hm13 => (kp_if (kp_s hm13) (kp_s hm13)))) (kp_s kq_r))))))))))
theorem kf_l_X2_addSuiting_17_SA {i2 : Int32} {n : Nat} {i5z : Int32} {i6z : Int32} {m7z : Mem} : kp SA m7z (fun (q : Int32 × Mem) => q.2) (l_X2_addSuiting_17 i2 n i5z i6z m7z) := by
  unfold l_X2_addSuiting_17
  refine kp_l (g := (fun (q : Int32 × Int32 × Mem) => q.2.2)) (fun aa ha => ?_) _ _ kq_r
  obtain ⟨i5, i6, m7⟩ := aa
  have hb : kq SA m7z m7 := ha
  show kp SA m7z (Sum.elim (fun (q : Int32 × Int32 × Mem) => q.2.2) (fun (q : Int32 × Mem) => q.2)) (t_X2_addSuiting_17 i2 i5 i6 m7)
  unfold t_X2_addSuiting_17
  exact (kp_if (kp_sr hb) (kp_ck (kp_if (kp_2m (kp_t hb kf_s_X2_suits_SA) (fun _ _ hm12 => (kp_if (kp_n (kp_sl hm12)) (kp_ck (kp_ck (kp_n (kp_n (kp_sl (kq_sto hm12 nSA_41))))))))) (kp_n (kp_sl hb)))))
theorem kf_l_X2_addSuiting_4_SA {n : Nat} {i1z : Int32} {i2z : Int32} {m3z : Mem} : kp SA m3z (fun (q : Int32 × Mem) => q.2) (l_X2_addSuiting_4 n i1z i2z m3z) := by
  unfold l_X2_addSuiting_4
  refine kp_l (g := (fun (q : Int32 × Int32 × Mem) => q.2.2)) (fun aa ha => ?_) _ _ kq_r
  obtain ⟨i1, i2, m3⟩ := aa
  have hb : kq SA m3z m3 := ha
  show kp SA m3z (Sum.elim (fun (q : Int32 × Int32 × Mem) => q.2.2) (fun (q : Int32 × Mem) => q.2)) (t_X2_addSuiting_4 i1 i2 m3)
  unfold t_X2_addSuiting_4
  exact (kp_k (fun _ _ => (kp_if (kp_sr hb) (kp_2m (kp_t hb kf_l_X2_addSuiting_17_SA) (fun _ _ hm22 => (kp_n (kp_sl hm22)))))))
theorem kf_s_X2_addSuiting_SA {m : Mem} : kp SA m (fun (q : Int32 × Mem) => q.2) (s_X2_addSuiting m) := by
  unfold s_X2_addSuiting
  exact (kp_2m (kp_t kq_r kf_l_X2_addSuiting_4_SA) (fun _ _ hm26 => (kp_ck (kp_s hm26))))
theorem kf_l_X2_dropUnfit_18_SA {a1 : Int32} {i2 : Int32} {n : Nat} {i5z : Int32} {i6z : Int32} {m7z : Mem} : kp SA m7z (fun (q : Int32 × Mem) => q.2) (l_X2_dropUnfit_18 a1 i2 n i5z i6z m7z) := by
  unfold l_X2_dropUnfit_18
  refine kp_l (g := (fun (q : Int32 × Int32 × Mem) => q.2.2)) (fun aa ha => ?_) _ _ kq_r
  obtain ⟨i5, i6, m7⟩ := aa
  have hb : kq SA m7z m7 := ha
  show kp SA m7z (Sum.elim (fun (q : Int32 × Int32 × Mem) => q.2.2) (fun (q : Int32 × Mem) => q.2)) (t_X2_dropUnfit_18 a1 i2 i5 i6 m7)
  unfold t_X2_dropUnfit_18
  exact (kp_if (kp_sr hb) (kp_k (fun _ _ => (kp_ck (kp_if (kp_ck (kp_if (kp_n (kp_sl hb)) (kp_2m (kp_t hb kf_s_X2_suits_SA) (fun _ _ hm14 => (kp_if (kp_ck (kp_ck (kp_n (kp_n (kp_sl (kq_sto hm14 nSA_40)))))) (kp_n (kp_sl hm14))))))) (kp_sr hb))))))
theorem kf_l_X2_dropUnfit_4_SA {a1 : Int32} {n : Nat} {i1z : Int32} {i2z : Int32} {m3z : Mem} : kp SA m3z (fun (q : Int32 × Mem) => q.2) (l_X2_dropUnfit_4 a1 n i1z i2z m3z) := by
  unfold l_X2_dropUnfit_4
  refine kp_l (g := (fun (q : Int32 × Int32 × Mem) => q.2.2)) (fun aa ha => ?_) _ _ kq_r
  obtain ⟨i1, i2, m3⟩ := aa
  have hb : kq SA m3z m3 := ha
  show kp SA m3z (Sum.elim (fun (q : Int32 × Int32 × Mem) => q.2.2) (fun (q : Int32 × Mem) => q.2)) (t_X2_dropUnfit_4 a1 i1 i2 m3)
  unfold t_X2_dropUnfit_4
  exact (kp_k (fun _ _ => (kp_if (kp_sr hb) (kp_2m (kp_t hb kf_l_X2_dropUnfit_18_SA) (fun _ _ hm25 => (kp_n (kp_sl hm25)))))))
theorem kf_s_X2_dropUnfit_SA {m : Mem} {a1 : Int32} : kp SA m (fun (q : Int32 × Mem) => q.2) (s_X2_dropUnfit m a1) := by
  unfold s_X2_dropUnfit
  exact (kp_2m (kp_t kq_r kf_l_X2_dropUnfit_4_SA) (fun _ _ hm29 => (kp_ck (kp_s hm29))))
theorem kf_l_X2_readFits_10_SA {n : Nat} {i1z : Int32} {m2z : Mem} : kp SA m2z (fun (q : Mem) => q) (l_X2_readFits_10 n i1z m2z) := by
  unfold l_X2_readFits_10
  refine kp_l (g := (fun (q : Int32 × Mem) => q.2)) (fun aa ha => ?_) _ _ kq_r
  obtain ⟨i1, m2⟩ := aa
  have hb : kq SA m2z m2 := ha
  show kp SA m2z (Sum.elim (fun (q : Int32 × Mem) => q.2) (fun (q : Mem) => q)) (t_X2_readFits_10 i1 m2)
  unfold t_X2_readFits_10
  exact (kp_if (kp_sr hb) (kp_k (fun _ _ => (kp_b (fun _ => (kp_if (kp_ck (kp_n (kp_n (kp_sl (kq_sto hb nSA_40))))) (kp_ck (kp_n (kp_n (kp_sl (kq_sto hb nSA_40)))))))))))
theorem kf_l_X2_readFits_66_SA {i15 : Int32} {n : Nat} {i17z : Int32} {i18z : Int32} {m19z : Mem} : kp SA m19z (fun (q : Mem) => q) (l_X2_readFits_66 i15 n i17z i18z m19z) := by
  unfold l_X2_readFits_66
  refine kp_l (g := (fun (q : Int32 × Int32 × Mem) => q.2.2)) (fun aa ha => ?_) _ _ kq_r
  obtain ⟨i17, i18, m19⟩ := aa
  have hb : kq SA m19z m19 := ha
  show kp SA m19z (Sum.elim (fun (q : Int32 × Int32 × Mem) => q.2.2) (fun (q : Mem) => q)) (t_X2_readFits_66 i15 i17 i18 m19)
  unfold t_X2_readFits_66
  exact (kp_if (kp_sr hb) (kp_if (kp_sr hb) (kp_2m (kp_t hb kf_s_X2_dropUnfit_SA) (fun _ _ hm22 => (kp_n (kp_sl hm22))))))
theorem kf_l_X2_readFits_56_SA {n : Nat} {i15z : Int32} {m16z : Mem} : kp SA m16z (fun (q : Mem) => q) (l_X2_readFits_56 n i15z m16z) := by
  unfold l_X2_readFits_56
  refine kp_l (g := (fun (q : Int32 × Mem) => q.2)) (fun aa ha => ?_) _ _ kq_r
  obtain ⟨i15, m16⟩ := aa
  have hb : kq SA m16z m16 := ha
  show kp SA m16z (Sum.elim (fun (q : Int32 × Mem) => q.2) (fun (q : Mem) => q)) (t_X2_readFits_56 i15 m16)
  unfold t_X2_readFits_56
  exact (kp_if (kp_sr hb) (kp_bM (kp_t hb kf_l_X2_readFits_66_SA) (fun _ hm26 => (kp_n (kp_sl hm26)))))
theorem kf_s_X2_readFits_SA {m : Mem} : kp SA m (fun (q : Mem) => q) (s_X2_readFits m) := by
  unfold s_X2_readFits
  exact (kp_if (kp_bM (kp_t kq_r kf_l_X2_readFits_10_SA) (fun _ hm14 => (kp_bM (kp_t hm14 kf_l_X2_readFits_56_SA) (fun _ hm29 => (kp_n (kp_s (kq_sto hm29 nSA_39))))))) (kp_s kq_r))
theorem kf_l_X2_readSure_10_SA {n : Nat} {i1z : Int32} {m2z : Mem} : kp SA m2z (fun (q : Mem) => q) (l_X2_readSure_10 n i1z m2z) := by
  unfold l_X2_readSure_10
  refine kp_l (g := (fun (q : Int32 × Mem) => q.2)) (fun aa ha => ?_) _ _ kq_r
  obtain ⟨i1, m2⟩ := aa
  have hb : kq SA m2z m2 := ha
  show kp SA m2z (Sum.elim (fun (q : Int32 × Mem) => q.2) (fun (q : Mem) => q)) (t_X2_readSure_10 i1 m2)
  unfold t_X2_readSure_10
  exact (kp_if (kp_sr hb) (kp_ck (kp_n (kp_n (kp_sl (kq_sto hb nSA_41))))))
theorem kf_l_X2_readSure_33_SA {n : Nat} {i8z : Int32} {i9z : Int32} {m10z : Mem} : kp SA m10z (fun (q : Mem) => q) (l_X2_readSure_33 n i8z i9z m10z) := by
  unfold l_X2_readSure_33
  refine kp_l (g := (fun (q : Int32 × Int32 × Mem) => q.2.2)) (fun aa ha => ?_) _ _ kq_r
  obtain ⟨i8, i9, m10⟩ := aa
  have hb : kq SA m10z m10 := ha
  show kp SA m10z (Sum.elim (fun (q : Int32 × Int32 × Mem) => q.2.2) (fun (q : Mem) => q)) (t_X2_readSure_33 i8 i9 m10)
  unfold t_X2_readSure_33
  exact (kp_if (kp_sr hb) (kp_if (kp_sr hb) (kp_2m (kp_t hb kf_s_X2_addSuiting_SA) (fun _ _ hm13 => (kp_n (kp_sl hm13))))))
theorem kf_s_X2_readSure_SA {m : Mem} : kp SA m (fun (q : Mem) => q) (s_X2_readSure m) := by
  unfold s_X2_readSure
  exact (kp_if (kp_bM (kp_t kq_r kf_l_X2_readSure_10_SA) (fun _ hm7 => (kp_bM (kp_t hm7 kf_l_X2_readSure_33_SA) (fun _ hm17 => (kp_n (kp_s (kq_sto hm17 nSA_39))))))) (kp_s kq_r))
theorem kf_l_X2_surplusEdges_58_SA {a1 : Int32} {a2 : Int32} {x5 : Int32} {i8 : Int32} {n : Nat} {i10z : Int32} {i11z : Int32} {m12z : Mem} : kp SA m12z (fun (q : Int32 × Mem) => q.2) (l_X2_surplusEdges_58 a1 a2 x5 i8 n i10z i11z m12z) := by
  unfold l_X2_surplusEdges_58
  refine kp_l (g := (fun (q : Int32 × Int32 × Mem) => q.2.2)) (fun aa ha => ?_) _ _ kq_r
  obtain ⟨i10, i11, m12⟩ := aa
  have hb : kq SA m12z m12 := ha
  show kp SA m12z (Sum.elim (fun (q : Int32 × Int32 × Mem) => q.2.2) (fun (q : Int32 × Mem) => q.2)) (t_X2_surplusEdges_58 a1 a2 x5 i8 i10 i11 m12)
  unfold t_X2_surplusEdges_58
  exact (kp_if (kp_sr hb) (kp_if (kp_b (fun _ => (kp_if (kp_n (kp_bM (kp_t (kq_sto hb nSA_39) kf_s_X2_forget_SA) (fun _ hm18 => (kp_bM (kp_t hm18 kf_s_X2_readFits_SA) (fun _ hm20 => (kp_ck (kp_if (kp_n (kp_sl hm20)) (kp_n (kp_sl hm20))))))))) (kp_n (kp_sl hb))))) (kp_sr hb)))
theorem kf_l_X2_surplusEdges_43_SA {a1 : Int32} {a2 : Int32} {x5 : Int32} {n : Nat} {i7z : Int32} {i8z : Int32} {m9z : Mem} : kp SA m9z (fun (q : Int32 × Mem) => q.2) (l_X2_surplusEdges_43 a1 a2 x5 n i7z i8z m9z) := by
  unfold l_X2_surplusEdges_43
  refine kp_l (g := (fun (q : Int32 × Int32 × Mem) => q.2.2)) (fun aa ha => ?_) _ _ kq_r
  obtain ⟨i7, i8, m9⟩ := aa
  have hb : kq SA m9z m9 := ha
  show kp SA m9z (Sum.elim (fun (q : Int32 × Int32 × Mem) => q.2.2) (fun (q : Int32 × Mem) => q.2)) (t_X2_surplusEdges_43 a1 a2 x5 i7 i8 m9)
  unfold t_X2_surplusEdges_43
  exact (kp_if (kp_sr hb) (kp_if (kp_2m (kp_t hb kf_l_X2_surplusEdges_58_SA) (fun _ _ hm29 => (kp_n (kp_sl hm29)))) (kp_sr hb)))
theorem kf_s_X2_surplusEdges_SA {m : Mem} {a1 : Int32} {a2 : Int32} : kp SA m (fun (q : Int32 × Mem) => q.2) (s_X2_surplusEdges m a1 a2) := by
  unfold s_X2_surplusEdges
  exact (kp_bM (kp_t kq_r kf_s_X2_readFits_SA) (fun _ hm2 => (kp_ck (kp_if (kp_ck (kp_n (kp_n (kp_2m (kp_t (kq_sto hm2 nSA_39) kf_l_X2_surplusEdges_43_SA) (fun _ _ hm34 => (kp_n (kp_bM (kp_t (kq_sto hm34 nSA_39) kf_s_X2_forget_SA) (fun _ hm37 => (kp_s hm37))))))))) (kp_s hm2)))))
theorem kf_s_X6_node_SA {m : Mem} {a1 : Int32} {a2 : Int32} : kp SA m (fun (q : Int32 × Mem) => q.2) (s_X6_node m a1 a2) := by
  unfold s_X6_node
  exact (kp_if (kp_bM (kp_t kq_r kf_s_X2_forget_SA) (fun _ hm2 => (kp_2m (kp_t hm2 kf_s_X1_addNode_SA) (fun _ _ hm5 => (kp_s hm5))))) (kp_s kq_r))
theorem kf_s_X6_value_SA {m : Mem} {a1 : Int32} {a2 : Int32} {a3 : Int32} : kp SA m (fun (q : Int32 × Mem) => q.2) (s_X6_value m a1 a2 a3) := by
  unfold s_X6_value
  exact (kp_b (fun _ => (kp_if (kp_s kq_r) (kp_bM (kp_t kq_r kf_s_X2_forget_SA) (fun _ hm4 => (kp_bM (kp_t hm4 kf_s_X1_setValue_SA) (fun _ hm6 => (kp_s hm6))))))))
theorem kf_s_X6_edge_SA {m : Mem} {a1 : Int32} {a2 : Int32} {a3 : Int32} : kp SA m (fun (q : Int32 × Mem) => q.2) (s_X6_edge m a1 a2 a3) := by
  unfold s_X6_edge
  exact (kp_b (fun _ => (kp_if (kp_s kq_r) (kp_b (fun _ => (kp_if (kp_if (kp_s kq_r) (kp_ck (kp_if (kp_bM (kp_t kq_r kf_s_X2_forget_SA) (fun _ hm7 => (kp_bM (kp_t hm7 kf_s_X1_addEdge_SA) (fun _ hm9 => (kp_s hm9))))) (kp_s kq_r)))) (kp_s kq_r)))))))
theorem kf_s_X6_cut_SA {m : Mem} {a1 : Int32} {a2 : Int32} {a3 : Int32} : kp SA m (fun (q : Int32 × Mem) => q.2) (s_X6_cut m a1 a2 a3) := by
  unfold s_X6_cut
  exact (kp_b (fun _ => (kp_if (kp_s kq_r) (kp_b (fun _ => (kp_if (kp_bM (kp_t kq_r kf_s_X2_forget_SA) (fun _ hm6 => (kp_bM (kp_t hm6 kf_s_X1_removeEdge_SA) (fun _ hm8 => (kp_s hm8))))) (kp_s kq_r)))))))
theorem kf_s_X6_reset_SA {m : Mem} : kp SA m (fun (q : Int32 × Mem) => q.2) (s_X6_reset m) := by
  unfold s_X6_reset
  exact (kp_n (kp_bM (kp_t kq_r kf_s_X1_clear_SA) (fun _ hm3 => (kp_bM (kp_t hm3 kf_s_X2_forget_SA) (fun _ hm5 => (kp_n (kp_s (kq_sto hm5 nSA_0))))))))
theorem kf_s_X6_end_SA {m : Mem} {a1 : Int32} : kp SA m (fun (q : Int32 × Mem) => q.2) (s_X6_end m a1) := by
  unfold s_X6_end
  exact (kp_if (kp_s kq_r) (kp_if (kp_n (kp_n (kp_s (kq_sto kq_r nSA_7)))) (kp_s kq_r)))
theorem kf_s_X6_fits_SA {m : Mem} {a1 : Int32} {a2 : Int32} : kp SA m (fun (q : Int32 × Mem) => q.2) (s_X6_fits m a1 a2) := by
  unfold s_X6_fits
  exact (kp_b (fun _ => (kp_if (kp_s kq_r) (kp_bM (kp_t kq_r kf_s_X2_readFits_SA) (fun _ hm4 => (kp_ck (kp_s hm4)))))))
theorem kf_s_X6_surely_SA {m : Mem} {a1 : Int32} {a2 : Int32} : kp SA m (fun (q : Int32 × Mem) => q.2) (s_X6_surely m a1 a2) := by
  unfold s_X6_surely
  exact (kp_b (fun _ => (kp_if (kp_s kq_r) (kp_bM (kp_t kq_r kf_s_X2_readFits_SA) (fun _ hm4 => (kp_bM (kp_t hm4 kf_s_X2_readSure_SA) (fun _ hm6 => (kp_ck (kp_s hm6)))))))))
theorem kf_s_X6_all_SA {m : Mem} {a1 : Int32} : kp SA m (fun (q : Int32 × Mem) => q.2) (s_X6_all m a1) := by
  unfold s_X6_all
  exact (kp_k (fun _ _ => (kp_b (fun _ => (kp_if (kp_s kq_r) (kp_bM (kp_t kq_r kf_s_X2_readFits_SA) (fun _ hm5 => (kp_ck (kp_s hm5)))))))))
theorem kf_s_X6_count_SA {m : Mem} {a1 : Int32} : kp SA m (fun (q : Int32 × Mem) => q.2) (s_X6_count m a1) := by
  unfold s_X6_count
  exact (kp_if (kp_s kq_r) (kp_if (kp_s kq_r) (kp_if (kp_k (fun _ _ => (kp_s kq_r))) (kp_if (kp_s kq_r) (kp_if (kp_bM (kp_t kq_r kf_s_X2_readFits_SA) (fun _ hm8 => (kp_b (fun _ => (kp_s hm8))))) (kp_if (kp_bM (kp_t kq_r kf_s_X2_readFits_SA) (fun _ hm13 => (kp_bM (kp_t hm13 kf_s_X2_readSure_SA) (fun _ hm15 => (kp_b (fun _ => (kp_s hm15))))))) (kp_s kq_r)))))))
theorem kf_s_X6_tooMany_SA {m : Mem} {a1 : Int32} {a2 : Int32} : kp SA m (fun (q : Int32 × Mem) => q.2) (s_X6_tooMany m a1 a2) := by
  unfold s_X6_tooMany
  exact (kp_b (fun _ => (kp_if (kp_s kq_r) (kp_2m (kp_t kq_r kf_s_X2_surplusEdges_SA) (fun _ _ hm5 => (kp_if (kp_b (fun _ => (kp_s hm5))) (kp_s hm5)))))))
theorem kf_s_X6_which_SA {m : Mem} {a1 : Int32} {a2 : Int32} : kp SA m (fun (q : Int32 × Mem) => q.2) (s_X6_which m a1 a2) := by
  unfold s_X6_which
  exact (kp_b (fun _ => (kp_if (kp_s kq_r) (kp_2m (kp_t kq_r kf_s_X2_surplusEdges_SA) (fun _ _ hm5 => (kp_if (kp_s hm5) (kp_s hm5)))))))
theorem kf_l_X7_findLeads_18_SL {n : Nat} {i2z : Int32} {m3z : Mem} : kp SL m3z (fun (q : Mem) => q) (l_X7_findLeads_18 n i2z m3z) := by
  unfold l_X7_findLeads_18
  refine kp_l (g := (fun (q : Int32 × Mem) => q.2)) (fun aa ha => ?_) _ _ kq_r
  obtain ⟨i2, m3⟩ := aa
  have hb : kq SL m3z m3 := ha
  show kp SL m3z (Sum.elim (fun (q : Int32 × Mem) => q.2) (fun (q : Mem) => q)) (t_X7_findLeads_18 i2 m3)
  unfold t_X7_findLeads_18
  exact (kp_if (kp_sr hb) (kp_ck (kp_n (kp_n (kp_sl (kq_sto hb nSL_36))))))
theorem kf_l_X7_findLeads_47_SL {a1 : Int32} {i9 : Int32} {n : Nat} {i11z : Int32} {m12z : Mem} : kp SL m12z (fun (q : Mem) => q) (l_X7_findLeads_47 a1 i9 n i11z m12z) := by
  unfold l_X7_findLeads_47
  refine kp_l (g := (fun (q : Int32 × Mem) => q.2)) (fun aa ha => ?_) _ _ kq_r
  obtain ⟨i11, m12⟩ := aa
  have hb : kq SL m12z m12 := ha
  show kp SL m12z (Sum.elim (fun (q : Int32 × Mem) => q.2) (fun (q : Mem) => q)) (t_X7_findLeads_47 a1 i9 i11 m12)
  unfold t_X7_findLeads_47
  exact (kp_b (fun _ => (kp_if (kp_sr hb) (kp_n (kp_b (fun _ => (kp_if (kp_if (kp_ck (kp_ck (kp_n (kp_n (kp_sl (kq_sto hb nSL_36)))))) (kp_ck (kp_ck (kp_n (kp_n (kp_sl (kq_sto hb nSL_36))))))) (kp_if (kp_if (kp_ck (kp_ck (kp_n (kp_n (kp_sl (kq_sto hb nSL_36)))))) (kp_ck (kp_ck (kp_n (kp_n (kp_sl (kq_sto hb nSL_36))))))) (kp_n (kp_sl hb))))))))))
theorem kf_l_X7_findLeads_39_SL {a1 : Int32} {y1 : Int32} {n : Nat} {i9z : Int32} {m10z : Mem} : kp SL m10z (fun (q : Mem) => q) (l_X7_findLeads_39 a1 y1 n i9z m10z) := by
  unfold l_X7_findLeads_39
  refine kp_l (g := (fun (q : Int32 × Mem) => q.2)) (fun aa ha => ?_) _ _ kq_r
  obtain ⟨i9, m10⟩ := aa
  have hb : kq SL m10z m10 := ha
  show kp SL m10z (Sum.elim (fun (q : Int32 × Mem) => q.2) (fun (q : Mem) => q)) (t_X7_findLeads_39 a1 y1 i9 m10)
  unfold t_X7_findLeads_39
  exact (kp_if (kp_sr hb) (kp_bM (kp_t hb kf_l_X7_findLeads_47_SL) (fun _ hm44 => (kp_n (kp_sl hm44)))))
theorem kf_l_X7_findLeads_178_SL {y1 : Int32} {i48 : Int32} {i50 : Int32} {n : Nat} {i52z : Int32} {m53z : Mem} : kp SL m53z (fun (q : Mem) => q) (l_X7_findLeads_178 y1 i48 i50 n i52z m53z) := by
  unfold l_X7_findLeads_178
  refine kp_l (g := (fun (q : Int32 × Mem) => q.2)) (fun aa ha => ?_) _ _ kq_r
  obtain ⟨i52, m53⟩ := aa
  have hb : kq SL m53z m53 := ha
  show kp SL m53z (Sum.elim (fun (q : Int32 × Mem) => q.2) (fun (q : Mem) => q)) (t_X7_findLeads_178 y1 i48 i50 i52 m53)
  unfold t_X7_findLeads_178
  exact (kp_if (kp_sr hb) (kp_ck (kp_if (kp_ck (kp_if (kp_ck (kp_n (kp_n (kp_sl (kq_sto hb nSL_36))))) (kp_ck (kp_if (kp_ck (kp_n (kp_n (kp_sl (kq_sto hb nSL_36))))) (kp_ck (kp_n (kp_n (kp_sl (kq_sto hb nSL_36))))))))) (kp_ck (kp_n (kp_n (kp_sl (kq_sto hb nSL_36))))))))
theorem kf_l_X7_findLeads_169_SL {y1 : Int32} {i48 : Int32} {n : Nat} {i50z : Int32} {m51z : Mem} : kp SL m51z (fun (q : Mem) => q) (l_X7_findLeads_169 y1 i48 n i50z m51z) := by
  unfold l_X7_findLeads_169
  refine kp_l (g := (fun (q : Int32 × Mem) => q.2)) (fun aa ha => ?_) _ _ kq_r
  obtain ⟨i50, m51⟩ := aa
  have hb : kq SL m51z m51 := ha
  show kp SL m51z (Sum.elim (fun (q : Int32 × Mem) => q.2) (fun (q : Mem) => q)) (t_X7_findLeads_169 y1 i48 i50 m51)
  unfold t_X7_findLeads_169
  exact (kp_if (kp_sr hb) (kp_bM (kp_t hb kf_l_X7_findLeads_178_SL) (fun _ hm73 => (kp_n (kp_sl hm73)))))
theorem kf_l_X7_findLeads_161_SL {y1 : Int32} {n : Nat} {i48z : Int32} {m49z : Mem} : kp SL m49z (fun (q : Mem) => q) (l_X7_findLeads_161 y1 n i48z m49z) := by
  unfold l_X7_findLeads_161
  refine kp_l (g := (fun (q : Int32 × Mem) => q.2)) (fun aa ha => ?_) _ _ kq_r
  obtain ⟨i48, m49⟩ := aa
  have hb : kq SL m49z m49 := ha
  show kp SL m49z (Sum.elim (fun (q : Int32 × Mem) => q.2) (fun (q : Mem) => q)) (t_X7_findLeads_161 y1 i48 m49)
  unfold t_X7_findLeads_161
  exact (kp_if (kp_sr hb) (kp_bM (kp_t hb kf_l_X7_findLeads_169_SL) (fun _ hm76 => (kp_n (kp_sl hm76)))))
theorem kf_s_X7_findLeads_SL {m : Mem} {a1 : Int32} : kp SL m (fun (q : Mem) => q) (s_X7_findLeads m a1) := by
  unfold s_X7_findLeads
  exact (kp_b (fun _ => (kp_bM (kp_t kq_r kf_l_X7_findLeads_18_SL) (fun _ hm8 => (kp_bM (kp_t hm8 kf_l_X7_findLeads_39_SL) (fun _ hm47 => (kp_bM (kp_t hm47 kf_l_X7_findLeads_161_SL) (fun _ hm79 => (kp_s hm79)))))))))
theorem kf_s_X7_depends_SL {m : Mem} {a1 : Int32} {a2 : Int32} : kp SL m (fun (q : Int32 × Mem) => q.2) (s_X7_depends m a1 a2) := by
  unfold s_X7_depends
  exact (kp_b (fun _ => (kp_if (kp_s kq_r) (kp_b (fun _ => (kp_if (kp_s kq_r) (kp_bM (kp_t kq_r kf_s_X7_findLeads_SL) (fun _ hm6 => (kp_ck (kp_if (kp_s hm6) (kp_s hm6)))))))))))
