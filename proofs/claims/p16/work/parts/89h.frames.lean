/-! what the calls leave as it was -/
def kp {α : Type} (S : Nat → Prop) (m : Mem) (f : α → Mem) (o : Option α) : Prop := ∀ q, o = some q → ∀ a, S a → f q a = m a
def kq (S : Nat → Prop) (m m2 : Mem) : Prop := ∀ a, S a → m2 a = m a
theorem kq_r {S : Nat → Prop} {m : Mem} : kq S m m := fun _ _ => rfl
theorem kq_sto {S : Nat → Prop} {m m2 : Mem} {c j : Nat} {x : Int32} (h : kq S m m2) (hc : ¬ S c) : kq S m (sto m2 c j x) := fun a ha => by rw [rd_o (fun (e : a = c) => hc (by rw [← e]; exact ha))]; exact h a ha
theorem kp_s {α : Type} {S : Nat → Prop} {m : Mem} {f : α → Mem} {q : α} (h : kq S m (f q)) : kp S m f (some q) := fun r e => by rw [← Option.some.inj e]; exact h
theorem kp_sl {α β : Type} {S : Nat → Prop} {m : Mem} {g : α → Mem} {f : β → Mem} {q : α} (h : kq S m (g q)) : kp S m (Sum.elim g f) (some (.inl q)) := fun r e => by rw [← Option.some.inj e]; exact h
theorem kp_sr {α β : Type} {S : Nat → Prop} {m : Mem} {g : α → Mem} {f : β → Mem} {q : β} (h : kq S m (f q)) : kp S m (Sum.elim g f) (some (.inr q)) := fun r e => by rw [← Option.some.inj e]; exact h
theorem kp_if {α : Type} {S : Nat → Prop} {m : Mem} {f : α → Mem} {c : Prop} [Decidable c] {x y : Option α} (h1 : kp S m f x) (h2 : kp S m f y) : kp S m f (if c then x else y) := by
  by_cases h : c
  · rw [if_pos h]; exact h1
  · rw [if_neg h]; exact h2
theorem kp_ck {α : Type} {S : Nat → Prop} {m : Mem} {f : α → Mem} {c : Prop} [Decidable c] {x : Option α} (h : kp S m f x) : kp S m f (ck c x) := by
  unfold ck
  by_cases q : c
  · rw [if_pos q]; exact h
  · rw [if_neg q]; intro r e; cases e
theorem kp_n {α β : Type} {S : Nat → Prop} {m : Mem} {f : α → Mem} {x : β} {k : β → Option α} (h : kp S m f (k x)) : kp S m f (bn x k) := h
theorem kp_k {α : Type} {S : Nat → Prop} {m : Mem} {f : α → Mem} {x : Int32} {k : Nat → Option α} (h : ∀ b, isb b → kp S m f (k b)) : kp S m f (zbk x k) := fun r e => by
  obtain ⟨b, hb, -, e2⟩ := zbk_el e
  exact h b hb r e2
theorem kp_bM {β : Type} {S : Nat → Prop} {m : Mem} {f : β → Mem} {o : Option Mem} {k : Mem → Option β} (h : kp S m (fun (q : Mem) => q) o) (hk : ∀ r, kq S m r → kp S m f (k r)) : kp S m f (o.bind k) := fun r e => by
  cases ho : o with
  | none => rw [ho] at e; cases e
  | some x => rw [ho] at e; exact hk x (h x ho) r e
theorem kp_b {α β : Type} {S : Nat → Prop} {m : Mem} {f : β → Mem} {o : Option α} {k : α → Option β} (hk : ∀ r, kp S m f (k r)) : kp S m f (o.bind k) := fun r e => by
  cases ho : o with
  | none => rw [ho] at e; cases e
  | some x => rw [ho] at e; exact hk x r e
theorem kp_2m {α β : Type} {S : Nat → Prop} {m : Mem} {f : β → Mem} {o : Option (α × Mem)} {k : α → Mem → Option β} (h : kp S m (fun (q : α × Mem) => q.2) o) (hk : ∀ r t, kq S m t → kp S m f (k r t)) : kp S m f (zb2 o k) := fun r e => by
  cases ho : o with
  | none => rw [ho] at e; cases e
  | some x => rw [ho] at e; exact hk x.1 x.2 (h x ho) r e
theorem kp_2 {α β γ : Type} {S : Nat → Prop} {m : Mem} {f : γ → Mem} {o : Option (α × β)} {k : α → β → Option γ} (hk : ∀ r t, kp S m f (k r t)) : kp S m f (zb2 o k) := fun r e => by
  cases ho : o with
  | none => rw [ho] at e; cases e
  | some x => rw [ho] at e; exact hk x.1 x.2 r e
theorem kp_t {α : Type} {S : Nat → Prop} {m m2 : Mem} {f : α → Mem} {o : Option α} (h : kq S m m2) (g : kp S m2 f o) : kp S m f o := fun r e a ha => (g r e a ha).trans (h a ha)
theorem kp_l {α β : Type} {S : Nat → Prop} {m : Mem} {g : α → Mem} {f : β → Mem} {st : α → Option (α ⊕ β)} (hs : ∀ a, kq S m (g a) → kp S m (Sum.elim g f) (st a)) : ∀ (n : Nat) (a : α), kq S m (g a) → kp S m f (zlp n st a) := by
  intro n
  induction n with
  | zero => intro a _ r e; cases e
  | succ n ih =>
    intro a ha r e
    unfold zlp at e
    cases h : st a with
    | none => rw [h] at e; cases e
    | some x =>
      rw [h] at e
      cases x with
      | inl a2 => exact ih a2 (hs a ha _ h) r e
      | inr b => rw [← Option.some.inj e]; exact hs a ha _ h
def SM (a : Nat) : Prop := (6 ≤ a ∧ a ≤ 18) ∨ a = 33
def SM2 (a : Nat) : Prop := 6 ≤ a ∧ a ≤ 18
def SX (a : Nat) : Prop := a = 8 ∨ (11 ≤ a ∧ a ≤ 38)
def SX2 (a : Nat) : Prop := 11 ≤ a ∧ a ≤ 38
theorem nSM_0 : ¬ SM 0 := by unfold SM; decide
theorem nSM_1 : ¬ SM 1 := by unfold SM; decide
theorem nSM_2 : ¬ SM 2 := by unfold SM; decide
theorem nSM_3 : ¬ SM 3 := by unfold SM; decide
theorem nSM_36 : ¬ SM 36 := by unfold SM; decide
theorem nSM_37 : ¬ SM 37 := by unfold SM; decide
theorem nSM_38 : ¬ SM 38 := by unfold SM; decide
theorem nSM_39 : ¬ SM 39 := by unfold SM; decide
theorem nSM_4 : ¬ SM 4 := by unfold SM; decide
theorem nSM_40 : ¬ SM 40 := by unfold SM; decide
theorem nSM_41 : ¬ SM 41 := by unfold SM; decide
theorem nSM_42 : ¬ SM 42 := by unfold SM; decide
theorem nSM_43 : ¬ SM 43 := by unfold SM; decide
theorem nSM_5 : ¬ SM 5 := by unfold SM; decide
theorem nSM2_0 : ¬ SM2 0 := by unfold SM2; decide
theorem nSM2_33 : ¬ SM2 33 := by unfold SM2; decide
theorem nSX_0 : ¬ SX 0 := by unfold SX; decide
theorem nSX_1 : ¬ SX 1 := by unfold SX; decide
theorem nSX_2 : ¬ SX 2 := by unfold SX; decide
theorem nSX_3 : ¬ SX 3 := by unfold SX; decide
theorem nSX_39 : ¬ SX 39 := by unfold SX; decide
theorem nSX_4 : ¬ SX 4 := by unfold SX; decide
theorem nSX_5 : ¬ SX 5 := by unfold SX; decide
theorem nSX_6 : ¬ SX 6 := by unfold SX; decide
theorem nSX_7 : ¬ SX 7 := by unfold SX; decide
theorem nSX2_7 : ¬ SX2 7 := by unfold SX2; decide
theorem nSX2_8 : ¬ SX2 8 := by unfold SX2; decide
theorem kf_l_X7_free_2_SM {n : Nat} {i1z : Int32} {m2z : Mem} : kp SM m2z (fun (q : Mem) => q) (l_X7_free_2 n i1z m2z) := by
  unfold l_X7_free_2
  refine kp_l (g := (fun (q : Int32 × Mem) => q.2)) (fun aa ha => ?_) _ _ kq_r
  obtain ⟨i1, m2⟩ := aa
  have hb : kq SM m2z m2 := ha
  show kp SM m2z (Sum.elim (fun (q : Int32 × Mem) => q.2) (fun (q : Mem) => q)) (t_X7_free_2 i1 m2)
  unfold t_X7_free_2
  exact (kp_if (kp_sr hb) (kp_ck (kp_n (kp_n (kp_sl (kq_sto hb nSM_39))))))
theorem kf_s_X7_free_SM {m : Mem} : kp SM m (fun (q : Mem) => q) (s_X7_free m) := by
  unfold s_X7_free
  exact (kp_bM (kp_t kq_r kf_l_X7_free_2_SM) (fun _ hm7 => (kp_s hm7)))
theorem kf_l_X7_findRanks_2_SM {n : Nat} {i1z : Int32} {m2z : Mem} : kp SM m2z (fun (q : Mem) => q) (l_X7_findRanks_2 n i1z m2z) := by
  unfold l_X7_findRanks_2
  refine kp_l (g := (fun (q : Int32 × Mem) => q.2)) (fun aa ha => ?_) _ _ kq_r
  obtain ⟨i1, m2⟩ := aa
  have hb : kq SM m2z m2 := ha
  show kp SM m2z (Sum.elim (fun (q : Int32 × Mem) => q.2) (fun (q : Mem) => q)) (t_X7_findRanks_2 i1 m2)
  unfold t_X7_findRanks_2
  exact (kp_if (kp_sr hb) (kp_ck (kp_n (kp_n (kp_sl (kq_sto hb nSM_41))))))
theorem kf_l_X7_findRanks_43_SM {i10 : Int32} {n : Nat} {i12z : Int32} {m13z : Mem} : kp SM m13z (fun (q : Mem) => q) (l_X7_findRanks_43 i10 n i12z m13z) := by
  unfold l_X7_findRanks_43
  refine kp_l (g := (fun (q : Int32 × Mem) => q.2)) (fun aa ha => ?_) _ _ kq_r
  obtain ⟨i12, m13⟩ := aa
  have hb : kq SM m13z m13 := ha
  show kp SM m13z (Sum.elim (fun (q : Int32 × Mem) => q.2) (fun (q : Mem) => q)) (t_X7_findRanks_43 i10 i12 m13)
  unfold t_X7_findRanks_43
  exact (kp_ck (kp_if (kp_sr hb) (kp_n (kp_ck (kp_if (kp_ck (kp_ck (kp_ck (kp_b (fun _ => (kp_n (kp_ck (kp_if (kp_ck (kp_ck (kp_n (kp_n (kp_sl (kq_sto hb nSM_41)))))) (kp_ck (kp_n (kp_n (kp_sl (kq_sto hb nSM_41))))))))))))) (kp_ck (kp_if (kp_ck (kp_ck (kp_ck (kp_b (fun _ => (kp_n (kp_ck (kp_if (kp_ck (kp_ck (kp_n (kp_n (kp_sl (kq_sto hb nSM_41)))))) (kp_ck (kp_n (kp_n (kp_sl (kq_sto hb nSM_41))))))))))))) (kp_n (kp_sl hb)))))))))
theorem kf_l_X7_findRanks_33_SM {n : Nat} {i10z : Int32} {m11z : Mem} : kp SM m11z (fun (q : Mem) => q) (l_X7_findRanks_33 n i10z m11z) := by
  unfold l_X7_findRanks_33
  refine kp_l (g := (fun (q : Int32 × Mem) => q.2)) (fun aa ha => ?_) _ _ kq_r
  obtain ⟨i10, m11⟩ := aa
  have hb : kq SM m11z m11 := ha
  show kp SM m11z (Sum.elim (fun (q : Int32 × Mem) => q.2) (fun (q : Mem) => q)) (t_X7_findRanks_33 i10 m11)
  unfold t_X7_findRanks_33
  exact (kp_if (kp_sr hb) (kp_bM (kp_t hb kf_l_X7_findRanks_43_SM) (fun _ hm52 => (kp_n (kp_sl hm52)))))
theorem kf_l_X7_findRanks_25_SM {n : Nat} {i8z : Int32} {m9z : Mem} : kp SM m9z (fun (q : Mem) => q) (l_X7_findRanks_25 n i8z m9z) := by
  unfold l_X7_findRanks_25
  refine kp_l (g := (fun (q : Int32 × Mem) => q.2)) (fun aa ha => ?_) _ _ kq_r
  obtain ⟨i8, m9⟩ := aa
  have hb : kq SM m9z m9 := ha
  show kp SM m9z (Sum.elim (fun (q : Int32 × Mem) => q.2) (fun (q : Mem) => q)) (t_X7_findRanks_25 i8 m9)
  unfold t_X7_findRanks_25
  exact (kp_if (kp_sr hb) (kp_bM (kp_t hb kf_l_X7_findRanks_33_SM) (fun _ hm55 => (kp_n (kp_sl hm55)))))
theorem kf_s_X7_findRanks_SM {m : Mem} : kp SM m (fun (q : Mem) => q) (s_X7_findRanks m) := by
  unfold s_X7_findRanks
  exact (kp_bM (kp_t kq_r kf_l_X7_findRanks_2_SM) (fun _ hm7 => (kp_bM (kp_t hm7 kf_l_X7_findRanks_25_SM) (fun _ hm58 => (kp_s hm58)))))
theorem kf_l_X7_dealtTo_10_SM {a1 : Int32} {x1 : Int32} {n : Nat} {i2z : Int32} {m3z : Mem} : kp SM m3z (fun (q : Mem) => q) (l_X7_dealtTo_10 a1 x1 n i2z m3z) := by
  unfold l_X7_dealtTo_10
  refine kp_l (g := (fun (q : Int32 × Mem) => q.2)) (fun aa ha => ?_) _ _ kq_r
  obtain ⟨i2, m3⟩ := aa
  have hb : kq SM m3z m3 := ha
  show kp SM m3z (Sum.elim (fun (q : Int32 × Mem) => q.2) (fun (q : Mem) => q)) (t_X7_dealtTo_10 a1 x1 i2 m3)
  unfold t_X7_dealtTo_10
  exact (kp_ck (kp_if (kp_sr hb) (kp_ck (kp_if (kp_ck (kp_n (kp_n (kp_sl (kq_sto hb nSM_40))))) (kp_ck (kp_n (kp_n (kp_sl (kq_sto hb nSM_40)))))))))
theorem kf_l_X7_dealtTo_66_SM {a2 : Int32} {a3 : Int32} {x1 : Int32} {n : Nat} {i17z : Int32} {i18z : Int32} {m19z : Mem} : kp SM m19z (fun (q : Int32 × Mem) => q.2) (l_X7_dealtTo_66 a2 a3 x1 n i17z i18z m19z) := by
  unfold l_X7_dealtTo_66
  refine kp_l (g := (fun (q : Int32 × Int32 × Mem) => q.2.2)) (fun aa ha => ?_) _ _ kq_r
  obtain ⟨i17, i18, m19⟩ := aa
  have hb : kq SM m19z m19 := ha
  show kp SM m19z (Sum.elim (fun (q : Int32 × Int32 × Mem) => q.2.2) (fun (q : Int32 × Mem) => q.2)) (t_X7_dealtTo_66 a2 a3 x1 i17 i18 m19)
  unfold t_X7_dealtTo_66
  exact (kp_if (kp_sr hb) (kp_ck (kp_b (fun _ => (kp_ck (kp_if (kp_ck (kp_n (kp_ck (kp_n (kp_b (fun _ => (kp_ck (kp_ck (kp_ck (kp_b (fun _ => (kp_b (fun _ => (kp_ck (kp_n (kp_n (kp_sl (kq_sto hb nSM_40)))))))))))))))))) (kp_ck (kp_if (kp_ck (kp_ck (kp_ck (kp_n (kp_n (kp_sl (kq_sto hb nSM_40))))))) (kp_if (kp_ck (kp_n (kp_n (kp_sl hb)))) (kp_ck (kp_ck (kp_n (kp_n (kp_sl (kq_sto hb nSM_40)))))))))))))))
theorem kf_s_X7_dealtTo_SM {m : Mem} {a1 : Int32} {a2 : Int32} {a3 : Int32} : kp SM m (fun (q : Int32 × Mem) => q.2) (s_X7_dealtTo m a1 a2 a3) := by
  unfold s_X7_dealtTo
  exact (kp_n (kp_bM (kp_t kq_r kf_l_X7_dealtTo_10_SM) (fun _ hm14 => (kp_ck (kp_n (kp_2m (kp_t hm14 kf_l_X7_dealtTo_66_SM) (fun _ _ hm78 => (kp_s hm78))))))))
theorem kf_s_X7_can_SM {m : Mem} {a1 : Int32} {a2 : Int32} {a3 : Int32} : kp SM m (fun (q : Int32 × Mem) => q.2) (s_X7_can m a1 a2 a3) := by
  unfold s_X7_can
  exact (kp_b (fun _ => (kp_ck (kp_if (kp_2m (kp_t kq_r kf_s_X7_dealtTo_SM) (fun _ _ hm6 => (kp_if (kp_s hm6) (kp_s hm6)))) (kp_ck (kp_if (kp_2m (kp_t kq_r kf_s_X7_dealtTo_SM) (fun _ _ hm11 => (kp_if (kp_s hm11) (kp_s hm11)))) (kp_s kq_r)))))))
theorem kf_l_X7_changes_17_SM {a1 : Int32} {a2 : Int32} {i2 : Int32} {n : Nat} {i4z : Int32} {i5z : Int32} {m6z : Mem} : kp SM m6z (fun (q : Int32 × Mem) => q.2) (l_X7_changes_17 a1 a2 i2 n i4z i5z m6z) := by
  unfold l_X7_changes_17
  refine kp_l (g := (fun (q : Int32 × Int32 × Mem) => q.2.2)) (fun aa ha => ?_) _ _ kq_r
  obtain ⟨i4, i5, m6⟩ := aa
  have hb : kq SM m6z m6 := ha
  show kp SM m6z (Sum.elim (fun (q : Int32 × Int32 × Mem) => q.2.2) (fun (q : Int32 × Mem) => q.2)) (t_X7_changes_17 a1 a2 i2 i4 i5 m6)
  unfold t_X7_changes_17
  exact (kp_if (kp_sr hb) (kp_ck (kp_if (kp_n (kp_if (kp_ck (kp_if (kp_n (kp_sl hb)) (kp_2m (kp_t hb kf_s_X7_can_SM) (fun _ _ hm13 => (kp_if (kp_if (kp_ck (kp_n (kp_ck (kp_n (kp_n (kp_sl (kq_sto (kq_sto hm13 nSM_37) nSM_38))))))) (kp_ck (kp_ck (kp_n (kp_ck (kp_n (kp_n (kp_sl (kq_sto (kq_sto hm13 nSM_37) nSM_38))))))))) (kp_n (kp_sl hm13))))))) (kp_ck (kp_if (kp_2m (kp_t hb kf_s_X7_can_SM) (fun _ _ hm33 => (kp_if (kp_n (kp_sl hm33)) (kp_if (kp_ck (kp_n (kp_ck (kp_n (kp_n (kp_sl (kq_sto (kq_sto hm33 nSM_37) nSM_38))))))) (kp_ck (kp_ck (kp_n (kp_ck (kp_n (kp_n (kp_sl (kq_sto (kq_sto hm33 nSM_37) nSM_38)))))))))))) (kp_n (kp_sl hb)))))) (kp_sr hb))))
theorem kf_l_X7_changes_5_SM {a1 : Int32} {a2 : Int32} {n : Nat} {i1z : Int32} {i2z : Int32} {m3z : Mem} : kp SM m3z (fun (q : Int32 × Mem) => q.2) (l_X7_changes_5 a1 a2 n i1z i2z m3z) := by
  unfold l_X7_changes_5
  refine kp_l (g := (fun (q : Int32 × Int32 × Mem) => q.2.2)) (fun aa ha => ?_) _ _ kq_r
  obtain ⟨i1, i2, m3⟩ := aa
  have hb : kq SM m3z m3 := ha
  show kp SM m3z (Sum.elim (fun (q : Int32 × Int32 × Mem) => q.2.2) (fun (q : Int32 × Mem) => q.2)) (t_X7_changes_5 a1 a2 i1 i2 m3)
  unfold t_X7_changes_5
  exact (kp_if (kp_sr hb) (kp_2m (kp_t hb kf_l_X7_changes_17_SM) (fun _ _ hm53 => (kp_n (kp_sl hm53)))))
theorem kf_s_X7_changes_SM {m : Mem} {a1 : Int32} {a2 : Int32} : kp SM m (fun (q : Int32 × Mem) => q.2) (s_X7_changes m a1 a2) := by
  unfold s_X7_changes
  exact (kp_2m (kp_t kq_r kf_l_X7_changes_5_SM) (fun _ _ hm57 => (kp_ck (kp_s hm57))))
theorem kf_l_X7_read_23_SM {n : Nat} {i6z : Int32} {m7z : Mem} : kp SM m7z (fun (q : Mem) => q) (l_X7_read_23 n i6z m7z) := by
  unfold l_X7_read_23
  refine kp_l (g := (fun (q : Int32 × Mem) => q.2)) (fun aa ha => ?_) _ _ kq_r
  obtain ⟨i6, m7⟩ := aa
  have hb : kq SM m7z m7 := ha
  show kp SM m7z (Sum.elim (fun (q : Int32 × Mem) => q.2) (fun (q : Mem) => q)) (t_X7_read_23 i6 m7)
  unfold t_X7_read_23
  exact (kp_if (kp_sr hb) (kp_ck (kp_n (kp_ck (kp_n (kp_n (kp_sl (kq_sto (kq_sto hb nSM_37) nSM_38))))))))
theorem kf_l_X7_read_59_SM {i15 : Int32} {n : Nat} {i17z : Int32} {m18z : Mem} : kp SM m18z (fun (q : Mem) => q) (l_X7_read_59 i15 n i17z m18z) := by
  unfold l_X7_read_59
  refine kp_l (g := (fun (q : Int32 × Mem) => q.2)) (fun aa ha => ?_) _ _ kq_r
  obtain ⟨i17, m18⟩ := aa
  have hb : kq SM m18z m18 := ha
  show kp SM m18z (Sum.elim (fun (q : Int32 × Mem) => q.2) (fun (q : Mem) => q)) (t_X7_read_59 i15 i17 m18)
  unfold t_X7_read_59
  exact (kp_if (kp_sr hb) (kp_2m (kp_t hb kf_s_X7_changes_SM) (fun _ _ hm21 => (kp_sl hm21))))
theorem kf_l_X7_read_51_SM {n : Nat} {i15z : Int32} {m16z : Mem} : kp SM m16z (fun (q : Mem) => q) (l_X7_read_51 n i15z m16z) := by
  unfold l_X7_read_51
  refine kp_l (g := (fun (q : Int32 × Mem) => q.2)) (fun aa ha => ?_) _ _ kq_r
  obtain ⟨i15, m16⟩ := aa
  have hb : kq SM m16z m16 := ha
  show kp SM m16z (Sum.elim (fun (q : Int32 × Mem) => q.2) (fun (q : Mem) => q)) (t_X7_read_51 i15 m16)
  unfold t_X7_read_51
  exact (kp_if (kp_sr hb) (kp_bM (kp_t hb kf_l_X7_read_59_SM) (fun _ hm23 => (kp_n (kp_sl hm23)))))
theorem kf_l_X7_read_89_SM {i27 : Int32} {n : Nat} {i29z : Int32} {m30z : Mem} : kp SM m30z (fun (q : Mem) => q) (l_X7_read_89 i27 n i29z m30z) := by
  unfold l_X7_read_89
  refine kp_l (g := (fun (q : Int32 × Mem) => q.2)) (fun aa ha => ?_) _ _ kq_r
  obtain ⟨i29, m30⟩ := aa
  have hb : kq SM m30z m30 := ha
  show kp SM m30z (Sum.elim (fun (q : Int32 × Mem) => q.2) (fun (q : Mem) => q)) (t_X7_read_89 i27 i29 m30)
  unfold t_X7_read_89
  exact (kp_if (kp_sr hb) (kp_2m (kp_t hb kf_s_X7_changes_SM) (fun _ _ hm33 => (kp_sl hm33))))
theorem kf_l_X7_read_81_SM {n : Nat} {i27z : Int32} {m28z : Mem} : kp SM m28z (fun (q : Mem) => q) (l_X7_read_81 n i27z m28z) := by
  unfold l_X7_read_81
  refine kp_l (g := (fun (q : Int32 × Mem) => q.2)) (fun aa ha => ?_) _ _ kq_r
  obtain ⟨i27, m28⟩ := aa
  have hb : kq SM m28z m28 := ha
  show kp SM m28z (Sum.elim (fun (q : Int32 × Mem) => q.2) (fun (q : Mem) => q)) (t_X7_read_81 i27 m28)
  unfold t_X7_read_81
  exact (kp_if (kp_sr hb) (kp_bM (kp_t hb kf_l_X7_read_89_SM) (fun _ hm35 => (kp_n (kp_sl hm35)))))
theorem kf_s_X7_read_SM {m : Mem} : kp SM m (fun (q : Mem) => q) (s_X7_read m) := by
  unfold s_X7_read
  exact (kp_if (kp_n (kp_bM (kp_t (kq_sto kq_r nSM_0) kf_s_X7_free_SM) (fun _ hm3 => (kp_bM (kp_t hm3 kf_s_X7_findRanks_SM) (fun _ hm5 => (kp_bM (kp_t hm5 kf_l_X7_read_23_SM) (fun _ hm14 => (kp_bM (kp_t hm14 kf_l_X7_read_51_SM) (fun _ hm26 => (kp_bM (kp_t hm26 kf_l_X7_read_81_SM) (fun _ hm38 => (kp_s hm38)))))))))))) (kp_s kq_r))
theorem kf_s_X7_all_SM {m : Mem} {a1 : Int32} : kp SM m (fun (q : Int32 × Mem) => q.2) (s_X7_all m a1) := by
  unfold s_X7_all
  exact (kp_b (fun _ => (kp_if (kp_s kq_r) (kp_bM (kp_t kq_r kf_s_X7_read_SM) (fun _ hm4 => (kp_b (fun _ => (kp_s hm4))))))))
theorem kf_s_X7_fits_SM {m : Mem} {a1 : Int32} {a2 : Int32} : kp SM m (fun (q : Int32 × Mem) => q.2) (s_X7_fits m a1 a2) := by
  unfold s_X7_fits
  exact (kp_b (fun _ => (kp_if (kp_s kq_r) (kp_bM (kp_t kq_r kf_s_X7_read_SM) (fun _ hm4 => (kp_ck (kp_if (kp_s hm4) (kp_s hm4))))))))
theorem kf_s_X7_surely_SM {m : Mem} {a1 : Int32} {a2 : Int32} : kp SM m (fun (q : Int32 × Mem) => q.2) (s_X7_surely m a1 a2) := by
  unfold s_X7_surely
  exact (kp_b (fun _ => (kp_if (kp_s kq_r) (kp_bM (kp_t kq_r kf_s_X7_read_SM) (fun _ hm4 => (kp_ck (kp_if (kp_s hm4) (kp_s hm4))))))))
theorem kf_s_X7_count_SM {m : Mem} {a1 : Int32} : kp SM m (fun (q : Int32 × Mem) => q.2) (s_X7_count m a1) := by
  unfold s_X7_count
  exact (kp_bM (kp_t kq_r kf_s_X7_read_SM) (fun _ hm2 => (kp_2 (fun _ _ => (kp_if (kp_s hm2) (kp_if (kp_b (fun _ => (kp_s hm2))) (kp_if (kp_s hm2) (kp_if (kp_s hm2) (kp_if (kp_s hm2) (kp_if (kp_s hm2) (kp_s hm2)))))))))))
theorem kf_l_X7_cut_62_SM {a1 : Int32} {n : Nat} {i14z : Int32} {m15z : Mem} : kp SM m15z (fun (q : Mem) => q) (l_X7_cut_62 a1 n i14z m15z) := by
  unfold l_X7_cut_62
  refine kp_l (g := (fun (q : Int32 × Mem) => q.2)) (fun aa ha => ?_) _ _ kq_r
  obtain ⟨i14, m15⟩ := aa
  have hb : kq SM m15z m15 := ha
  show kp SM m15z (Sum.elim (fun (q : Int32 × Mem) => q.2) (fun (q : Mem) => q)) (t_X7_cut_62 a1 i14 m15)
  unfold t_X7_cut_62
  exact (kp_ck (kp_if (kp_sr hb) (kp_ck (kp_ck (kp_n (kp_ck (kp_ck (kp_n (kp_n (kp_sl (kq_sto (kq_sto hb nSM_4) nSM_5)))))))))))
theorem kf_s_X7_cut_SM {m : Mem} {a1 : Int32} {a2 : Int32} {a3 : Int32} : kp SM m (fun (q : Int32 × Mem) => q.2) (s_X7_cut m a1 a2 a3) := by
  unfold s_X7_cut
  exact (kp_b (fun _ => (kp_if (kp_s kq_r) (kp_b (fun _ => (kp_if (kp_s kq_r) (kp_b (fun _ => (kp_if (kp_s kq_r) (kp_b (fun _ => (kp_if (kp_s kq_r) (kp_ck (kp_ck (kp_n (kp_b (fun _ => (kp_bM (kp_t (kq_sto kq_r nSM_3) kf_l_X7_cut_62_SM) (fun _ hm25 => (kp_n (kp_b (fun _ => (kp_s (kq_sto hm25 nSM_0))))))))))))))))))))))))
theorem kf_l_X7_dealt_114_SM {a1 : Int32} {a2 : Int32} {i14 : Int32} {n : Nat} {m22z : Mem} : kp SM m22z (fun (q : Mem) => q) (l_X7_dealt_114 a1 a2 i14 n m22z) := by
  unfold l_X7_dealt_114
  refine kp_l (g := (fun (q : Mem) => q)) (fun m22 ha => ?_) _ _ kq_r
  have hb : kq SM m22z m22 := ha
  show kp SM m22z (Sum.elim (fun (q : Mem) => q) (fun (q : Mem) => q)) (t_X7_dealt_114 a1 a2 i14 m22)
  unfold t_X7_dealt_114
  exact (kp_2m (kp_t hb kf_s_X7_can_SM) (fun _ _ hm25 => (kp_if (kp_ck (kp_ck (kp_n (kp_sl (kq_sto hm25 nSM_39))))) (kp_sr hm25))))
theorem kf_l_X7_dealt_78_SM {a1 : Int32} {a2 : Int32} {a3 : Int32} {n : Nat} {i14z : Int32} {m15z : Mem} : kp SM m15z (fun (q : Mem) => q) (l_X7_dealt_78 a1 a2 a3 n i14z m15z) := by
  unfold l_X7_dealt_78
  refine kp_l (g := (fun (q : Int32 × Mem) => q.2)) (fun aa ha => ?_) _ _ kq_r
  obtain ⟨i14, m15⟩ := aa
  have hb : kq SM m15z m15 := ha
  show kp SM m15z (Sum.elim (fun (q : Int32 × Mem) => q.2) (fun (q : Mem) => q)) (t_X7_dealt_78 a1 a2 a3 i14 m15)
  unfold t_X7_dealt_78
  exact (kp_if (kp_sr hb) (kp_ck (kp_b (fun _ => (kp_if (kp_n (kp_sl hb)) (kp_ck (kp_n (kp_bM (kp_t (kq_sto hb nSM_39) kf_l_X7_dealt_114_SM) (fun _ hm30 => (kp_n (kp_sl hm30)))))))))))
theorem kf_s_X7_dealt_SM {m : Mem} {a1 : Int32} {a2 : Int32} {a3 : Int32} : kp SM m (fun (q : Int32 × Mem) => q.2) (s_X7_dealt m a1 a2 a3) := by
  unfold s_X7_dealt
  exact (kp_b (fun _ => (kp_if (kp_s kq_r) (kp_ck (kp_b (fun _ => (kp_if (kp_s kq_r) (kp_bM (kp_t kq_r kf_s_X7_read_SM) (fun _ hm7 => (kp_ck (kp_if (kp_s hm7) (kp_ck (kp_b (fun _ => (kp_if (kp_s hm7) (kp_bM (kp_t hm7 kf_s_X7_free_SM) (fun _ hm13 => (kp_bM (kp_t hm13 kf_l_X7_dealt_78_SM) (fun _ hm34 => (kp_ck (kp_n (kp_bM (kp_t hm34 kf_s_X7_free_SM) (fun _ hm38 => (kp_s hm38))))))))))))))))))))))))
theorem kf_l_X7_findLeads_18_SM {n : Nat} {i2z : Int32} {m3z : Mem} : kp SM m3z (fun (q : Mem) => q) (l_X7_findLeads_18 n i2z m3z) := by
  unfold l_X7_findLeads_18
  refine kp_l (g := (fun (q : Int32 × Mem) => q.2)) (fun aa ha => ?_) _ _ kq_r
  obtain ⟨i2, m3⟩ := aa
  have hb : kq SM m3z m3 := ha
  show kp SM m3z (Sum.elim (fun (q : Int32 × Mem) => q.2) (fun (q : Mem) => q)) (t_X7_findLeads_18 i2 m3)
  unfold t_X7_findLeads_18
  exact (kp_if (kp_sr hb) (kp_ck (kp_n (kp_n (kp_sl (kq_sto hb nSM_36))))))
theorem kf_l_X7_findLeads_47_SM {a1 : Int32} {i9 : Int32} {n : Nat} {i11z : Int32} {m12z : Mem} : kp SM m12z (fun (q : Mem) => q) (l_X7_findLeads_47 a1 i9 n i11z m12z) := by
  unfold l_X7_findLeads_47
  refine kp_l (g := (fun (q : Int32 × Mem) => q.2)) (fun aa ha => ?_) _ _ kq_r
  obtain ⟨i11, m12⟩ := aa
  have hb : kq SM m12z m12 := ha
  show kp SM m12z (Sum.elim (fun (q : Int32 × Mem) => q.2) (fun (q : Mem) => q)) (t_X7_findLeads_47 a1 i9 i11 m12)
  unfold t_X7_findLeads_47
  exact (kp_b (fun _ => (kp_if (kp_sr hb) (kp_n (kp_b (fun _ => (kp_if (kp_if (kp_ck (kp_ck (kp_n (kp_n (kp_sl (kq_sto hb nSM_36)))))) (kp_ck (kp_ck (kp_n (kp_n (kp_sl (kq_sto hb nSM_36))))))) (kp_if (kp_if (kp_ck (kp_ck (kp_n (kp_n (kp_sl (kq_sto hb nSM_36)))))) (kp_ck (kp_ck (kp_n (kp_n (kp_sl (kq_sto hb nSM_36))))))) (kp_n (kp_sl hb))))))))))
theorem kf_l_X7_findLeads_39_SM {a1 : Int32} {y1 : Int32} {n : Nat} {i9z : Int32} {m10z : Mem} : kp SM m10z (fun (q : Mem) => q) (l_X7_findLeads_39 a1 y1 n i9z m10z) := by
  unfold l_X7_findLeads_39
  refine kp_l (g := (fun (q : Int32 × Mem) => q.2)) (fun aa ha => ?_) _ _ kq_r
  obtain ⟨i9, m10⟩ := aa
  have hb : kq SM m10z m10 := ha
  show kp SM m10z (Sum.elim (fun (q : Int32 × Mem) => q.2) (fun (q : Mem) => q)) (t_X7_findLeads_39 a1 y1 i9 m10)
  unfold t_X7_findLeads_39
  exact (kp_if (kp_sr hb) (kp_bM (kp_t hb kf_l_X7_findLeads_47_SM) (fun _ hm44 => (kp_n (kp_sl hm44)))))
theorem kf_l_X7_findLeads_178_SM {y1 : Int32} {i48 : Int32} {i50 : Int32} {n : Nat} {i52z : Int32} {m53z : Mem} : kp SM m53z (fun (q : Mem) => q) (l_X7_findLeads_178 y1 i48 i50 n i52z m53z) := by
  unfold l_X7_findLeads_178
  refine kp_l (g := (fun (q : Int32 × Mem) => q.2)) (fun aa ha => ?_) _ _ kq_r
  obtain ⟨i52, m53⟩ := aa
  have hb : kq SM m53z m53 := ha
  show kp SM m53z (Sum.elim (fun (q : Int32 × Mem) => q.2) (fun (q : Mem) => q)) (t_X7_findLeads_178 y1 i48 i50 i52 m53)
  unfold t_X7_findLeads_178
  exact (kp_if (kp_sr hb) (kp_ck (kp_if (kp_ck (kp_if (kp_ck (kp_n (kp_n (kp_sl (kq_sto hb nSM_36))))) (kp_ck (kp_if (kp_ck (kp_n (kp_n (kp_sl (kq_sto hb nSM_36))))) (kp_ck (kp_n (kp_n (kp_sl (kq_sto hb nSM_36))))))))) (kp_ck (kp_n (kp_n (kp_sl (kq_sto hb nSM_36))))))))
theorem kf_l_X7_findLeads_169_SM {y1 : Int32} {i48 : Int32} {n : Nat} {i50z : Int32} {m51z : Mem} : kp SM m51z (fun (q : Mem) => q) (l_X7_findLeads_169 y1 i48 n i50z m51z) := by
  unfold l_X7_findLeads_169
  refine kp_l (g := (fun (q : Int32 × Mem) => q.2)) (fun aa ha => ?_) _ _ kq_r
  obtain ⟨i50, m51⟩ := aa
  have hb : kq SM m51z m51 := ha
  show kp SM m51z (Sum.elim (fun (q : Int32 × Mem) => q.2) (fun (q : Mem) => q)) (t_X7_findLeads_169 y1 i48 i50 m51)
  unfold t_X7_findLeads_169
  exact (kp_if (kp_sr hb) (kp_bM (kp_t hb kf_l_X7_findLeads_178_SM) (fun _ hm73 => (kp_n (kp_sl hm73)))))
theorem kf_l_X7_findLeads_161_SM {y1 : Int32} {n : Nat} {i48z : Int32} {m49z : Mem} : kp SM m49z (fun (q : Mem) => q) (l_X7_findLeads_161 y1 n i48z m49z) := by
  unfold l_X7_findLeads_161
  refine kp_l (g := (fun (q : Int32 × Mem) => q.2)) (fun aa ha => ?_) _ _ kq_r
  obtain ⟨i48, m49⟩ := aa
  have hb : kq SM m49z m49 := ha
  show kp SM m49z (Sum.elim (fun (q : Int32 × Mem) => q.2) (fun (q : Mem) => q)) (t_X7_findLeads_161 y1 i48 m49)
  unfold t_X7_findLeads_161
  exact (kp_if (kp_sr hb) (kp_bM (kp_t hb kf_l_X7_findLeads_169_SM) (fun _ hm76 => (kp_n (kp_sl hm76)))))
theorem kf_s_X7_findLeads_SM {m : Mem} {a1 : Int32} : kp SM m (fun (q : Mem) => q) (s_X7_findLeads m a1) := by
  unfold s_X7_findLeads
  exact (kp_b (fun _ => (kp_bM (kp_t kq_r kf_l_X7_findLeads_18_SM) (fun _ hm8 => (kp_bM (kp_t hm8 kf_l_X7_findLeads_39_SM) (fun _ hm47 => (kp_bM (kp_t hm47 kf_l_X7_findLeads_161_SM) (fun _ hm79 => (kp_s hm79)))))))))
theorem kf_s_X7_depends_SM {m : Mem} {a1 : Int32} {a2 : Int32} : kp SM m (fun (q : Int32 × Mem) => q.2) (s_X7_depends m a1 a2) := by
  unfold s_X7_depends
  exact (kp_b (fun _ => (kp_if (kp_s kq_r) (kp_b (fun _ => (kp_if (kp_s kq_r) (kp_bM (kp_t kq_r kf_s_X7_findLeads_SM) (fun _ hm6 => (kp_ck (kp_if (kp_s hm6) (kp_s hm6)))))))))))
theorem kf_l_X7_edge_82_SM {a1 : Int32} {r13 : Int32} {n : Nat} {i16z : Int32} {m17z : Mem} : kp SM m17z (fun (q : Mem) => q) (l_X7_edge_82 a1 r13 n i16z m17z) := by
  unfold l_X7_edge_82
  refine kp_l (g := (fun (q : Int32 × Mem) => q.2)) (fun aa ha => ?_) _ _ kq_r
  obtain ⟨i16, m17⟩ := aa
  have hb : kq SM m17z m17 := ha
  show kp SM m17z (Sum.elim (fun (q : Int32 × Mem) => q.2) (fun (q : Mem) => q)) (t_X7_edge_82 a1 r13 i16 m17)
  unfold t_X7_edge_82
  exact (kp_if (kp_sr hb) (kp_ck (kp_ck (kp_n (kp_ck (kp_ck (kp_n (kp_n (kp_sl (kq_sto (kq_sto hb nSM_4) nSM_5))))))))))
theorem kf_s_X7_edge_SM {m : Mem} {a1 : Int32} {a2 : Int32} {a3 : Int32} : kp SM m (fun (q : Int32 × Mem) => q.2) (s_X7_edge m a1 a2 a3) := by
  unfold s_X7_edge
  exact (kp_b (fun _ => (kp_if (kp_s kq_r) (kp_b (fun _ => (kp_if (kp_s kq_r) (kp_b (fun _ => (kp_if (kp_s kq_r) (kp_b (fun _ => (kp_if (kp_ck (kp_if (kp_s kq_r) (kp_b (fun _ => (kp_if (kp_s kq_r) (kp_b (fun _ => (kp_ck (kp_n (kp_bM (kp_t kq_r kf_l_X7_edge_82_SM) (fun _ hm26 => (kp_ck (kp_n (kp_ck (kp_n (kp_ck (kp_ck (kp_n (kp_n (kp_b (fun _ => (kp_s (kq_sto (kq_sto (kq_sto (kq_sto hm26 nSM_4) nSM_5) nSM_3) nSM_0))))))))))))))))))))))) (kp_s kq_r)))))))))))))
theorem kf_s_X7_end_SM {m : Mem} {a1 : Int32} : kp SM m (fun (q : Int32 × Mem) => q.2) (s_X7_end m a1) := by
  unfold s_X7_end
  exact (kp_b (fun _ => (kp_if (kp_s kq_r) (kp_n (kp_n (kp_s (kq_sto kq_r nSM_0)))))))
theorem kf_s_X7_node_SM {m : Mem} {a1 : Int32} {a2 : Int32} : kp SM m (fun (q : Int32 × Mem) => q.2) (s_X7_node m a1 a2) := by
  unfold s_X7_node
  exact (kp_if (kp_s kq_r) (kp_ck (kp_n (kp_ck (kp_n (kp_ck (kp_n (kp_n (kp_n (kp_s (kq_sto (kq_sto (kq_sto (kq_sto (kq_sto kq_r nSM_1) nSM_2) nSM_3) nSM_0) nSM_0)))))))))))
theorem kf_l_X7_without_10_SM {a1 : Int32} {x2 : Int32} {n : Nat} {i3z : Int32} {m4z : Mem} : kp SM m4z (fun (q : Mem) => q) (l_X7_without_10 a1 x2 n i3z m4z) := by
  unfold l_X7_without_10
  refine kp_l (g := (fun (q : Int32 × Mem) => q.2)) (fun aa ha => ?_) _ _ kq_r
  obtain ⟨i3, m4⟩ := aa
  have hb : kq SM m4z m4 := ha
  show kp SM m4z (Sum.elim (fun (q : Int32 × Mem) => q.2) (fun (q : Mem) => q)) (t_X7_without_10 a1 x2 i3 m4)
  unfold t_X7_without_10
  exact (kp_if (kp_sr hb) (kp_ck (kp_ck (kp_n (kp_ck (kp_ck (kp_n (kp_n (kp_sl (kq_sto (kq_sto hb nSM_42) nSM_43))))))))))
theorem kf_l_X7_without_128_SM {a1 : Int32} {x2 : Int32} {i18 : Int32} {n : Nat} {i25z : Int32} {m26z : Mem} : kp SM m26z (fun (q : Mem) => q) (l_X7_without_128 a1 x2 i18 n i25z m26z) := by
  unfold l_X7_without_128
  refine kp_l (g := (fun (q : Int32 × Mem) => q.2)) (fun aa ha => ?_) _ _ kq_r
  obtain ⟨i25, m26⟩ := aa
  have hb : kq SM m26z m26 := ha
  show kp SM m26z (Sum.elim (fun (q : Int32 × Mem) => q.2) (fun (q : Mem) => q)) (t_X7_without_128 a1 x2 i18 i25 m26)
  unfold t_X7_without_128
  exact (kp_if (kp_sr hb) (kp_if (kp_ck (kp_ck (kp_ck (kp_n (kp_ck (kp_ck (kp_ck (kp_n (kp_ck (kp_ck (kp_n (kp_n (kp_sl (kq_sto (kq_sto (kq_sto hb nSM_4) nSM_5) nSM_3)))))))))))))) (kp_n (kp_sl hb))))
theorem kf_l_X7_without_91_SM {a1 : Int32} {a2 : Int32} {x2 : Int32} {i16 : Int32} {n : Nat} {i18z : Int32} {m19z : Mem} : kp SM m19z (fun (q : Mem) => q) (l_X7_without_91 a1 a2 x2 i16 n i18z m19z) := by
  unfold l_X7_without_91
  refine kp_l (g := (fun (q : Int32 × Mem) => q.2)) (fun aa ha => ?_) _ _ kq_r
  obtain ⟨i18, m19⟩ := aa
  have hb : kq SM m19z m19 := ha
  show kp SM m19z (Sum.elim (fun (q : Int32 × Mem) => q.2) (fun (q : Mem) => q)) (t_X7_without_91 a1 a2 x2 i16 i18 m19)
  unfold t_X7_without_91
  exact (kp_if (kp_sr hb) (kp_if (kp_b (fun _ => (kp_if (kp_ck (kp_n (kp_bM (kp_t (kq_sto hb nSM_3) kf_l_X7_without_128_SM) (fun _ hm42 => (kp_n (kp_bM (kp_t (kq_sto hm42 nSM_0) kf_s_X7_read_SM) (fun _ hm45 => (kp_ck (kp_if (kp_n (kp_sl hm45)) (kp_n (kp_n (kp_n (kp_sl (kq_sto (kq_sto hm45 nSM_0) nSM_0)))))))))))))) (kp_n (kp_sl hb))))) (kp_sr hb)))
theorem kf_l_X7_without_73_SM {a1 : Int32} {a2 : Int32} {x2 : Int32} {n : Nat} {i16z : Int32} {m17z : Mem} : kp SM m17z (fun (q : Mem) => q) (l_X7_without_73 a1 a2 x2 n i16z m17z) := by
  unfold l_X7_without_73
  refine kp_l (g := (fun (q : Int32 × Mem) => q.2)) (fun aa ha => ?_) _ _ kq_r
  obtain ⟨i16, m17⟩ := aa
  have hb : kq SM m17z m17 := ha
  show kp SM m17z (Sum.elim (fun (q : Int32 × Mem) => q.2) (fun (q : Mem) => q)) (t_X7_without_73 a1 a2 x2 i16 m17)
  unfold t_X7_without_73
  exact (kp_if (kp_sr hb) (kp_if (kp_bM (kp_t hb kf_l_X7_without_91_SM) (fun _ hm55 => (kp_n (kp_sl hm55)))) (kp_sr hb)))
theorem kf_l_X7_without_261_SM {a1 : Int32} {x2 : Int32} {n : Nat} {i62z : Int32} {m63z : Mem} : kp SM m63z (fun (q : Mem) => q) (l_X7_without_261 a1 x2 n i62z m63z) := by
  unfold l_X7_without_261
  refine kp_l (g := (fun (q : Int32 × Mem) => q.2)) (fun aa ha => ?_) _ _ kq_r
  obtain ⟨i62, m63⟩ := aa
  have hb : kq SM m63z m63 := ha
  show kp SM m63z (Sum.elim (fun (q : Int32 × Mem) => q.2) (fun (q : Mem) => q)) (t_X7_without_261 a1 x2 i62 m63)
  unfold t_X7_without_261
  exact (kp_if (kp_sr hb) (kp_ck (kp_ck (kp_n (kp_ck (kp_ck (kp_n (kp_n (kp_sl (kq_sto (kq_sto hb nSM_4) nSM_5))))))))))
theorem kf_s_X7_without_SM {m : Mem} {a1 : Int32} {a2 : Int32} : kp SM m (fun (q : Mem) => q) (s_X7_without m a1 a2) := by
  unfold s_X7_without
  exact (kp_ck (kp_n (kp_bM (kp_t kq_r kf_l_X7_without_10_SM) (fun _ hm13 => (kp_n (kp_n (kp_bM (kp_t (kq_sto (kq_sto hm13 nSM_0) nSM_0) kf_l_X7_without_73_SM) (fun _ hm59 => (kp_ck (kp_n (kp_bM (kp_t (kq_sto hm59 nSM_3) kf_l_X7_without_261_SM) (fun _ hm72 => (kp_n (kp_s (kq_sto hm72 nSM_0)))))))))))))))
theorem kf_s_X7_tooMany_SM {m : Mem} {a1 : Int32} {a2 : Int32} : kp SM m (fun (q : Int32 × Mem) => q.2) (s_X7_tooMany m a1 a2) := by
  unfold s_X7_tooMany
  exact (kp_b (fun _ => (kp_if (kp_s kq_r) (kp_bM (kp_t kq_r kf_s_X7_without_SM) (fun _ hm4 => (kp_s hm4))))))
theorem kf_s_X7_which_SM {m : Mem} {a1 : Int32} {a2 : Int32} : kp SM m (fun (q : Int32 × Mem) => q.2) (s_X7_which m a1 a2) := by
  unfold s_X7_which
  exact (kp_b (fun _ => (kp_if (kp_s kq_r) (kp_bM (kp_t kq_r kf_s_X7_without_SM) (fun _ hm4 => (kp_s hm4))))))
theorem kf_s_X7_value_SM {m : Mem} {a1 : Int32} {a2 : Int32} {a3 : Int32} : kp SM m (fun (q : Int32 × Mem) => q.2) (s_X7_value m a1 a2 a3) := by
  unfold s_X7_value
  exact (kp_b (fun _ => (kp_if (kp_s kq_r) (kp_ck (kp_n (kp_ck (kp_n (kp_n (kp_s (kq_sto (kq_sto (kq_sto kq_r nSM_1) nSM_2) nSM_0))))))))))
theorem kf_s_X7_reset_SM {m : Mem} : kp SM m (fun (q : Int32 × Mem) => q.2) (s_X7_reset m) := by
  unfold s_X7_reset
  exact (kp_n (kp_n (kp_n (kp_s (kq_sto (kq_sto kq_r nSM_0) nSM_0)))))
theorem kf_l_X7_put_3_SM2 {a1 : Int32} {n : Nat} {i1z : Int32} {m2z : Mem} : kp SM2 m2z (fun (q : Mem) => q) (l_X7_put_3 a1 n i1z m2z) := by
  unfold l_X7_put_3
  refine kp_l (g := (fun (q : Int32 × Mem) => q.2)) (fun aa ha => ?_) _ _ kq_r
  obtain ⟨i1, m2⟩ := aa
  have hb : kq SM2 m2z m2 := ha
  show kp SM2 m2z (Sum.elim (fun (q : Int32 × Mem) => q.2) (fun (q : Mem) => q)) (t_X7_put_3 a1 i1 m2)
  unfold t_X7_put_3
  exact (kp_if (kp_sr hb) (kp_ck (kp_n (kp_n (kp_n (kp_sl (kq_sto (kq_sto hb nSM2_33) nSM2_0)))))))
theorem kf_s_X7_put_SM2 {m : Mem} {a1 : Int32} : kp SM2 m (fun (q : Mem) => q) (s_X7_put m a1) := by
  unfold s_X7_put
  exact (kp_bM (kp_t kq_r kf_l_X7_put_3_SM2) (fun _ hm8 => (kp_s hm8)))
theorem kf_s_X7_feed_SM2 {m : Mem} {a1 : Int32} {a2 : Int32} {a3 : Int32} {a4 : Int32} {a5 : Int32} : kp SM2 m (fun (q : Int32 × Mem) => q.2) (s_X7_feed m a1 a2 a3 a4 a5) := by
  unfold s_X7_feed
  exact (kp_if (kp_bM (kp_t kq_r kf_s_X7_put_SM2) (fun _ hm2 => (kp_bM (kp_t hm2 kf_s_X7_put_SM2) (fun _ hm4 => (kp_bM (kp_t hm4 kf_s_X7_put_SM2) (fun _ hm6 => (kp_bM (kp_t hm6 kf_s_X7_put_SM2) (fun _ hm8 => (kp_bM (kp_t hm8 kf_s_X7_put_SM2) (fun _ hm10 => (kp_s hm10))))))))))) (kp_s kq_r))
theorem kf_l_X1_addEdge_17_SX {a2 : Int32} {a3 : Int32} {x3 : Int32} {n : Nat} {i4z : Int32} {m5z : Mem} : kp SX m5z (fun (q : Int32 × Mem) => q.2) (l_X1_addEdge_17 a2 a3 x3 n i4z m5z) := by
  unfold l_X1_addEdge_17
  refine kp_l (g := (fun (q : Int32 × Mem) => q.2)) (fun aa ha => ?_) _ _ kq_r
  obtain ⟨i4, m5⟩ := aa
  have hb : kq SX m5z m5 := ha
  show kp SX m5z (Sum.elim (fun (q : Int32 × Mem) => q.2) (fun (q : Int32 × Mem) => q.2)) (t_X1_addEdge_17 a2 a3 x3 i4 m5)
  unfold t_X1_addEdge_17
  exact (kp_if (kp_sr hb) (kp_b (fun _ => (kp_if (kp_sr hb) (kp_ck (kp_ck (kp_n (kp_ck (kp_ck (kp_n (kp_n (kp_sl (kq_sto (kq_sto hb nSX_5) nSX_6)))))))))))))
theorem kf_s_X1_addEdge_SX {m : Mem} {a1 : Int32} {a2 : Int32} {a3 : Int32} : kp SX m (fun (q : Mem) => q) (s_X1_addEdge m a1 a2 a3) := by
  unfold s_X1_addEdge
  exact (kp_ck (kp_n (kp_n (kp_2m (kp_t kq_r kf_l_X1_addEdge_17_SX) (fun _ _ hm18 => (kp_ck (kp_n (kp_ck (kp_n (kp_ck (kp_ck (kp_n (kp_n (kp_s (kq_sto (kq_sto (kq_sto (kq_sto hm18 nSX_5) nSX_6) nSX_4) nSX_1)))))))))))))))
theorem kf_s_X1_setValue_SX {m : Mem} {a1 : Int32} {a2 : Int32} {a3 : Int32} : kp SX m (fun (q : Mem) => q) (s_X1_setValue m a1 a2 a3) := by
  unfold s_X1_setValue
  exact (kp_ck (kp_n (kp_ck (kp_n (kp_s (kq_sto (kq_sto kq_r nSX_2) nSX_3))))))
theorem kf_s_X1_addNode_SX {m : Mem} {a1 : Int32} {a2 : Int32} : kp SX m (fun (q : Int32 × Mem) => q.2) (s_X1_addNode m a1 a2) := by
  unfold s_X1_addNode
  exact (kp_n (kp_n (kp_ck (kp_n (kp_bM (kp_t (kq_sto (kq_sto kq_r nSX_1) nSX_4) kf_s_X1_setValue_SX) (fun _ hm6 => (kp_s hm6)))))))
theorem kf_s_X1_clear_SX {m : Mem} : kp SX m (fun (q : Mem) => q) (s_X1_clear m) := by
  unfold s_X1_clear
  exact (kp_n (kp_n (kp_s (kq_sto (kq_sto kq_r nSX_1) nSX_1))))
theorem kf_l_X1_removeEdge_9_SX {a1 : Int32} {x1 : Int32} {n : Nat} {i3z : Int32} {m4z : Mem} : kp SX m4z (fun (q : Mem) => q) (l_X1_removeEdge_9 a1 x1 n i3z m4z) := by
  unfold l_X1_removeEdge_9
  refine kp_l (g := (fun (q : Int32 × Mem) => q.2)) (fun aa ha => ?_) _ _ kq_r
  obtain ⟨i3, m4⟩ := aa
  have hb : kq SX m4z m4 := ha
  show kp SX m4z (Sum.elim (fun (q : Int32 × Mem) => q.2) (fun (q : Mem) => q)) (t_X1_removeEdge_9 a1 x1 i3 m4)
  unfold t_X1_removeEdge_9
  exact (kp_ck (kp_if (kp_sr hb) (kp_ck (kp_ck (kp_n (kp_ck (kp_ck (kp_n (kp_n (kp_sl (kq_sto (kq_sto hb nSX_5) nSX_6)))))))))))
theorem kf_s_X1_removeEdge_SX {m : Mem} {a1 : Int32} {a2 : Int32} : kp SX m (fun (q : Mem) => q) (s_X1_removeEdge m a1 a2) := by
  unfold s_X1_removeEdge
  exact (kp_n (kp_n (kp_bM (kp_t kq_r kf_l_X1_removeEdge_9_SX) (fun _ hm14 => (kp_ck (kp_ck (kp_n (kp_n (kp_s (kq_sto (kq_sto hm14 nSX_4) nSX_1))))))))))
theorem kf_s_X2_forget_SX {m : Mem} : kp SX m (fun (q : Mem) => q) (s_X2_forget m) := by
  unfold s_X2_forget
  exact (kp_n (kp_n (kp_s (kq_sto (kq_sto kq_r nSX_39) nSX_39))))
theorem kf_s_X6_node_SX {m : Mem} {a1 : Int32} {a2 : Int32} : kp SX m (fun (q : Int32 × Mem) => q.2) (s_X6_node m a1 a2) := by
  unfold s_X6_node
  exact (kp_if (kp_bM (kp_t kq_r kf_s_X2_forget_SX) (fun _ hm2 => (kp_2m (kp_t hm2 kf_s_X1_addNode_SX) (fun _ _ hm5 => (kp_s hm5))))) (kp_s kq_r))
theorem kf_s_X6_value_SX {m : Mem} {a1 : Int32} {a2 : Int32} {a3 : Int32} : kp SX m (fun (q : Int32 × Mem) => q.2) (s_X6_value m a1 a2 a3) := by
  unfold s_X6_value
  exact (kp_b (fun _ => (kp_if (kp_s kq_r) (kp_bM (kp_t kq_r kf_s_X2_forget_SX) (fun _ hm4 => (kp_bM (kp_t hm4 kf_s_X1_setValue_SX) (fun _ hm6 => (kp_s hm6))))))))
theorem kf_s_X6_edge_SX {m : Mem} {a1 : Int32} {a2 : Int32} {a3 : Int32} : kp SX m (fun (q : Int32 × Mem) => q.2) (s_X6_edge m a1 a2 a3) := by
  unfold s_X6_edge
  exact (kp_b (fun _ => (kp_if (kp_s kq_r) (kp_b (fun _ => (kp_if (kp_if (kp_s kq_r) (kp_ck (kp_if (kp_bM (kp_t kq_r kf_s_X2_forget_SX) (fun _ hm7 => (kp_bM (kp_t hm7 kf_s_X1_addEdge_SX) (fun _ hm9 => (kp_s hm9))))) (kp_s kq_r)))) (kp_s kq_r)))))))
theorem kf_s_X6_cut_SX {m : Mem} {a1 : Int32} {a2 : Int32} {a3 : Int32} : kp SX m (fun (q : Int32 × Mem) => q.2) (s_X6_cut m a1 a2 a3) := by
  unfold s_X6_cut
  exact (kp_b (fun _ => (kp_if (kp_s kq_r) (kp_b (fun _ => (kp_if (kp_bM (kp_t kq_r kf_s_X2_forget_SX) (fun _ hm6 => (kp_bM (kp_t hm6 kf_s_X1_removeEdge_SX) (fun _ hm8 => (kp_s hm8))))) (kp_s kq_r)))))))
theorem kf_s_X6_end_SX {m : Mem} {a1 : Int32} : kp SX m (fun (q : Int32 × Mem) => q.2) (s_X6_end m a1) := by
  unfold s_X6_end
  exact (kp_if (kp_s kq_r) (kp_if (kp_n (kp_n (kp_s (kq_sto kq_r nSX_7)))) (kp_s kq_r)))
theorem kf_s_X6_reset_SX {m : Mem} : kp SX m (fun (q : Int32 × Mem) => q.2) (s_X6_reset m) := by
  unfold s_X6_reset
  exact (kp_n (kp_bM (kp_t kq_r kf_s_X1_clear_SX) (fun _ hm3 => (kp_bM (kp_t hm3 kf_s_X2_forget_SX) (fun _ hm5 => (kp_n (kp_s (kq_sto hm5 nSX_0))))))))
theorem kf_l_X3_append_3_SX2 {a1 : Int32} {n : Nat} {i1z : Int32} {m2z : Mem} : kp SX2 m2z (fun (q : Mem) => q) (l_X3_append_3 a1 n i1z m2z) := by
  unfold l_X3_append_3
  refine kp_l (g := (fun (q : Int32 × Mem) => q.2)) (fun aa ha => ?_) _ _ kq_r
  obtain ⟨i1, m2⟩ := aa
  have hb : kq SX2 m2z m2 := ha
  show kp SX2 m2z (Sum.elim (fun (q : Int32 × Mem) => q.2) (fun (q : Mem) => q)) (t_X3_append_3 a1 i1 m2)
  unfold t_X3_append_3
  exact (kp_if (kp_sr hb) (kp_if (kp_sr hb) (kp_ck (kp_n (kp_n (kp_n (kp_sl (kq_sto (kq_sto hb nSX2_8) nSX2_7))))))))
theorem kf_s_X3_append_SX2 {m : Mem} {a1 : Int32} : kp SX2 m (fun (q : Mem) => q) (s_X3_append m a1) := by
  unfold s_X3_append
  exact (kp_bM (kp_t kq_r kf_l_X3_append_3_SX2) (fun _ hm9 => (kp_s hm9)))
theorem kf_s_X6_feed_SX2 {m : Mem} {a1 : Int32} {a2 : Int32} {a3 : Int32} {a4 : Int32} {a5 : Int32} : kp SX2 m (fun (q : Int32 × Mem) => q.2) (s_X6_feed m a1 a2 a3 a4 a5) := by
  unfold s_X6_feed
  exact (kp_if (kp_bM (kp_t kq_r kf_s_X3_append_SX2) (fun _ hm2 => (kp_bM (kp_t hm2 kf_s_X3_append_SX2) (fun _ hm4 => (kp_bM (kp_t hm4 kf_s_X3_append_SX2) (fun _ hm6 => (kp_bM (kp_t hm6 kf_s_X3_append_SX2) (fun _ hm8 => (kp_bM (kp_t hm8 kf_s_X3_append_SX2) (fun _ hm10 => (kp_s hm10))))))))))) (kp_s kq_r))
