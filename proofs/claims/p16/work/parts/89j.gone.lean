/-! the class's calls and the edges that are thought away -/
def ks (_ : Nat → Prop) (m m2 : Mem) : Prop := m2 39 9 = m 39 9
def kr {α : Type} (S : Nat → Prop) (m : Mem) (f : α → Mem) (o : Option α) : Prop := ∀ q, o = some q → ks S m (f q)
theorem ks_r {S : Nat → Prop} {m : Mem} : ks S m m := rfl
theorem ks_o {S : Nat → Prop} {m m2 : Mem} {c j : Nat} {x : Int32} (h : ks S m m2) (hc : 39 ≠ c) : ks S m (sto m2 c j x) := by
  unfold ks
  rw [rd_o hc]; exact h
theorem ks_j {S : Nat → Prop} {m m2 : Mem} {j : Nat} {x : Int32} (h : ks S m m2) (hj : 9 ≠ j) : ks S m (sto m2 39 j x) := by
  unfold ks
  rw [rd_j hj]; exact h
theorem kr_s {α : Type} {S : Nat → Prop} {m : Mem} {f : α → Mem} {q : α} (h : ks S m (f q)) : kr S m f (some q) := fun r e => by rw [← Option.some.inj e]; exact h
theorem kr_sl {α β : Type} {S : Nat → Prop} {m : Mem} {g : α → Mem} {f : β → Mem} {q : α} (h : ks S m (g q)) : kr S m (Sum.elim g f) (some (.inl q)) := fun r e => by rw [← Option.some.inj e]; exact h
theorem kr_sr {α β : Type} {S : Nat → Prop} {m : Mem} {g : α → Mem} {f : β → Mem} {q : β} (h : ks S m (f q)) : kr S m (Sum.elim g f) (some (.inr q)) := fun r e => by rw [← Option.some.inj e]; exact h
theorem kr_if {α : Type} {S : Nat → Prop} {m : Mem} {f : α → Mem} {c : Prop} [Decidable c] {x y : Option α} (h1 : kr S m f x) (h2 : kr S m f y) : kr S m f (if c then x else y) := by
  by_cases h : c
  · rw [if_pos h]; exact h1
  · rw [if_neg h]; exact h2
theorem kr_ck {α : Type} {S : Nat → Prop} {m : Mem} {f : α → Mem} {c : Prop} [Decidable c] {x : Option α} (h : kr S m f x) : kr S m f (ck c x) := by
  unfold ck
  by_cases q : c
  · rw [if_pos q]; exact h
  · rw [if_neg q]; intro r e; cases e
theorem kr_n {α β : Type} {S : Nat → Prop} {m : Mem} {f : α → Mem} {x : β} {k : β → Option α} (h : kr S m f (k x)) : kr S m f (bn x k) := h
theorem kr_k {α : Type} {S : Nat → Prop} {m : Mem} {f : α → Mem} {x : Int32} {k : Nat → Option α} (h : ∀ b, isb b → kr S m f (k b)) : kr S m f (zbk x k) := fun r e => by
  obtain ⟨b, hb, -, e2⟩ := zbk_el e
  exact h b hb r e2
theorem kr_bM {β : Type} {S : Nat → Prop} {m : Mem} {f : β → Mem} {o : Option Mem} {k : Mem → Option β} (h : kr S m (fun (q : Mem) => q) o) (hk : ∀ r, ks S m r → kr S m f (k r)) : kr S m f (o.bind k) := fun r e => by
  cases ho : o with
  | none => rw [ho] at e; cases e
  | some x => rw [ho] at e; exact hk x (h x ho) r e
theorem kr_b {α β : Type} {S : Nat → Prop} {m : Mem} {f : β → Mem} {o : Option α} {k : α → Option β} (hk : ∀ r, kr S m f (k r)) : kr S m f (o.bind k) := fun r e => by
  cases ho : o with
  | none => rw [ho] at e; cases e
  | some x => rw [ho] at e; exact hk x r e
theorem kr_2m {α β : Type} {S : Nat → Prop} {m : Mem} {f : β → Mem} {o : Option (α × Mem)} {k : α → Mem → Option β} (h : kr S m (fun (q : α × Mem) => q.2) o) (hk : ∀ r t, ks S m t → kr S m f (k r t)) : kr S m f (zb2 o k) := fun r e => by
  cases ho : o with
  | none => rw [ho] at e; cases e
  | some x => rw [ho] at e; exact hk x.1 x.2 (h x ho) r e
theorem kr_2 {α β γ : Type} {S : Nat → Prop} {m : Mem} {f : γ → Mem} {o : Option (α × β)} {k : α → β → Option γ} (hk : ∀ r t, kr S m f (k r t)) : kr S m f (zb2 o k) := fun r e => by
  cases ho : o with
  | none => rw [ho] at e; cases e
  | some x => rw [ho] at e; exact hk x.1 x.2 r e
theorem kr_t {α : Type} {S : Nat → Prop} {m m2 : Mem} {f : α → Mem} {o : Option α} (h : ks S m m2) (g : kr S m2 f o) : kr S m f o := fun r e => (g r e).trans h
theorem kr_l {α β : Type} {S : Nat → Prop} {m : Mem} {g : α → Mem} {f : β → Mem} {st : α → Option (α ⊕ β)} (hs : ∀ a, ks S m (g a) → kr S m (Sum.elim g f) (st a)) : ∀ (n : Nat) (a : α), ks S m (g a) → kr S m f (zlp n st a) := by
  intro n
  induction n with
  | zero => intro a _ r e; cases e
  | succ n ih =>
    intro a ha r e
    unfold zlp at e
    cases h : st a with
    | none => rw [h] at e; cases e
    | some x =>
      rw [h] at e
      cases x with
      | inl a2 => exact ih a2 (hs a ha _ h) r e
      | inr b => rw [← Option.some.inj e]; exact hs a ha _ h
theorem kg_l_X1_addEdge_17_SX {a2 : Int32} {a3 : Int32} {x3 : Int32} {n : Nat} {i4z : Int32} {m5z : Mem} : kr SX m5z (fun (q : Int32 × Mem) => q.2) (l_X1_addEdge_17 a2 a3 x3 n i4z m5z) := by
  unfold l_X1_addEdge_17
  refine kr_l (g := (fun (q : Int32 × Mem) => q.2)) (fun aa ha => ?_) _ _ ks_r
  obtain ⟨i4, m5⟩ := aa
  have hb : ks SX m5z m5 := ha
  show kr SX m5z (Sum.elim (fun (q : Int32 × Mem) => q.2) (fun (q : Int32 × Mem) => q.2)) (t_X1_addEdge_17 a2 a3 x3 i4 m5)
  unfold t_X1_addEdge_17
  exact (kr_if (kr_sr hb) (kr_b (fun _ => (kr_if (kr_sr hb) (kr_ck (kr_ck (kr_n (kr_ck (kr_ck (kr_n (kr_n (kr_sl (ks_o (ks_o hb (by decide)) (by decide))))))))))))))
theorem kg_s_X1_addEdge_SX {m : Mem} {a1 : Int32} {a2 : Int32} {a3 : Int32} : kr SX m (fun (q : Mem) => q) (s_X1_addEdge m a1 a2 a3) := by
  unfold s_X1_addEdge
  exact (kr_ck (kr_n (kr_n (kr_2m (kr_t ks_r kg_l_X1_addEdge_17_SX) (fun _ _ hm18 => (kr_ck (kr_n (kr_ck (kr_n (kr_ck (kr_ck (kr_n (kr_n (kr_s (ks_o (ks_o (ks_o (ks_o hm18 (by decide)) (by decide)) (by decide)) (by decide))))))))))))))))
theorem kg_s_X1_setValue_SX {m : Mem} {a1 : Int32} {a2 : Int32} {a3 : Int32} : kr SX m (fun (q : Mem) => q) (s_X1_setValue m a1 a2 a3) := by
  unfold s_X1_setValue
  exact (kr_ck (kr_n (kr_ck (kr_n (kr_s (ks_o (ks_o ks_r (by decide)) (by decide)))))))
theorem kg_s_X1_addNode_SX {m : Mem} {a1 : Int32} {a2 : Int32} : kr SX m (fun (q : Int32 × Mem) => q.2) (s_X1_addNode m a1 a2) := by
  unfold s_X1_addNode
  exact (kr_n (kr_n (kr_ck (kr_n (kr_bM (kr_t (ks_o (ks_o ks_r (by decide)) (by decide)) kg_s_X1_setValue_SX) (fun _ hm6 => (kr_s hm6)))))))
theorem kg_s_X1_clear_SX {m : Mem} : kr SX m (fun (q : Mem) => q) (s_X1_clear m) := by
  unfold s_X1_clear
  exact (kr_n (kr_n (kr_s (ks_o (ks_o ks_r (by decide)) (by decide)))))
theorem kg_l_X1_removeEdge_9_SX {a1 : Int32} {x1 : Int32} {n : Nat} {i3z : Int32} {m4z : Mem} : kr SX m4z (fun (q : Mem) => q) (l_X1_removeEdge_9 a1 x1 n i3z m4z) := by
  unfold l_X1_removeEdge_9
  refine kr_l (g := (fun (q : Int32 × Mem) => q.2)) (fun aa ha => ?_) _ _ ks_r
  obtain ⟨i3, m4⟩ := aa
  have hb : ks SX m4z m4 := ha
  show kr SX m4z (Sum.elim (fun (q : Int32 × Mem) => q.2) (fun (q : Mem) => q)) (t_X1_removeEdge_9 a1 x1 i3 m4)
  unfold t_X1_removeEdge_9
  exact (kr_ck (kr_if (kr_sr hb) (kr_ck (kr_ck (kr_n (kr_ck (kr_ck (kr_n (kr_n (kr_sl (ks_o (ks_o hb (by decide)) (by decide))))))))))))
theorem kg_s_X1_removeEdge_SX {m : Mem} {a1 : Int32} {a2 : Int32} : kr SX m (fun (q : Mem) => q) (s_X1_removeEdge m a1 a2) := by
  unfold s_X1_removeEdge
  exact (kr_n (kr_n (kr_bM (kr_t ks_r kg_l_X1_removeEdge_9_SX) (fun _ hm14 => (kr_ck (kr_ck (kr_n (kr_n (kr_s (ks_o (ks_o hm14 (by decide)) (by decide)))))))))))
theorem kg_l_X3_append_3_SX {a1 : Int32} {n : Nat} {i1z : Int32} {m2z : Mem} : kr SX m2z (fun (q : Mem) => q) (l_X3_append_3 a1 n i1z m2z) := by
  unfold l_X3_append_3
  refine kr_l (g := (fun (q : Int32 × Mem) => q.2)) (fun aa ha => ?_) _ _ ks_r
  obtain ⟨i1, m2⟩ := aa
  have hb : ks SX m2z m2 := ha
  show kr SX m2z (Sum.elim (fun (q : Int32 × Mem) => q.2) (fun (q : Mem) => q)) (t_X3_append_3 a1 i1 m2)
  unfold t_X3_append_3
  exact (kr_if (kr_sr hb) (kr_if (kr_sr hb) (kr_ck (kr_n (kr_n (kr_n (kr_sl (ks_o (ks_o hb (by decide)) (by decide)))))))))
theorem kg_s_X3_append_SX {m : Mem} {a1 : Int32} : kr SX m (fun (q : Mem) => q) (s_X3_append m a1) := by
  unfold s_X3_append
  exact (kr_bM (kr_t ks_r kg_l_X3_append_3_SX) (fun _ hm9 => (kr_s hm9)))
theorem kg_s_X2_forget_SX {m : Mem} : kr SX m (fun (q : Mem) => q) (s_X2_forget m) := by
  unfold s_X2_forget
  exact (kr_n (kr_n (kr_s (ks_j (ks_j ks_r (by decide)) (by decide)))))
theorem kg_l_X2_setsDealt_14_SX {a1 : Int32} {a2 : Int32} {tr3 : Nat} {n : Nat} {i4z : Int32} {i5z : Int32} {m6z : Mem} : kr SX m6z (fun (q : Int32 × Mem) => q.2) (l_X2_setsDealt_14 a1 a2 tr3 n i4z i5z m6z) := by
  unfold l_X2_setsDealt_14
  refine kr_l (g := (fun (q : Int32 × Int32 × Mem) => q.2.2)) (fun aa ha => ?_) _ _ ks_r
  obtain ⟨i4, i5, m6⟩ := aa
  have hb : ks SX m6z m6 := ha
  show kr SX m6z (Sum.elim (fun (q : Int32 × Int32 × Mem) => q.2.2) (fun (q : Int32 × Mem) => q.2)) (t_X2_setsDealt_14 a1 a2 tr3 i4 i5 m6)
  unfold t_X2_setsDealt_14
  exact (kr_k (fun _ _ => (kr_ck (kr_if (kr_sr hb) (kr_k (fun _ _ => (kr_if (kr_sr hb) (kr_k (fun _ _ => (kr_ck (kr_n (kr_n (kr_if (kr_if (kr_n (kr_sl hb)) (kr_b (fun _ => (kr_ck (kr_n (kr_n (kr_n (kr_sl (ks_o hb (by decide)))))))))) (kr_if (kr_if (kr_n (kr_sl hb)) (kr_ck (kr_b (fun _ => (kr_ck (kr_n (kr_n (kr_sl (ks_o hb (by decide)))))))))) (kr_if (kr_if (kr_n (kr_sl hb)) (kr_n (kr_ck (kr_ck (kr_b (fun _ => (kr_ck (kr_n (kr_n (kr_sl (ks_o hb (by decide)))))))))))) (kr_if (kr_n (kr_sl hb)) (kr_n (kr_ck (kr_ck (kr_ck (kr_n (kr_n (kr_sl (ks_o hb (by decide)))))))))))))))))))))))))
theorem kg_s_X2_setsDealt_SX {m : Mem} {a1 : Int32} {a2 : Int32} {tr3 : Nat} : kr SX m (fun (q : Int32 × Mem) => q.2) (s_X2_setsDealt m a1 a2 tr3) := by
  unfold s_X2_setsDealt
  exact (kr_k (fun _ _ => (kr_ck (kr_n (kr_2m (kr_t ks_r kg_l_X2_setsDealt_14_SX) (fun _ _ hm54 => (kr_if (kr_s hm54) (kr_ck (kr_s hm54)))))))))
theorem kg_s_X2_suits_SX {m : Mem} {a1 : Int32} {a2 : Int32} {tr3 : Nat} : kr SX m (fun (q : Int32 × Mem) => q.2) (s_X2_suits m a1 a2 tr3) := by
  unfold s_X2_suits
  exact (kr_b (fun _ => (kr_k (fun _ _ => (kr_ck (kr_if (kr_2m (kr_t ks_r kg_s_X2_setsDealt_SX) (fun _ _ hm7 => (kr_if (kr_s hm7) (kr_s hm7)))) (kr_b (fun _ => (kr_if (kr_2m (kr_t ks_r kg_s_X2_setsDealt_SX) (fun _ _ hm13 => (kr_if (kr_s hm13) (kr_s hm13)))) (kr_s ks_r))))))))))
theorem kg_l_X2_addSuiting_17_SX {i2 : Int32} {n : Nat} {i5z : Int32} {i6z : Int32} {m7z : Mem} : kr SX m7z (fun (q : Int32 × Mem) => q.2) (l_X2_addSuiting_17 i2 n i5z i6z m7z) := by
  unfold l_X2_addSuiting_17
  refine kr_l (g := (fun (q : Int32 × Int32 × Mem) => q.2.2)) (fun aa ha => ?_) _ _ ks_r
  obtain ⟨i5, i6, m7⟩ := aa
  have hb : ks SX m7z m7 := ha
  show kr SX m7z (Sum.elim (fun (q : Int32 × Int32 × Mem) => q.2.2) (fun (q : Int32 × Mem) => q.2)) (t_X2_addSuiting_17 i2 i5 i6 m7)
  unfold t_X2_addSuiting_17
  exact (kr_if (kr_sr hb) (kr_ck (kr_if (kr_2m (kr_t hb kg_s_X2_suits_SX) (fun _ _ hm12 => (kr_if (kr_n (kr_sl hm12)) (kr_ck (kr_ck (kr_n (kr_n (kr_sl (ks_o hm12 (by decide)))))))))) (kr_n (kr_sl hb)))))
theorem kg_l_X2_addSuiting_4_SX {n : Nat} {i1z : Int32} {i2z : Int32} {m3z : Mem} : kr SX m3z (fun (q : Int32 × Mem) => q.2) (l_X2_addSuiting_4 n i1z i2z m3z) := by
  unfold l_X2_addSuiting_4
  refine kr_l (g := (fun (q : Int32 × Int32 × Mem) => q.2.2)) (fun aa ha => ?_) _ _ ks_r
  obtain ⟨i1, i2, m3⟩ := aa
  have hb : ks SX m3z m3 := ha
  show kr SX m3z (Sum.elim (fun (q : Int32 × Int32 × Mem) => q.2.2) (fun (q : Int32 × Mem) => q.2)) (t_X2_addSuiting_4 i1 i2 m3)
  unfold t_X2_addSuiting_4
  exact (kr_k (fun _ _ => (kr_if (kr_sr hb) (kr_2m (kr_t hb kg_l_X2_addSuiting_17_SX) (fun _ _ hm22 => (kr_n (kr_sl hm22)))))))
theorem kg_s_X2_addSuiting_SX {m : Mem} : kr SX m (fun (q : Int32 × Mem) => q.2) (s_X2_addSuiting m) := by
  unfold s_X2_addSuiting
  exact (kr_2m (kr_t ks_r kg_l_X2_addSuiting_4_SX) (fun _ _ hm26 => (kr_ck (kr_s hm26))))
theorem kg_l_X2_bindToLeastPart_3_SX {a1 : Int32} {a2 : Int32} {a3 : Int32} {n : Nat} {i1z : Int32} {m2z : Mem} : kr SX m2z (fun (q : Int32 × Mem) => q.2) (l_X2_bindToLeastPart_3 a1 a2 a3 n i1z m2z) := by
  unfold l_X2_bindToLeastPart_3
  refine kr_l (g := (fun (q : Int32 × Mem) => q.2)) (fun aa ha => ?_) _ _ ks_r
  obtain ⟨i1, m2⟩ := aa
  have hb : ks SX m2z m2 := ha
  show kr SX m2z (Sum.elim (fun (q : Int32 × Mem) => q.2) (fun (q : Int32 × Mem) => q.2)) (t_X2_bindToLeastPart_3 a1 a2 a3 i1 m2)
  unfold t_X2_bindToLeastPart_3
  exact (kr_k (fun _ _ => (kr_ck (kr_if (kr_sr hb) (kr_ck (kr_n (kr_2m (kr_t (ks_o hb (by decide)) kg_s_X2_suits_SX) (fun _ _ hm9 => (kr_if (kr_n (kr_sl hm9)) (kr_sr hm9))))))))))
theorem kg_s_X2_bindToLeastPart_SX {m : Mem} {a1 : Int32} {a2 : Int32} {a3 : Int32} : kr SX m (fun (q : Int32 × Mem) => q.2) (s_X2_bindToLeastPart m a1 a2 a3) := by
  unfold s_X2_bindToLeastPart
  exact (kr_t ks_r kg_l_X2_bindToLeastPart_3_SX)
theorem kg_l_X2_dropUnfit_18_SX {a1 : Int32} {i2 : Int32} {n : Nat} {i5z : Int32} {i6z : Int32} {m7z : Mem} : kr SX m7z (fun (q : Int32 × Mem) => q.2) (l_X2_dropUnfit_18 a1 i2 n i5z i6z m7z) := by
  unfold l_X2_dropUnfit_18
  refine kr_l (g := (fun (q : Int32 × Int32 × Mem) => q.2.2)) (fun aa ha => ?_) _ _ ks_r
  obtain ⟨i5, i6, m7⟩ := aa
  have hb : ks SX m7z m7 := ha
  show kr SX m7z (Sum.elim (fun (q : Int32 × Int32 × Mem) => q.2.2) (fun (q : Int32 × Mem) => q.2)) (t_X2_dropUnfit_18 a1 i2 i5 i6 m7)
  unfold t_X2_dropUnfit_18
  exact (kr_if (kr_sr hb) (kr_k (fun _ _ => (kr_ck (kr_if (kr_ck (kr_if (kr_n (kr_sl hb)) (kr_2m (kr_t hb kg_s_X2_suits_SX) (fun _ _ hm14 => (kr_if (kr_ck (kr_ck (kr_n (kr_n (kr_sl (ks_o hm14 (by decide))))))) (kr_n (kr_sl hm14))))))) (kr_sr hb))))))
theorem kg_l_X2_dropUnfit_4_SX {a1 : Int32} {n : Nat} {i1z : Int32} {i2z : Int32} {m3z : Mem} : kr SX m3z (fun (q : Int32 × Mem) => q.2) (l_X2_dropUnfit_4 a1 n i1z i2z m3z) := by
  unfold l_X2_dropUnfit_4
  refine kr_l (g := (fun (q : Int32 × Int32 × Mem) => q.2.2)) (fun aa ha => ?_) _ _ ks_r
  obtain ⟨i1, i2, m3⟩ := aa
  have hb : ks SX m3z m3 := ha
  show kr SX m3z (Sum.elim (fun (q : Int32 × Int32 × Mem) => q.2.2) (fun (q : Int32 × Mem) => q.2)) (t_X2_dropUnfit_4 a1 i1 i2 m3)
  unfold t_X2_dropUnfit_4
  exact (kr_k (fun _ _ => (kr_if (kr_sr hb) (kr_2m (kr_t hb kg_l_X2_dropUnfit_18_SX) (fun _ _ hm25 => (kr_n (kr_sl hm25)))))))
theorem kg_s_X2_dropUnfit_SX {m : Mem} {a1 : Int32} : kr SX m (fun (q : Int32 × Mem) => q.2) (s_X2_dropUnfit m a1) := by
  unfold s_X2_dropUnfit
  exact (kr_2m (kr_t ks_r kg_l_X2_dropUnfit_4_SX) (fun _ _ hm29 => (kr_ck (kr_s hm29))))
theorem kg_l_X2_leastPartOf_15_SX {a1 : Int32} {a2 : Int32} {a3 : Int32} {r2 : Int32} {n : Nat} {i3z : Int32} {i4z : Int32} {m5z : Mem} : kr SX m5z (fun (q : Int32 × Mem) => q.2) (l_X2_leastPartOf_15 a1 a2 a3 r2 n i3z i4z m5z) := by
  unfold l_X2_leastPartOf_15
  refine kr_l (g := (fun (q : Int32 × Int32 × Mem) => q.2.2)) (fun aa ha => ?_) _ _ ks_r
  obtain ⟨i3, i4, m5⟩ := aa
  have hb : ks SX m5z m5 := ha
  show kr SX m5z (Sum.elim (fun (q : Int32 × Int32 × Mem) => q.2.2) (fun (q : Int32 × Mem) => q.2)) (t_X2_leastPartOf_15 a1 a2 a3 r2 i3 i4 m5)
  unfold t_X2_leastPartOf_15
  exact (kr_if (kr_sr hb) (kr_if (kr_sr hb) (kr_if (kr_n (kr_sl hb)) (kr_2m (kr_t hb kg_s_X2_bindToLeastPart_SX) (fun _ _ hm9 => (kr_n (kr_sl hm9)))))))
theorem kg_l_X2_leastPartOf_56_SX {n : Nat} {i16z : Int32} {m17z : Mem} : kr SX m17z (fun (q : Mem) => q) (l_X2_leastPartOf_56 n i16z m17z) := by
  unfold l_X2_leastPartOf_56
  refine kr_l (g := (fun (q : Int32 × Mem) => q.2)) (fun aa ha => ?_) _ _ ks_r
  obtain ⟨i16, m17⟩ := aa
  have hb : ks SX m17z m17 := ha
  show kr SX m17z (Sum.elim (fun (q : Int32 × Mem) => q.2) (fun (q : Mem) => q)) (t_X2_leastPartOf_56 i16 m17)
  unfold t_X2_leastPartOf_56
  exact (kr_if (kr_sr hb) (kr_ck (kr_n (kr_n (kr_sl (ks_o hb (by decide)))))))
theorem kg_s_X2_leastPartOf_SX {m : Mem} {a1 : Int32} {a2 : Int32} {a3 : Int32} : kr SX m (fun (q : Int32 × Mem) => q.2) (s_X2_leastPartOf m a1 a2 a3) := by
  unfold s_X2_leastPartOf
  exact (kr_b (fun _ => (kr_2m (kr_t ks_r kg_l_X2_leastPartOf_15_SX) (fun _ _ hm15 => (kr_bM (kr_t hm15 kg_l_X2_leastPartOf_56_SX) (fun _ hm22 => (kr_s hm22)))))))
theorem kg_l_X2_readFits_10_SX {n : Nat} {i1z : Int32} {m2z : Mem} : kr SX m2z (fun (q : Mem) => q) (l_X2_readFits_10 n i1z m2z) := by
  unfold l_X2_readFits_10
  refine kr_l (g := (fun (q : Int32 × Mem) => q.2)) (fun aa ha => ?_) _ _ ks_r
  obtain ⟨i1, m2⟩ := aa
  have hb : ks SX m2z m2 := ha
  show kr SX m2z (Sum.elim (fun (q : Int32 × Mem) => q.2) (fun (q : Mem) => q)) (t_X2_readFits_10 i1 m2)
  unfold t_X2_readFits_10
  exact (kr_if (kr_sr hb) (kr_k (fun _ _ => (kr_b (fun _ => (kr_if (kr_ck (kr_n (kr_n (kr_sl (ks_o hb (by decide)))))) (kr_ck (kr_n (kr_n (kr_sl (ks_o hb (by decide))))))))))))
theorem kg_l_X2_readFits_66_SX {i15 : Int32} {n : Nat} {i17z : Int32} {i18z : Int32} {m19z : Mem} : kr SX m19z (fun (q : Mem) => q) (l_X2_readFits_66 i15 n i17z i18z m19z) := by
  unfold l_X2_readFits_66
  refine kr_l (g := (fun (q : Int32 × Int32 × Mem) => q.2.2)) (fun aa ha => ?_) _ _ ks_r
  obtain ⟨i17, i18, m19⟩ := aa
  have hb : ks SX m19z m19 := ha
  show kr SX m19z (Sum.elim (fun (q : Int32 × Int32 × Mem) => q.2.2) (fun (q : Mem) => q)) (t_X2_readFits_66 i15 i17 i18 m19)
  unfold t_X2_readFits_66
  exact (kr_if (kr_sr hb) (kr_if (kr_sr hb) (kr_2m (kr_t hb kg_s_X2_dropUnfit_SX) (fun _ _ hm22 => (kr_n (kr_sl hm22))))))
theorem kg_l_X2_readFits_56_SX {n : Nat} {i15z : Int32} {m16z : Mem} : kr SX m16z (fun (q : Mem) => q) (l_X2_readFits_56 n i15z m16z) := by
  unfold l_X2_readFits_56
  refine kr_l (g := (fun (q : Int32 × Mem) => q.2)) (fun aa ha => ?_) _ _ ks_r
  obtain ⟨i15, m16⟩ := aa
  have hb : ks SX m16z m16 := ha
  show kr SX m16z (Sum.elim (fun (q : Int32 × Mem) => q.2) (fun (q : Mem) => q)) (t_X2_readFits_56 i15 m16)
  unfold t_X2_readFits_56
  exact (kr_if (kr_sr hb) (kr_bM (kr_t hb kg_l_X2_readFits_66_SX) (fun _ hm26 => (kr_n (kr_sl hm26)))))
theorem kg_s_X2_readFits_SX {m : Mem} : kr SX m (fun (q : Mem) => q) (s_X2_readFits m) := by
  unfold s_X2_readFits
  exact (kr_if (kr_bM (kr_t ks_r kg_l_X2_readFits_10_SX) (fun _ hm14 => (kr_bM (kr_t hm14 kg_l_X2_readFits_56_SX) (fun _ hm29 => (kr_n (kr_s (ks_j hm29 (by decide)))))))) (kr_s ks_r))
theorem kg_l_X2_readSure_10_SX {n : Nat} {i1z : Int32} {m2z : Mem} : kr SX m2z (fun (q : Mem) => q) (l_X2_readSure_10 n i1z m2z) := by
  unfold l_X2_readSure_10
  refine kr_l (g := (fun (q : Int32 × Mem) => q.2)) (fun aa ha => ?_) _ _ ks_r
  obtain ⟨i1, m2⟩ := aa
  have hb : ks SX m2z m2 := ha
  show kr SX m2z (Sum.elim (fun (q : Int32 × Mem) => q.2) (fun (q : Mem) => q)) (t_X2_readSure_10 i1 m2)
  unfold t_X2_readSure_10
  exact (kr_if (kr_sr hb) (kr_ck (kr_n (kr_n (kr_sl (ks_o hb (by decide)))))))
theorem kg_l_X2_readSure_33_SX {n : Nat} {i8z : Int32} {i9z : Int32} {m10z : Mem} : kr SX m10z (fun (q : Mem) => q) (l_X2_readSure_33 n i8z i9z m10z) := by
  unfold l_X2_readSure_33
  refine kr_l (g := (fun (q : Int32 × Int32 × Mem) => q.2.2)) (fun aa ha => ?_) _ _ ks_r
  obtain ⟨i8, i9, m10⟩ := aa
  have hb : ks SX m10z m10 := ha
  show kr SX m10z (Sum.elim (fun (q : Int32 × Int32 × Mem) => q.2.2) (fun (q : Mem) => q)) (t_X2_readSure_33 i8 i9 m10)
  unfold t_X2_readSure_33
  exact (kr_if (kr_sr hb) (kr_if (kr_sr hb) (kr_2m (kr_t hb kg_s_X2_addSuiting_SX) (fun _ _ hm13 => (kr_n (kr_sl hm13))))))
theorem kg_s_X2_readSure_SX {m : Mem} : kr SX m (fun (q : Mem) => q) (s_X2_readSure m) := by
  unfold s_X2_readSure
  exact (kr_if (kr_bM (kr_t ks_r kg_l_X2_readSure_10_SX) (fun _ hm7 => (kr_bM (kr_t hm7 kg_l_X2_readSure_33_SX) (fun _ hm17 => (kr_n (kr_s (ks_j hm17 (by decide)))))))) (kr_s ks_r))
theorem kg_s_X6_node_SX {m : Mem} {a1 : Int32} {a2 : Int32} : kr SX m (fun (q : Int32 × Mem) => q.2) (s_X6_node m a1 a2) := by
  unfold s_X6_node
  exact (kr_if (kr_bM (kr_t ks_r kg_s_X2_forget_SX) (fun _ hm2 => (kr_2m (kr_t hm2 kg_s_X1_addNode_SX) (fun _ _ hm5 => (kr_s hm5))))) (kr_s ks_r))
theorem kg_s_X6_value_SX {m : Mem} {a1 : Int32} {a2 : Int32} {a3 : Int32} : kr SX m (fun (q : Int32 × Mem) => q.2) (s_X6_value m a1 a2 a3) := by
  unfold s_X6_value
  exact (kr_b (fun _ => (kr_if (kr_s ks_r) (kr_bM (kr_t ks_r kg_s_X2_forget_SX) (fun _ hm4 => (kr_bM (kr_t hm4 kg_s_X1_setValue_SX) (fun _ hm6 => (kr_s hm6))))))))
theorem kg_s_X6_edge_SX {m : Mem} {a1 : Int32} {a2 : Int32} {a3 : Int32} : kr SX m (fun (q : Int32 × Mem) => q.2) (s_X6_edge m a1 a2 a3) := by
  unfold s_X6_edge
  exact (kr_b (fun _ => (kr_if (kr_s ks_r) (kr_b (fun _ => (kr_if (kr_if (kr_s ks_r) (kr_ck (kr_if (kr_bM (kr_t ks_r kg_s_X2_forget_SX) (fun _ hm7 => (kr_bM (kr_t hm7 kg_s_X1_addEdge_SX) (fun _ hm9 => (kr_s hm9))))) (kr_s ks_r)))) (kr_s ks_r)))))))
theorem kg_s_X6_cut_SX {m : Mem} {a1 : Int32} {a2 : Int32} {a3 : Int32} : kr SX m (fun (q : Int32 × Mem) => q.2) (s_X6_cut m a1 a2 a3) := by
  unfold s_X6_cut
  exact (kr_b (fun _ => (kr_if (kr_s ks_r) (kr_b (fun _ => (kr_if (kr_bM (kr_t ks_r kg_s_X2_forget_SX) (fun _ hm6 => (kr_bM (kr_t hm6 kg_s_X1_removeEdge_SX) (fun _ hm8 => (kr_s hm8))))) (kr_s ks_r)))))))
theorem kg_s_X6_feed_SX {m : Mem} {a1 : Int32} {a2 : Int32} {a3 : Int32} {a4 : Int32} {a5 : Int32} : kr SX m (fun (q : Int32 × Mem) => q.2) (s_X6_feed m a1 a2 a3 a4 a5) := by
  unfold s_X6_feed
  exact (kr_if (kr_bM (kr_t ks_r kg_s_X3_append_SX) (fun _ hm2 => (kr_bM (kr_t hm2 kg_s_X3_append_SX) (fun _ hm4 => (kr_bM (kr_t hm4 kg_s_X3_append_SX) (fun _ hm6 => (kr_bM (kr_t hm6 kg_s_X3_append_SX) (fun _ hm8 => (kr_bM (kr_t hm8 kg_s_X3_append_SX) (fun _ hm10 => (kr_s hm10))))))))))) (kr_s ks_r))
theorem kg_s_X6_end_SX {m : Mem} {a1 : Int32} : kr SX m (fun (q : Int32 × Mem) => q.2) (s_X6_end m a1) := by
  unfold s_X6_end
  exact (kr_if (kr_s ks_r) (kr_if (kr_n (kr_n (kr_s (ks_o ks_r (by decide))))) (kr_s ks_r)))
theorem kg_s_X6_reset_SX {m : Mem} : kr SX m (fun (q : Int32 × Mem) => q.2) (s_X6_reset m) := by
  unfold s_X6_reset
  exact (kr_n (kr_bM (kr_t ks_r kg_s_X1_clear_SX) (fun _ hm3 => (kr_bM (kr_t hm3 kg_s_X2_forget_SX) (fun _ hm5 => (kr_n (kr_s (ks_o hm5 (by decide)))))))))
theorem kg_s_X6_fits_SX {m : Mem} {a1 : Int32} {a2 : Int32} : kr SX m (fun (q : Int32 × Mem) => q.2) (s_X6_fits m a1 a2) := by
  unfold s_X6_fits
  exact (kr_b (fun _ => (kr_if (kr_s ks_r) (kr_bM (kr_t ks_r kg_s_X2_readFits_SX) (fun _ hm4 => (kr_ck (kr_s hm4)))))))
theorem kg_s_X6_surely_SX {m : Mem} {a1 : Int32} {a2 : Int32} : kr SX m (fun (q : Int32 × Mem) => q.2) (s_X6_surely m a1 a2) := by
  unfold s_X6_surely
  exact (kr_b (fun _ => (kr_if (kr_s ks_r) (kr_bM (kr_t ks_r kg_s_X2_readFits_SX) (fun _ hm4 => (kr_bM (kr_t hm4 kg_s_X2_readSure_SX) (fun _ hm6 => (kr_ck (kr_s hm6)))))))))
theorem kg_s_X6_all_SX {m : Mem} {a1 : Int32} : kr SX m (fun (q : Int32 × Mem) => q.2) (s_X6_all m a1) := by
  unfold s_X6_all
  exact (kr_k (fun _ _ => (kr_b (fun _ => (kr_if (kr_s ks_r) (kr_bM (kr_t ks_r kg_s_X2_readFits_SX) (fun _ hm5 => (kr_ck (kr_s hm5)))))))))
theorem kg_s_X6_dealt_SX {m : Mem} {a1 : Int32} {a2 : Int32} {a3 : Int32} : kr SX m (fun (q : Int32 × Mem) => q.2) (s_X6_dealt m a1 a2 a3) := by
  unfold s_X6_dealt
  exact (kr_b (fun _ => (kr_if (kr_s ks_r) (kr_b (fun _ => (kr_if (kr_s ks_r) (kr_bM (kr_t ks_r kg_s_X2_readFits_SX) (fun _ hm6 => (kr_ck (kr_if (kr_s hm6) (kr_b (fun _ => (kr_if (kr_s hm6) (kr_2m (kr_t hm6 kg_s_X2_leastPartOf_SX) (fun _ _ hm12 => (kr_s hm12))))))))))))))))
theorem kg_s_X6_count_SX {m : Mem} {a1 : Int32} : kr SX m (fun (q : Int32 × Mem) => q.2) (s_X6_count m a1) := by
  unfold s_X6_count
  exact (kr_if (kr_s ks_r) (kr_if (kr_s ks_r) (kr_if (kr_k (fun _ _ => (kr_s ks_r))) (kr_if (kr_s ks_r) (kr_if (kr_bM (kr_t ks_r kg_s_X2_readFits_SX) (fun _ hm8 => (kr_b (fun _ => (kr_s hm8))))) (kr_if (kr_bM (kr_t ks_r kg_s_X2_readFits_SX) (fun _ hm13 => (kr_bM (kr_t hm13 kg_s_X2_readSure_SX) (fun _ hm15 => (kr_b (fun _ => (kr_s hm15))))))) (kr_s ks_r)))))))
theorem kg_surplus {m : Mem} {n s : Int32} (h : m 39 9 = 0) : ∀ q, s_X2_surplusEdges m n s = some q → q.2 39 9 = 0 := by
  intro q e
  unfold s_X2_surplusEdges at e
  cases e1 : s_X2_readFits m with
  | none => rw [e1] at e; cases e
  | some m2 =>
    have h2 : m2 39 9 = 0 := (kg_s_X2_readFits_SX _ e1).trans h
    rw [e1, bind_s] at e
    unfold ck at e
    by_cases c1 : zin s 6 = true
    · rw [if_pos c1] at e
      by_cases c2 : ((m2 40 (Int32.toNatClampNeg s)) >>> (n &&& 31)) &&& 1 = 0
      · rw [if_pos c2] at e
        by_cases c3 : zin n 10 = true
        · rw [if_pos c3] at e
          simp only [bn] at e
          cases e2 : l_X2_surplusEdges_43 n s ((1 : Int32) <<< ((m2 4 (Int32.toNatClampNeg n)) &&& 31)) FU (-4) 1 (sto m2 39 8 n) with
          | none => rw [e2] at e; cases e
          | some x =>
            rw [e2] at e
            obtain ⟨y33, m34⟩ := x
            rw [zb2_s, forget_eq, bind_s] at e
            rw [← Option.some.inj e]
            show (sto (sto (sto m34 39 9 0) 39 4 0) 39 5 0) 39 9 = 0
            rw [rd_j (by decide), rd_j (by decide), rd_s]
        · rw [if_neg c3] at e; cases e
      · rw [if_neg c2] at e
        rw [← Option.some.inj e]; exact h2
    · rw [if_neg c1] at e; cases e
theorem kg_tooMany {m : Mem} {n s : Int32} (h : m 39 9 = 0) : ∀ q, s_X6_tooMany m n s = some q → q.2 39 9 = 0 := by
  intro q e
  unfold s_X6_tooMany at e
  cases e0 : s_X6_isPair m n s with
  | none => rw [e0] at e; cases e
  | some r2 =>
    rw [e0, bind_s] at e
    by_cases c1 : r2 = 0
    · rw [if_pos c1] at e
      rw [← Option.some.inj e]; exact h
    · rw [if_neg c1] at e
      cases e1 : s_X2_surplusEdges m n s with
      | none => rw [e1] at e; cases e
      | some x =>
        have h2 := kg_surplus h _ e1
        rw [e1] at e
        obtain ⟨r4, m5⟩ := x
        rw [zb2_s] at e
        by_cases c2 : 0 ≤ r4
        · rw [if_pos c2] at e
          cases e3 : s_J6_bitCount_0f7a4 r4 with
          | none => rw [e3] at e; cases e
          | some r7 =>
            rw [e3, bind_s] at e
            rw [← Option.some.inj e]; exact h2
        · rw [if_neg c2] at e
          rw [← Option.some.inj e]; exact h2
theorem kg_which {m : Mem} {n s : Int32} (h : m 39 9 = 0) : ∀ q, s_X6_which m n s = some q → q.2 39 9 = 0 := by
  intro q e
  unfold s_X6_which at e
  cases e0 : s_X6_isPair m n s with
  | none => rw [e0] at e; cases e
  | some r2 =>
    rw [e0, bind_s] at e
    by_cases c1 : r2 = 0
    · rw [if_pos c1] at e
      rw [← Option.some.inj e]; exact h
    · rw [if_neg c1] at e
      cases e1 : s_X2_surplusEdges m n s with
      | none => rw [e1] at e; cases e
      | some x =>
        have h2 := kg_surplus h _ e1
        rw [e1] at e
        obtain ⟨r4, m5⟩ := x
        rw [zb2_s] at e
        by_cases c2 : 0 ≤ r4
        · rw [if_pos c2] at e
          rw [← Option.some.inj e]; exact h2
        · rw [if_neg c2] at e
          rw [← Option.some.inj e]; exact h2
theorem kg_shapes {m : Mem} {k L b : Nat} {d N T : Nat → Nat} {V W : Nat → Int32} (hL : L ≤ 400) (x : IX m k d N T V W L b) : ∀ q, s_X6_shapes m = some q → q.2 39 9 = m 39 9 := by
  obtain ⟨h1, h2, h3, h4', h5, h6, h7, h8, b2, h9, hA, hB, hC⟩ := x
  have hb := isb_e h5
  have hb2 := isb_e h9
  obtain ⟨m3x, RT, -, hf⟩ := X_readText h9 hC h4' hL
  have f39 : m3x 39 = m 39 := hf 39 (by omega) (by omega) (by omega)
  have f04 : m3x 0 4 = nI b := by rw [hf 0 (by omega) (by omega) (by omega)]; exact h6
  have f05 : m3x 0 5 = nI b2 := by rw [hf 0 (by omega) (by omega) (by omega)]; exact hB
  intro q e
  unfold s_X6_shapes at e
  rw [hB, zbk_i h9 rfl, RT, bind_s] at e
  simp only [bn] at e
  by_cases c : (sto (sto m3x 7 1 0) 0 6 ((sto m3x 7 1 0) 9 8)) 0 6 = 0
  · have fg5 : ∀ (m : Mem), s_X2_follow m b2 = some (sto (sto (sto m 39 1 (nI b2)) 39 4 0) 39 5 0) := fun m => rfl
    rw [if_pos c, rd_j (show (4 : Nat) ≠ 6 by decide), rd_o (show (0 : Nat) ≠ 7 by decide), f04, zbk_i h5 rfl, rd_j (show (5 : Nat) ≠ 6 by decide), rd_o (show (0 : Nat) ≠ 7 by decide), f05, zbk_i h9 rfl, rd_j (show (4 : Nat) ≠ 5 by decide), rd_s, zbk_i h9 rfl, fg5, bind_s, rd_o (show (0 : Nat) ≠ 39 by decide), rd_o (show (0 : Nat) ≠ 39 by decide), rd_o (show (0 : Nat) ≠ 39 by decide), rd_j (show (4 : Nat) ≠ 5 by decide), rd_s, zbk_i h9 rfl] at e
    rw [← Option.some.inj e]
    have fin : ∀ (y : Mem), y 39 = m3x 39 → (sto (sto (sto y 39 1 (nI b2)) 39 4 0) 39 5 0) 39 9 = m 39 9 := fun y hy => by rw [rd_j (by decide), rd_j (by decide), rd_j (by decide), hy, f39]
    dsimp only
    exact fin _ (by rw [rd_o (by decide), rd_o (by decide), rd_o (by decide), rd_o (by decide)])
  · rw [if_neg c] at e
    rw [← Option.some.inj e]
    dsimp only
    rw [rd_o (by decide), rd_o (by decide), f39]
def JW (mx mm : Mem) : Prop := JK mx mm ∧ mx 39 9 = 0
theorem w_node (cmp : Prop) {mx mm : Mem} (h : JW mx mm) : Hc_node cmp JW mx mm := fun a b hz => by
  obtain ⟨r, mx2, q, mm2, ex, ey, hc, hj⟩ := k_node cmp h.1 a b hz
  exact ⟨r, mx2, q, mm2, ex, ey, hc, hj, (kg_s_X6_node_SX _ ex).trans h.2⟩
theorem w_value (cmp : Prop) {mx mm : Mem} (h : JW mx mm) : Hc_value cmp JW mx mm := fun a b c hz => by
  obtain ⟨r, mx2, q, mm2, ex, ey, hc, hj⟩ := k_value cmp h.1 a b c hz
  exact ⟨r, mx2, q, mm2, ex, ey, hc, hj, (kg_s_X6_value_SX _ ex).trans h.2⟩
theorem w_edge (cmp : Prop) {mx mm : Mem} (h : JW mx mm) : Hc_edge cmp JW mx mm := fun a b c => by
  obtain ⟨r, mx2, q, mm2, ex, ey, hc, hj⟩ := k_edge cmp h.1 a b c
  exact ⟨r, mx2, q, mm2, ex, ey, hc, hj, (kg_s_X6_edge_SX _ ex).trans h.2⟩
theorem w_cut (cmp : Prop) {mx mm : Mem} (h : JW mx mm) : Hc_cut cmp JW mx mm := fun a b c => by
  obtain ⟨r, mx2, q, mm2, ex, ey, hc, hj⟩ := k_cut cmp h.1 a b c
  exact ⟨r, mx2, q, mm2, ex, ey, hc, hj, (kg_s_X6_cut_SX _ ex).trans h.2⟩
theorem w_feed (cmp : Prop) {mx mm : Mem} (h : JW mx mm) : Hc_feed cmp JW mx mm := fun a b c d e => by
  obtain ⟨r, mx2, q, mm2, ex, ey, hc, hj⟩ := k_feed cmp h.1 a b c d e
  exact ⟨r, mx2, q, mm2, ex, ey, hc, hj, (kg_s_X6_feed_SX _ ex).trans h.2⟩
theorem w_end (cmp : Prop) {mx mm : Mem} (h : JW mx mm) : Hc_end cmp JW mx mm := fun a => by
  obtain ⟨r, mx2, q, mm2, ex, ey, hc, hj⟩ := k_end cmp h.1 a
  exact ⟨r, mx2, q, mm2, ex, ey, hc, hj, (kg_s_X6_end_SX _ ex).trans h.2⟩
theorem w_reset (cmp : Prop) {mx mm : Mem} (h : JW mx mm) : Hc_reset cmp JW mx mm := by
  obtain ⟨r, mx2, q, mm2, ex, ey, hc, hj⟩ := k_reset cmp h.1
  exact ⟨r, mx2, q, mm2, ex, ey, hc, hj, (kg_s_X6_reset_SX _ ex).trans h.2⟩
theorem w_shapes (cmp : Prop) {mx mm : Mem} (h : JW mx mm) : Hc_shapes cmp JW mx mm := by
  obtain ⟨r, mx2, q, mm2, ex, ey, hc, hj⟩ := k_shapes cmp h.1
  obtain ⟨k, d, N, T, V, W, L, b, c, P, Z, g, hs, hL, x, y, t, l⟩ := h.1
  exact ⟨r, mx2, q, mm2, ex, ey, hc, hj, (kg_shapes hL x _ ex).trans h.2⟩
theorem w_fits {mx mm : Mem} (h : JW mx mm) : Hc_fits False JW mx mm := fun a b => by
  obtain ⟨r, mx2, q, mm2, ex, ey, hc, hj⟩ := k_fits h.1 a b
  exact ⟨r, mx2, q, mm2, ex, ey, hc, hj, (kg_s_X6_fits_SX _ ex).trans h.2⟩
theorem w_surely {mx mm : Mem} (h : JW mx mm) : Hc_surely False JW mx mm := fun a b => by
  obtain ⟨r, mx2, q, mm2, ex, ey, hc, hj⟩ := k_surely h.1 a b
  exact ⟨r, mx2, q, mm2, ex, ey, hc, hj, (kg_s_X6_surely_SX _ ex).trans h.2⟩
theorem w_all {mx mm : Mem} (h : JW mx mm) : Hc_all False JW mx mm := fun a => by
  obtain ⟨r, mx2, q, mm2, ex, ey, hc, hj⟩ := k_all h.1 a
  exact ⟨r, mx2, q, mm2, ex, ey, hc, hj, (kg_s_X6_all_SX _ ex).trans h.2⟩
theorem w_dealt {mx mm : Mem} (h : JW mx mm) : Hc_dealt False JW mx mm := fun a b c => by
  obtain ⟨r, mx2, q, mm2, ex, ey, hc, hj⟩ := k_dealt h.1 a b c
  exact ⟨r, mx2, q, mm2, ex, ey, hc, hj, (kg_s_X6_dealt_SX _ ex).trans h.2⟩
theorem w_count {mx mm : Mem} (h : JW mx mm) : Hc_count False JW mx mm := fun a => by
  obtain ⟨r, mx2, q, mm2, ex, ey, hc, hj⟩ := k_count h.1 a
  exact ⟨r, mx2, q, mm2, ex, ey, hc, hj, (kg_s_X6_count_SX _ ex).trans h.2⟩
theorem w_tooMany {mx mm : Mem} (h : JW mx mm) : Hc_tooMany False JW mx mm := fun a b => by
  obtain ⟨r, mx2, q, mm2, ex, ey, hc, hj⟩ := k_tooMany h.1 a b
  exact ⟨r, mx2, q, mm2, ex, ey, hc, hj, kg_tooMany h.2 _ ex⟩
theorem w_which {mx mm : Mem} (h : JW mx mm) : Hc_which False JW mx mm := fun a b => by
  obtain ⟨r, mx2, q, mm2, ex, ey, hc, hj⟩ := k_which h.1 a b
  exact ⟨r, mx2, q, mm2, ex, ey, hc, hj, kg_which h.2 _ ex⟩
theorem w_fault {mx mm : Mem} (h : JW mx mm) : Hc_fault False JW mx mm := ⟨_, _, _, _, rfl, rfl, rfl, rfl, fun f => f.elim, h⟩
theorem w_depends (cmp : Prop) {mx mm : Mem} (h : JW mx mm) : Hc_depends cmp JW mx mm := fun a b => by
  obtain ⟨r, mx2, q, mm2, ex, ey, e, hc, hj⟩ := k_depends cmp h.1 a b
  exact ⟨r, mx2, q, mm2, ex, ey, e, hc, hj, by rw [e]; exact h.2⟩
theorem w_part (cmp : Prop) {mx mm : Mem} (h : JW mx mm) : Hc_part cmp JW mx mm := fun a b c => by
  obtain ⟨r, mx2, q, mm2, ex, ey, e, e2, hc, hj⟩ := k_part cmp h.1 a b c
  exact ⟨r, mx2, q, mm2, ex, ey, e, e2, hc, hj, by rw [e]; exact h.2⟩
theorem w_told (cmp : Prop) {mx mm : Mem} (h : JW mx mm) : Hc_told cmp JW mx mm := fun a b => by
  obtain ⟨r, mx2, q, mm2, ex, ey, e, e2, hc, hj⟩ := k_told cmp h.1 a b
  exact ⟨r, mx2, q, mm2, ex, ey, e, e2, hc, hj, by rw [e]; exact h.2⟩
theorem w_from (cmp : Prop) {mx mm : Mem} (h : JW mx mm) : Hc_from cmp JW mx mm := fun a b c => by
  obtain ⟨r, mx2, q, mm2, ex, ey, e, e2, hc, hj⟩ := k_from cmp h.1 a b c
  exact ⟨r, mx2, q, mm2, ex, ey, e, e2, hc, hj, by rw [e]; exact h.2⟩
/-! wanted -/
def pc (w : Nat) : Nat := w % 2 + w / 2 % 2 + w / 4 % 2 + w / 8 % 2 + w / 16 % 2
theorem bc_eq : ∀ w, w < 32 → s_J6_bitCount_0f7a4 (nI w) = some (nI (pc w)) := by decide +kernel
theorem pc_up : ∀ j, j < 5 → ∀ w, w < 2 ^ j → pc (w + 2 ^ j) = pc w + 1 ∧ w ||| 2 ^ j = w + 2 ^ j := by decide +kernel
theorem sh_1 : ∀ j, j < 5 → (1 : Int32) <<< (nI j &&& 31) = nI (2 ^ j) := by decide +kernel
theorem mask_eq : ∀ d, d ≤ 5 → ∀ w, w < 2 ^ d → nI w &&& (((1 : Int32) <<< (nI d &&& 31)) - 1) = nI w := by
  have h : ∀ d, d < 6 → ∀ w, w < 2 ^ d → nI w &&& (((1 : Int32) <<< (nI d &&& 31)) - 1) = nI w := by decide +kernel
  intro d hd w hw
  exact h d (by omega) w hw
theorem w_wanted (cmp : Prop) {mx mm : Mem} (h : JW mx mm) : Hc_wanted cmp JW mx mm := by
  have h0 := h
  obtain ⟨⟨k, d, N, T, V, W, L, b, c, P, Z, g, hs, hL, x, y, t, l⟩, h39⟩ := h
  intro n s
  suffices hh : ∃ r, s_X6_wanted mx n s = some r ∧ s_X7_wanted mm n s = some r by
    obtain ⟨r, e1, e2⟩ := hh
    exact ⟨r, mx, r, mm, e1, e2, rfl, rfl, fun _ => rfl, h0⟩
  have hb := x.2.2.2.2.1
  have h4 := x.2.2.2.2.2.1
  have hc := y.2.2.2.1.2.1
  have k10 := g.1
  unfold s_X6_wanted s_X7_wanted
  rw [X6_isPair_eq x.1.1 k10 hb h4 l.1.1 hc, m_both g y, bind_s, bind_s, if_bb, if_bb]
  by_cases hn : (0 ≤ n.toInt ∧ n.toInt < k) ∧ (0 ≤ s.toInt ∧ s.toInt < c)
  rotate_left
  · rw [if_neg hn, if_neg hn]; exact ⟨_, rfl, rfl⟩
  obtain ⟨a, ha, ea⟩ := (bk_iff (by omega)).mp hn.1
  obtain ⟨q, hq, eq⟩ := (bk_iff (by omega)).mp hn.2
  rw [if_pos hn, if_pos hn, ea, eq]
  obtain ⟨d5, hN, -⟩ := g.2 a ha
  obtain ⟨x4, xv⟩ := x.1.2 a ha
  obtain ⟨y3, yv⟩ := y.1.2 a ha
  obtain ⟨g2, g1, g3, g7, -⟩ := l.1.2.1 q hq
  have za : zin (nI a) 10 = true := zin_nI (by omega) (by decide)
  have zq : zin (nI q) 6 = true := zin_nI (by omega) (by decide)
  have both : ∀ (r j nx nm w : Nat), d a = j + r → r < nx → r < nm → w < 2 ^ j → ∃ v, v < 2 ^ d a ∧ l_X2_wantedEdges_5 mx (nI a) (nI q) nx (nI w) (nI j) = some (nI v) ∧ l_X7_wanted_16 mm (nI a) (nI q) nm (nI (pc w)) (nI j) = some (nI (pc v)) := by
    intro r
    induction r with
    | zero =>
      intro j nx nm w hd hx hm hw
      obtain ⟨nx, rfl⟩ : ∃ z, nx = z + 1 := ⟨nx - 1, by omega⟩
      obtain ⟨nm, rfl⟩ : ∃ z, nm = z + 1 := ⟨nm - 1, by omega⟩
      have ej : d a = j := by omega
      refine ⟨w, by rw [ej]; exact hw, ?_, ?_⟩
      · unfold l_X2_wantedEdges_5
        refine zlp_off ?_
        show t_X2_wantedEdges_5 mx (nI a) (nI q) (nI w) (nI j) = _
        unfold t_X2_wantedEdges_5
        rw [ck_p za, ix_nI (by omega), x4, if_pos (nI_le (by omega) (by omega))]
      · unfold l_X7_wanted_16
        refine zlp_off ?_
        show t_X7_wanted_16 mm (nI a) (nI q) (nI (pc w)) (nI j) = _
        unfold t_X7_wanted_16
        rw [ck_p za, ix_nI (by omega), y3, if_pos (nI_le (by omega) (by omega))]
    | succ r ih =>
      intro j nx nm w hd hx hm hw
      obtain ⟨nx, rfl⟩ : ∃ z, nx = z + 1 := ⟨nx - 1, by omega⟩
      obtain ⟨nm, rfl⟩ : ∃ z, nm = z + 1 := ⟨nm - 1, by omega⟩
      have hj : j < d a := by omega
      obtain ⟨xe, -⟩ := xv j hj
      obtain ⟨ye, -⟩ := yv j hj
      have hn10 := (hN j hj).1
      obtain ⟨rw, erw, hrw⟩ := isWanted_eq (x := nI (N (a * 5 + j))) y.2.2.2.1 hq
      have iff : bt (mx (b + 4) q) (N (a * 5 + j)) = true ↔ ¬ rw = 0 := by
        rw [g7 _ hn10, hrw]
        exact Iff.rfl
      have z50 : zin (nI (a * 5 + j)) 50 = true := zin_nI (by omega) (by decide)
      have p1 := pc_up j (by omega) w hw
      have pw : 2 ^ (j + 1) = 2 ^ j + 2 ^ j := by rw [Nat.pow_succ]; omega
      by_cases hwt : bt (mx (b + 4) q) (N (a * 5 + j)) = true
      · have sx : t_X2_wantedEdges_5 mx (nI a) (nI q) (nI w) (nI j) = some (.inl (nI (w + 2 ^ j), nI (j + 1))) := by
          unfold t_X2_wantedEdges_5
          rw [ck_p za, ix_nI (n := a) (by omega), x4, if_neg (nI_ge hj (by omega)), x.2.2.2.2.2.2.1, zbk_i hb rfl, ck_p zq, m5, ck_p z50, ix_nI (n := a * 5 + j) (by omega), xe, ix_nI (n := q) (by omega), if_neg (fun z => by have := (bit_0 (by omega)).mp z; rw [hwt] at this; cases this)]
          show some (Sum.inl (nI w ||| ((1 : Int32) <<< (nI j &&& 31)), nI j + 1)) = _
          rw [sh_1 j (by omega), nx_or, p1.2, nI_s1]
        have sm : t_X7_wanted_16 mm (nI a) (nI q) (nI (pc w)) (nI j) = some (.inl (nI (pc (w + 2 ^ j)), nI (j + 1))) := by
          unfold t_X7_wanted_16
          rw [ck_p za, ix_nI (n := a) (by omega), y3, if_neg (nI_ge hj (by omega)), p5, ck_p z50, ix_nI (n := a * 5 + j) (by omega), ye, erw, bind_s, if_neg (iff.mp hwt)]
          show some (Sum.inl (nI (pc w) + 1, nI j + 1)) = _
          rw [nI_s1, nI_s1, p1.1]
        obtain ⟨v, v1, v2, v3⟩ := ih (j + 1) nx nm (w + 2 ^ j) (by omega) (by omega) (by omega) (by omega)
        refine ⟨v, v1, ?_, ?_⟩
        · unfold l_X2_wantedEdges_5 at v2 ⊢
          rw [zlp_on sx]; exact v2
        · unfold l_X7_wanted_16 at v3 ⊢
          rw [zlp_on sm]; exact v3
      · have bf : bt (mx (b + 4) q) (N (a * 5 + j)) = false := by
          cases z : bt (mx (b + 4) q) (N (a * 5 + j)) with
          | true => exact absurd z hwt
          | false => rfl
        have rw0 : rw = 0 := by
          by_cases z : rw = 0
          · exact z
          · exact absurd (iff.mpr z) hwt
        have sx : t_X2_wantedEdges_5 mx (nI a) (nI q) (nI w) (nI j) = some (.inl (nI w, nI (j + 1))) := by
          unfold t_X2_wantedEdges_5
          rw [ck_p za, ix_nI (n := a) (by omega), x4, if_neg (nI_ge hj (by omega)), x.2.2.2.2.2.2.1, zbk_i hb rfl, ck_p zq, m5, ck_p z50, ix_nI (n := a * 5 + j) (by omega), xe, ix_nI (n := q) (by omega), if_pos ((bit_0 (by omega)).mpr bf)]
          show some (Sum.inl (nI w, nI j + 1)) = _
          rw [nI_s1]
        have sm : t_X7_wanted_16 mm (nI a) (nI q) (nI (pc w)) (nI j) = some (.inl (nI (pc w), nI (j + 1))) := by
          unfold t_X7_wanted_16
          rw [ck_p za, ix_nI (n := a) (by omega), y3, if_neg (nI_ge hj (by omega)), p5, ck_p z50, ix_nI (n := a * 5 + j) (by omega), ye, erw, bind_s, if_pos rw0]
          show some (Sum.inl (nI (pc w) + 0, nI j + 1)) = _
          rw [nI_s1, Int32.add_zero]
        obtain ⟨v, v1, v2, v3⟩ := ih (j + 1) nx nm w (by omega) (by omega) (by omega) (by omega)
        refine ⟨v, v1, ?_, ?_⟩
        · unfold l_X2_wantedEdges_5 at v2 ⊢
          rw [zlp_on sx]; exact v2
        · unfold l_X7_wanted_16 at v3 ⊢
          rw [zlp_on sm]; exact v3
  obtain ⟨v, v1, v2, v3⟩ := both (d a) 0 FU FU 0 (by omega) (FU_lt (by omega)) (FU_lt (by omega)) (by decide)
  have v2' : l_X2_wantedEdges_5 mx (nI a) (nI q) FU 0 0 = some (nI v) := v2
  have v3' : l_X7_wanted_16 mm (nI a) (nI q) FU 0 0 = some (nI (pc v)) := v3
  have v32 : v < 32 := Nat.lt_of_lt_of_le v1 (Nat.pow_le_pow_right (by omega) d5)
  have pr : s_X2_presentEdges mx (nI a) = some (((1 : Int32) <<< (nI (d a) &&& 31)) - 1) := by
    unfold s_X2_presentEdges
    rw [ck_p za, ix_nI (by omega), x4]
    show (if nI a = mx 39 8 then _ else _) = _
    rw [h39]
    by_cases z : nI a = mx 39 8
    · rw [if_pos z]
      have m1 : ∀ e, e < 6 → (((1 : Int32) <<< (nI e &&& 31)) - 1) &&& ((0 : Int32) ^^^ (-1)) = ((1 : Int32) <<< (nI e &&& 31)) - 1 := by decide +kernel
      rw [m1 (d a) (by omega)]
    · rw [if_neg z]
  unfold s_X2_wantedEdges
  rw [v2', bind_s, pr, bind_s, bind_s, mask_eq (d a) d5 v v1, bc_eq v v32, bind_s, v3', bind_s]
  exact ⟨_, rfl, rfl⟩
theorem st_JW : JW sgX sgM := ⟨st_JK, by
  have h : sgX 39 9 = 0 := by decide +kernel
  exact h⟩
