/-! the reference's reading of a text: the next token -/
theorem fl_bind {m : Mem} {x y : Int32} {P : Mem → Prop} (h : P (fl m x y)) : ∃ r, ((s_X7_fails m x y).bind fun q => some q) = some r ∧ P r := by
  rw [fails_eq, bind_s]
  exact ⟨_, rfl, h⟩
def numT (m7 : Mem) (r9 : Int32) : Option Mem := (bn (sto m7 0 40 2) fun m12 => (((if r9 = 45 then (some 1) else (some 0)) : Option (Int32)).bind fun y13 => bn (sto m12 0 38 ((m12 0 38) + y13)) fun m14 => bn (m14 0 38) fun x15 => bn (sto m14 0 41 0) fun m16 => ((l_X7_next_147 x15 FU m16).bind fun m30 => (((if r9 = 45 then (some (-(m30 0 41))) else (some (m30 0 41))) : Option (Int32)).bind fun y31 => bn (sto m30 0 41 y31) fun m32 => (if (m32 0 38) = x15 then ((s_X7_fails m32 1 (m32 0 39)).bind fun m34 => some m34) else ((if ((m32 0 38) - x15) ≤ 4 then (some m32) else ((s_X7_fails m32 1 (m32 0 39)).bind fun m36 => some m36))))))))
theorem num_eq {m m7 : Mem} {L a b : Nat} {r9 : Int32} (hL : L ≤ 400) (h37 : m 0 37 = nI L) (h38 : m 0 38 = nI a) (h42 : 0 ≤ m 0 42) (g : Gt m m7 b b) (hab : a ≤ b) (hb : b < L) : ∃ r, numT m7 r9 = some r ∧ NX m L r := by
  unfold numT
  refine ex_n (ex_b (Q := fun y => ∃ e, e ≤ 1 ∧ y = nI e) (ex_if (fun _ => ex_s ⟨1, by omega, rfl⟩) (fun _ => ex_s ⟨0, by omega, rfl⟩)) (fun y hy => ?_))
  obtain ⟨e, he, rfl⟩ := hy
  refine ex_n (ex_n (ex_n ?_))
  have g1 : Gt m (sto (sto m7 0 40 2) 0 38 (((sto m7 0 40 2) 0 38) + nI e)) (b + e) b := Gt_8 (Gt_4 g (Or.inl rfl)) rfl
  have g2 := Gt_4 (x := 0) (j := 41) g1 (Or.inr (Or.inl rfl))
  refine ex_b (digits_eq hL (by rw [g2.2.1 37 (by omega)]; exact h37) g2.2.2.1 (by omega)) (fun m30 h30 => ?_)
  obtain ⟨c3, j3, d, e3, hd, hdL⟩ := h30
  have g3 : Gt m m30 d b := ⟨fun c hc => (c3 c hc).trans (g2.1 c hc), fun j hj => (j3 j (by omega) (by omega)).trans (g2.2.1 j hj), e3, (j3 39 (by decide) (by decide)).trans g2.2.2.2⟩
  refine ex_b (Q := fun _ => True) (ex_if (fun _ => ex_s trivial) (fun _ => ex_s trivial)) (fun y31 _ => ex_n ?_)
  have g4 := Gt_4 (x := y31) (j := 41) g3 (Or.inr (Or.inl rfl))
  have n1 : (0 : Int32) < 1 := by decide
  refine ex_if (fun _ => fl_bind (nx_fl hL h37 h42 g4 hdL n1)) (fun hne => ?_)
  have hd2 : d ≠ b + e := fun q => hne (by rw [g4.2.2.1, g1.2.2.1, q])
  exact ex_if (fun _ => ex_s (nx_ok hL h37 h38 h42 g4 hdL (by omega) (Or.inr (by omega)))) (fun _ => fl_bind (nx_fl hL h37 h42 g4 hdL n1))
theorem next_eq {m : Mem} {L : Nat} (h : TA m L) : ∃ m2, s_X7_next m = some m2 ∧ NX m L m2 := by
  obtain ⟨hL, h37, h42, a, h38, ha⟩ := h
  unfold s_X7_next
  simp only [digits2]
  refine ex_b (skip_eq hL h37 h38 ha) (fun m6 h6 => ex_n ?_)
  obtain ⟨c6, j6, b, e6, hab, hb⟩ := h6
  have g : Gt m (sto m6 0 39 (m6 0 38)) b b := ⟨fun c hc => by rw [rd_o hc]; exact c6 c hc, fun j hj => by rw [rd_j (by omega)]; exact j6 j (by omega), by rw [rd_j (by decide)]; exact e6, by rw [rd_s]; exact e6⟩
  generalize sto m6 0 39 (m6 0 38) = m7 at g ⊢
  have h7 := g.2.2.1
  have h77 : m7 0 37 = nI L := by rw [g.2.1 37 (by omega)]; exact h37
  obtain ⟨r9, er, hr⟩ := look_eq (m := m7) (L := L) (p := b) hL h77 (by omega)
  rw [h7, er, bind_s]
  have n1 : (0 : Int32) < 1 := by decide
  refine ex_if (fun hr0 => ?_) (fun _ => ex_n (ex_s (nx_ok hL h37 h38 h42 (Gt_4 g (Or.inl rfl)) hb hab (Or.inl rd_s))))
  have hbL : b < L := hr.resolve_left (by rintro rfl; exact absurd hr0 (by decide))
  have NUM := num_eq (r9 := r9) hL h37 h38 h42 g hab hbL
  have SG : ∃ r, ((s_X7_isSign r9).bind fun r46 => (if r46 = 0 then ((s_X7_fails m7 1 (m7 0 39)).bind fun m48 => some m48) else (bn (sto m7 0 40 4) fun m49 => bn (sto m49 0 41 r9) fun m50 => bn (sto m50 0 38 ((m50 0 38) + 1)) fun m51 => some m51))) = some r ∧ NX m L r := ex_b (sign_ex r9) (fun r _ => ex_if (fun _ => fl_bind (nx_fl hL h37 h42 g hb n1)) (fun _ => ex_n (ex_n (ex_n (ex_s (nx_ok hL h37 h38 h42 (Gt_8 (e := 1) (Gt_4 (Gt_4 g (Or.inl rfl)) (Or.inr (Or.inl rfl))) rfl) (by omega) (by omega) (Or.inr (by omega))))))))
  refine ex_b (Q := fun _ => True) ⟨_, in_spec _ _ _, trivial⟩ (fun r11 _ => ex_if (fun _ => ?_) (fun _ => ex_n (ex_n (ex_n (ex_s (nx_ok hL h37 h38 h42 (Gt_8 (e := 1) (Gt_4 (Gt_4 g (Or.inl rfl)) (Or.inr (Or.inl rfl))) rfl) (by omega) (by omega) (Or.inr (by omega))))))))
  refine ex_if (fun _ => NUM) (fun _ => ?_)
  refine ex_b (Q := fun _ => True) ⟨_, in_spec _ _ _, trivial⟩ (fun r42 _ => ex_if (fun _ => ?_) (fun _ => NUM))
  refine ex_b (Q := fun _ => True) ⟨_, in_spec _ _ _, trivial⟩ (fun r44 _ => ex_if (fun _ => ?_) (fun _ => ?_))
  · refine ex_if (fun _ => ?_) (fun _ => SG)
    rw [nI_s1]
    obtain ⟨r54, e54, h54⟩ := look_eq (m := m7) (L := L) (p := b + 1) hL h77 (by omega)
    rw [e54, bind_s]
    refine ex_if (fun _ => ?_) (fun _ => SG)
    rw [show nI b + 2 = nI (b + 2) from nI_add b 2]
    obtain ⟨r64, e64, h64⟩ := look_eq (m := m7) (L := L) (p := b + 2) hL h77 (by omega)
    rw [e64, bind_s]
    refine ex_if (fun z => ?_) (fun _ => SG)
    have hb2 : b + 2 < L := h64.resolve_left (by rintro rfl; exact absurd z (by decide))
    exact ex_n (ex_n (ex_s (nx_ok hL h37 h38 h42 (Gt_8 (e := 3) (Gt_4 g (Or.inl rfl)) rfl) (by omega) (by omega) (Or.inr (by omega)))))
  · refine ex_n (ex_n ?_)
    have g9 : Gt m (sto (sto m7 0 40 3) 0 38 (((sto m7 0 40 3) 0 38) + 6)) (b + 6) b := Gt_8 (e := 6) (Gt_4 g (Or.inl rfl)) rfl
    exact ex_b (closed_ex hL (by rw [g9.2.1 37 (by omega)]; exact h37) g9.2.2.2 (by omega)) (fun r81 _ => ex_if (fun _ => fl_bind (nx_fl hL h37 h42 g9 (by omega) n1)) (fun _ => ex_s (nx_ok hL h37 h38 h42 g9 (by omega) (by omega) (Or.inr (by omega)))))
