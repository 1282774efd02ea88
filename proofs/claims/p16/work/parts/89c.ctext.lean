/-! both readers: all shapes of a text -/
theorem zlp_mono {α β : Type} {f : α → Option (α ⊕ β)} {b : β} : ∀ (n k : Nat) (a : α), zlp n f a = some b → zlp (n + k) f a = some b := by
  intro n
  induction n with
  | zero => intro k a h; cases h
  | succ n ih =>
    intro k a h
    rw [show n + 1 + k = (n + k) + 1 by omega]
    unfold zlp at h ⊢
    cases e : f a with
    | none => rw [e] at h; cases h
    | some x =>
      rw [e] at h
      cases x with
      | inl a2 => exact ih k a2 h
      | inr b2 => exact h
theorem run_eq {j : Nat} {mx0 mf mg : Mem} (X : XS 0 mx0 j mf) (hx : l_X4_readText_51 1 (nI j) mf = some mg) (ht : ∃ m, l_X4_readText_51 FU 0 mx0 = some m) : l_X4_readText_51 FU 0 mx0 = some mg := by
  obtain ⟨m, hm⟩ := ht
  have h1 : l_X4_readText_51 (1 + j) 0 mx0 = some mg := by
    have := X.2 1
    rw [Nat.sub_zero] at this
    exact this.trans hx
  have h2 : l_X4_readText_51 (1 + j + FU) 0 mx0 = some mg := zlp_mono (1 + j) FU _ h1
  have h3 : l_X4_readText_51 (FU + (1 + j)) 0 mx0 = some m := zlp_mono FU (1 + j) _ hm
  rw [Nat.add_comm] at h3
  rw [hm]
  exact h3.symm.trans h2
theorem exit_8 {j : Nat} {mf : Mem} (h : ¬ mf 9 8 = 0) : l_X4_readText_51 1 (nI j) mf = some mf := by
  unfold l_X4_readText_51
  refine zlp_off ?_
  unfold t_X4_readText_51
  by_cases q : (400 : Int32) < nI j
  · rw [if_pos q]
  · rw [if_neg q, if_neg h]
theorem exit_14 {j : Nat} {mf : Mem} (h : mf 9 2 = 14) : l_X4_readText_51 1 (nI j) mf = some mf := by
  unfold l_X4_readText_51
  refine zlp_off ?_
  unfold t_X4_readText_51
  by_cases q : (400 : Int32) < nI j
  · rw [if_pos q]
  · rw [if_neg q]
    by_cases q2 : mf 9 8 = 0
    · rw [if_pos q2, if_pos h]
    · rw [if_neg q2]
theorem GF_n {mx mx2 mm mm2 : Mem} {b c i j : Nat} (g : GF mx mm b c i) (k : SK b mx mx2) (hj : i ≤ j) (hm : ∀ a, 27 ≤ a → a ≤ 35 → mm2 a = mm a) : GF mx2 mm2 b c j := by
  obtain ⟨S, fs, g1, g2, g3, g4, g5⟩ := g
  exact ⟨S, fs, by rw [k.1]; exact g1, fun s hs => by rw [k.2.1]; exact g2 s hs, fun j hj => by rw [k.2.2]; exact g3 j hj, by omega, FINs_n g5 hm⟩
def CT (L b : Nat) (mx0 : Mem) (f : Int32) (mm : Mem) : Prop := DD 0 mx0 mm ∨ (mm 0 42 = 0 ∧ ∃ (c j : Nat) (mx m1 : Mem) (P : Nat → Nat), XS 0 mx0 j mx ∧ TOK L j mx mm m1 ∧ mx 9 2 = 0 ∧ mx 9 3 = nI 0 ∧ mx 9 1 = nI b ∧ CB mx b c ∧ PE mx mm b c P ∧ mm 0 21 = nI c ∧ (mx 9 4 = 0 ∧ mx 9 5 = 0 ∧ GF mx mm b c j) ∧ ((¬ f = 0 ∧ (c = 0 ∨ ¬ mm 0 40 = 0)) ∨ (f = 0 ∧ 0 < c ∧ mm 0 40 = 0)))
theorem c_loop {L b : Nat} {mx0 mm : Mem} (hL : L ≤ 400) (h7 : mx0 7 1 = nI L) (hT : TPE mx0 mm) (h37 : mm 0 37 = nI L) (h91 : mx0 9 1 = nI b) (h92 : mx0 9 2 = 0) (h93 : mx0 9 3 = nI 0) (h98 : mx0 9 8 = 0) (h10 : mx0 10 1 = nI 0) (hC : CB mx0 b 0) (h94 : mx0 9 4 = 0) (h95 : mx0 9 5 = 0) (hb1 : mx0 b 1 = nI 0) (hb7 : mx0 (b + 7) 0 = nI 0) (ht : ∃ m, l_X4_readText_51 FU 0 mx0 = some m) : ∃ m5 m13 m27, s_X7_next (sto (sto (sto mm 0 42 0) 0 38 0) 0 21 0) = some m5 ∧ l_X7_shapes_21 FU 1 m5 = some m13 ∧ l_X4_readText_51 FU 0 mx0 = some m27 ∧ ((¬ m13 0 42 = 0 ∧ ¬ m27 9 8 = 0 ∧ m27 9 9 = m13 0 43) ∨ (m13 0 42 = 0 ∧ m27 9 8 = 0 ∧ ∃ c P, 0 < c ∧ m13 0 21 = nI c ∧ m27 9 1 = nI b ∧ CB m27 b c ∧ PE m27 m13 b c P ∧ ∃ i, i ≤ 401 ∧ GF m27 m13 b c i)) := by
  have hb2 := isb_e hC.1
  have g0 : ∀ a, a ≠ 0 → (sto (sto (sto mm 0 42 0) 0 38 0) 0 21 0) a = mm a := fun a a0 => by rw [rd_o a0, rd_o a0, rd_o a0]
  have g37 : (sto (sto (sto mm 0 42 0) 0 38 0) 0 21 0) 0 37 = nI L := by rw [rd_j (by decide), rd_j (by decide), rd_j (by decide)]; exact h37
  have g38 : (sto (sto (sto mm 0 42 0) 0 38 0) 0 21 0) 0 38 = nI 0 := by rw [rd_j (by decide), rd_s]; rfl
  have g42 : (sto (sto (sto mm 0 42 0) 0 38 0) 0 21 0) 0 42 = 0 := by rw [rd_j (by decide), rd_j (by decide), rd_s]
  have g21 : (sto (sto (sto mm 0 42 0) 0 38 0) 0 21 0) 0 21 = nI 0 := rd_s
  generalize sto (sto (sto mm 0 42 0) 0 38 0) 0 21 0 = m3 at g0 g37 g38 g42 g21 ⊢
  have T3 : TPE mx0 m3 := fun p hp => by rw [g0 33 (by decide)]; exact hT p hp
  have TA3 : TA m3 L := ⟨hL, g37, by rw [g42]; decide, 0, g38, Nat.zero_le _⟩
  obtain ⟨mx2, m5, ea, en, t1, t2, t3, t4⟩ := tok_eq hL h7 g37 T3 (Nat.zero_le L) h10 g38 g42
  obtain ⟨m5', en', TA5, tf5, -⟩ := next_eq TA3
  have e5 : m5' = m5 := Option.some.inj (en'.symm.trans en)
  rw [e5] at TA5 tf5
  have C0 : CT L b mx0 1 m5 := by
    rcases t4 with ⟨o1, o2, q, o3, o4, o5, o6, o7⟩ | ⟨o1, o2, o3⟩
    · refine Or.inr ⟨o1, 0, 0, mx0, mx2, fun _ => 0, XS_r, ⟨ea, t1, o2, o1, h98, by rw [h92]; decide, ⟨h7, by rw [t3 37 (by omega)]; exact g37, fun p hp => by rw [t2 33 (by decide)]; exact T3 p hp, hL⟩, q, o3, o4, o5, by omega, o6⟩, h92, h93, h91, hC, fun s hs => absurd hs (Nat.not_lt_zero _), by rw [t3 21 (by omega)]; exact g21, ⟨h94, h95, fun _ => 0, fun _ => 0, hb1, fun s hs => by rw [Nat.le_zero.mp hs]; exact hb7, fun j hj => absurd hj (Nat.not_lt_zero _), by show 4 * 0 ≤ _; omega, fun s hs => absurd hs (Nat.not_lt_zero _)⟩, Or.inl ⟨by decide, Or.inl rfl⟩⟩
    · exact Or.inl ⟨by rw [o1]; decide, 0 + 1, sto (sto mx2 9 8 1) 9 9 (mx2 10 3), XS_b (by omega) h98 (by rw [h92]; decide) ea o2, by rw [rd_j (by decide), rd_s]; decide, by rw [rd_s]; exact o3⟩
  have run : ∃ m13, l_X7_shapes_21 FU 1 m5 = some m13 ∧ (DD 0 mx0 m13 ∨ (m13 0 42 = 0 ∧ ∃ (c j : Nat) (mx m1 : Mem) (P : Nat → Nat), XS 0 mx0 j mx ∧ TOK L j mx m13 m1 ∧ mx 9 2 = 0 ∧ mx 9 1 = nI b ∧ CB mx b c ∧ PE mx m13 b c P ∧ m13 0 21 = nI c ∧ 0 < c ∧ m13 0 40 = 0 ∧ GF mx m13 b c j)) := by
    unfold l_X7_shapes_21
    refine zlp_run (fun (a : Int32 × Mem) => (TA a.2 L ∧ ∃ c, c ≤ 6 ∧ a.2 0 21 = nI c ∧ (a.2 0 42 = 0 → ∃ P Z, DS a.2 c P Z)) ∧ CT L b mx0 a.1 a.2) _ (fun (a : Int32 × Mem) => mu a.2) (fun a ha => Or.symm ?_) FU (1, m5) ⟨⟨TA5, 0, by omega, by dsimp only; rw [t3 21 (by omega)]; exact g21, fun _ => ⟨fun _ => 0, fun _ => 0, fun s hs => absurd hs (Nat.not_lt_zero _)⟩⟩, C0⟩ (FU_lt (by have := mu_le (m := m5); dsimp only; omega))
    obtain ⟨⟨t, c, hc, e21, hD⟩, hct⟩ := ha
    unfold t_X7_shapes_21
    by_cases f0 : a.1 = 0
    · rw [if_pos f0]
      refine st_r ?_
      rcases hct with D | ⟨z, c', j, mx, m1, P, X, T, q2, q3, q1, qC, qE, q21, qz, qq⟩
      · exact Or.inl D
      · obtain ⟨-, w1, w2⟩ := qq.resolve_left (fun w => w.1 f0)
        exact Or.inr ⟨z, c', j, mx, m1, P, X, T, q2, q1, qC, qE, q21, w1, w2, qz.2.2⟩
    rw [if_neg f0]
    rcases hct with D | ⟨z, c', j, mx, m1, P, X, T, q2, q3, q1, qC, qE, q21, qz, qq⟩
    · rw [if_neg D.1]
      exact st_r (Or.inl D)
    have hq := (qq.resolve_right (fun w => f0 w.1)).2
    have ec : c = c' := (nI_eq (by omega) (by have := qC.2.2.1; omega)).mp (e21.symm.trans q21)
    rw [if_pos z]
    obtain ⟨P2, Z2, D2⟩ := hD z
    obtain ⟨r, er, tr, -, lt, cr⟩ := readShape_eq t e21 hc z D2
    rw [ec] at D2
    obtain ⟨r', er', hr⟩ := c_shape T q2 q3 q1 qC qE q21 D2 hq qz.1 qz.2.1 qz.2.2
    have e9 : r' = r := Option.some.inj (er'.symm.trans er)
    rw [e9] at hr
    rw [er, bind_s]
    rcases hr with D | ⟨r0, j2, mx3, m4, Q, X2, T2, v2, v3, v1, vC, vE, v21, vz4, vz5, vG⟩
    · exact st_if (fun _ => st_l ⟨⟨⟨tr, cr⟩, Or.inl ⟨D.1, FLD_t X D.2⟩⟩, lt⟩) (fun _ => st_l ⟨⟨⟨tr, cr⟩, Or.inl ⟨D.1, FLD_t X D.2⟩⟩, lt⟩)
    · exact st_if (fun w => st_l ⟨⟨⟨tr, cr⟩, Or.inr ⟨r0, c' + 1, j2, mx3, m4, Q, XS_t X X2, T2, v2, v3, v1, vC, vE, v21, ⟨vz4, vz5, vG⟩, Or.inr ⟨rfl, by omega, w⟩⟩⟩, lt⟩) (fun w => st_l ⟨⟨⟨tr, cr⟩, Or.inr ⟨r0, c' + 1, j2, mx3, m4, Q, XS_t X X2, T2, v2, v3, v1, vC, vE, v21, ⟨vz4, vz5, vG⟩, Or.inl ⟨by dsimp only; decide, Or.inr w⟩⟩⟩, lt⟩)
  obtain ⟨m13, e13, out⟩ := run
  rcases out with ⟨z, j, mf, X, f8, f9⟩ | ⟨z, c, j, mx, m1, P, X, T, q2, q1, qC, qE, q21, hc0, q40, qG⟩
  · exact ⟨m5, m13, mf, en, e13, run_eq X (exit_8 f8) ht, Or.inl ⟨z, f8, f9⟩⟩
  · have q9 : m1 9 = mx 9 := T.2.1 9 (by decide)
    have K0 : m1 10 2 = 0 := (KT_w T.2.2.1.1).1.mp q40
    have c6 := qC.2.2.1
    have tk : s_X4_takeToken m1 = some (sto m1 9 2 14) := by
      rw [tt_0 (by rw [q9]; exact q2)]
      unfold s_X4_takeShapeWord
      rw [if_pos K0, q9, q1, zbk_i hC.1 rfl, T.2.1 b (by omega), qC.2.1, if_neg (nn0 hc0 (by omega))]
      rfl
    have X1 : XS j mx (j + 1) (sto m1 9 2 14) := XS_1 (by obtain ⟨a, -, -, w1, w2, -⟩ := T.2.2.2.2.2.2.2; omega) T.2.2.2.2.1 T.2.2.2.2.2.1 T.1 (KT_1 T.2.2.1.1) tk
    refine ⟨m5, m13, sto m1 9 2 14, en, e13, run_eq (XS_t X X1) (exit_14 rd_s) ht, Or.inr ⟨z, by rw [rd_j (by decide), q9]; exact T.2.2.2.2.1, c, P, hc0, q21, by rw [rd_j (by decide), q9]; exact q1, CB_o qC (by rw [rd_o (by omega), T.2.1 b (by omega)]), PE_k (fun a ha => by rw [rd_o (by omega), T.2.1 a (by omega)]) (fun _ _ _ => rfl) qE, j, by have := TOK_i T; omega, GF_n qG (SK_t (SK_T T qC.1) (SK_9 (by omega) (by omega) (by omega))) (Nat.le_refl _) (fun _ _ _ => rfl)⟩⟩
