/-! both readers: a part -/
theorem PE_new {mx mm mx2 mm2 : Mem} {b c nm : Nat} {P : Nat → Nat} {v : Int32} (h : PE mx mm b (c + 1) P) (hP : P c < 6) (hv : v = nI nm) (hn : nm < 10) (hx1 : ∀ a s, b + 1 ≤ a → a ≤ b + 6 → (s ≠ c ∨ (a ≠ b + 2 ∧ a ≠ b + 4)) → mx2 a s = mx a s) (hx2 : mx2 (b + 2) c = nI (P c + 1)) (hx4 : mx2 (b + 4) c = mx (b + 4) c ||| ((1 : Int32) <<< (v &&& 31))) (hx9 : ∀ a i, b + 9 ≤ a → a ≤ b + 13 → i ≠ 6 * c + P c → mx2 a i = mx a i) (hy1 : ∀ a s, 19 ≤ a → a ≤ 21 → (s ≠ c ∨ a ≠ 21) → mm2 a s = mm a s) (hy2 : mm2 21 c = nI (P c + 1)) (hy9 : ∀ a i, 22 ≤ a → a ≤ 26 → i ≠ 6 * c + P c → mm2 a i = mm a i) (v2 : mm2 22 (6 * c + P c) = v) (v9 : mx2 (b + 9) (6 * c + P c) = v) (v10 : mx2 (b + 10) (6 * c + P c) = mm2 23 (6 * c + P c)) (v11 : mx2 (b + 11) (6 * c + P c) = mm2 24 (6 * c + P c)) (v12 : mx2 (b + 12) (6 * c + P c) = mm2 25 (6 * c + P c)) (v13 : mx2 (b + 13) (6 * c + P c) = mm2 26 (6 * c + P c)) (v26 : ∃ q, q < 1000 ∧ mm2 26 (6 * c + P c) = nI q) : PE mx2 mm2 b (c + 1) (up P c (P c + 1)) := by
  intro s hs
  by_cases e : s = c
  · subst e
    rw [up_s]
    obtain ⟨h1, h2, h3, h4, h5, h6, h7, h8, h9⟩ := h s hs
    refine ⟨by omega, hy2, hx2, ?_, ?_, ?_, ?_, fun k hk => ?_, fun i hi => ?_⟩
    · rw [hx1 (b + 1) s (by omega) (by omega) (by omega), hy1 19 s (by omega) (by omega) (by omega)]; exact h4
    · rw [hx1 (b + 3) s (by omega) (by omega) (by omega), hy1 20 s (by omega) (by omega) (by omega)]; exact h5
    · rw [hx1 (b + 5) s (by omega) (by omega) (by omega)]; exact h6
    · rw [hx1 (b + 6) s (by omega) (by omega) (by omega)]; exact h7
    · rw [hx4, b_or, hv, one_shl (by omega) (by omega), Bool.or_eq_true, h8 k hk, decide_eq_true_iff]
      constructor
      · rintro (⟨i, hi, e⟩ | e)
        · exact ⟨i, by omega, by rw [hy9 22 (6 * s + i) (by omega) (by omega) (by omega)]; exact e⟩
        · exact ⟨P s, by omega, by rw [v2, hv, e]⟩
      · rintro ⟨i, hi, e⟩
        by_cases q : i = P s
        · rw [q, v2, hv] at e
          exact Or.inr ((nI_eq (by omega) (by omega)).mp e).symm
        · exact Or.inl ⟨i, by omega, by rw [← hy9 22 (6 * s + i) (by omega) (by omega) (by omega)]; exact e⟩
    · by_cases q : i = P s
      · rw [q]
        exact ⟨v9.trans v2.symm, v10, v11, v12, v13, v26⟩
      · obtain ⟨g1, g2, g3, g4, g5, g6⟩ := h9 i (by omega)
        rw [hx9 (b + 9) (6 * s + i) (by omega) (by omega) (by omega), hx9 (b + 10) (6 * s + i) (by omega) (by omega) (by omega), hx9 (b + 11) (6 * s + i) (by omega) (by omega) (by omega), hx9 (b + 12) (6 * s + i) (by omega) (by omega) (by omega), hx9 (b + 13) (6 * s + i) (by omega) (by omega) (by omega), hy9 22 (6 * s + i) (by omega) (by omega) (by omega), hy9 23 (6 * s + i) (by omega) (by omega) (by omega), hy9 24 (6 * s + i) (by omega) (by omega) (by omega), hy9 25 (6 * s + i) (by omega) (by omega) (by omega), hy9 26 (6 * s + i) (by omega) (by omega) (by omega)]
        exact ⟨g1, g2, g3, g4, g5, g6⟩
  · rw [up_o e]
    exact PEs_c (fun a a1 a2 => hx1 a s a1 a2 (Or.inl e)) (fun a a1 a2 => hy1 a s a1 a2 (Or.inl e)) (fun a i a1 a2 hi => hx9 a (6 * s + i) a1 a2 (by omega)) (fun a i a1 a2 hi => hy9 a (6 * s + i) a1 a2 (by omega)) (h s hs)
theorem taken_ok {m m5 : Mem} {w : Int32} (h0 : m 0 42 = 0) (h1 : m 0 40 = w) (hn : s_X7_next (sto m 0 44 (m 0 39)) = some m5) : s_X7_taken m w = some (m 0 41, m5) := by
  unfold s_X7_taken
  rw [if_pos h0, if_pos h1, bind_s]
  show (if (sto m 0 44 (m 0 39)) 0 42 = 0 then _ else _) = _
  rw [if_pos (show (sto m 0 44 (m 0 39)) 0 42 = 0 by rw [rd_j (by decide)]; exact h0), hn, bind_s]
theorem taken_dead {m : Mem} {w : Int32} (h0 : ¬ m 0 42 = 0) : s_X7_taken m w = some (m 0 41, sto m 0 44 (m 0 39)) := by
  unfold s_X7_taken
  rw [if_neg h0, bind_s]
  show (if (sto m 0 44 (m 0 39)) 0 42 = 0 then _ else _) = _
  rw [if_neg (show ¬ (sto m 0 44 (m 0 39)) 0 42 = 0 by rw [rd_j (by decide)]; exact h0)]
theorem taken_bad {m : Mem} {w : Int32} (h0 : m 0 42 = 0) (h1 : ¬ m 0 40 = w) : s_X7_taken m w = some (m 0 41, sto (fl m 2 (m 0 39)) 0 44 (m 0 39)) := by
  have b : ¬ (fl m 2 (m 0 39)) 0 42 = 0 := fl_b (by decide)
  unfold s_X7_taken
  rw [if_pos h0, if_neg h1, fails_eq, bind_s, bind_s, fl_j (by decide) (by decide), fl_j (by decide) (by decide)]
  show (if (sto (fl m 2 (m 0 39)) 0 44 (m 0 39)) 0 42 = 0 then _ else _) = _
  rw [if_neg (show ¬ (sto (fl m 2 (m 0 39)) 0 44 (m 0 39)) 0 42 = 0 by rw [rd_j (by decide)]; exact b)]
def DD (i : Nat) (mx d : Mem) : Prop := ¬ d 0 42 = 0 ∧ FLD i mx (d 0 43)
theorem DD_c {i a j : Nat} {mx d : Mem} {x : Int32} (h : DD i mx d) (ha : a ≠ 0) : DD i mx (sto d a j x) := ⟨by rw [rd_o (fun z => ha z.symm)]; exact h.1, by rw [rd_o (fun z => ha z.symm)]; exact h.2⟩
theorem DD_44 {i : Nat} {mx d : Mem} {x : Int32} (h : DD i mx d) : DD i mx (sto d 0 44 x) := ⟨by rw [rd_j (by decide)]; exact h.1, by rw [rd_j (by decide)]; exact h.2⟩
theorem DD_f {i : Nat} {mx m : Mem} {x : Int32} (h0 : m 0 42 = 0) (hx : 0 < x) (h : FLD i mx (m 0 39)) : DD i mx (fl m x (m 0 39)) := ⟨fl_b hx, by rw [fl_v h0]; exact h⟩
theorem DD_is {i : Nat} {mx d : Mem} {a : Int32} (h : DD i mx d) : s_X7_is d a = some 0 := by rw [is_eq, bb_f (fun z => h.1 z.1)]
theorem dead_end {i x : Nat} {mx d : Mem} {r11 : Int32} (zx : zin (nI x) 36 = true) (h : DD i mx d) : ∃ r, (zb2 (s_X7_taken (sto d 23 x 3) 2) fun r45 m46 => ck (zin (nI x) 36 = true) (bn (sto m46 24 x r45) fun m48 => zb2 (s_X7_taken m48 5) fun r50 m51 => (if (m51 0 42) = 0 then ((if (m51 0 40) = 2 then (ck (zin (nI x) 36 = true) ((if (m51 24 x) ≤ (m51 0 41) then (zb2 (s_X7_taken m51 2) fun r64 m65 => ck (zin (nI x) 36 = true) (bn (sto m65 25 x r64) fun m67 => some m67)) else ((s_X7_fails m51 3 (m51 0 39)).bind fun m69 => zb2 (s_X7_taken m69 2) fun r71 m72 => ck (zin (nI x) 36 = true) (bn (sto m72 25 x r71) fun m74 => some m74))))) else (zb2 (s_X7_taken m51 2) fun r58 m59 => ck (zin (nI x) 36 = true) (bn (sto m59 25 x r58) fun m61 => some m61)))) else (zb2 (s_X7_taken m51 2) fun r53 m54 => ck (zin (nI x) 36 = true) (bn (sto m54 25 x r53) fun m56 => some m56))))) = some r ∧ DD i mx r := by
  have d1 := DD_c (a := 23) (j := x) (x := 3) h (by decide)
  rw [taken_dead d1.1, zb2_s]
  have d2 := DD_44 (x := (sto d 23 x 3) 0 39) d1
  refine ex_ck zx (ex_n ?_)
  have d3 := DD_c (a := 24) (j := x) (x := (sto d 23 x 3) 0 41) d2 (by decide)
  rw [taken_dead d3.1, zb2_s]
  have d4 := DD_44 (x := (sto (sto (sto d 23 x 3) 0 44 ((sto d 23 x 3) 0 39)) 24 x ((sto d 23 x 3) 0 41)) 0 39) d3
  rw [if_neg d4.1, taken_dead d4.1, zb2_s]
  exact ex_ck zx (ex_n (ex_s (DD_c (DD_44 d4) (by decide))))
