/-! a part, as it is noted -/
theorem o_addPart2 {m : Mem} {b c p : Nat} {nm : Int32} (h : CB m b (c + 1)) (hp : m (b + 2) c = nI p) (h6 : p < 6) : ∃ m2, s_X0_addPart m b nm = some m2 ∧ CB m2 b (c + 1) ∧ (∀ a, a ≠ b → a ≠ b + 2 → a ≠ b + 4 → a ≠ b + 7 → a ≠ b + 8 → a ≠ b + 9 → m2 a = m a) ∧ m2 b 2 = nI (6 * c + p) ∧ m2 (b + 2) = upd (m (b + 2)) c (nI (p + 1)) ∧ m2 (b + 9) = upd (m (b + 9)) (6 * c + p) nm ∧ m2 (b + 4) = upd (m (b + 4)) c ((m (b + 4) c) ||| ((1 : Int32) <<< (nm &&& 31))) ∧ SWt m m2 b c p := by
  have hh := h
  obtain ⟨hb, h0, hc, q, hq, h1⟩ := h
  have hb2 := isb_e hb
  have z6 : zin (nI c) 6 = true := zin_nI (by omega) (by decide)
  unfold s_X0_addPart
  rw [o_room h0 (by omega) hp (by omega), bind_s, if_bb, if_pos h6]
  refine ex_n ?_
  rw [h0, m1_nI]
  refine ex_ck z6 (ex_n (ex_ck z6 (ex_ck z6 (ex_n (ex_n ?_)))))
  rw [ix_nI (n := c) (by omega), hp, nI_s1, m6, show c * 6 + p = 6 * c + p by omega, rd_s]
  refine ex_ck (zin_nI (by omega) (by decide)) (ex_n (ex_ck z6 (ex_ck z6 (ex_n ?_))))
  rw [ix_nI (n := 6 * c + p) (by omega)]
  have C4 : ∀ x, CB (sto (sto (sto (sto m (b + 2) c (nI (p + 1))) b 2 (nI (6 * c + p))) (b + 9) (6 * c + p) nm) (b + 4) c x) b (c + 1) := fun x => ⟨hb, by rw [rd_o (by omega), rd_o (by omega), rd_j (by decide), rd_o (by omega)]; exact h0, hc, q, hq, by rw [rd_o (by omega), rd_o (by omega), rd_j (by decide), rd_o (by omega)]; exact h1⟩
  have K4 : ∀ x, SK b m (sto (sto (sto (sto m (b + 2) c (nI (p + 1))) b 2 (nI (6 * c + p))) (b + 9) (6 * c + p) nm) (b + 4) c x) := fun x => ⟨by rw [rd_o (by omega), rd_o (by omega), rd_j (by decide), rd_o (by omega)], by rw [rd_o (by omega), rd_o (by omega), rd_o (by omega), rd_o (by omega)], by rw [rd_o (by omega), rd_o (by omega), rd_o (by omega), rd_o (by omega)]⟩
  have v4 : (sto (sto (sto m (b + 2) c (nI (p + 1))) b 2 (nI (6 * c + p))) (b + 9) (6 * c + p) nm) (b + 4) = m (b + 4) := by rw [rd_o (by omega), rd_o (by omega), rd_o (by omega)]
  rw [v4]
  refine ex_b (o_addStep2 (v := p) (C4 _) (by rw [Int32.zero_mul, Int32.zero_add])) (fun m5 h5 => ex_s ?_)
  obtain ⟨k1, k2, k3, k4⟩ := h5
  refine ⟨k1, fun a a0 a2 a4 a7 a8 a9 => ?_, ?_, ?_, ?_, ?_, SWt_k k4 (K4 _) SK_r⟩
  · rw [k2 a a0 a7 a8, rd_o a4, rd_o a9, rd_o a0, rd_o a2]
  · rw [k3, rd_o (by omega), rd_o (by omega), rd_s]
  · rw [k2 (b + 2) (by omega) (by omega) (by omega), rd_o (by omega), rd_o (by omega), rd_o (by omega), sto_same]
  · rw [k2 (b + 9) (by omega) (by omega) (by omega), rd_o (by omega), sto_same, rd_o (by omega), rd_o (by omega)]
  · rw [k2 (b + 4) (by omega) (by omega) (by omega), sto_same, v4]
