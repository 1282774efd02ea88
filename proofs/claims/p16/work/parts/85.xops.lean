/-! the class's book: what each note changes -/
def CB (m : Mem) (b c : Nat) : Prop := isb b ∧ m b 0 = nI c ∧ c ≤ 6 ∧ ∃ q, q ≤ 146 ∧ m b 1 = nI q
theorem CB_o {m m2 : Mem} {b c : Nat} (h : CB m b c) (e : m2 b = m b) : CB m2 b c := by
  unfold CB at *
  rw [e]; exact h
theorem upd_eq {f : Nat → Int32} {m : Mem} {a j : Nat} {x : Int32} (h : m a = f) : (sto m a j x) a = upd f j x := by rw [sto_same, h]
theorem o_addStep {m : Mem} {b c : Nat} {kd ar : Int32} (h : CB m b c) : ∃ m2, s_X0_addStep m b kd ar = some m2 ∧ CB m2 b c ∧ (∀ a, a ≠ b → a ≠ b + 7 → a ≠ b + 8 → m2 a = m a) ∧ m2 b 2 = m b 2 := by
  obtain ⟨hb, h0, hc, q, hq, h1⟩ := h
  have hb2 := isb_e hb
  unfold s_X0_addStep
  rw [h1]
  refine ex_if (fun _ => ex_s ⟨⟨hb, h0, hc, q, hq, h1⟩, fun _ _ _ _ => rfl, rfl⟩) (fun hlt => ?_)
  have hq2 : q < 146 := by
    rcases Nat.lt_or_ge q 146 with h | h
    · exact h
    · exact absurd (nI_le (a := 146) h (by omega)) hlt
  rw [hs_last h0 hc]
  simp only [bind_s, if_bb]
  refine ex_if (fun hc0 => ?_) (fun _ => ex_s ⟨⟨hb, h0, hc, q, hq, h1⟩, fun _ _ _ _ => rfl, rfl⟩)
  refine ex_ck (zin_nI hq2 (by decide)) (ex_n (ex_n ?_))
  have r1 : (sto (m) (b + 8) (Int32.toNatClampNeg (nI q)) (kd * 64 + ar)) b 1 = nI q := by rw [rd_o (by omega)]; exact h1
  rw [r1, nI_s1]
  have r2 : (sto (sto m (b + 8) (Int32.toNatClampNeg (nI q)) (kd * 64 + ar)) b 1 (nI (q + 1))) b 0 = nI c := by rw [rd_j (by decide), rd_o (by omega)]; exact h0
  rw [r2, rd_s]
  refine ex_ck (zin_nI (by omega) (by decide)) (ex_n (ex_s ⟨⟨hb, ?_, hc, q + 1, by omega, ?_⟩, fun a a0 a7 a8 => ?_, ?_⟩))
  · rw [rd_o (by omega)]; exact r2
  · rw [rd_o (by omega), rd_s]
  · rw [rd_o a7, rd_o a0, rd_o a8]
  · rw [rd_o (by omega), rd_j (by decide), rd_o (by omega)]
theorem o_tell {m : Mem} {b q : Nat} {w x y z : Int32} (hb : isb b) (h2 : m b 2 = nI q) (hq : q < 36) : s_X0_tellPart m b w x y z = some (sto (sto (sto (sto m (b + 10) q w) (b + 11) q x) (b + 12) q y) (b + 13) q z) := by
  have hb2 := isb_e hb
  have hz : zin (nI q) 36 = true := zin_nI hq (by decide)
  unfold s_X0_tellPart
  rw [h2, ck_p hz, ix_nI (by omega)]
  show ck _ _ = _
  rw [rd_o (a2 := b) (by omega), h2, ck_p hz, ix_nI (by omega)]
  show ck _ _ = _
  rw [rd_o (a2 := b) (by omega), rd_o (a2 := b) (by omega), h2, ck_p hz, ix_nI (by omega)]
  show ck _ _ = _
  rw [rd_o (a2 := b) (by omega), rd_o (a2 := b) (by omega), rd_o (a2 := b) (by omega), h2, ck_p hz, ix_nI (by omega)]
  rfl
theorem o_room {m : Mem} {b c p : Nat} (h0 : m b 0 = nI (c + 1)) (hc : c < 6) (hp : m (b + 2) c = nI p) (h6 : p ≤ 6) : s_X0_hasRoomForPart m b = some (bb (p < 6)) := by
  unfold s_X0_hasRoomForPart
  rw [hs_last h0 (by omega)]
  simp only [bind_s, if_bb]
  rw [if_pos (show 0 < c + 1 by omega), h0, m1_nI, ck_p (zin_nI hc (by decide)), ix_nI (by omega), hp]
  by_cases h : p < 6
  · rw [if_neg (show ¬ (6 : Int32) ≤ nI p from nI_ge (b := 6) h (by decide)), bb_t h]
  · rw [if_pos (show (6 : Int32) ≤ nI p from nI_le (a := 6) (by omega) (by omega)), bb_f h]
theorem o_addPart {m : Mem} {b c p : Nat} {nm : Int32} (h : CB m b (c + 1)) (hp : m (b + 2) c = nI p) (h6 : p < 6) : ∃ m2, s_X0_addPart m b nm = some m2 ∧ CB m2 b (c + 1) ∧ (∀ a, a ≠ b → a ≠ b + 2 → a ≠ b + 4 → a ≠ b + 7 → a ≠ b + 8 → a ≠ b + 9 → m2 a = m a) ∧ m2 b 2 = nI (6 * c + p) ∧ m2 (b + 2) = upd (m (b + 2)) c (nI (p + 1)) ∧ m2 (b + 9) = upd (m (b + 9)) (6 * c + p) nm ∧ m2 (b + 4) = upd (m (b + 4)) c ((m (b + 4) c) ||| ((1 : Int32) <<< (nm &&& 31))) := by
  have hh := h
  obtain ⟨hb, h0, hc, q, hq, h1⟩ := h
  have hb2 := isb_e hb
  have z6 : zin (nI c) 6 = true := zin_nI (by omega) (by decide)
  unfold s_X0_addPart
  rw [o_room h0 (by omega) hp (by omega), bind_s, if_bb, if_pos h6]
  refine ex_n ?_
  rw [h0, m1_nI]
  refine ex_ck z6 (ex_n (ex_ck z6 (ex_ck z6 (ex_n (ex_n ?_)))))
  rw [ix_nI (n := c) (by omega), hp, nI_s1, m6, show c * 6 + p = 6 * c + p by omega, rd_s]
  refine ex_ck (zin_nI (by omega) (by decide)) (ex_n (ex_ck z6 (ex_ck z6 (ex_n ?_))))
  rw [ix_nI (n := 6 * c + p) (by omega)]
  have C4 : ∀ x, CB (sto (sto (sto (sto m (b + 2) c (nI (p + 1))) b 2 (nI (6 * c + p))) (b + 9) (6 * c + p) nm) (b + 4) c x) b (c + 1) := fun x => ⟨hb, by rw [rd_o (by omega), rd_o (by omega), rd_j (by decide), rd_o (by omega)]; exact h0, hc, q, hq, by rw [rd_o (by omega), rd_o (by omega), rd_j (by decide), rd_o (by omega)]; exact h1⟩
  have v4 : (sto (sto (sto m (b + 2) c (nI (p + 1))) b 2 (nI (6 * c + p))) (b + 9) (6 * c + p) nm) (b + 4) = m (b + 4) := by rw [rd_o (by omega), rd_o (by omega), rd_o (by omega)]
  rw [v4]
  refine ex_b (o_addStep (C4 _)) (fun m5 h5 => ex_s ?_)
  obtain ⟨k1, k2, k3⟩ := h5
  refine ⟨k1, fun a a0 a2 a4 a7 a8 a9 => ?_, ?_, ?_, ?_, ?_⟩
  · rw [k2 a a0 a7 a8, rd_o a4, rd_o a9, rd_o a0, rd_o a2]
  · rw [k3, rd_o (by omega), rd_o (by omega), rd_s]
  · rw [k2 (b + 2) (by omega) (by omega) (by omega), rd_o (by omega), rd_o (by omega), rd_o (by omega), sto_same]
  · rw [k2 (b + 9) (by omega) (by omega) (by omega), rd_o (by omega), sto_same, rd_o (by omega), rd_o (by omega)]
  · rw [k2 (b + 4) (by omega) (by omega) (by omega), sto_same, v4]
theorem o_shapeOf {m : Mem} {b c : Nat} {w : Int32} (h0 : m b 0 = nI c) (hc : c ≤ 6) : ∃ r, s_X0_shapeOf m b w = some r ∧ ((r = -1 ∧ ∀ s, s < c → m (b + 1) s ≠ w) ∨ ∃ t, t < c ∧ r = nI t ∧ m (b + 1) t = w ∧ ∀ s, s < t → m (b + 1) s ≠ w) := by
  unfold s_X0_shapeOf l_X0_shapeOf_2
  refine forG c (fun j (a : Int32) => a = nI j ∧ ∀ s, s < j → m (b + 1) s ≠ w) _ (fun j a hj ha => ?_) (fun a ha => ?_) FU 0 0 (Nat.zero_le _) ⟨rfl, fun s hs => absurd hs (Nat.not_lt_zero _)⟩ (FU_lt (by omega))
  · obtain ⟨e, h⟩ := ha
    unfold t_X0_shapeOf_2
    rw [e, h0, ix_nI (n := j) (by omega)]
    refine st_if (fun z => absurd z (nI_ge hj (by omega))) (fun _ => st_ck (zin_nI (by omega) (by decide)) (st_if (fun q => st_r (Or.inr ⟨j, hj, rfl, q, h⟩)) (fun q => st_n (st_l ⟨nI_s1, fun s hs => ?_⟩))))
    by_cases e2 : s = j
    · rw [e2]; exact q
    · exact h s (by omega)
  · obtain ⟨e, h⟩ := ha
    unfold t_X0_shapeOf_2
    rw [e, h0]
    exact ⟨_, if_pos (nI_le (Nat.le_refl _) (by omega)), Or.inl ⟨rfl, h⟩⟩
theorem o_open {m : Mem} {b c : Nat} {w : Int32} (h : CB m b c) (hc : c < 6) : ∃ m2, s_X0_openShape m b w = some m2 ∧ CB m2 b (c + 1) ∧ (∀ a, ¬ (b ≤ a ∧ a ≤ b + 7) → m2 a = m a) ∧ m2 (b + 1) = upd (m (b + 1)) c w ∧ m2 (b + 2) = upd (m (b + 2)) c 0 ∧ m2 (b + 3) = upd (m (b + 3)) c (vp_nar .boolean 0) ∧ m2 (b + 4) = upd (m (b + 4)) c 0 ∧ m2 (b + 5) = upd (m (b + 5)) c 0 ∧ m2 (b + 6) = upd (m (b + 6)) c 0 := by
  obtain ⟨hb, h0, hc6, q, hq, h1⟩ := h
  have hb2 := isb_e hb
  unfold s_X0_openShape
  rw [h0, if_pos (show nI c < 6 from nI_lt (b := 6) hc (by decide))]
  have z6 : zin (nI c) 6 = true := zin_nI hc (by decide)
  refine ex_n (ex_n (ex_ck z6 (ex_n (ex_ck z6 (ex_n (ex_ck z6 (ex_n (ex_ck z6 (ex_n (ex_ck z6 (ex_n (ex_ck z6 (ex_n ?_)))))))))))))
  rw [nI_s1, ix_nI (n := c) (by omega)]
  refine ex_ck (zin_nI (by omega) (by decide)) (ex_n (ex_s ?_))
  refine ⟨⟨hb, ?_, by omega, q, hq, ?_⟩, fun a ha => ?_, ?_, ?_, ?_, ?_, ?_, ?_⟩
  · rw [rd_o (by omega), rd_o (by omega), rd_o (by omega), rd_o (by omega), rd_o (by omega), rd_o (by omega), rd_o (by omega), rd_s]
  · rw [rd_o (by omega), rd_o (by omega), rd_o (by omega), rd_o (by omega), rd_o (by omega), rd_o (by omega), rd_o (by omega), rd_j (by decide)]; exact h1
  · rw [rd_o (by omega), rd_o (by omega), rd_o (by omega), rd_o (by omega), rd_o (by omega), rd_o (by omega), rd_o (by omega), rd_o (by omega)]
  · rw [rd_o (by omega), rd_o (by omega), rd_o (by omega), rd_o (by omega), rd_o (by omega), rd_o (by omega), sto_same, rd_o (by omega)]
  · rw [rd_o (by omega), rd_o (by omega), rd_o (by omega), rd_o (by omega), rd_o (by omega), sto_same, rd_o (by omega), rd_o (by omega)]
  · rw [rd_o (by omega), rd_o (by omega), rd_o (by omega), rd_o (by omega), sto_same, rd_o (by omega), rd_o (by omega), rd_o (by omega)]
  · rw [rd_o (by omega), rd_o (by omega), rd_o (by omega), sto_same, rd_o (by omega), rd_o (by omega), rd_o (by omega), rd_o (by omega)]
  · rw [rd_o (by omega), rd_o (by omega), sto_same, rd_o (by omega), rd_o (by omega), rd_o (by omega), rd_o (by omega), rd_o (by omega)]
  · rw [rd_o (by omega), sto_same, rd_o (by omega), rd_o (by omega), rd_o (by omega), rd_o (by omega), rd_o (by omega), rd_o (by omega)]
theorem o_close {m : Mem} {b c : Nat} (h0 : m b 0 = nI (c + 1)) (hc : c < 6) : s_X0_closeShape m b = some (sto m (b + 3) c (vp_nar .boolean 1)) := by
  unfold s_X0_closeShape
  rw [hs_last h0 (by omega)]
  simp only [bind_s, if_bb]
  rw [if_pos (show 0 < c + 1 by omega), h0, m1_nI, ck_p (zin_nI hc (by decide)), ix_nI (by omega)]
  rfl
/-! the class's loop over the tokens -/
def XS (i : Nat) (mx : Mem) (j : Nat) (m2 : Mem) : Prop := i ≤ j ∧ ∀ k, l_X4_readText_51 (k + (j - i)) (nI i) mx = l_X4_readText_51 k (nI j) m2
theorem XS_r {i : Nat} {m : Mem} : XS i m i m := ⟨Nat.le_refl _, fun k => by rw [show k + (i - i) = k by omega]⟩
theorem XS_t {i j k : Nat} {x y z : Mem} (h : XS i x j y) (g : XS j y k z) : XS i x k z := ⟨Nat.le_trans h.1 g.1, fun q => by
  have h1 := h.1
  have g1 := g.1
  rw [show q + (k - i) = (q + (k - j)) + (j - i) by omega, h.2, g.2]⟩
theorem XS_1 {i : Nat} {mx m1 m2 : Mem} (hi : i ≤ 400) (h8 : mx 9 8 = 0) (h14 : ¬ mx 9 2 = 14) (ha : s_X5_advance mx = some m1) (hk : ¬ m1 10 2 = 1) (ht : s_X4_takeToken m1 = some m2) : XS i mx (i + 1) m2 := by
  refine ⟨by omega, fun k => ?_⟩
  rw [show k + (i + 1 - i) = k + 1 by omega]
  unfold l_X4_readText_51
  refine zlp_on ?_
  unfold t_X4_readText_51
  rw [if_neg (show ¬ (400 : Int32) < nI i from nI_nlt (a := 400) hi (by decide)), if_pos h8, if_neg h14, ha, bind_s, if_neg hk, ht, bind_s]
  show some (Sum.inl (nI i + 1, m2)) = _
  rw [nI_s1]
theorem XS_b {i : Nat} {mx m1 : Mem} (hi : i ≤ 400) (h8 : mx 9 8 = 0) (h14 : ¬ mx 9 2 = 14) (ha : s_X5_advance mx = some m1) (hk : m1 10 2 = 1) : XS i mx (i + 1) (sto (sto m1 9 8 1) 9 9 (m1 10 3)) := by
  refine ⟨by omega, fun k => ?_⟩
  rw [show k + (i + 1 - i) = k + 1 by omega]
  unfold l_X4_readText_51
  refine zlp_on ?_
  unfold t_X4_readText_51
  rw [if_neg (show ¬ (400 : Int32) < nI i from nI_nlt (a := 400) hi (by decide)), if_pos h8, if_neg h14, ha, bind_s, if_pos hk]
  show some (Sum.inl (nI i + 1, sto (sto m1 9 8 1) 9 9 ((sto m1 9 8 1) 10 3))) = _
  rw [nI_s1, rd_o (by decide)]
