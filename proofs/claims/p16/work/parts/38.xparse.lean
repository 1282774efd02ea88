/-! the first module's reading of a text: it comes to its end -/
def PB (m : Mem) (b c : Nat) : Prop := isb b ∧ m 9 1 = nI b ∧ BI m b c ∧ (∃ q, q ≤ 146 ∧ m b 1 = nI q) ∧ ∃ q, q < 36 ∧ m b 2 = nI q
theorem rd_o {m : Mem} {a a2 j : Nat} {x : Int32} (h : a2 ≠ a) : (sto m a j x) a2 = m a2 := sto_other h
theorem rd_j {m : Mem} {a j i : Nat} {x : Int32} (h : i ≠ j) : (sto m a j x) a i = m a i := by rw [sto_same, pk_un h]
theorem rd_s {m : Mem} {a j : Nat} {x : Int32} : (sto m a j x) a j = x := by rw [sto_same, pk_us]
theorem PB_cell {m : Mem} {b c a j : Nat} {x : Int32} (h : PB m b c) (h9 : a = 9 → j ≠ 1) (h0 : a ≠ b) (h2 : a ≠ b + 2) (h7 : a ≠ b + 7) (h8 : a ≠ b + 8) : PB (sto m a j x) b c := by
  obtain ⟨p1, p2, ⟨p3, p4, p5, p6, p7⟩, p8, p9⟩ := h
  unfold PB BI
  rw [rd_o (a := a) (a2 := b) (fun e => h0 e.symm), rd_o (a := a) (a2 := b + 2) (fun e => h2 e.symm), rd_o (a := a) (a2 := b + 7) (fun e => h7 e.symm), rd_o (a := a) (a2 := b + 8) (fun e => h8 e.symm)]
  refine ⟨p1, ?_, ⟨p3, p4, p5, p6, p7⟩, p8, p9⟩
  by_cases e : a = 9
  · subst e; rw [rd_j (fun z => h9 rfl z.symm)]; exact p2
  · rw [rd_o (fun z => e z.symm)]; exact p2
theorem PB_s2 {m : Mem} {b c s p : Nat} (h : PB m b c) (hp : p ≤ 6) : PB (sto m (b + 2) s (nI p)) b c := by
  obtain ⟨p1, p2, ⟨p3, p4, p5, p6, p7⟩, p8, p9⟩ := h
  have hb := isb_e p1
  unfold PB BI
  rw [rd_o (a2 := b) (by omega), rd_o (a2 := b + 7) (by omega), rd_o (a2 := b + 8) (by omega), rd_o (a2 := 9) (by omega)]
  refine ⟨p1, p2, ⟨p3, p4, fun s2 hs => ?_, p6, p7⟩, p8, p9⟩
  by_cases e : s2 = s
  · subst e; exact ⟨p, hp, rd_s⟩
  · obtain ⟨q, hq, e2⟩ := p5 s2 hs
    exact ⟨q, hq, by rw [rd_j e]; exact e2⟩
theorem PB_s7 {m : Mem} {b c s p : Nat} (h : PB m b c) (hp : p ≤ 146) : PB (sto m (b + 7) s (nI p)) b c := by
  obtain ⟨p1, p2, ⟨p3, p4, p5, p6, p7⟩, p8, p9⟩ := h
  have hb := isb_e p1
  unfold PB BI
  rw [rd_o (a2 := b) (by omega), rd_o (a2 := b + 2) (by omega), rd_o (a2 := b + 8) (by omega), rd_o (a2 := 9) (by omega)]
  refine ⟨p1, p2, ⟨p3, p4, p5, p6, fun s2 hs => ?_⟩, p8, p9⟩
  by_cases e : s2 = s
  · subst e; exact ⟨p, hp, rd_s⟩
  · obtain ⟨q, hq, e2⟩ := p7 s2 hs
    exact ⟨q, hq, by rw [rd_j e]; exact e2⟩
theorem PB_s8 {m : Mem} {b c s : Nat} {x : Int32} (h : PB m b c) (hp : stok x) : PB (sto m (b + 8) s x) b c := by
  obtain ⟨p1, p2, ⟨p3, p4, p5, p6, p7⟩, p8, p9⟩ := h
  have hb := isb_e p1
  unfold PB BI
  rw [rd_o (a2 := b) (by omega), rd_o (a2 := b + 2) (by omega), rd_o (a2 := b + 7) (by omega), rd_o (a2 := 9) (by omega)]
  refine ⟨p1, p2, ⟨p3, p4, p5, fun s2 hs => ?_, p7⟩, p8, p9⟩
  by_cases e : s2 = s
  · subst e; rw [rd_s]; exact hp
  · rw [rd_j e]; exact p6 s2 hs
theorem PB_1 {m : Mem} {b c q : Nat} (h : PB m b c) (hq : q ≤ 146) : PB (sto m b 1 (nI q)) b c := by
  obtain ⟨p1, p2, ⟨p3, p4, p5, p6, p7⟩, p8, p9⟩ := h
  have hb := isb_e p1
  unfold PB BI
  rw [rd_o (a2 := b + 2) (by omega), rd_o (a2 := b + 7) (by omega), rd_o (a2 := b + 8) (by omega), rd_o (a2 := 9) (by omega), rd_j (a := b) (i := 0) (by decide), rd_j (a := b) (i := 2) (by decide)]
  exact ⟨p1, p2, ⟨p3, p4, p5, p6, p7⟩, ⟨q, hq, rd_s⟩, p9⟩
theorem PB_2 {m : Mem} {b c q : Nat} (h : PB m b c) (hq : q < 36) : PB (sto m b 2 (nI q)) b c := by
  obtain ⟨p1, p2, ⟨p3, p4, p5, p6, p7⟩, p8, p9⟩ := h
  have hb := isb_e p1
  unfold PB BI
  rw [rd_o (a2 := b + 2) (by omega), rd_o (a2 := b + 7) (by omega), rd_o (a2 := b + 8) (by omega), rd_o (a2 := 9) (by omega), rd_j (a := b) (i := 0) (by decide), rd_j (a := b) (i := 1) (by decide)]
  exact ⟨p1, p2, ⟨p3, p4, p5, p6, p7⟩, p8, ⟨q, hq, rd_s⟩⟩
theorem PB_0 {m : Mem} {b c c2 : Nat} (h : PB m b c) (hc : c2 ≤ 6) (hp : ∀ s, s < c2 → ∃ p, p ≤ 6 ∧ m (b + 2) s = nI p) : PB (sto m b 0 (nI c2)) b c2 := by
  obtain ⟨p1, p2, ⟨p3, p4, p5, p6, p7⟩, p8, p9⟩ := h
  have hb := isb_e p1
  unfold PB BI
  rw [rd_o (a2 := b + 2) (by omega), rd_o (a2 := b + 7) (by omega), rd_o (a2 := b + 8) (by omega), rd_o (a2 := 9) (by omega), rd_j (a := b) (i := 1) (by decide), rd_j (a := b) (i := 2) (by decide)]
  exact ⟨p1, p2, ⟨rd_s, hc, hp, p6, p7⟩, p8, p9⟩
/-- what a step of the reading may change: cells 9, 10 and the text's own -/
def pf (b : Nat) (m m2 : Mem) : Prop := (∀ a, a ≠ 9 → a ≠ 10 → ¬ (b ≤ a ∧ a < b + 14) → m2 a = m a)
theorem pf_r {b : Nat} {m : Mem} : pf b m m := fun _ _ _ _ => rfl
theorem pf_t {b : Nat} {m1 m2 m3 : Mem} (h : pf b m1 m2) (g : pf b m2 m3) : pf b m1 m3 := fun a h1 h2 h3 => (g a h1 h2 h3).trans (h a h1 h2 h3)
theorem pf_9 {b j : Nat} {m : Mem} {x : Int32} : pf b m (sto m 9 j x) := fun _ h1 _ _ => rd_o h1
theorem pf_10 {b j : Nat} {m : Mem} {x : Int32} : pf b m (sto m 10 j x) := fun _ _ h2 _ => rd_o h2
theorem pf_b {b i j : Nat} {m : Mem} {x : Int32} (h : i < 14) : pf b m (sto m (b + i) j x) := fun a _ _ h3 => rd_o (by rintro rfl; omega)
theorem pf_b0 {b j : Nat} {m : Mem} {x : Int32} : pf b m (sto m b j x) := fun a _ _ h3 => rd_o (by rintro rfl; omega)
/-- the same, with the reader's own cells as they were -/
def pg (b : Nat) (m m2 : Mem) : Prop := ∀ a, ¬ (b ≤ a ∧ a < b + 14) → m2 a = m a
theorem pg_r {b : Nat} {m : Mem} : pg b m m := fun _ _ => rfl
theorem pg_t {b : Nat} {m1 m2 m3 : Mem} (h : pg b m1 m2) (g : pg b m2 m3) : pg b m1 m3 := fun a h3 => (g a h3).trans (h a h3)
theorem pg_b {b i j : Nat} {m : Mem} {x : Int32} (h : i < 14) : pg b m (sto m (b + i) j x) := fun a h3 => rd_o (by rintro rfl; omega)
theorem pg_b0 {b j : Nat} {m : Mem} {x : Int32} : pg b m (sto m b j x) := fun a h3 => rd_o (by rintro rfl; omega)
theorem pg_pf {b : Nat} {m m2 : Mem} (h : pg b m m2) : pf b m m2 := fun a _ _ h3 => h a h3
theorem m1_toInt {c : Nat} (h : c ≤ 100) : (nI c - 1).toInt = (c : Int) - 1 := sub1_toInt (by omega)
theorem hs_last {m : Mem} {b c : Nat} (hc : m b 0 = nI c) (h6 : c ≤ 6) : s_X0_hasShape m b (m b 0 - 1) = some (bb (0 < c)) := by
  rw [X0_hasShape_eq hc h6, hc, m1_toInt (by omega)]
  congr 1
  unfold bb
  have e : (0 ≤ (c : Int) - 1 ∧ (c : Int) - 1 < c) ↔ 0 < c := by omega
  simp only [e]
theorem sub1_nI {c : Nat} (h : 0 < c) : nI c - 1 = nI (c - 1) := by rw [show (1 : Int32) = nI 1 from rfl]; exact pk_sub h
theorem X_addStep {m : Mem} {b c : Nat} {kd ar : Int32} (h : PB m b c) (hs : stok (kd * 64 + ar)) : ∃ m2, s_X0_addStep m b kd ar = some m2 ∧ PB m2 b c ∧ pg b m m2 := by
  have h0 := h
  obtain ⟨p1, p2, ⟨p3, p4, p5, p6, p7⟩, ⟨q, hq, e1⟩, p9⟩ := h
  have hb := isb_e p1
  unfold s_X0_addStep
  rw [e1]
  refine ex_if (fun _ => ex_s ⟨h0, pg_r⟩) (fun hlt => ?_)
  have hq2 : q < 146 := by
    rcases Nat.lt_or_ge q 146 with h | h
    · exact h
    · exact absurd (nI_le (a := 146) h (by omega)) hlt
  rw [hs_last p3 p4]
  simp only [bind_s, if_bb]
  refine ex_if (fun hc => ?_) (fun _ => ex_s ⟨h0, pg_r⟩)
  refine ex_ck (zin_nI hq2 (by decide)) (ex_n (ex_n ?_))
  rw [ix_nI (by omega)]
  have hA := PB_s8 (s := q) h0 hs
  have r1 : (sto m (b + 8) q (kd * 64 + ar)) b 1 = nI q := by rw [rd_o (by omega)]; exact e1
  rw [r1, nI_s1]
  have hB := PB_1 (q := q + 1) hA (by omega)
  have r2 : (sto (sto m (b + 8) q (kd * 64 + ar)) b 1 (nI (q + 1))) b 0 = nI c := by rw [rd_j (by decide), rd_o (by omega)]; exact p3
  rw [r2, ix_nI (by omega), rd_s]
  refine ex_ck (zin_nI (by omega) (by decide)) (ex_n (ex_s ⟨PB_s7 hB (by omega), ?_⟩))
  exact pg_t (pg_b (by omega)) (pg_t pg_b0 (pg_b (by omega)))
theorem X_room {m : Mem} {b c : Nat} (h : PB m b c) : ∃ r, s_X0_hasRoomForPart m b = some r ∧ (¬ r = 0 → 0 < c ∧ ∃ p, p < 6 ∧ m (b + 2) (c - 1) = nI p) := by
  obtain ⟨p1, p2, ⟨p3, p4, p5, p6, p7⟩, -, -⟩ := h
  unfold s_X0_hasRoomForPart
  rw [hs_last p3 p4]
  simp only [bind_s, if_bb]
  refine ex_if (fun hc => ?_) (fun _ => ex_s (fun z => absurd rfl z))
  rw [p3, sub1_nI hc]
  obtain ⟨p, hp, e⟩ := p5 (c - 1) (by omega)
  refine ex_ck (zin_nI (by omega) (by decide)) ?_
  rw [ix_nI (by omega), e]
  refine ex_if (fun _ => ex_s (fun z => absurd rfl z)) (fun hlt => ex_s (fun _ => ⟨hc, p, ?_, rfl⟩))
  rcases Nat.lt_or_ge p 6 with h | h
  · exact h
  · exact absurd (nI_le (a := 6) h (by omega)) hlt
theorem X_addPart {m : Mem} {b c : Nat} {nm : Int32} (h : PB m b c) : ∃ m2, s_X0_addPart m b nm = some m2 ∧ PB m2 b c ∧ pg b m m2 := by
  have h0 := h
  obtain ⟨p1, p2, ⟨p3, p4, p5, p6, p7⟩, -, -⟩ := h
  have hb := isb_e p1
  unfold s_X0_addPart
  refine ex_b (X_room h0) (fun r hr => ex_if (fun _ => ex_s ⟨h0, pg_r⟩) (fun hn => ?_))
  obtain ⟨hc, p, hp, e⟩ := hr hn
  have z6 : zin (nI (c - 1)) 6 = true := zin_nI (by omega) (by decide)
  refine ex_n ?_
  rw [p3, sub1_nI hc]
  refine ex_ck z6 (ex_n (ex_ck z6 (ex_ck z6 (ex_n (ex_n ?_)))))
  rw [ix_nI (by omega), e, nI_s1, m6]
  have hA := PB_s2 (s := c - 1) (p := p + 1) h0 (by omega)
  have hB := PB_2 (q := (c - 1) * 6 + p) hA (by omega)
  rw [rd_s]
  refine ex_ck (zin_nI (by omega) (by decide)) (ex_n (ex_ck z6 (ex_ck z6 (ex_n ?_))))
  have hC := PB_cell (a := b + 9) (j := Int32.toNatClampNeg (nI ((c - 1) * 6 + p))) (x := nm) hB (by omega) (by omega) (by omega) (by omega) (by omega)
  generalize hm3 : sto (sto (sto m (b + 2) (c - 1) (nI (p + 1))) b 2 (nI ((c - 1) * 6 + p))) (b + 9) (Int32.toNatClampNeg (nI ((c - 1) * 6 + p))) nm = m3 at hC ⊢
  have g3 : pg b m m3 := by rw [← hm3]; exact pg_t (pg_b (by omega)) (pg_t pg_b0 (pg_b (by omega)))
  generalize hm4 : sto m3 (b + 4) (c - 1) _ = m4
  have hD : PB m4 b c := by rw [← hm4]; exact PB_cell hC (by omega) (by omega) (by omega) (by omega) (by omega)
  have g4 : pg b m m4 := by rw [← hm4]; exact pg_t g3 (pg_b (by omega))
  have hst : stok (0 * 64 + nI p) := by
    have e0 : (0 : Int32) * 64 + nI p = nI p := by
      rw [show (0 : Int32) = nI 0 from rfl, show (64 : Int32) = nI 64 from rfl, nI_mul, nI_add]
      congr 1
      omega
    rw [e0]
    unfold stok
    rw [nI_toInt (by omega)]
    exact ⟨by omega, fun _ => by omega⟩
  exact ex_b (X_addStep hD hst) (fun m5 h5 => ex_s ⟨h5.1, pg_t g4 h5.2⟩)
theorem X_tell {m : Mem} {b c : Nat} {w x y z : Int32} (h : PB m b c) : ∃ m2, s_X0_tellPart m b w x y z = some m2 ∧ PB m2 b c ∧ pg b m m2 := by
  have h0 := h
  obtain ⟨p1, p2, -, -, ⟨q, hq, e⟩⟩ := h
  have hb := isb_e p1
  unfold s_X0_tellPart
  rw [e]
  have hz : zin (nI q) 36 = true := zin_nI hq (by decide)
  refine ex_ck hz (ex_n ?_)
  rw [ix_nI (by omega), rd_o (a2 := b) (by omega), e]
  refine ex_ck hz (ex_n ?_)
  rw [rd_o (a2 := b) (by omega), rd_o (a2 := b) (by omega), e, ix_nI (by omega)]
  refine ex_ck hz (ex_n ?_)
  rw [rd_o (a2 := b) (by omega), rd_o (a2 := b) (by omega), rd_o (a2 := b) (by omega), e, ix_nI (by omega)]
  refine ex_ck hz (ex_n (ex_s ⟨?_, ?_⟩))
  · refine PB_cell (PB_cell (PB_cell (PB_cell h0 ?_ ?_ ?_ ?_ ?_) ?_ ?_ ?_ ?_ ?_) ?_ ?_ ?_ ?_ ?_) ?_ ?_ ?_ ?_ ?_ <;> omega
  · exact pg_t (pg_b (by omega)) (pg_t (pg_b (by omega)) (pg_t (pg_b (by omega)) (pg_b (by omega))))
theorem X_close {m : Mem} {b c : Nat} (h : PB m b c) : ∃ m2, s_X0_closeShape m b = some m2 ∧ PB m2 b c ∧ pg b m m2 := by
  have h0 := h
  obtain ⟨p1, p2, ⟨p3, p4, p5, p6, p7⟩, -, -⟩ := h
  have hb := isb_e p1
  unfold s_X0_closeShape
  rw [hs_last p3 p4]
  simp only [bind_s, if_bb]
  refine ex_if (fun hc => ?_) (fun _ => ex_s ⟨h0, pg_r⟩)
  rw [p3, sub1_nI hc]
  refine ex_ck (zin_nI (by omega) (by decide)) (ex_n (ex_s ⟨PB_cell h0 (by omega) (by omega) (by omega) (by omega) (by omega), pg_b (by omega)⟩))
theorem X_shapeOf {m : Mem} {b c : Nat} {w : Int32} (h : PB m b c) : ∃ r, s_X0_shapeOf m b w = some r ∧ (0 ≤ r → ∃ s, s < c ∧ r = nI s) := by
  obtain ⟨p1, p2, ⟨p3, p4, p5, p6, p7⟩, -, -⟩ := h
  unfold s_X0_shapeOf l_X0_shapeOf_2
  refine forG c (fun j a => a = nI j) _ (fun j a hjc ha => ?_) (fun a ha => ?_) FU 0 0 (Nat.zero_le _) rfl (FU_lt (by omega))
  · unfold t_X0_shapeOf_2
    rw [ha, p3]
    refine st_if (fun z => absurd z (nI_ge hjc (by omega))) (fun _ => st_ck (zin_nI (by omega) (by decide)) (st_if (fun _ => st_r (fun _ => ⟨j, hjc, rfl⟩)) (fun _ => st_n (st_l nI_s1))))
  · unfold t_X0_shapeOf_2
    rw [ha, p3]
    exact ⟨_, if_pos (nI_le (Nat.le_refl _) (by omega)), fun z => absurd z (by decide)⟩
theorem X_open {m : Mem} {b c : Nat} {w : Int32} (h : PB m b c) : ∃ m2, s_X0_openShape m b w = some m2 ∧ (∃ c2, PB m2 b c2) ∧ pg b m m2 := by
  have h0 := h
  obtain ⟨p1, p2, ⟨p3, p4, p5, p6, p7⟩, ⟨q, hq, e1⟩, p9⟩ := h
  have hb := isb_e p1
  unfold s_X0_openShape
  refine ex_if (fun hlt => ?_) (fun _ => ex_s ⟨⟨c, h0⟩, pg_r⟩)
  have hc5 : c < 6 := by
    rw [p3] at hlt
    exact (nI_ltI (b := 6) (by omega) (by decide)).mp hlt
  rw [p3]
  have z6 : zin (nI c) 6 = true := zin_nI hc5 (by decide)
  refine ex_n (ex_n (ex_ck z6 (ex_n (ex_ck z6 (ex_n (ex_ck z6 (ex_n (ex_ck z6 (ex_n (ex_ck z6 (ex_n (ex_ck z6 (ex_n ?_)))))))))))))
  rw [nI_s1, ix_nI (n := c) (by omega)]
  refine ex_ck (zin_nI (by omega) (by decide)) (ex_n (ex_s ?_))
  rw [ix_nI (n := c + 1) (by omega)]
  have r1 : (sto (sto (sto (sto (sto (sto (sto m b 0 (nI (c + 1))) (b + 1) c w) (b + 2) c 0) (b + 3) c (vp_nar .boolean 0)) (b + 4) c 0) (b + 5) c 0) (b + 6) c 0) b 1 = nI q := by
    rw [rd_o (by omega), rd_o (by omega), rd_o (by omega), rd_o (by omega), rd_o (by omega), rd_o (by omega), rd_j (by decide)]
    exact e1
  rw [r1]
  refine ⟨⟨c + 1, ?_⟩, ?_⟩
  · have hA : PB (sto m (b + 2) c (nI 0)) b c := PB_s2 h0 (by omega)
    have hB := PB_0 (c2 := c + 1) hA (by omega) (fun s hs => by
      by_cases e : s = c
      · subst e; exact ⟨0, by omega, rd_s⟩
      · obtain ⟨p, hp, e2⟩ := p5 s (by omega)
        exact ⟨p, hp, by rw [rd_j e]; exact e2⟩)
    have hsw : sto (sto (sto m b 0 (nI (c + 1))) (b + 1) c w) (b + 2) c 0 = sto (sto (sto m (b + 2) c (nI 0)) b 0 (nI (c + 1))) (b + 1) c w := by
      funext a
      unfold sto
      by_cases e1 : a = b + 2
      · subst e1
        simp only [if_true, if_neg (show ¬ b + 2 = b + 1 by omega), if_neg (show ¬ b + 2 = b by omega)]
        rfl
      · by_cases e2 : a = b + 1
        · subst e2
          simp only [if_true, if_neg (show ¬ b + 1 = b + 2 by omega), if_neg (show ¬ b + 1 = b by omega)]
        · by_cases e3 : a = b
          · subst e3
            simp only [if_true, if_neg (show ¬ a = a + 2 by omega), if_neg (show ¬ a = a + 1 by omega)]
          · simp only [if_neg e1, if_neg e2, if_neg e3]
    rw [hsw]
    refine PB_s7 (PB_cell (PB_cell (PB_cell (PB_cell (PB_cell hB ?_ ?_ ?_ ?_ ?_) ?_ ?_ ?_ ?_ ?_) ?_ ?_ ?_ ?_ ?_) ?_ ?_ ?_ ?_ ?_) ?_ ?_ ?_ ?_ ?_) hq <;> omega
  · exact pg_t pg_b0 (pg_t (pg_b (by omega)) (pg_t (pg_b (by omega)) (pg_t (pg_b (by omega)) (pg_t (pg_b (by omega)) (pg_t (pg_b (by omega)) (pg_t (pg_b (by omega)) (pg_b (by omega))))))))
theorem X_refers {m : Mem} {b s : Nat} (hs : s < 36) : ∃ r, s_X0_refers m b (nI s) = some r ∧ True := by
  unfold s_X0_refers
  have hz : zin (nI s) 36 = true := zin_nI hs (by decide)
  exact ex_ck hz (ex_if (fun _ => ex_s trivial) (fun _ => ex_ck hz (ex_if (fun _ => ex_s trivial) (fun _ => ex_s trivial))))
theorem PB_c {m : Mem} {b c s : Nat} (h : PB m b c) (hs : s < c) : ∃ p, p ≤ 6 ∧ m (b + 2) s = nI p := h.2.2.1.2.2.1 s hs
theorem X_link {m : Mem} {b c : Nat} (h : PB m b c) : ∃ q, s_X0_linkReferences m b = some q ∧ PB q.2 b c ∧ pg b m q.2 := by
  have hb := isb_e h.1
  have hc6 := h.2.2.1.2.1
  unfold s_X0_linkReferences l_X0_linkReferences_2
  refine forG c (fun j a => a.1 = nI j ∧ PB a.2 b c ∧ pg b m a.2) _ (fun j a hjc ha => ?_) (fun a ha => ?_) FU 0 (0, m) (Nat.zero_le _) ⟨rfl, h, pg_r⟩ (FU_lt (by omega))
  · obtain ⟨e1, hP, hg⟩ := ha
    unfold t_X0_linkReferences_2
    rw [e1, hP.2.2.1.1]
    refine st_if (fun z => absurd z (nI_ge hjc (by omega))) (fun _ => ?_)
    have hin : ∃ o, l_X0_linkReferences_12 b (nI j) FU 0 a.2 = some o ∧ ((∃ q, o = .inl q ∧ PB q.2 b c ∧ pg b m q.2) ∨ ∃ m2, o = .inr m2 ∧ PB m2 b c ∧ pg b m m2) := by
      unfold l_X0_linkReferences_12
      obtain ⟨p0, hp06, -⟩ := PB_c hP hjc
      refine forG 7 (fun i a2 => a2.1 = nI i ∧ PB a2.2 b c ∧ pg b m a2.2) _ (fun i a2 hi ha2 => ?_) (fun a2 ha2 => ?_) FU 0 (0, a.2) (Nat.zero_le _) ⟨rfl, hP, hg⟩ (FU_lt (by omega))
      · obtain ⟨f1, hP2, hg2⟩ := ha2
        obtain ⟨p, hp6, ep⟩ := PB_c hP2 hjc
        have zj : zin (nI j) 6 = true := zin_nI (by omega) (by decide)
        unfold t_X0_linkReferences_12
        rw [f1, ix_nI (by omega), ep, m6]
        refine st_ck zj (st_if (fun _ => st_r (Or.inr ⟨_, rfl, hP2, hg2⟩)) (fun hlt => ?_))
        have hip : i < p := by
          rcases Nat.lt_or_ge i p with h | h
          · exact h
          · exact absurd (nI_le h (by omega)) hlt
        have z36 : zin (nI (j * 6 + i)) 36 = true := zin_nI (by omega) (by decide)
        refine st_n (st_b (X_refers (by omega)) (fun r _ => st_if (fun _ => st_n (st_l ⟨nI_s1, hP2, hg2⟩)) (fun _ => st_ck z36 ?_)))
        refine st_b (X_shapeOf hP2) (fun r hr => st_if (fun h0 => ?_) (fun _ => st_ck z36 (st_r (Or.inl ⟨_, rfl, hP2, hg2⟩))))
        refine st_ck z36 (st_n (st_ck zj (st_ck zj (st_n (st_n (st_l ⟨nI_s1, ?_, ?_⟩))))))
        · refine PB_cell (PB_cell hP2 ?_ ?_ ?_ ?_ ?_) ?_ ?_ ?_ ?_ ?_ <;> omega
        · exact pg_t hg2 (pg_t (pg_b (by omega)) (pg_b (by omega)))
      · obtain ⟨f1, hP2, hg2⟩ := ha2
        obtain ⟨p, hp6, ep⟩ := PB_c hP2 hjc
        unfold t_X0_linkReferences_12
        rw [f1, ix_nI (by omega), ep, ck_p (zin_nI (by omega) (by decide))]
        exact ⟨_, if_pos (nI_le (by omega) (by decide)), Or.inr ⟨_, rfl, hP2, hg2⟩⟩
    obtain ⟨o, ho, hoo⟩ := hin
    rw [ho]
    rcases hoo with ⟨q, rfl, h1, h2⟩ | ⟨m2, rfl, h1, h2⟩
    · exact Or.inr ⟨q, rfl, h1, h2⟩
    · exact Or.inl ⟨_, rfl, nI_s1, h1, h2⟩
  · obtain ⟨e1, hP, hg⟩ := ha
    unfold t_X0_linkReferences_2
    rw [e1, hP.2.2.1.1]
    exact ⟨_, if_pos (nI_le (Nat.le_refl _) (by omega)), hP, hg⟩
theorem X_reach {m : Mem} {b c : Nat} (h : PB m b c) : ∃ m2, s_X0_findReach m b = some m2 ∧ PB m2 b c ∧ pg b m m2 := by
  have hb := isb_e h.1
  have hc6 := h.2.2.1.2.1
  unfold s_X0_findReach l_X0_findReach_2
  refine ex_b (Q := fun m2 => PB m2 b c ∧ pg b m m2) ?_ (fun m2 h2 => ex_s h2)
  refine forG c (fun j a => a.1 = nI j ∧ PB a.2 b c ∧ pg b m a.2) _ (fun j a hjc ha => ?_) (fun a ha => ?_) FU 0 (0, m) (Nat.zero_le _) ⟨rfl, h, pg_r⟩ (FU_lt (by omega))
  · obtain ⟨e1, hP, hg⟩ := ha
    unfold t_X0_findReach_2
    rw [e1, hP.2.2.1.1]
    refine st_if (fun z => absurd z (nI_ge hjc (by omega))) (fun _ => st_b (Q := fun m2 => PB m2 b c ∧ pg b m m2) ?_ (fun m2 h2 => st_n (st_l ⟨nI_s1, h2.1, h2.2⟩)))
    unfold l_X0_findReach_12
    refine forG c (fun i a2 => a2.1 = nI i ∧ PB a2.2 b c ∧ pg b m a2.2) _ (fun i a2 hi ha2 => ?_) (fun a2 ha2 => ?_) FU 0 (0, a.2) (Nat.zero_le _) ⟨rfl, hP, hg⟩ (FU_lt (by omega))
    · obtain ⟨f1, hP2, hg2⟩ := ha2
      unfold t_X0_findReach_12
      rw [f1, hP2.2.2.1.1]
      have zi : zin (nI i) 6 = true := zin_nI (by omega) (by decide)
      refine st_if (fun z => absurd z (nI_ge hi (by omega))) (fun _ => st_ck zi (st_if (fun _ => st_n (st_l ⟨nI_s1, hP2, hg2⟩)) (fun _ => ?_)))
      refine st_ck zi (st_ck (zin_nI (by omega) (by decide)) (st_ck zi (st_n (st_n (st_l ⟨nI_s1, ?_, pg_t hg2 (pg_b (by omega))⟩)))))
      refine PB_cell hP2 ?_ ?_ ?_ ?_ ?_ <;> omega
    · obtain ⟨f1, hP2, hg2⟩ := ha2
      unfold t_X0_findReach_12
      rw [f1, hP2.2.2.1.1]
      exact ⟨_, if_pos (nI_le (Nat.le_refl _) (by omega)), hP2, hg2⟩
  · obtain ⟨e1, hP, hg⟩ := ha
    unfold t_X0_findReach_2
    rw [e1, hP.2.2.1.1]
    exact ⟨_, if_pos (nI_le (Nat.le_refl _) (by omega)), hP, hg⟩
theorem X_depends {m : Mem} {b c : Nat} {x y : Int32} (h : PB m b c) : ∃ r, s_X0_dependsOn m b x y = some r ∧ True := by
  unfold s_X0_dependsOn
  rw [X0_hasShape_eq h.2.2.1.1 h.2.2.1.2.1]
  simp only [bind_s, if_bb]
  refine ex_if (fun hx => ex_ck (zin_i hx.1 (by have := h.2.2.1.2.1; omega)) (ex_if (fun _ => ex_s trivial) (fun _ => ex_s trivial))) (fun _ => ex_s trivial)
theorem X_circle {m : Mem} {b c : Nat} (h : PB m b c) : ∃ r, s_X0_placeOfCircle m b = some r ∧ True := by
  have hc6 := h.2.2.1.2.1
  unfold s_X0_placeOfCircle l_X0_placeOfCircle_2
  refine forG c (fun j a => a = nI j) _ (fun j a hjc ha => ?_) (fun a ha => ?_) FU 0 0 (Nat.zero_le _) rfl (FU_lt (by omega))
  · unfold t_X0_placeOfCircle_2
    rw [ha, h.2.2.1.1]
    refine st_if (fun z => absurd z (nI_ge hjc (by omega))) (fun _ => ?_)
    have hin : ∃ o, l_X0_placeOfCircle_12 m b (nI j) FU 0 = some o ∧ True := by
      unfold l_X0_placeOfCircle_12
      obtain ⟨p, hp6, ep⟩ := PB_c h hjc
      refine forG p (fun i a2 => a2 = nI i) _ (fun i a2 hi ha2 => ?_) (fun a2 ha2 => ?_) FU 0 0 (Nat.zero_le _) rfl (FU_lt (by omega))
      · unfold t_X0_placeOfCircle_12
        rw [ha2, ix_nI (by omega), ep, m6]
        have z36 : zin (nI (j * 6 + i)) 36 = true := zin_nI (by omega) (by decide)
        refine st_ck (zin_nI (by omega) (by decide)) (st_if (fun z => absurd z (nI_ge hi (by omega))) (fun _ => st_n (st_ck z36 (st_if (fun _ => st_ck z36 ?_) (fun _ => st_n (st_l nI_s1))))))
        exact st_b (X_depends h) (fun r _ => st_if (fun _ => st_n (st_l nI_s1)) (fun _ => st_ck z36 (st_r trivial)))
      · unfold t_X0_placeOfCircle_12
        rw [ha2, ix_nI (by omega), ep, ck_p (zin_nI (by omega) (by decide))]
        exact ⟨_, if_pos (nI_le (Nat.le_refl _) (by omega)), trivial⟩
    obtain ⟨o, ho, -⟩ := hin
    rw [ho]
    cases o with
    | inl r => exact Or.inr ⟨_, rfl, trivial⟩
    | inr u => exact Or.inl ⟨_, rfl, nI_s1⟩
  · unfold t_X0_placeOfCircle_2
    rw [ha, h.2.2.1.1]
    exact ⟨_, if_pos (nI_le (Nat.le_refl _) (by omega)), trivial⟩
theorem X_levels {m : Mem} {b c : Nat} (h : PB m b c) : ∃ m2, s_X0_findLevels m b = some m2 ∧ PB m2 b c ∧ pg b m m2 := by
  have hb := isb_e h.1
  have hc6 := h.2.2.1.2.1
  unfold s_X0_findLevels l_X0_findLevels_2
  refine ex_b (Q := fun m2 => PB m2 b c ∧ pg b m m2) ?_ (fun m2 h2 => ex_s h2)
  refine forG 6 (fun j a => a.1 = nI j ∧ PB a.2 b c ∧ pg b m a.2) _ (fun j a hjc ha => ?_) (fun a ha => ?_) FU 0 (0, m) (Nat.zero_le _) ⟨rfl, h, pg_r⟩ (FU_lt (by omega))
  · obtain ⟨e1, hP, hg⟩ := ha
    unfold t_X0_findLevels_2
    rw [e1]
    refine st_if (fun z => absurd z (nI_ge (b := 6) hjc (by omega))) (fun _ => st_b (Q := fun m2 => PB m2 b c ∧ pg b m m2) ?_ (fun m2 h2 => st_n (st_l ⟨nI_s1, h2.1, h2.2⟩)))
    unfold l_X0_findLevels_10
    refine forG c (fun i a2 => a2.1 = nI i ∧ PB a2.2 b c ∧ pg b m a2.2) _ (fun i a2 hi ha2 => ?_) (fun a2 ha2 => ?_) FU 0 (0, a.2) (Nat.zero_le _) ⟨rfl, hP, hg⟩ (FU_lt (by omega))
    · obtain ⟨f1, hP2, hg2⟩ := ha2
      unfold t_X0_findLevels_10
      rw [f1, hP2.2.2.1.1]
      refine st_if (fun z => absurd z (nI_ge hi (by omega))) (fun _ => st_b (Q := fun m2 => PB m2 b c ∧ pg b m m2) ?_ (fun m2 h2 => st_n (st_l ⟨nI_s1, h2.1, h2.2⟩)))
      unfold s_X0_raiseLevel l_X0_raiseLevel_2
      refine ex_b (Q := fun m2 => PB m2 b c ∧ pg b m m2) ?_ (fun m2 h2 => ex_s h2)
      obtain ⟨p0, hp06, -⟩ := PB_c hP2 hi
      refine forG 7 (fun q a3 => a3.1 = nI q ∧ PB a3.2 b c ∧ pg b m a3.2) _ (fun q a3 hq ha3 => ?_) (fun a3 ha3 => ?_) FU 0 (0, a2.2) (Nat.zero_le _) ⟨rfl, hP2, hg2⟩ (FU_lt (by omega))
      · obtain ⟨k1, hP3, hg3⟩ := ha3
        obtain ⟨p, hp6, ep⟩ := PB_c hP3 hi
        have zi : zin (nI i) 6 = true := zin_nI (by omega) (by decide)
        unfold t_X0_raiseLevel_2
        rw [k1, ix_nI (n := i) (by omega), ep, m6]
        refine st_ck zi (st_if (fun _ => st_r ⟨hP3, hg3⟩) (fun hlt => ?_))
        have hip : q < p := by
          rcases Nat.lt_or_ge q p with h | h
          · exact h
          · exact absurd (nI_le h (by omega)) hlt
        have z36 : zin (nI (i * 6 + q)) 36 = true := zin_nI (by omega) (by decide)
        refine st_n (st_b (X_refers (by omega)) (fun r _ => st_if (fun _ => st_n (st_l ⟨nI_s1, hP3, hg3⟩)) (fun _ => st_ck z36 ?_)))
        rw [X0_hasShape_eq hP3.2.2.1.1 hc6]
        simp only [bind_s, if_bb]
        refine st_if (fun hx => ?_) (fun _ => st_n (st_l ⟨nI_s1, hP3, hg3⟩))
        refine st_ck z36 (st_ck (zin_i hx.1 (by omega)) (st_n (st_ck zi (st_ck z36 ?_))))
        refine st_if (fun _ => st_ck zi (st_n (st_n (st_l ⟨nI_s1, ?_, pg_t hg3 (pg_b (by omega))⟩)))) (fun _ => st_ck zi (st_n (st_n (st_l ⟨nI_s1, ?_, pg_t hg3 (pg_b (by omega))⟩)))) <;> refine PB_cell hP3 ?_ ?_ ?_ ?_ ?_ <;> omega
      · obtain ⟨k1, hP3, hg3⟩ := ha3
        obtain ⟨p, hp6, ep⟩ := PB_c hP3 hi
        unfold t_X0_raiseLevel_2
        rw [k1, ix_nI (n := i) (by omega), ep, ck_p (zin_nI (by omega) (by decide))]
        exact ⟨_, if_pos (nI_le (by omega) (by decide)), hP3, hg3⟩
    · obtain ⟨f1, hP2, hg2⟩ := ha2
      unfold t_X0_findLevels_10
      rw [f1, hP2.2.2.1.1]
      exact ⟨_, if_pos (nI_le (Nat.le_refl _) (by omega)), hP2, hg2⟩
  · unfold t_X0_findLevels_2
    rw [ha.1]
    exact ⟨_, if_pos (by decide), ha.2.1, ha.2.2⟩
