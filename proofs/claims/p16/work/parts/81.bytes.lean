/-! both read the same bytes: tokens -/
def TPE (mx mm : Mem) : Prop := ∀ p, p < 400 → (mx 8 p) &&& 255 = mm 33 p
def BY (mm : Mem) (L p : Nat) : Int32 := if p < L then mm 33 p else -1
theorem byteAt_eq {mx mm : Mem} {L p : Nat} (hL : L ≤ 400) (h7 : mx 7 1 = nI L) (hT : TPE mx mm) (hp : p ≤ 1000) : s_X3_byteAt mx (nI p) = some (BY mm L p) := by
  unfold s_X3_byteAt BY
  rw [if_neg (m1_lt (by omega)), h7]
  by_cases h : p < L
  · rw [if_neg (nI_ge h (by omega)), if_neg (show ¬ (400 : Int32) ≤ nI p from nI_ge (b := 400) (by omega) (by decide)), ck_p (zin_nI (by omega) (by decide)), ix_nI (by omega), hT p (by omega), if_pos h]
  · rw [if_pos (nI_le (by omega) (by omega)), if_neg h]
theorem look_by {mm : Mem} {L p : Nat} (hL : L ≤ 400) (h37 : mm 0 37 = nI L) (hp : p ≤ 1000) : s_X7_look mm (nI p) = some (BY mm L p) := by
  unfold s_X7_look BY
  rw [h37]
  by_cases h : p < L
  · rw [if_neg (nI_ge h (by omega)), ck_p (zin_nI (by omega) (by decide)), ix_nI (by omega), if_pos h]
  · rw [if_pos (nI_le (by omega) (by omega)), if_neg h]
theorem BY_r {mx mm : Mem} {L p : Nat} (hL : L ≤ 400) (hT : TPE mx mm) : BY mm L p = -1 ∨ (p < L ∧ ∃ j, j < 256 ∧ BY mm L p = nI j) := by
  unfold BY
  by_cases h : p < L
  · rw [if_pos h, ← hT p (by omega)]
    obtain ⟨j, hj, e⟩ := pk_andE (mx 8 p) (m := 255) 8 (by decide)
    exact Or.inr ⟨h, j, hj, e⟩
  · rw [if_neg h]; exact Or.inl rfl
theorem BY_c {mm m2 : Mem} {L : Nat} (e : m2 33 = mm 33) : BY m2 L = BY mm L := by
  funext p
  unfold BY
  rw [e]
theorem skip2 {mx mm : Mem} {L : Nat} (hL : L ≤ 400) (h7 : mx 7 1 = nI L) (hT : TPE mx mm) : ∀ (k n a : Nat) (m : Mem), L ≤ a + k → k < n → a ≤ 1000 → m 0 37 = nI L → m 33 = mm 33 → m 0 38 = nI a → ∃ b, a ≤ b ∧ (b ≤ L ∨ b = a) ∧ l_X5_advance_5 mx n (nI a) = some (nI b) ∧ BY mm L b ≠ 32 ∧ ∃ m6, l_X7_next_0 n m = some m6 ∧ (∀ c, c ≠ 0 → m6 c = m c) ∧ (∀ j, j ≠ 38 → m6 0 j = m 0 j) ∧ m6 0 38 = nI b := by
  intro k
  induction k with
  | zero =>
    intro n a m hk hn ha h37 h33 h38
    obtain ⟨n, rfl⟩ : ∃ q, n = q + 1 := ⟨n - 1, by omega⟩
    have hb : BY mm L a = -1 := by unfold BY; rw [if_neg (by omega)]
    refine ⟨a, Nat.le_refl _, Or.inr rfl, ?_, by rw [hb]; decide, m, ?_, fun _ _ => rfl, fun _ _ => rfl, h38⟩
    · unfold l_X5_advance_5
      refine zlp_off ?_
      unfold t_X5_advance_5
      rw [h7, if_pos (nI_le (by omega) (by omega))]
    · unfold l_X7_next_0
      refine zlp_off ?_
      unfold t_X7_next_0
      rw [h38, look_by hL h37 ha, BY_c h33, hb, bind_s, if_neg (by decide)]
  | succ k ih =>
    intro n a m hk hn ha h37 h33 h38
    obtain ⟨n, rfl⟩ : ∃ q, n = q + 1 := ⟨n - 1, by omega⟩
    by_cases h : BY mm L a = 32
    · have haL : a < L := by
        rcases Nat.lt_or_ge a L with q | q
        · exact q
        · unfold BY at h
          rw [if_neg (by omega)] at h
          exact absurd h (by decide)
      have e1 : t_X5_advance_5 mx (nI a) = some (.inl (nI (a + 1))) := by
        unfold t_X5_advance_5
        rw [h7, if_neg (nI_ge haL (by omega)), byteAt_eq hL h7 hT ha, bind_s, if_pos h]
        show some (Sum.inl (nI a + 1)) = _
        rw [nI_s1]
      have e2 : t_X7_next_0 m = some (.inl (sto m 0 38 (nI (a + 1)))) := by
        unfold t_X7_next_0
        rw [h38, look_by hL h37 ha, BY_c h33, bind_s, if_pos h, nI_s1]
        rfl
      obtain ⟨b, q1, q2, q3, q4, m6, q5, q6, q7, q8⟩ := ih n (a + 1) (sto m 0 38 (nI (a + 1))) (by omega) (by omega) (by omega) (by rw [rd_j (by decide)]; exact h37) (by rw [rd_o (by decide)]; exact h33) rd_s
      refine ⟨b, by omega, Or.inl (by omega), ?_, q4, m6, ?_, fun c hc => by rw [q6 c hc, rd_o hc], fun j hj => by rw [q7 j hj, rd_j hj], q8⟩
      · unfold l_X5_advance_5
        rw [zlp_on e1]
        exact q3
      · unfold l_X7_next_0
        rw [zlp_on e2]
        exact q5
    · refine ⟨a, Nat.le_refl _, Or.inr rfl, ?_, h, m, ?_, fun _ _ => rfl, fun _ _ => rfl, h38⟩
      · unfold l_X5_advance_5
        refine zlp_off ?_
        unfold t_X5_advance_5
        rw [h7]
        by_cases q : nI L ≤ nI a
        · rw [if_pos q]
        · rw [if_neg q, byteAt_eq hL h7 hT ha, bind_s, if_neg h]
      · unfold l_X7_next_0
        refine zlp_off ?_
        unfold t_X7_next_0
        rw [h38, look_by hL h37 ha, BY_c h33, bind_s, if_neg h]
/-! figures -/
abbrev fg (r : Int32) : Prop := 48 ≤ r ∧ r ≤ 57
theorem fig_eq (r : Int32) : s_X5_isFigure r = some (bb (48 ≤ r ∧ r ≤ 57)) := by
  unfold s_X5_isFigure
  by_cases h1 : r < 48
  · rw [if_pos h1, bb_f (fun z => absurd h1 (Int32.not_lt.mpr z.1))]
  · rw [if_neg h1]
    by_cases h2 : 57 < r
    · rw [if_pos h2, bb_f (fun z => absurd h2 (Int32.not_lt.mpr z.2))]
    · rw [if_neg h2, bb_t ⟨Int32.not_lt.mp h1, Int32.not_lt.mp h2⟩]
theorem in_48 (r : Int32) : s_X7_in r.toInt64 48 57 = some (bb (48 ≤ r ∧ r ≤ 57)) := by
  rw [show (48 : Int64) = (48 : Int32).toInt64 from by decide, show (57 : Int64) = (57 : Int32).toInt64 from by decide, in_i]
  rfl
def dv (f : Nat → Int32) (b : Nat) : Nat → Int32
  | 0 => 0
  | j + 1 => 10 * dv f b j + f (b + j) - 48
theorem figs_x {mx mm : Mem} {L b : Nat} (hL : L ≤ 400) (h7 : mx 7 1 = nI L) (hT : TPE mx mm) (hb : b ≤ 900) : ∀ (j n : Nat), j ≤ 5 → (∀ i, i < j → fg (BY mm L (b + i))) → l_X5_readNumber_45 mx (nI b) (n + j) 0 0 = l_X5_readNumber_45 mx (nI b) n (nI j) (dv (BY mm L) b j) := by
  intro j
  induction j with
  | zero => intro n _ _; rfl
  | succ j ih =>
    intro n hj h
    rw [show n + (j + 1) = (n + 1) + j by omega, ih (n + 1) (by omega) (fun i hi => h i (by omega))]
    have hf := h j (by omega)
    have e : t_X5_readNumber_45 mx (nI b) (nI j) (dv (BY mm L) b j) = some (.inl (nI (j + 1), dv (BY mm L) b (j + 1))) := by
      unfold t_X5_readNumber_45
      rw [if_neg (show ¬ (4 : Int32) < nI j from nI_nlt (a := 4) (by omega) (by decide)), nI_add, byteAt_eq hL h7 hT (by omega), bind_s, fig_eq, bind_s, if_bb, if_pos hf, bind_s]
      show some (Sum.inl (nI j + 1, dv (BY mm L) b j * 10 + BY mm L (b + j) - 48)) = _
      rw [nI_s1, Int32.mul_comm]
      rfl
    unfold l_X5_readNumber_45
    rw [zlp_on e]
theorem figs_x_end {mx mm : Mem} {L b j n : Nat} {v : Int32} (hL : L ≤ 400) (h7 : mx 7 1 = nI L) (hT : TPE mx mm) (hb : b ≤ 900) (hj : j ≤ 5) (h : j = 5 ∨ ¬ fg (BY mm L (b + j))) : l_X5_readNumber_45 mx (nI b) (n + 1) (nI j) v = some (nI j, v) := by
  unfold l_X5_readNumber_45
  refine zlp_off ?_
  unfold t_X5_readNumber_45
  by_cases e : j = 5
  · subst e
    rw [if_pos (show (4 : Int32) < nI 5 by decide)]
  · rw [if_neg (show ¬ (4 : Int32) < nI j from nI_nlt (a := 4) (by omega) (by decide)), nI_add, byteAt_eq hL h7 hT (by omega), bind_s, fig_eq, bind_s, if_bb, if_neg (h.resolve_left e)]
theorem figs_m {mm : Mem} {L b : Nat} {x : Int32} (hL : L ≤ 400) (hx : x = nI b) (hb : b ≤ 900) : ∀ (j n : Nat) (m : Mem), j ≤ 4 → (∀ i, i < j → fg (BY mm L (b + i))) → m 0 37 = nI L → m 33 = mm 33 → m 0 38 = nI b → m 0 41 = 0 → ∃ m2, l_X7_next_147 x (n + j) m = l_X7_next_147 x n m2 ∧ (∀ c, c ≠ 0 → m2 c = m c) ∧ (∀ i, i ≠ 38 → i ≠ 41 → m2 0 i = m 0 i) ∧ m2 0 38 = nI (b + j) ∧ m2 0 41 = dv (BY mm L) b j := by
  intro j
  induction j with
  | zero => intro n m _ _ _ _ h38 h41; exact ⟨m, rfl, fun _ _ => rfl, fun _ _ _ => rfl, h38, h41⟩
  | succ j ih =>
    intro n m hj h h37 h33 h38 h41
    obtain ⟨m2, e, c2, j2, a2, v2⟩ := ih (n + 1) m (by omega) (fun i hi => h i (by omega)) h37 h33 h38 h41
    have hf := h j (by omega)
    have es : t_X7_next_147 x m2 = some (.inl (sto (sto m2 0 41 (dv (BY mm L) b (j + 1))) 0 38 (nI (b + (j + 1))))) := by
      unfold t_X7_next_147
      rw [a2, look_by hL (by rw [j2 37 (by decide) (by decide)]; exact h37) (by omega), BY_c (show m2 33 = mm 33 from (c2 33 (by decide)).trans h33), bind_s, in_48, bind_s, if_bb, if_pos hf, hx, pk_sub (by omega), show b + j - b = j by omega, if_neg (show ¬ (4 : Int32) ≤ nI j from nI_ge (b := 4) (by omega) (by decide)), bind_s, v2]
      show some (Sum.inl (sto (sto m2 0 41 (dv (BY mm L) b (j + 1))) 0 38 ((sto m2 0 41 (dv (BY mm L) b (j + 1))) 0 38 + 1))) = _
      rw [rd_j (by decide), a2, nI_s1]
      rfl
    refine ⟨sto (sto m2 0 41 (dv (BY mm L) b (j + 1))) 0 38 (nI (b + (j + 1))), ?_, fun c hc => by rw [rd_o hc, rd_o hc]; exact c2 c hc, fun i hi hi2 => by rw [rd_j hi, rd_j hi2]; exact j2 i hi hi2, rd_s, by rw [rd_j (by decide), rd_s]⟩
    rw [show n + (j + 1) = (n + 1) + j by omega, e]
    unfold l_X7_next_147
    rw [zlp_on es]
theorem figs_m_end {mm m : Mem} {L p n : Nat} {x : Int32} (hL : L ≤ 400) (hp : p ≤ 1000) (h37 : m 0 37 = nI L) (h33 : m 33 = mm 33) (h38 : m 0 38 = nI p) (h : ¬ fg (BY mm L p)) : l_X7_next_147 x (n + 1) m = some m := by
  unfold l_X7_next_147
  refine zlp_off ?_
  unfold t_X7_next_147
  rw [h38, look_by hL h37 hp, BY_c h33, bind_s, in_48, bind_s, if_bb, if_neg h]
theorem figs_n (f : Nat → Int32) (b : Nat) : ∀ K, ∃ j, j ≤ K ∧ (∀ i, i < j → fg (f (b + i))) ∧ (j = K ∨ ¬ fg (f (b + j))) := by
  intro K
  induction K with
  | zero => exact ⟨0, Nat.le_refl _, fun i hi => absurd hi (Nat.not_lt_zero _), Or.inl rfl⟩
  | succ K ih =>
    obtain ⟨j, h1, h2, h3⟩ := ih
    by_cases e : j = K
    · by_cases g : fg (f (b + j))
      · refine ⟨j + 1, by omega, fun i hi => ?_, Or.inl (by omega)⟩
        by_cases e2 : i = j
        · rw [e2]; exact g
        · exact h2 i (by omega)
      · exact ⟨j, by omega, h2, Or.inr g⟩
    · exact ⟨j, by omega, h2, Or.inr (h3.resolve_left e)⟩
