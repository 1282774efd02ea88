/-! the sets of nodes as numbers, and how many -/
def sb (f : Nat → Bool) : Nat → Nat
  | 0 => 0
  | j + 1 => sb f j + (if f j = true then 2 ^ j else 0)
def cn (f : Nat → Bool) : Nat → Nat
  | 0 => 0
  | j + 1 => cn f j + (if f j = true then 1 else 0)
def cs (F : Nat → Nat → Bool) (k : Nat) : Nat → Nat
  | 0 => 0
  | s + 1 => cs F k s + cn (F s) k
def pcb (w : Nat) : Nat → Nat
  | 0 => 0
  | j + 1 => pcb w j + (if w.testBit j = true then 1 else 0)
theorem cn_1 {f : Nat → Bool} {j : Nat} (h : f j = true) : cn f (j + 1) = cn f j + 1 := by
  show cn f j + (if f j = true then 1 else 0) = _
  rw [if_pos h]
theorem cn_0 {f : Nat → Bool} {j : Nat} (h : f j = false) : cn f (j + 1) = cn f j := by
  show cn f j + (if f j = true then 1 else 0) = _
  rw [h]
  rfl
theorem sb_1 {f : Nat → Bool} {j : Nat} (h : f j = true) : sb f (j + 1) = sb f j + 2 ^ j := by
  show sb f j + (if f j = true then 2 ^ j else 0) = _
  rw [if_pos h]
theorem sb_0 {f : Nat → Bool} {j : Nat} (h : f j = false) : sb f (j + 1) = sb f j := by
  show sb f j + (if f j = true then 2 ^ j else 0) = _
  rw [h]
  rfl
theorem sb_lt {f : Nat → Bool} : ∀ j, sb f j < 2 ^ j
  | 0 => by
    show 0 < 2 ^ 0
    decide
  | j + 1 => by
    have := sb_lt (f := f) j
    have e : 2 ^ (j + 1) = 2 ^ j * 2 := Nat.pow_succ _ _
    cases h : f j with
    | true => rw [sb_1 h, e]; omega
    | false => rw [sb_0 h, e]; omega
theorem tb_up : ∀ j, j < 10 → ∀ w, w < 2 ^ j → ∀ i, i < 32 → (w + 2 ^ j).testBit i = (w.testBit i || decide (i = j)) := by decide +kernel
theorem sb_tb {f : Nat → Bool} : ∀ j, j ≤ 10 → ∀ i, i < 32 → (sb f j).testBit i = (decide (i < j) && f i)
  | 0, _, i, _ => by
    rw [decide_eq_false (Nat.not_lt_zero i), show sb f 0 = 0 from rfl, Nat.zero_testBit]
    rfl
  | j + 1, h, i, hi => by
    have ih := sb_tb (f := f) j (by omega) i hi
    have l := sb_lt (f := f) j
    by_cases e : i = j
    · rw [decide_eq_true (show i < j + 1 by omega)]
      cases q : f j with
      | true =>
        rw [sb_1 q, tb_up j (by omega) _ l i hi, decide_eq_true e, Bool.or_true, e, q]
        rfl
      | false =>
        rw [sb_0 q, ih, decide_eq_false (show ¬ i < j by omega), e, q]
        rfl
    · have hh : (sb f (j + 1)).testBit i = (sb f j).testBit i := by
        cases q : f j with
        | true => rw [sb_1 q, tb_up j (by omega) _ l i hi, decide_eq_false e, Bool.or_false]
        | false => rw [sb_0 q]
      rw [hh, ih]
      by_cases e2 : i < j
      · rw [decide_eq_true e2, decide_eq_true (show i < j + 1 by omega)]
      · rw [decide_eq_false e2, decide_eq_false (show ¬ i < j + 1 by omega)]
theorem bt_10 : ∀ w, w < 1024 → ∀ i, i < 32 → bt (nI w) i = w.testBit i := by decide +kernel
theorem bc_10 : ∀ w, w < 1024 → s_J6_bitCount_0f7a4 (nI w) = some (nI (pcb w 10)) := by decide +kernel
theorem sh_u : ∀ j, j < 10 → (1 : Int32) <<< (nI j &&& 31) = nI (2 ^ j) := by decide +kernel
theorem sb_10 {f : Nat → Bool} {k : Nat} (hk : k ≤ 10) : sb f k < 1024 := Nat.lt_of_lt_of_le (sb_lt k) (Nat.pow_le_pow_right (by decide) hk : 2 ^ k ≤ 2 ^ 10)
theorem pcb_sb {f : Nat → Bool} {k : Nat} (hk : k ≤ 10) : ∀ j, j ≤ 10 → pcb (sb f k) j = cn f (min j k)
  | 0, _ => by
    rw [Nat.zero_min]
    rfl
  | j + 1, h => by
    have ih := pcb_sb (f := f) hk j (by omega)
    show pcb (sb f k) j + (if (sb f k).testBit j = true then 1 else 0) = _
    rw [ih, sb_tb k hk j (by omega)]
    by_cases e : j < k
    · rw [decide_eq_true e, Bool.true_and, show min j k = j by omega, show min (j + 1) k = j + 1 by omega]
      rfl
    · rw [decide_eq_false e, Bool.false_and, show min j k = k by omega, show min (j + 1) k = k by omega]
      rfl
theorem bc_sb {f : Nat → Bool} {k : Nat} (hk : k ≤ 10) : s_J6_bitCount_0f7a4 (nI (sb f k)) = some (nI (cn f k)) := by
  rw [bc_10 _ (sb_10 hk), pcb_sb hk 10 (Nat.le_refl _), show min 10 k = k by omega]
theorem row_sb {v : Int32} {f : Nat → Bool} {k : Nat} (hk : k ≤ 10) (h : ∀ i, i < k → bt v i = f i) (h2 : ∀ i, k ≤ i → i < 32 → bt v i = false) : v = nI (sb f k) := by
  apply b_ext
  intro i hi
  rw [bt_10 _ (sb_10 hk) i hi, sb_tb k hk i hi]
  by_cases e : i < k
  · rw [decide_eq_true e, Bool.true_and, h i e]
  · rw [decide_eq_false e, Bool.false_and, h2 i (by omega) hi]
theorem all_loop {m4 : Mem} {u k : Nat} (hk : k ≤ 10) (hu : u < 6) (h0 : m4 0 0 = nI k) : l_X7_all_18 (nI u) m4 FU 0 0 = some (nI (sb (fun i => decide (¬ m4 37 (10 * u + i) = 0)) k)) := by
  have E : ∃ r, l_X7_all_18 (nI u) m4 FU 0 0 = some r ∧ r = nI (sb (fun i => decide (¬ m4 37 (10 * u + i) = 0)) k) := by
    unfold l_X7_all_18
    refine forG k (fun j (a : Int32 × Int32) => a.1 = nI (sb (fun i => decide (¬ m4 37 (10 * u + i) = 0)) j) ∧ a.2 = nI j) _ (fun j a hj ha => ?_) (fun a ha => ?_) FU 0 (0, 0) (Nat.zero_le _) ⟨rfl, rfl⟩ (FU_lt (by omega))
    · unfold t_X7_all_18
      rw [ha.1, ha.2, h0, p10, ix_nI (n := 10 * u + j) (by omega), sh_u j (by omega)]
      refine st_if (fun z => absurd z (nI_ge hj (by omega))) (fun _ => st_ck (zin_nI (by omega) (by decide)) (st_if (fun w => st_n (st_n (st_l ⟨?_, nI_s1⟩))) (fun w => st_n (st_n (st_l ⟨?_, nI_s1⟩)))))
      · dsimp only
        rw [sb_0 (f := fun i => decide (¬ m4 37 (10 * u + i) = 0)) (j := j) (decide_eq_false (not_not_intro w)), show (0 : Int32) = nI 0 from rfl, nI_add]
        rfl
      · dsimp only
        rw [sb_1 (f := fun i => decide (¬ m4 37 (10 * u + i) = 0)) (j := j) (decide_eq_true w), nI_add]
    · unfold t_X7_all_18
      rw [ha.2, h0]
      exact ⟨_, if_pos (nI_le (Nat.le_refl _) (by omega)), ha.1⟩
  obtain ⟨r, h1, h2⟩ := E
  rw [h1, h2]
theorem pairs_eq {m : Mem} {b c k t : Nat} {F : Nat → Nat → Bool} (hb : isb b) (h4 : m 0 4 = nI b) (ec : m b 0 = nI c) (hc : c ≤ 6) (hk : k ≤ 10) (hv : ∀ s, s < c → m t s = nI (sb (F s) k)) : s_X6_pairsIn m t = some (nI (cs F k c)) := by
  have E : ∃ r, s_X6_pairsIn m t = some r ∧ r = nI (cs F k c) := by
    unfold s_X6_pairsIn l_X6_pairsIn_4
    refine ex_b (Q := fun r => r = nI (cs F k c)) ?_ (fun y hy => ex_s hy)
    refine forG c (fun j (a : Int32 × Int32) => a.1 = nI (cs F k j) ∧ a.2 = nI j) _ (fun j a hj ha => ?_) (fun a ha => ?_) FU 0 (0, 0) (Nat.zero_le _) ⟨rfl, rfl⟩ (FU_lt (by omega))
    · unfold t_X6_pairsIn_4
      rw [ha.1, ha.2]
      refine st_k hb h4 ?_
      rw [ec, ix_nI (n := j) (by omega), hv j hj, bc_sb hk]
      refine st_if (fun z => absurd z (nI_ge hj (by omega))) (fun _ => st_if (fun z => absurd z (nI_ge (b := 6) (by omega) (by decide))) (fun _ => st_ck (zin_nI (by omega) (by decide)) (st_b (Q := fun r => r = nI (cn (F j) k)) ⟨_, rfl, rfl⟩ (fun r6 hr => st_n (st_n (st_l ⟨?_, nI_s1⟩))))))
      dsimp only
      rw [hr, nI_add]
      rfl
    · unfold t_X6_pairsIn_4
      rw [ha.2, zbk_i hb h4, ec]
      exact ⟨_, if_pos (nI_le (Nat.le_refl _) (by omega)), ha.1⟩
  obtain ⟨r, h1, h2⟩ := E
  rw [h1, h2]
def bF (m : Mem) (q : Nat) : Nat → Nat → Bool := fun s n => decide (¬ m q (10 * s + n) = 0)
theorem bF_1 {m : Mem} {q s n : Nat} (h : ¬ m q (10 * s + n) = 0) : bF m q s n = true := decide_eq_true h
theorem bF_0 {m : Mem} {q s n : Nat} (h : m q (10 * s + n) = 0) : bF m q s n = false := decide_eq_false (not_not_intro h)
theorem count_in {m2 : Mem} {k s A B : Nat} (hk : k ≤ 10) (hs : s < 6) (h0 : m2 0 0 = nI k) : l_X7_count_23 m2 (nI s) FU (nI A) (nI B) 0 = some (nI (A + cn (bF m2 37 s) k), nI (B + cn (bF m2 38 s) k)) := by
  have E : ∃ r, l_X7_count_23 m2 (nI s) FU (nI A) (nI B) 0 = some r ∧ r = (nI (A + cn (bF m2 37 s) k), nI (B + cn (bF m2 38 s) k)) := by
    unfold l_X7_count_23
    refine forG k (fun n (a : Int32 × Int32 × Int32) => a.1 = nI (A + cn (bF m2 37 s) n) ∧ a.2.1 = nI (B + cn (bF m2 38 s) n) ∧ a.2.2 = nI n) _ (fun n a hn ha => ?_) (fun a ha => ?_) FU 0 (nI A, nI B, 0) (Nat.zero_le _) ⟨rfl, rfl, rfl⟩ (FU_lt (by omega))
    · obtain ⟨e1, e2, e3⟩ := ha
      unfold t_X7_count_23
      rw [e1, e2, e3, h0, p10, ix_nI (n := 10 * s + n) (by omega)]
      have z60 : zin (nI (10 * s + n)) 60 = true := zin_nI (by omega) (by decide)
      refine st_if (fun z => absurd z (nI_ge hn (by omega))) (fun _ => st_ck z60 (st_b (Q := fun y => nI (A + cn (bF m2 37 s) n) + y = nI (A + cn (bF m2 37 s) (n + 1))) (ex_if (fun w => ex_s ?_) (fun w => ex_s ?_)) (fun y10 hy => st_n (st_ck z60 (st_if (fun w => st_n (st_n (st_l ⟨hy, ?_, nI_s1⟩))) (fun w => st_n (st_n (st_l ⟨hy, ?_, nI_s1⟩))))))))
      · rw [cn_0 (bF_0 w), show (0 : Int32) = nI 0 from rfl, nI_add]
        rfl
      · rw [cn_1 (bF_1 w), show (1 : Int32) = nI 1 from rfl, nI_add]
        rfl
      · show nI (B + cn (bF m2 38 s) n) + 0 = nI (B + cn (bF m2 38 s) (n + 1))
        rw [cn_0 (bF_0 w), show (0 : Int32) = nI 0 from rfl, nI_add]
        rfl
      · show nI (B + cn (bF m2 38 s) n) + 1 = nI (B + cn (bF m2 38 s) (n + 1))
        rw [cn_1 (bF_1 w), show (1 : Int32) = nI 1 from rfl, nI_add]
        rfl
    · obtain ⟨e1, e2, e3⟩ := ha
      unfold t_X7_count_23
      rw [e3, h0]
      exact ⟨_, if_pos (nI_le (Nat.le_refl _) (by omega)), by rw [e1, e2]⟩
  obtain ⟨r, h1, h2⟩ := E
  rw [h1, h2]
theorem count_out {m2 : Mem} {k c : Nat} (hk : k ≤ 10) (hc : c ≤ 6) (h0 : m2 0 0 = nI k) (h7 : m2 0 7 = nI c) : l_X7_count_11 m2 FU 0 0 0 = some (nI (cs (bF m2 37) k c), nI (cs (bF m2 38) k c)) := by
  have E : ∃ r, l_X7_count_11 m2 FU 0 0 0 = some r ∧ r = (nI (cs (bF m2 37) k c), nI (cs (bF m2 38) k c)) := by
    unfold l_X7_count_11
    refine forG c (fun s (a : Int32 × Int32 × Int32) => a.1 = nI (cs (bF m2 37) k s) ∧ a.2.1 = nI (cs (bF m2 38) k s) ∧ a.2.2 = nI s) _ (fun s a hs ha => ?_) (fun a ha => ?_) FU 0 (0, 0, 0) (Nat.zero_le _) ⟨rfl, rfl, rfl⟩ (FU_lt (by omega))
    · obtain ⟨e1, e2, e3⟩ := ha
      unfold t_X7_count_11
      rw [e1, e2, e3, h7, count_in hk (by omega) h0]
      exact st_if (fun z => absurd z (nI_ge hs (by omega))) (fun _ => st_2 (Q := fun q => q = (nI (cs (bF m2 37) k s + cn (bF m2 37 s) k), nI (cs (bF m2 38) k s + cn (bF m2 38 s) k))) ⟨_, rfl, rfl⟩ (fun y20 y21 hq => st_n (st_l ⟨(Prod.mk.inj hq).1, (Prod.mk.inj hq).2, nI_s1⟩)))
    · obtain ⟨e1, e2, e3⟩ := ha
      unfold t_X7_count_11
      rw [e3, h7]
      exact ⟨_, if_pos (nI_le (Nat.le_refl _) (by omega)), by rw [e1, e2]⟩
  obtain ⟨r, h1, h2⟩ := E
  rw [h1, h2]
