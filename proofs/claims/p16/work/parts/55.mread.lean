/-! the reference's readings -/
theorem tkV_r {m m2 : Mem} {p j : Nat} (e : ∀ a, a ≠ 37 → a ≠ 38 → a ≠ 40 → m2 a = m a) (e37 : (m 10 p = 1 ∨ m 10 p = 2) → m2 37 (10 * ix (m 11 p) + ix (m 5 j)) = m 37 (10 * ix (m 11 p) + ix (m 5 j))) : tkV m2 p j 0 = tkV m p j 0 := by
  unfold tkV
  rw [e 4 (by decide) (by decide) (by decide), e 9 (by decide) (by decide) (by decide), e 10 (by decide) (by decide) (by decide), e 11 (by decide) (by decide) (by decide), e 5 (by decide) (by decide) (by decide), e 1 (by decide) (by decide) (by decide), e 2 (by decide) (by decide) (by decide), e 12 (by decide) (by decide) (by decide)]
  by_cases c1 : m 10 p = 1
  · simp only [if_pos c1, if_true, e37 (Or.inl c1)]
  · by_cases c2 : m 10 p = 2
    · simp only [if_neg c1, if_pos c2, e37 (Or.inr c2)]
    · simp only [if_neg c1, if_neg c2]
theorem lfV_r {m m2 : Mem} {p n : Nat} {y : Int32} (e : ∀ a, a ≠ 37 → a ≠ 38 → a ≠ 40 → m2 a = m a) : ∀ d, (∀ i, i < d → (m 10 p = 1 ∨ m 10 p = 2) → m2 37 (10 * ix (m 11 p) + ix (m 5 (n * 5 + i))) = m 37 (10 * ix (m 11 p) + ix (m 5 (n * 5 + i)))) → lfV m2 p n 0 y d = lfV m p n 0 y d
  | 0, _ => rfl
  | d + 1, h => by
    unfold lfV
    rw [lfV_r e d (fun i hi => h i (by omega)), tkV_r e (h d (by omega)), e 39 (by decide) (by decide) (by decide)]
/-- what shape s leans on stands as it stood -/
def sam (m m2 : Mem) (c : Nat) (P : Nat → Nat) (s : Nat) : Prop := ∀ t w, t < c → Ed m P s t w → ∀ x, x < 10 → m2 37 (10 * t + x) = m 37 (10 * t + x)
theorem drun_r {m m2 : Mem} {c s n d z : Nat} {P Z : Nat → Nat} (hS : SH m c P Z) (hs : s < c) (hz : z ≤ Z s) (hE : EG m n d) (e : ∀ a, a ≠ 37 → a ≠ 38 → a ≠ 40 → m2 a = m a) (hm : sam m m2 c P s) : ∀ k, k ≤ z → ∀ a, drun m2 s n 0 d k a = drun m s n 0 d k a
  | 0, _, a => rfl
  | k + 1, hk, a => by
    have hc6 := hS.2.1
    obtain ⟨⟨hP6, -, hR⟩, -, -, hK⟩ := hS.2.2 s hs
    unfold drun
    have h1 : dstep m2 s n 0 d k a = dstep m s n 0 d k a := by
      unfold dstep
      rw [e 14 (by decide) (by decide) (by decide), e 15 (by decide) (by decide) (by decide), e 16 (by decide) (by decide) (by decide), e 17 (by decide) (by decide) (by decide), e 18 (by decide) (by decide) (by decide)]
      by_cases c2 : m 14 (160 * s + k) = 2
      · rw [if_pos c2, if_pos c2]
        have hl : ∀ y, lfx m2 n 0 d (m 18 (160 * s + k)) y = lfx m n 0 d (m 18 (160 * s + k)) y := fun y => by
          unfold lfx
          rcases hK k (by omega) with ⟨e1, -⟩ | ⟨e1, -⟩ | ⟨-, -, h18 | ⟨i, hi, h18⟩, -⟩
          · rw [e1] at c2; exact absurd c2 (by decide)
          · rw [e1] at c2; exact absurd c2 (by decide)
          · rw [if_pos h18, if_pos h18]
          · rw [h18, if_neg (nn4 (by omega)), if_neg (nn4 (by omega)), ix_n (by omega)]
            refine lfV_r e d (fun j hj hr => ?_)
            obtain ⟨t, ht, et⟩ := hR i hi hr
            obtain ⟨x, hx, ex⟩ := hE.2.2.2 j hj
            rw [et, ex, ix_n (by omega), ix_n (by omega)]
            rcases hr with hr | hr
            · exact hm t 0 ht ⟨i, hi, et, Or.inl ⟨hr, rfl⟩⟩ x hx
            · exact hm t 1 ht ⟨i, hi, et, Or.inr ⟨hr, rfl⟩⟩ x hx
        rw [hl]
      · rw [if_neg c2, if_neg c2]
    rw [h1]
    exact drun_r hS hs hz hE e hm k (by omega) _
theorem WS_r {m m2 : Mem} (e : ∀ a, a ≠ 37 → a ≠ 38 → a ≠ 39 → a ≠ 40 → m2 a = m a) {s n : Nat} : WS m2 s n = WS m s n := by
  unfold WS s_X7_wantedSet l_X7_wantedSet_5
  have h : ∀ a b c d, t_X7_wantedSet_5 m2 a b c d = t_X7_wantedSet_5 m a b c d := fun a b c d => by
    unfold t_X7_wantedSet_5 s_X7_isWanted l_X7_isWanted_5
    have h2 : ∀ a b c d, t_X7_isWanted_5 m2 a b c d = t_X7_isWanted_5 m a b c d := fun a b c d => by
      unfold t_X7_isWanted_5
      rw [e 8 (by decide) (by decide) (by decide) (by decide), e 9 (by decide) (by decide) (by decide) (by decide)]
    simp only [h2, e 3 (by decide) (by decide) (by decide) (by decide), e 4 (by decide) (by decide) (by decide) (by decide)]
  simp only [h]
theorem canP_r {m m2 : Mem} {c s n d : Nat} {P Z : Nat → Nat} (hS : SH m c P Z) (hs : s < c) (hE : EG m n d) (e : ∀ a, a ≠ 37 → a ≠ 38 → a ≠ 40 → m2 a = m a) (hm : sam m m2 c P s) : canP m2 s n d (Z s) 0 ↔ canP m s n d (Z s) 0 := by
  unfold canP DV
  have ed : din m2 s = din m s := by funext j; unfold din; rw [e 14 (by decide) (by decide) (by decide)]
  rw [e 7 (by decide) (by decide) (by decide), WS_r (fun a a1 a2 _ a4 => e a a1 a2 a4), drun_r hS hs (Nat.le_refl _) hE e hm (Z s) (Nat.le_refl _), ed]
def cnt (f : Nat → Int32) : Nat → Nat
  | 0 => 0
  | j + 1 => cnt f j + if f j = 0 then 0 else 1
theorem cnt_le {f : Nat → Int32} : ∀ j, cnt f j ≤ j
  | 0 => Nat.le_refl _
  | j + 1 => by
    have := cnt_le (f := f) j
    unfold cnt
    by_cases c : f j = 0
    · rw [if_pos c]; omega
    · rw [if_neg c]; omega
theorem cnt_up {f : Nat → Int32} {j : Nat} {x : Int32} : ∀ k, k ≤ j → cnt (upd f j x) k = cnt f k
  | 0, _ => rfl
  | k + 1, h => by
    unfold cnt
    rw [cnt_up k (by omega), pk_un (by omega)]
theorem cnt_lt {f : Nat → Int32} {j : Nat} (hj : ¬ f j = 0) : ∀ k, j < k → cnt (upd f j 0) k < cnt f k
  | 0, h => absurd h (Nat.not_lt_zero _)
  | k + 1, h => by
    unfold cnt
    by_cases e : j = k
    · subst e
      rw [cnt_up j (Nat.le_refl _), pk_us, if_pos rfl, if_neg hj]
      omega
    · have := cnt_lt hj k (by omega)
      rw [pk_un (fun z => e z.symm)]
      omega
theorem cnt_gt {f : Nat → Int32} {j : Nat} (hj : f j = 0) : ∀ k, j < k → cnt f k < cnt (upd f j 1) k
  | 0, h => absurd h (Nat.not_lt_zero _)
  | k + 1, h => by
    unfold cnt
    by_cases e : j = k
    · subst e
      rw [cnt_up j (Nat.le_refl _), pk_us, if_pos hj, if_neg (by decide)]
      omega
    · have := cnt_gt hj k (by omega)
      rw [pk_un (fun z => e z.symm)]
      omega
def RM (m0 m : Mem) : Prop := (∀ a, a ≠ 37 → a ≠ 38 → a ≠ 40 → m a = m0 a) ∧ BL m
/-- what stands still while it is read -/
def RX (m0 : Mem) (c k : Nat) (P Z d rk : Nat → Nat) : Prop := SH m0 c P Z ∧ k ≤ 10 ∧ m0 0 0 = nI k ∧ (∀ n, n < k → EG m0 n (d n)) ∧ (∀ s, s < c → m0 41 s = nI (rk s) ∧ rk s ≤ 6) ∧ ∀ s t w, s < c → t < c → Ed m0 P s t w → rk t + w ≤ rk s
theorem RM_SH {m0 m : Mem} {c k : Nat} {P Z d rk : Nat → Nat} (hX : RX m0 c k P Z d rk) (h : RM m0 m) : SH m c P Z := SH_c (fun a a1 a2 => h.1 a (by omega) (by omega) (by omega)) (by rw [h.1 0 (by decide) (by decide) (by decide)]) hX.1
theorem RM_EG {m0 m : Mem} {c k : Nat} {P Z d rk : Nat → Nat} (hX : RX m0 c k P Z d rk) (h : RM m0 m) {n : Nat} (hn : n < k) : EG m n (d n) := by
  have := hX.2.2.2.1 n hn
  unfold EG at *
  rw [h.1 3 (by decide) (by decide) (by decide), h.1 5 (by decide) (by decide) (by decide)]
  exact this
theorem BL_set {m : Mem} {a j : Nat} {x : Int32} (h : BL m) (hx : x = 0 ∨ x = 1) : BL (sto m a j x) := by
  intro i hi
  obtain ⟨h1, h2⟩ := h i hi
  by_cases c37 : a = 37
  · subst c37
    rw [rd_o (a2 := 38) (by decide)]
    refine ⟨?_, h2⟩
    by_cases e : i = j
    · subst e; rw [rd_s]; exact hx
    · rw [rd_j e]; exact h1
  · rw [rd_o (a2 := 37) (fun z => c37 z.symm)]
    refine ⟨h1, ?_⟩
    by_cases c38 : a = 38
    · subst c38
      by_cases e : i = j
      · subst e; rw [rd_s]; exact hx
      · rw [rd_j e]; exact h2
    · rw [rd_o (a2 := 38) (fun z => c38 z.symm)]; exact h2
theorem sto_self {m : Mem} {a j : Nat} : sto m a j (m a j) = m := by
  funext c
  by_cases e : c = a
  · subst e
    rw [sto_same]
    funext i
    rw [upd_if]
    by_cases e2 : i = j
    · rw [if_pos e2, e2]
    · rw [if_neg e2]
  · rw [rd_o e]
/-- one going over all of a rank, the greatest reading -/
def C0 (m0 m : Mem) (c r : Nat) (rk : Nat → Nat) (y : Int32) (a : Mem) : Prop := RM m0 a ∧ (y = 0 ∨ y = 1) ∧ (y = 0 → ∀ b, b ≠ 40 → a b = m b) ∧ (¬ y = 0 → cnt (a 37) 60 < cnt (m 37) 60) ∧ ∀ j, a 37 j ≠ m 37 j → ∃ s x, s < c ∧ rk s = r ∧ x < 10 ∧ j = 10 * s + x
theorem changes0 {m0 m : Mem} {c k r : Nat} {P Z d rk : Nat → Nat} (hX : RX m0 c k P Z d rk) (hM : RM m0 m) (hr : r ≤ 6) : ∃ q, s_X7_changes m (nI r) 0 = some q ∧ C0 m0 m c r rk q.1 q.2 ∧ (q.1 = 0 → ∀ s n, s < c → n < k → rk s = r → ¬ m 37 (10 * s + n) = 0 → canP m s n (d n) (Z s) 0) := by
  have hc6 := hX.1.2.1
  have hk10 := hX.2.1
  unfold s_X7_changes
  refine ex_2 (Q := fun (q : Int32 × Mem) => C0 m0 m c r rk q.1 q.2 ∧ (q.1 = 0 → ∀ s n, s < c → n < k → rk s = r → ¬ m 37 (10 * s + n) = 0 → canP m s n (d n) (Z s) 0)) ?_ (fun y56 m57 h => ex_ck h.1.2.1 (ex_s h))
  unfold l_X7_changes_5
  refine forG c (fun s (a : Int32 × Int32 × Mem) => a.2.1 = nI s ∧ C0 m0 m c r rk a.1 a.2.2 ∧ (a.1 = 0 → ∀ t n, t < s → n < k → rk t = r → ¬ m 37 (10 * t + n) = 0 → canP m t n (d n) (Z t) 0)) _ (fun s a hs ha => ?_) (fun a ha => ?_) FU 0 (0, 0, m) (Nat.zero_le _) ⟨rfl, ⟨hM, Or.inl rfl, fun _ _ _ => rfl, fun z => absurd rfl z, fun j z => absurd rfl z⟩, fun _ t n ht => absurd ht (Nat.not_lt_zero t)⟩ (FU_lt (by omega))
  · obtain ⟨e1, hC, hp⟩ := ha
    unfold t_X7_changes_5
    rw [e1, (RM_SH hX hC.1).1]
    refine st_if (fun z => absurd z (nI_ge hs (by omega))) (fun _ => st_2 (Q := fun (q : Int32 × Mem) => C0 m0 m c r rk q.1 q.2 ∧ (q.1 = 0 → ∀ t n, t < s + 1 → n < k → rk t = r → ¬ m 37 (10 * t + n) = 0 → canP m t n (d n) (Z t) 0)) ?_ (fun y52 m53 h => st_n (st_l ⟨nI_s1, h⟩)))
    unfold l_X7_changes_17
    have zs : zin (nI s) 6 = true := zin_nI (by omega) (by decide)
    refine forG k (fun n (a : Int32 × Int32 × Mem) => a.2.1 = nI n ∧ C0 m0 m c r rk a.1 a.2.2 ∧ (a.1 = 0 → ∀ t x, (t < s ∧ x < k) ∨ (t = s ∧ x < n) → rk t = r → ¬ m 37 (10 * t + x) = 0 → canP m t x (d x) (Z t) 0)) _ (fun n a hn ha => ?_) (fun a ha => ?_) FU 0 (a.1, 0, a.2.2) (Nat.zero_le _) ⟨rfl, hC, fun hy t x ht => by rcases ht with ⟨h1, h2⟩ | ⟨h1, h2⟩; exact hp hy t x h1 h2; exact absurd h2 (Nat.not_lt_zero x)⟩ (FU_lt (by omega))
    · obtain ⟨e2, hC2, hp2⟩ := ha
      obtain ⟨hM2, hy2, hu2, hl2, hj2⟩ := id hC2
      unfold t_X7_changes_17
      rw [e2, hM2.1 0 (by decide) (by decide) (by decide), hX.2.2.1, hM2.1 41 (by decide) (by decide) (by decide), ix_nI (n := s) (by omega), (hX.2.2.2.2.1 s hs).1, p10]
      have z60 : zin (nI (10 * s + n)) 60 = true := zin_nI (by omega) (by decide)
      have hr6 := (hX.2.2.2.2.1 s hs).2
      refine st_if (fun z => absurd z (nI_ge hn (by omega))) (fun _ => st_ck zs (st_if (fun hrk => st_n (st_if (fun _ => st_ck z60 ?_) (fun z => absurd rfl z))) (fun hrk => ?_)))
      · have hrk : rk s = r := (nI_eq (by omega) (by omega)).mp hrk
        rw [ix_nI (n := 10 * s + n) (by omega)]
        refine st_if (fun h0 => st_n (st_l ⟨nI_s1, hC2, fun hy t x ht hrt hne => ?_⟩)) (fun h0 => ?_)
        · rcases ht with ht | ⟨h1, h2⟩
          · exact hp2 hy t x (Or.inl ht) hrt hne
          · by_cases e : x = n
            · subst e; subst h1
              rw [hu2 hy 37 (by decide)] at h0
              exact absurd h0 hne
            · exact hp2 hy t x (Or.inr ⟨h1, by omega⟩) hrt hne
        · refine st_2 (can_eq (sv := 0) (RM_SH hX hM2) hs (RM_EG hX hM2 hn) hM2.2) (fun r12 m13 hq => ?_)
          obtain ⟨q1, q2, q3⟩ := hq
          dsimp only at q1 q2 q3
          have hM3 : RM m0 m13 := ⟨fun b b1 b2 b3 => by rw [q3 b b3]; exact hM2.1 b b1 b2 b3, BL_c q3 hM2.2⟩
          refine st_if (fun hz => st_if (fun _ => st_ck z60 (st_n (st_ck z60 (st_n (st_n (st_l ⟨nI_s1, ⟨?_, Or.inr rfl, fun z => absurd z (show ¬ (1 : Int32) = 0 from by decide), fun _ => ?_, fun j hj => ?_⟩, fun z => absurd z (show ¬ (1 : Int32) = 0 from by decide)⟩)))))) (fun z => absurd rfl z)) (fun hz => st_n (st_l ⟨nI_s1, ⟨hM3, hy2, fun hy b b4 => by dsimp only; rw [q3 b b4]; exact hu2 hy b b4, fun hy => by dsimp only; rw [q3 37 (by decide)]; exact hl2 hy, fun j hj => hj2 j (by dsimp only at hj; rw [q3 37 (by decide)] at hj; exact hj)⟩, fun hy t x ht hrt hne => ?_⟩))
          · dsimp only
            refine ⟨fun b b1 b2 b3 => by rw [rd_o b2, rd_o b1]; exact hM3.1 b b1 b2 b3, BL_set (BL_set hM3.2 (by decide)) (by decide)⟩
          · dsimp only
            rw [rd_o (by decide), sto_same, q3 37 (by decide)]
            have h1 := cnt_lt (f := a.2.2 37) (j := 10 * s + n) h0 60 (by omega)
            have h2 : cnt (a.2.2 37) 60 ≤ cnt (m 37) 60 := by
              by_cases hy : a.1 = 0
              · rw [hu2 hy 37 (by decide)]; exact Nat.le_refl _
              · exact Nat.le_of_lt (hl2 hy)
            exact Nat.lt_of_lt_of_le h1 h2
          · dsimp only at hj
            rw [rd_o (by decide), sto_same, q3 37 (by decide)] at hj
            by_cases e : j = 10 * s + n
            · exact ⟨s, n, hs, hrk, by omega, e⟩
            · rw [pk_un e] at hj
              exact hj2 j hj
          · rcases ht with ht | ⟨h1, h2⟩
            · exact hp2 hy t x (Or.inl ht) hrt hne
            · by_cases e : x = n
              · subst e; subst h1
                have := q2.mp hz
                rw [canP_c (hu2 hy)] at this
                exact this
              · exact hp2 hy t x (Or.inr ⟨h1, by omega⟩) hrt hne
      · have hrk : ¬ rk s = r := fun z => hrk (by rw [z])
        refine st_r ⟨hC2, fun hy t x ht hx hrt hne => ?_⟩
        by_cases e : t = s
        · subst e; exact absurd hrt hrk
        · exact hp2 hy t x (Or.inl ⟨by omega, hx⟩) hrt hne
    · obtain ⟨e2, hC2, hp2⟩ := ha
      unfold t_X7_changes_17
      rw [e2, hC2.1.1 0 (by decide) (by decide) (by decide), hX.2.2.1]
      refine ⟨_, if_pos (nI_le (Nat.le_refl _) (by omega)), hC2, fun hy t x ht hx hrt hne => hp2 hy t x ?_ hrt hne⟩
      by_cases e : t = s
      · exact Or.inr ⟨e, hx⟩
      · exact Or.inl ⟨by omega, hx⟩
  · obtain ⟨e1, hC, hp⟩ := ha
    unfold t_X7_changes_5
    rw [e1, (RM_SH hX hC.1).1]
    exact ⟨_, if_pos (nI_le (Nat.le_refl _) (by omega)), hC, hp⟩
/-- the same, the least reading: the greatest stands still -/
def C1 (m0 m : Mem) (y : Int32) (a : Mem) : Prop := RM m0 a ∧ (y = 0 ∨ y = 1) ∧ a 37 = m 37 ∧ cnt (m 38) 60 ≤ cnt (a 38) 60 ∧ (¬ y = 0 → cnt (m 38) 60 < cnt (a 38) 60)
theorem changes1 {m0 m : Mem} {c k r : Nat} {P Z d rk : Nat → Nat} (hX : RX m0 c k P Z d rk) (hM : RM m0 m) : ∃ q, s_X7_changes m (nI r) 1 = some q ∧ C1 m0 m q.1 q.2 := by
  have hc6 := hX.1.2.1
  have hk10 := hX.2.1
  unfold s_X7_changes
  refine ex_2 (Q := fun (q : Int32 × Mem) => C1 m0 m q.1 q.2) ?_ (fun y56 m57 h => ex_ck h.2.1 (ex_s h))
  unfold l_X7_changes_5
  refine forG c (fun s (a : Int32 × Int32 × Mem) => a.2.1 = nI s ∧ C1 m0 m a.1 a.2.2) _ (fun s a hs ha => ?_) (fun a ha => ?_) FU 0 (0, 0, m) (Nat.zero_le _) ⟨rfl, hM, Or.inl rfl, rfl, Nat.le_refl _, fun z => absurd rfl z⟩ (FU_lt (by omega))
  · obtain ⟨e1, hC⟩ := ha
    unfold t_X7_changes_5
    rw [e1, (RM_SH hX hC.1).1]
    refine st_if (fun z => absurd z (nI_ge hs (by omega))) (fun _ => st_2 (Q := fun (q : Int32 × Mem) => C1 m0 m q.1 q.2) ?_ (fun y52 m53 h => st_n (st_l ⟨nI_s1, h⟩)))
    unfold l_X7_changes_17
    have zs : zin (nI s) 6 = true := zin_nI (by omega) (by decide)
    refine forG k (fun n (a : Int32 × Int32 × Mem) => a.2.1 = nI n ∧ C1 m0 m a.1 a.2.2) _ (fun n a hn ha => ?_) (fun a ha => ?_) FU 0 (a.1, 0, a.2.2) (Nat.zero_le _) ⟨rfl, hC⟩ (FU_lt (by omega))
    · obtain ⟨e2, hC2⟩ := ha
      obtain ⟨hM2, hy2, h37, hl2, hl3⟩ := id hC2
      unfold t_X7_changes_17
      rw [e2, hM2.1 0 (by decide) (by decide) (by decide), hX.2.2.1, p10]
      have z60 : zin (nI (10 * s + n)) 60 = true := zin_nI (by omega) (by decide)
      refine st_if (fun z => absurd z (nI_ge hn (by omega))) (fun _ => st_ck zs (st_if (fun hrk => st_n (st_if (fun z => absurd z (by decide)) (fun _ => st_ck z60 ?_))) (fun hrk => st_r hC2)))
      rw [ix_nI (n := 10 * s + n) (by omega)]
      refine st_if (fun h0 => ?_) (fun h0 => st_n (st_l ⟨nI_s1, hC2⟩))
      refine st_2 (can_eq (sv := 1) (RM_SH hX hM2) hs (RM_EG hX hM2 hn) hM2.2) (fun r12 m13 hq => ?_)
      obtain ⟨-, -, q3⟩ := hq
      dsimp only at q3
      have hM3 : RM m0 m13 := ⟨fun b b1 b2 b3 => by rw [q3 b b3]; exact hM2.1 b b1 b2 b3, BL_c q3 hM2.2⟩
      have e37 : m13 37 = m 37 := by rw [q3 37 (by decide)]; exact h37
      refine st_if (fun hz => st_n (st_l ⟨nI_s1, hM3, hy2, e37, by dsimp only; rw [q3 38 (by decide)]; exact hl2, fun hy => by dsimp only; rw [q3 38 (by decide)]; exact hl3 hy⟩)) (fun hz => st_if (fun z => absurd z (by decide)) (fun _ => st_ck z60 (st_ck z60 (st_n ?_))))
      have hb := (hM3.2 (10 * s + n) (by omega)).1
      rw [nar_z hb, sto_self]
      have h1 := cnt_gt (f := a.2.2 38) (j := 10 * s + n) h0 60 (by omega)
      refine st_ck z60 (st_n (st_n (st_l ⟨nI_s1, ⟨fun b b1 b2 b3 => by dsimp only; rw [rd_o b2]; exact hM3.1 b b1 b2 b3, BL_set hM3.2 (by decide)⟩, Or.inr rfl, by dsimp only; rw [rd_o (by decide)]; exact e37, ?_, fun _ => ?_⟩)))
      · dsimp only
        rw [sto_same, q3 38 (by decide)]
        exact Nat.le_trans hl2 (Nat.le_of_lt h1)
      · dsimp only
        rw [sto_same, q3 38 (by decide)]
        exact Nat.lt_of_le_of_lt hl2 h1
    · obtain ⟨e2, hC2⟩ := ha
      unfold t_X7_changes_17
      rw [e2, hC2.1.1 0 (by decide) (by decide) (by decide), hX.2.2.1]
      exact ⟨_, if_pos (nI_le (Nat.le_refl _) (by omega)), hC2⟩
  · obtain ⟨e1, hC⟩ := ha
    unfold t_X7_changes_5
    rw [e1, (RM_SH hX hC.1).1]
    exact ⟨_, if_pos (nI_le (Nat.le_refl _) (by omega)), hC⟩
/-! the whole reading -/
def FP (m : Mem) (c k : Nat) (d Z : Nat → Nat) : Prop := ∀ s n, s < c → n < k → ¬ m 37 (10 * s + n) = 0 → canP m s n (d n) (Z s) 0
theorem rank_loop {m0 m : Mem} {c k r : Nat} {P Z d rk : Nat → Nat} (hX : RX m0 c k P Z d rk) (hM : RM m0 m) (hr : r ≤ 6) : ∃ m2, l_X7_read_59 (nI r) FU 1 m = some m2 ∧ RM m0 m2 ∧ (∀ j, m2 37 j ≠ m 37 j → ∃ s x, s < c ∧ rk s = r ∧ x < 10 ∧ j = 10 * s + x) ∧ ∀ s n, s < c → n < k → rk s = r → ¬ m2 37 (10 * s + n) = 0 → canP m2 s n (d n) (Z s) 0 := by
  unfold l_X7_read_59
  refine zlp_run (fun (a : Int32 × Mem) => (a.1 = 0 ∨ a.1 = 1) ∧ RM m0 a.2 ∧ (∀ j, a.2 37 j ≠ m 37 j → ∃ s x, s < c ∧ rk s = r ∧ x < 10 ∧ j = 10 * s + x) ∧ (a.1 = 0 → ∀ s n, s < c → n < k → rk s = r → ¬ a.2 37 (10 * s + n) = 0 → canP a.2 s n (d n) (Z s) 0)) _ (fun a => 2 * cnt (a.2 37) 60 + if a.1 = 0 then 0 else 1) (fun a ha => ?_) FU (1, m) ⟨Or.inr rfl, hM, fun j z => absurd rfl z, fun z => absurd z (show ¬ (1 : Int32) = 0 from by decide)⟩ ?_
  · obtain ⟨h01, hM2, hj, hp⟩ := ha
    unfold t_X7_read_59
    by_cases h0 : a.1 = 0
    · rw [if_pos h0]
      exact Or.inl ⟨_, rfl, hM2, hj, hp h0⟩
    · rw [if_neg h0]
      obtain ⟨⟨r20, m21⟩, e, ⟨q1, q2, q3, q4, q5⟩, q6⟩ := changes0 hX hM2 hr
      dsimp only at q1 q2 q3 q4 q5 q6
      rw [e]
      refine Or.inr ⟨(r20, m21), rfl, ⟨q2, q1, fun j hne => ?_, fun hz s n hs hn hrk hne => ?_⟩, ?_⟩
      · by_cases e2 : m21 37 j = a.2 37 j
        · exact hj j (by rw [← e2]; exact hne)
        · exact q5 j e2
      · have e40 := q3 hz
        rw [canP_c e40]
        dsimp only at hne
        rw [e40 37 (by decide)] at hne
        exact q6 hz s n hs hn hrk hne
      · dsimp only
        by_cases hz : r20 = 0
        · rw [if_pos hz, if_neg h0, q3 hz 37 (by decide)]
          omega
        · have := q4 hz
          rw [if_neg hz, if_neg h0]
          omega
  · have := cnt_le (f := m 37) 60
    have hF : FU = 1000000 := rfl
    dsimp only
    rw [if_neg (show ¬ (1 : Int32) = 0 from by decide)]
    omega
theorem sure_loop {m0 m : Mem} {c k r : Nat} {P Z d rk : Nat → Nat} (hX : RX m0 c k P Z d rk) (hM : RM m0 m) : ∃ m2, l_X7_read_89 (nI r) FU 1 m = some m2 ∧ RM m0 m2 ∧ m2 37 = m 37 := by
  unfold l_X7_read_89
  refine zlp_run (fun (a : Int32 × Mem) => (a.1 = 0 ∨ a.1 = 1) ∧ RM m0 a.2 ∧ a.2 37 = m 37) _ (fun a => 2 * (60 - cnt (a.2 38) 60) + if a.1 = 0 then 0 else 1) (fun a ha => ?_) FU (1, m) ⟨Or.inr rfl, hM, rfl⟩ ?_
  · obtain ⟨h01, hM2, h37⟩ := ha
    unfold t_X7_read_89
    by_cases h0 : a.1 = 0
    · rw [if_pos h0]
      exact Or.inl ⟨_, rfl, hM2, h37⟩
    · rw [if_neg h0]
      obtain ⟨⟨r20, m21⟩, e, q1, q2, q3, q4, q5⟩ := changes1 (r := r) hX hM2
      dsimp only at q1 q2 q3 q4 q5
      rw [e]
      refine Or.inr ⟨(r20, m21), rfl, ⟨q2, q1, q3.trans h37⟩, ?_⟩
      dsimp only
      have l1 := cnt_le (f := m21 38) 60
      by_cases hz : r20 = 0
      · rw [if_pos hz, if_neg h0]
        omega
      · have := q5 hz
        rw [if_neg hz, if_neg h0]
        omega
  · have hF : FU = 1000000 := rfl
    dsimp only
    rw [if_neg (show ¬ (1 : Int32) = 0 from by decide)]
    omega
theorem read_run {m0 : Mem} {c k : Nat} {P Z d rk : Nat → Nat} (hX : RX m0 c k P Z d rk) : ∃ m2, ((l_X7_read_23 FU 0 m0).bind fun m14 => ((l_X7_read_51 FU 0 m14).bind fun m26 => ((l_X7_read_81 FU 0 m26).bind fun m38 => some m38))) = some m2 ∧ RM m0 m2 ∧ FP m2 c k d Z := by
  have hc6 := hX.1.2.1
  have hk10 := hX.2.1
  refine ex_b (Q := fun (m14 : Mem) => RM m0 m14) ?_ (fun m14 h14 => ex_b (Q := fun (m26 : Mem) => RM m0 m26 ∧ FP m26 c k d Z) ?_ (fun m26 h26 => ex_b (Q := fun (m38 : Mem) => RM m0 m38 ∧ FP m38 c k d Z) ?_ (fun m38 h38 => ex_s h38)))
  · unfold l_X7_read_23
    refine forG 60 (fun j (a : Int32 × Mem) => a.1 = nI j ∧ (∀ b, b ≠ 37 → b ≠ 38 → b ≠ 40 → a.2 b = m0 b) ∧ ∀ i, i < j → a.2 37 i = 1 ∧ a.2 38 i = 0) _ (fun j a hj ha => ?_) (fun a ha => ?_) FU 0 (0, m0) (Nat.zero_le _) ⟨rfl, fun _ _ _ _ => rfl, fun i hi => absurd hi (Nat.not_lt_zero i)⟩ (FU_lt (by omega))
    · obtain ⟨e1, hc, hi⟩ := ha
      unfold t_X7_read_23
      rw [e1, ix_nI (n := j) (by omega)]
      have z60 : zin (nI j) 60 = true := zin_nI hj (by decide)
      refine st_if (fun z => absurd z (nI_ge (b := 60) hj (by decide))) (fun _ => st_ck z60 (st_n (st_ck z60 (st_n (st_n (st_l ⟨nI_s1, fun b b1 b2 b3 => ?_, fun i hij => ?_⟩))))))
      · dsimp only; rw [rd_o b2, rd_o b1]; exact hc b b1 b2 b3
      · dsimp only
        rw [rd_o (a2 := 37) (by decide)]
        by_cases e : i = j
        · subst e
          rw [rd_s, rd_s]
          exact ⟨by decide, by decide⟩
        · rw [rd_j e, rd_j e, rd_o (by decide)]
          exact hi i (by omega)
    · obtain ⟨e1, hc, hi⟩ := ha
      unfold t_X7_read_23
      rw [e1]
      exact ⟨_, if_pos (by decide), hc, fun j hj => ⟨Or.inr (hi j hj).1, Or.inl (hi j hj).2⟩⟩
  · unfold l_X7_read_51
    refine forG 7 (fun r (a : Int32 × Mem) => a.1 = nI r ∧ RM m0 a.2 ∧ ∀ s n, s < c → n < k → rk s < r → ¬ a.2 37 (10 * s + n) = 0 → canP a.2 s n (d n) (Z s) 0) _ (fun r a hr ha => ?_) (fun a ha => ?_) FU 0 (0, m14) (Nat.zero_le _) ⟨rfl, h14, fun s n _ _ h => absurd h (Nat.not_lt_zero _)⟩ (FU_lt (by omega))
    · obtain ⟨e1, hM, hp⟩ := ha
      unfold t_X7_read_51
      rw [e1]
      refine st_if (fun z => absurd z (nI_ge (b := 7) hr (by decide))) (fun _ => st_b (rank_loop hX hM (show r ≤ 6 by omega)) (fun m23 h23 => st_n (st_l ⟨nI_s1, h23.1, fun s n hs hn hrk hne => ?_⟩)))
      obtain ⟨q1, q2, q3⟩ := h23
      dsimp only at hne ⊢
      by_cases e : rk s = r
      · exact q3 s n hs hn e hne
      · have un : ∀ t x, t < c → rk t < r → x < 10 → m23 37 (10 * t + x) = a.2 37 (10 * t + x) := fun t x ht hrt hx => by
          by_cases e2 : m23 37 (10 * t + x) = a.2 37 (10 * t + x)
          · exact e2
          · obtain ⟨s2, x2, hs2, hr2, hx2, e3⟩ := q2 _ e2
            have : t = s2 := by omega
            subst this
            omega
        have eM : ∀ b, b ≠ 37 → b ≠ 38 → b ≠ 40 → m23 b = a.2 b := fun b b1 b2 b3 => by rw [q1.1 b b1 b2 b3, hM.1 b b1 b2 b3]
        rw [canP_r (RM_SH hX hM) hs (RM_EG hX hM hn) eM (fun t w ht hE x hx => ?_)]
        · rw [un s n hs (by omega) (by omega)] at hne
          exact hp s n hs hn (by omega) hne
        · have hE0 : Ed m0 P s t w := by
            unfold Ed at *
            rw [hM.1 10 (by decide) (by decide) (by decide), hM.1 11 (by decide) (by decide) (by decide)] at hE
            exact hE
          have := hX.2.2.2.2.2 s t w hs ht hE0
          exact un t x ht (by omega) hx
    · obtain ⟨e1, hM, hp⟩ := ha
      unfold t_X7_read_51
      rw [e1]
      exact ⟨_, if_pos (by decide), hM, fun s n hs hn hne => hp s n hs hn (by have := (hX.2.2.2.2.1 s hs).2; omega) hne⟩
  · unfold l_X7_read_81
    refine forG 7 (fun r (a : Int32 × Mem) => a.1 = nI r ∧ RM m0 a.2 ∧ a.2 37 = m26 37) _ (fun r a hr ha => ?_) (fun a ha => ?_) FU 0 (0, m26) (Nat.zero_le _) ⟨rfl, h26.1, rfl⟩ (FU_lt (by omega))
    · obtain ⟨e1, hM, h37⟩ := ha
      unfold t_X7_read_81
      rw [e1]
      refine st_if (fun z => absurd z (nI_ge (b := 7) hr (by decide))) (fun _ => st_b (sure_loop hX hM) (fun m23 h23 => st_n (st_l ⟨nI_s1, h23.1, h23.2.trans h37⟩)))
    · obtain ⟨e1, hM, h37⟩ := ha
      unfold t_X7_read_81
      rw [e1]
      refine ⟨_, if_pos (by decide), hM, fun s n hs hn hne => ?_⟩
      have eM : ∀ b, b ≠ 37 → b ≠ 38 → b ≠ 40 → a.2 b = m26 b := fun b b1 b2 b3 => by rw [hM.1 b b1 b2 b3, h26.1.1 b b1 b2 b3]
      rw [canP_r (RM_SH hX h26.1) hs (RM_EG hX h26.1 hn) eM (fun t w _ _ x _ => by rw [h37])]
      rw [h37] at hne
      exact h26.2 s n hs hn hne
/-- what holds of the reference's memory at every call, but the nodes and edges -/
def RI (m : Mem) (c k : Nat) (d Z : Nat → Nat) : Prop := m 0 6 = 0 ∨ (FP m c k d Z ∧ ∀ i, i < 5 → m 39 i = -4)
def rdf (m m2 : Mem) : Prop := (∀ a, a ≠ 0 → a ≠ 37 → a ≠ 38 → a ≠ 39 → a ≠ 40 → a ≠ 41 → m2 a = m a) ∧ ∀ j, j ≠ 6 → m2 0 j = m 0 j
theorem read_eq {m : Mem} {c k : Nat} {P Z d : Nat → Nat} (hS : SH m c P Z) (hA : AC m c P) (hk : k ≤ 10) (h0 : m 0 0 = nI k) (hE : ∀ n, n < k → EG m n (d n)) (hB : BL m) (hI : RI m c k d Z) : ∃ m2, s_X7_read m = some m2 ∧ FP m2 c k d Z ∧ (∀ i, i < 5 → m2 39 i = -4) ∧ BL m2 ∧ rdf m m2 := by
  unfold s_X7_read
  refine ex_if (fun h6 => ex_n (ex_b (free_eq _) (fun m3 h3 => ?_))) (fun h6 => ex_s ?_)
  · obtain ⟨f1, f2⟩ := h3
    have hS3 : SH m3 c P Z := SH_c (fun a a1 a2 => by rw [f2 a (by omega), rd_o (by omega)]) (by rw [f2 0 (by decide), rd_j (by decide)]) hS
    have hA3 : AC m3 c P := by
      unfold AC Ed at *
      rw [f2 11 (by decide), rd_o (by decide), f2 10 (by decide), rd_o (by decide)]
      exact hA
    refine ex_b (findRanks_eq hS3 hA3) (fun m5 h5 => ?_)
    obtain ⟨g1, g2⟩ := h5
    have e5 : ∀ a, a ≠ 0 → a ≠ 39 → a ≠ 41 → m5 a = m a := fun a a0 a9 a1 => by rw [g2 a a1, f2 a a9, rd_o a0]
    have e50 : ∀ j, j ≠ 6 → m5 0 j = m 0 j := fun j hj => by rw [g2 0 (by decide), f2 0 (by decide), rd_j hj]
    have hX : RX m5 c k P Z d (Jr m3 P 6) := by
      refine ⟨SH_c (fun a a1 a2 => e5 a (by omega) (by omega) (by omega)) (e50 7 (by decide)) hS, hk, by rw [e50 0 (by decide)]; exact h0, fun n hn => ?_, fun s hs => ⟨g1 s hs, Jr_le (SH_RF hS3) 6 s hs⟩, fun s t w hs ht hEd => ?_⟩
      · have := hE n hn
        unfold EG at *
        rw [e5 3 (by decide) (by decide) (by decide), e5 5 (by decide) (by decide) (by decide)]
        exact this
      · refine Jr_fix (SH_RF hS3) hA3 hs ht ?_
        unfold Ed at *
        rw [g2 10 (by decide), g2 11 (by decide)] at hEd
        exact hEd
    refine ex_w (read_run hX) (fun m2 h2 => ?_)
    obtain ⟨q1, q2⟩ := h2
    refine ⟨q2, fun i hi => by rw [q1.1 39 (by decide) (by decide) (by decide), g2 39 (by decide)]; exact f1 i hi, q1.2, fun a a0 a1 a2 a3 a4 a5 => ?_, fun j hj => ?_⟩
    · rw [q1.1 a a1 a2 a4]; exact e5 a a0 a3 a5
    · rw [q1.1 0 (by decide) (by decide) (by decide)]; exact e50 j hj
  · rcases hI with h | ⟨h1, h2⟩
    · exact absurd h h6
    · exact ⟨h1, h2, hB, fun _ _ _ _ _ _ _ => rfl, fun _ _ => rfl⟩
