/-! the reference's sure reading is the least -/
def SI (m0 m : Mem) (c k : Nat) (d Z : Nat → Nat) (a : Mem) : Prop := ∀ m1, RM m0 m1 → (∀ t x, t < c → x < k → m1 37 (10 * t + x) = m 37 (10 * t + x)) → (∀ s n, s < c → n < k → canP m1 s n (d n) (Z s) 1 → ¬ m1 38 (10 * s + n) = 0) → (∀ s n, s < c → n < k → ¬ m 38 (10 * s + n) = 0 → ¬ m1 38 (10 * s + n) = 0) → ∀ s n, s < c → n < k → ¬ a 38 (10 * s + n) = 0 → ¬ m1 38 (10 * s + n) = 0
def D1 (m0 m : Mem) (c k r : Nat) (d Z rk : Nat → Nat) (y : Int32) (a : Mem) : Prop := RM m0 a ∧ (y = 0 ∨ y = 1) ∧ a 37 = m 37 ∧ (y = 0 → ∀ b, b ≠ 40 → a b = m b) ∧ (¬ y = 0 → cnt (m 38) 60 < cnt (a 38) 60) ∧ (∀ j, a 38 j ≠ m 38 j → ∃ s x, s < c ∧ rk s = r ∧ x < 10 ∧ j = 10 * s + x) ∧ SI m0 m c k d Z a
theorem changes1g {m0 m : Mem} {c k r : Nat} {P Z d rk : Nat → Nat} (hX : RX m0 c k P Z d rk) (hK : ∀ n, n < k → EK m0 n (d n) k) (hM : RM m0 m) (hr : r ≤ 6) : ∃ q, s_X7_changes m (nI r) 1 = some q ∧ D1 m0 m c k r d Z rk q.1 q.2 ∧ (q.1 = 0 → ∀ s n, s < c → n < k → rk s = r → canP m s n (d n) (Z s) 1 → ¬ m 38 (10 * s + n) = 0) := by
  have hc6 := hX.1.2.1
  have hk10 := hX.2.1
  unfold s_X7_changes
  refine ex_2 (Q := fun (q : Int32 × Mem) => D1 m0 m c k r d Z rk q.1 q.2 ∧ (q.1 = 0 → ∀ s n, s < c → n < k → rk s = r → canP m s n (d n) (Z s) 1 → ¬ m 38 (10 * s + n) = 0)) ?_ (fun y56 m57 h => ex_ck h.1.2.1 (ex_s h))
  unfold l_X7_changes_5
  refine forG c (fun s (a : Int32 × Int32 × Mem) => a.2.1 = nI s ∧ D1 m0 m c k r d Z rk a.1 a.2.2 ∧ (a.1 = 0 → ∀ t n, t < s → n < k → rk t = r → canP m t n (d n) (Z t) 1 → ¬ m 38 (10 * t + n) = 0)) _ (fun s a hs ha => ?_) (fun a ha => ?_) FU 0 (0, 0, m) (Nat.zero_le _) ⟨rfl, ⟨hM, Or.inl rfl, rfl, fun _ _ _ => rfl, fun z => absurd rfl z, fun j z => absurd rfl z, fun m1 _ _ _ q => q⟩, fun _ t n ht => absurd ht (Nat.not_lt_zero t)⟩ (FU_lt (by omega))
  · obtain ⟨e1, hC, hp⟩ := ha
    unfold t_X7_changes_5
    rw [e1, (RM_SH hX hC.1).1]
    refine st_if (fun z => absurd z (nI_ge hs (by omega))) (fun _ => st_2 (Q := fun (q : Int32 × Mem) => D1 m0 m c k r d Z rk q.1 q.2 ∧ (q.1 = 0 → ∀ t n, t < s + 1 → n < k → rk t = r → canP m t n (d n) (Z t) 1 → ¬ m 38 (10 * t + n) = 0)) ?_ (fun y52 m53 h => st_n (st_l ⟨nI_s1, h⟩)))
    unfold l_X7_changes_17
    have zs : zin (nI s) 6 = true := zin_nI (by omega) (by decide)
    refine forG k (fun n (a : Int32 × Int32 × Mem) => a.2.1 = nI n ∧ D1 m0 m c k r d Z rk a.1 a.2.2 ∧ (a.1 = 0 → ∀ t x, (t < s ∧ x < k) ∨ (t = s ∧ x < n) → rk t = r → canP m t x (d x) (Z t) 1 → ¬ m 38 (10 * t + x) = 0)) _ (fun n a hn ha => ?_) (fun a ha => ?_) FU 0 (a.1, 0, a.2.2) (Nat.zero_le _) ⟨rfl, hC, fun hy t x ht => by rcases ht with ⟨h1, h2⟩ | ⟨h1, h2⟩; exact hp hy t x h1 h2; exact absurd h2 (Nat.not_lt_zero x)⟩ (FU_lt (by omega))
    · obtain ⟨e2, hC2, hp2⟩ := ha
      obtain ⟨hM2, hy2, h37, hu2, hl2, hj2, hg2⟩ := id hC2
      unfold t_X7_changes_17
      rw [e2, hM2.1 0 (by decide) (by decide) (by decide), hX.2.2.1, hM2.1 41 (by decide) (by decide) (by decide), ix_nI (n := s) (by omega), (hX.2.2.2.2.1 s hs).1, p10]
      have z60 : zin (nI (10 * s + n)) 60 = true := zin_nI (by omega) (by decide)
      have hr6 := (hX.2.2.2.2.1 s hs).2
      refine st_if (fun z => absurd z (nI_ge hn (by omega))) (fun _ => st_ck zs (st_if (fun hrk => st_n (st_if (fun z => absurd z (by decide)) (fun _ => st_ck z60 ?_))) (fun hrk => ?_)))
      · have hrk : rk s = r := (nI_eq (by omega) (by omega)).mp hrk
        rw [ix_nI (n := 10 * s + n) (by omega)]
        refine st_if (fun h0 => ?_) (fun h0 => st_n (st_l ⟨nI_s1, hC2, fun hy t x ht hrt hcan => ?_⟩))
        rotate_left
        · rcases ht with ht | ⟨h1, h2⟩
          · exact hp2 hy t x (Or.inl ht) hrt hcan
          · by_cases e : x = n
            · subst e; subst h1
              rw [hu2 hy 38 (by decide)] at h0
              exact h0
            · exact hp2 hy t x (Or.inr ⟨h1, by omega⟩) hrt hcan
        · refine st_2 (can_eq (sv := 1) (RM_SH hX hM2) hs (RM_EG hX hM2 hn) hM2.2) (fun r12 m13 hq => ?_)
          obtain ⟨q1, q2, q3⟩ := hq
          dsimp only at q1 q2 q3
          have hM3 : RM m0 m13 := ⟨fun b b1 b2 b3 => by rw [q3 b b3]; exact hM2.1 b b1 b2 b3, BL_c q3 hM2.2⟩
          refine st_if (fun hz => st_n (st_l ⟨nI_s1, ⟨hM3, hy2, by dsimp only; rw [q3 37 (by decide)]; exact h37, fun hy b b4 => by dsimp only; rw [q3 b b4]; exact hu2 hy b b4, fun hy => by dsimp only; rw [q3 38 (by decide)]; exact hl2 hy, fun j hj => hj2 j (by dsimp only at hj; rw [q3 38 (by decide)] at hj; exact hj), fun m1 g1 g2 g3 g4 s2 n2 hs2 hn2 hne => hg2 m1 g1 g2 g3 g4 s2 n2 hs2 hn2 (by dsimp only at hne; rw [q3 38 (by decide)] at hne; exact hne)⟩, fun hy t x ht hrt hcan => ?_⟩)) (fun hz => st_if (fun z => absurd z (by decide)) (fun _ => st_ck z60 (st_ck z60 (st_n ?_))))
          · rcases ht with ht | ⟨h1, h2⟩
            · exact hp2 hy t x (Or.inl ht) hrt hcan
            · by_cases e : x = n
              · subst e; subst h1
                rw [← canP_c (hu2 hy)] at hcan
                exact absurd hz (q2.mpr hcan)
              · exact hp2 hy t x (Or.inr ⟨h1, by omega⟩) hrt hcan
          · have hb := (hM3.2 (10 * s + n) (by omega)).1
            have h38 : a.2.2 38 (10 * s + n) = 0 := h0
            rw [nar_z hb, sto_self]
            refine st_ck z60 (st_n (st_n (st_l ⟨nI_s1, ⟨⟨fun b b1 b2 b3 => by dsimp only; rw [rd_o b2]; exact hM3.1 b b1 b2 b3, BL_set hM3.2 (by decide)⟩, Or.inr rfl, by dsimp only; rw [rd_o (by decide), q3 37 (by decide)]; exact h37, fun z => absurd z (show ¬ (1 : Int32) = 0 from by decide), fun _ => ?_, fun j hj => ?_, fun m1 g1 g2 g3 g4 s2 n2 hs2 hn2 hne => ?_⟩, fun z => absurd z (show ¬ (1 : Int32) = 0 from by decide)⟩)))
            · dsimp only
              rw [sto_same, q3 38 (by decide)]
              have h1 := cnt_gt (f := a.2.2 38) (j := 10 * s + n) h38 60 (by omega)
              have h2 : cnt (m 38) 60 ≤ cnt (a.2.2 38) 60 := by
                by_cases hy : a.1 = 0
                · rw [hu2 hy 38 (by decide)]; exact Nat.le_refl _
                · exact Nat.le_of_lt (hl2 hy)
              exact Nat.lt_of_le_of_lt h2 h1
            · dsimp only at hj
              rw [sto_same, q3 38 (by decide)] at hj
              by_cases e : j = 10 * s + n
              · exact ⟨s, n, hs, hrk, by omega, e⟩
              · rw [pk_un e] at hj
                exact hj2 j hj
            · dsimp only at hne
              rw [sto_same, q3 38 (by decide)] at hne
              by_cases e : 10 * s2 + n2 = 10 * s + n
              · have es : s2 = s := by omega
                have en : n2 = n := by omega
                subst es
                subst en
                refine g3 s2 n2 hs2 hn2 ?_
                have hcan := q2.mp hz
                have h37b : ∀ t x, t < c → x < k → m1 37 (10 * t + x) = a.2.2 37 (10 * t + x) := fun t x ht hx => by rw [h37]; exact g2 t x ht hx
                refine can_m (RM_SH hX hM2) hs2 (RM_EG hX hM2 hn2) (fun b b1 b2 b3 => by rw [hM2.1 b b1 b2 b3, g1.1 b b1 b2 b3]) (tkm_1 (RM_SH hX hM2) hs2 (k := k) ?_ hk10 (fun b b1 b2 b3 => by rw [hM2.1 b b1 b2 b3, g1.1 b b1 b2 b3]) (fun t ht he x hx hne2 => hg2 m1 g1 g2 g3 g4 t x ht hx hne2) (fun t ht he x hx hne2 => by rw [← h37b t x ht hx]; exact hne2)) hcan
                intro i hi
                rw [hM2.1 5 (by decide) (by decide) (by decide)]
                exact hK n2 hn2 i hi
              · rw [pk_un e] at hne
                exact hg2 m1 g1 g2 g3 g4 s2 n2 hs2 hn2 hne
      · have hrk : ¬ rk s = r := fun z => hrk (by rw [z])
        refine st_r ⟨hC2, fun hy t x ht hx hrt hne => ?_⟩
        by_cases e : t = s
        · subst e; exact absurd hrt hrk
        · exact hp2 hy t x (Or.inl ⟨by omega, hx⟩) hrt hne
    · obtain ⟨e2, hC2, hp2⟩ := ha
      unfold t_X7_changes_17
      rw [e2, hC2.1.1 0 (by decide) (by decide) (by decide), hX.2.2.1]
      refine ⟨_, if_pos (nI_le (Nat.le_refl _) (by omega)), hC2, fun hy t x ht hx hrt hne => hp2 hy t x ?_ hrt hne⟩
      by_cases e : t = s
      · exact Or.inr ⟨e, hx⟩
      · exact Or.inl ⟨by omega, hx⟩
  · obtain ⟨e1, hC, hp⟩ := ha
    unfold t_X7_changes_5
    rw [e1, (RM_SH hX hC.1).1]
    exact ⟨_, if_pos (nI_le (Nat.le_refl _) (by omega)), hC, hp⟩
theorem sure_loopg {m0 m : Mem} {c k r : Nat} {P Z d rk : Nat → Nat} (hX : RX m0 c k P Z d rk) (hK : ∀ n, n < k → EK m0 n (d n) k) (hM : RM m0 m) (hr : r ≤ 6) : ∃ m2, l_X7_read_89 (nI r) FU 1 m = some m2 ∧ RM m0 m2 ∧ m2 37 = m 37 ∧ (∀ j, m2 38 j ≠ m 38 j → ∃ s x, s < c ∧ rk s = r ∧ x < 10 ∧ j = 10 * s + x) ∧ SI m0 m c k d Z m2 ∧ ∀ s n, s < c → n < k → rk s = r → canP m2 s n (d n) (Z s) 1 → ¬ m2 38 (10 * s + n) = 0 := by
  unfold l_X7_read_89
  refine zlp_run (fun (a : Int32 × Mem) => (a.1 = 0 ∨ a.1 = 1) ∧ RM m0 a.2 ∧ a.2 37 = m 37 ∧ (∀ j, a.2 38 j ≠ m 38 j → ∃ s x, s < c ∧ rk s = r ∧ x < 10 ∧ j = 10 * s + x) ∧ SI m0 m c k d Z a.2 ∧ (a.1 = 0 → ∀ s n, s < c → n < k → rk s = r → canP a.2 s n (d n) (Z s) 1 → ¬ a.2 38 (10 * s + n) = 0)) _ (fun a => 2 * (60 - cnt (a.2 38) 60) + if a.1 = 0 then 0 else 1) (fun a ha => ?_) FU (1, m) ⟨Or.inr rfl, hM, rfl, fun j z => absurd rfl z, fun m1 _ _ _ q => q, fun z => absurd z (show ¬ (1 : Int32) = 0 from by decide)⟩ ?_
  · obtain ⟨h01, hM2, h37, hj, hg, hp⟩ := ha
    unfold t_X7_read_89
    by_cases h0 : a.1 = 0
    · rw [if_pos h0]
      exact Or.inl ⟨_, rfl, hM2, h37, hj, hg, hp h0⟩
    · rw [if_neg h0]
      obtain ⟨⟨r20, m21⟩, e, ⟨q1, q2, q3, q4, q5, q6, q7⟩, q8⟩ := changes1g hX hK hM2 hr
      dsimp only at q1 q2 q3 q4 q5 q6 q7 q8
      rw [e]
      refine Or.inr ⟨(r20, m21), rfl, ⟨q2, q1, q3.trans h37, fun j hne => ?_, fun m1 g1 g2 g3 g4 => q7 m1 g1 (fun t x ht hx => by rw [h37]; exact g2 t x ht hx) g3 (hg m1 g1 g2 g3 g4), fun hz s n hs hn hrk hcan => ?_⟩, ?_⟩
      · by_cases e2 : m21 38 j = a.2 38 j
        · exact hj j (by rw [← e2]; exact hne)
        · exact q6 j e2
      · have e40 := q4 hz
        dsimp only at hcan ⊢
        rw [canP_c e40] at hcan
        rw [e40 38 (by decide)]
        exact q8 hz s n hs hn hrk hcan
      · dsimp only
        have l1 := cnt_le (f := m21 38) 60
        by_cases hz : r20 = 0
        · rw [if_pos hz, if_neg h0, q4 hz 38 (by decide)]
          omega
        · have := q5 hz
          rw [if_neg hz, if_neg h0]
          omega
  · have hF : FU = 1000000 := rfl
    dsimp only
    rw [if_neg (show ¬ (1 : Int32) = 0 from by decide)]
    omega
