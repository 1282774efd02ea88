/-! the reference's reading is the greatest -/
/-- one going over all of a rank, the greatest reading -/
def GIv (m0 m : Mem) (c k r : Nat) (d Z rk : Nat → Nat) (a : Mem) : Prop := (∀ m1, RM m0 m1 → (∀ t x, t < c → x < k → rk t < r → m1 37 (10 * t + x) = m 37 (10 * t + x)) → (∀ s n, s < c → n < k → rk s = r → ¬ m1 37 (10 * s + n) = 0 → canP m1 s n (d n) (Z s) 0) → (∀ s n, s < c → n < k → rk s = r → ¬ m1 37 (10 * s + n) = 0 → ¬ m 37 (10 * s + n) = 0) → ∀ s n, s < c → n < k → rk s = r → ¬ m1 37 (10 * s + n) = 0 → ¬ a 37 (10 * s + n) = 0) ∧ ∀ j, m 38 j = 0 → a 38 j = 0
def D0 (m0 m : Mem) (c k r : Nat) (d Z rk : Nat → Nat) (y : Int32) (a : Mem) : Prop := RM m0 a ∧ (y = 0 ∨ y = 1) ∧ (y = 0 → ∀ b, b ≠ 40 → a b = m b) ∧ (¬ y = 0 → cnt (a 37) 60 < cnt (m 37) 60) ∧ (∀ j, a 37 j ≠ m 37 j → (∃ s x, s < c ∧ rk s = r ∧ x < 10 ∧ j = 10 * s + x)) ∧ GIv m0 m c k r d Z rk a
theorem changes0g {m0 m : Mem} {c k r : Nat} {P Z d rk : Nat → Nat} (hX : RX m0 c k P Z d rk) (hK : ∀ n, n < k → EK m0 n (d n) k) (hM : RM m0 m) (hr : r ≤ 6) : ∃ q, s_X7_changes m (nI r) 0 = some q ∧ D0 m0 m c k r d Z rk q.1 q.2 ∧ (q.1 = 0 → ∀ s n, s < c → n < k → rk s = r → ¬ m 37 (10 * s + n) = 0 → canP m s n (d n) (Z s) 0) := by
  have hc6 := hX.1.2.1
  have hk10 := hX.2.1
  unfold s_X7_changes
  refine ex_2 (Q := fun (q : Int32 × Mem) => D0 m0 m c k r d Z rk q.1 q.2 ∧ (q.1 = 0 → ∀ s n, s < c → n < k → rk s = r → ¬ m 37 (10 * s + n) = 0 → canP m s n (d n) (Z s) 0)) ?_ (fun y56 m57 h => ex_ck h.1.2.1 (ex_s h))
  unfold l_X7_changes_5
  refine forG c (fun s (a : Int32 × Int32 × Mem) => a.2.1 = nI s ∧ D0 m0 m c k r d Z rk a.1 a.2.2 ∧ (a.1 = 0 → ∀ t n, t < s → n < k → rk t = r → ¬ m 37 (10 * t + n) = 0 → canP m t n (d n) (Z t) 0)) _ (fun s a hs ha => ?_) (fun a ha => ?_) FU 0 (0, 0, m) (Nat.zero_le _) ⟨rfl, ⟨hM, Or.inl rfl, fun _ _ _ => rfl, fun z => absurd rfl z, fun j z => absurd rfl z, fun m1 _ _ _ q => q, fun _ q => q⟩, fun _ t n ht => absurd ht (Nat.not_lt_zero t)⟩ (FU_lt (by omega))
  · obtain ⟨e1, hC, hp⟩ := ha
    unfold t_X7_changes_5
    rw [e1, (RM_SH hX hC.1).1]
    refine st_if (fun z => absurd z (nI_ge hs (by omega))) (fun _ => st_2 (Q := fun (q : Int32 × Mem) => D0 m0 m c k r d Z rk q.1 q.2 ∧ (q.1 = 0 → ∀ t n, t < s + 1 → n < k → rk t = r → ¬ m 37 (10 * t + n) = 0 → canP m t n (d n) (Z t) 0)) ?_ (fun y52 m53 h => st_n (st_l ⟨nI_s1, h⟩)))
    unfold l_X7_changes_17
    have zs : zin (nI s) 6 = true := zin_nI (by omega) (by decide)
    refine forG k (fun n (a : Int32 × Int32 × Mem) => a.2.1 = nI n ∧ D0 m0 m c k r d Z rk a.1 a.2.2 ∧ (a.1 = 0 → ∀ t x, (t < s ∧ x < k) ∨ (t = s ∧ x < n) → rk t = r → ¬ m 37 (10 * t + x) = 0 → canP m t x (d x) (Z t) 0)) _ (fun n a hn ha => ?_) (fun a ha => ?_) FU 0 (a.1, 0, a.2.2) (Nat.zero_le _) ⟨rfl, hC, fun hy t x ht => by rcases ht with ⟨h1, h2⟩ | ⟨h1, h2⟩; exact hp hy t x h1 h2; exact absurd h2 (Nat.not_lt_zero x)⟩ (FU_lt (by omega))
    · obtain ⟨e2, hC2, hp2⟩ := ha
      obtain ⟨hM2, hy2, hu2, hl2, hj2, hg2⟩ := id hC2
      unfold t_X7_changes_17
      rw [e2, hM2.1 0 (by decide) (by decide) (by decide), hX.2.2.1, hM2.1 41 (by decide) (by decide) (by decide), ix_nI (n := s) (by omega), (hX.2.2.2.2.1 s hs).1, p10]
      have z60 : zin (nI (10 * s + n)) 60 = true := zin_nI (by omega) (by decide)
      have hr6 := (hX.2.2.2.2.1 s hs).2
      refine st_if (fun z => absurd z (nI_ge hn (by omega))) (fun _ => st_ck zs (st_if (fun hrk => st_n (st_if (fun _ => st_ck z60 ?_) (fun z => absurd rfl z))) (fun hrk => ?_)))
      · have hrk : rk s = r := (nI_eq (by omega) (by omega)).mp hrk
        rw [ix_nI (n := 10 * s + n) (by omega)]
        refine st_if (fun h0 => st_n (st_l ⟨nI_s1, hC2, fun hy t x ht hrt hne => ?_⟩)) (fun h0 => ?_)
        · rcases ht with ht | ⟨h1, h2⟩
          · exact hp2 hy t x (Or.inl ht) hrt hne
          · by_cases e : x = n
            · subst e; subst h1
              rw [hu2 hy 37 (by decide)] at h0
              exact absurd h0 hne
            · exact hp2 hy t x (Or.inr ⟨h1, by omega⟩) hrt hne
        · refine st_2 (can_eq (sv := 0) (RM_SH hX hM2) hs (RM_EG hX hM2 hn) hM2.2) (fun r12 m13 hq => ?_)
          obtain ⟨q1, q2, q3⟩ := hq
          dsimp only at q1 q2 q3
          have hM3 : RM m0 m13 := ⟨fun b b1 b2 b3 => by rw [q3 b b3]; exact hM2.1 b b1 b2 b3, BL_c q3 hM2.2⟩
          refine st_if (fun hz => st_if (fun _ => st_ck z60 (st_n (st_ck z60 (st_n (st_n (st_l ⟨nI_s1, ⟨?_, Or.inr rfl, fun z => absurd z (show ¬ (1 : Int32) = 0 from by decide), fun _ => ?_, fun j hj => ?_, fun m1 g1 g2 g3 g4 s2 n2 hs2 hn2 hr2 hne => ?_, fun j hj => ?_⟩, fun z => absurd z (show ¬ (1 : Int32) = 0 from by decide)⟩)))))) (fun z => absurd rfl z)) (fun hz => st_n (st_l ⟨nI_s1, ⟨hM3, hy2, fun hy b b4 => by dsimp only; rw [q3 b b4]; exact hu2 hy b b4, fun hy => by dsimp only; rw [q3 37 (by decide)]; exact hl2 hy, fun j hj => hj2 j (by dsimp only at hj; rw [q3 37 (by decide)] at hj; exact hj), fun m1 g1 g2 g3 g4 s2 n2 hs2 hn2 hr2 hne => by dsimp only; rw [q3 37 (by decide)]; exact hg2.1 m1 g1 g2 g3 g4 s2 n2 hs2 hn2 hr2 hne, fun j hj => by dsimp only; rw [q3 38 (by decide)]; exact hg2.2 j hj⟩, fun hy t x ht hrt hne => ?_⟩))
          · dsimp only
            refine ⟨fun b b1 b2 b3 => by rw [rd_o b2, rd_o b1]; exact hM3.1 b b1 b2 b3, BL_set (BL_set hM3.2 (by decide)) (by decide)⟩
          · dsimp only
            rw [rd_o (by decide), sto_same, q3 37 (by decide)]
            have h1 := cnt_lt (f := a.2.2 37) (j := 10 * s + n) h0 60 (by omega)
            have h2 : cnt (a.2.2 37) 60 ≤ cnt (m 37) 60 := by
              by_cases hy : a.1 = 0
              · rw [hu2 hy 37 (by decide)]; exact Nat.le_refl _
              · exact Nat.le_of_lt (hl2 hy)
            exact Nat.lt_of_lt_of_le h1 h2
          · dsimp only at hj
            rw [rd_o (by decide), sto_same, q3 37 (by decide)] at hj
            by_cases e : j = 10 * s + n
            · exact ⟨s, n, hs, hrk, by omega, e⟩
            · rw [pk_un e] at hj
              exact hj2 j hj
          · dsimp only
            rw [rd_o (by decide), sto_same, q3 37 (by decide)]
            have base := hg2.1 m1 g1 g2 g3 g4 s2 n2 hs2 hn2 hr2 hne
            by_cases e : 10 * s2 + n2 = 10 * s + n
            · exfalso
              have es : s2 = s := by omega
              have en : n2 = n := by omega
              subst es
              subst en
              have low : ∀ t x, t < c → x < k → rk t < r → a.2.2 37 (10 * t + x) = m1 37 (10 * t + x) := fun t x ht hx hr => by
                rw [g2 t x ht hx hr]
                by_cases q : a.2.2 37 (10 * t + x) = m 37 (10 * t + x)
                · exact q
                · obtain ⟨s3, x3, w1, w2, w3, w4⟩ := hj2 _ q
                  have : t = s3 := by omega
                  subst this
                  omega
              have edr : ∀ t w, t < c → Ed m1 P s2 t w → rk t + w ≤ r := fun t w ht he => by
                rw [← hr2]
                refine hX.2.2.2.2.2 s2 t w hs2 ht ?_
                unfold Ed at *
                rw [g1.1 10 (by decide) (by decide) (by decide), g1.1 11 (by decide) (by decide) (by decide)] at he
                exact he
              have up : canP a.2.2 s2 n2 (d n2) (Z s2) 0 := by
                refine can_m (RM_SH hX g1) hs2 (RM_EG hX g1 hn2) (fun b b1 b2 b3 => by rw [hM2.1 b b1 b2 b3, g1.1 b b1 b2 b3]) (tkm_0 (RM_SH hX g1) hs2 (k := k) ?_ hk10 (fun b b1 b2 b3 => by rw [hM2.1 b b1 b2 b3, g1.1 b b1 b2 b3]) (fun t ht he x hx hne2 => ?_) (fun t ht he x hx hne2 => ?_)) (g3 s2 n2 hs2 hn2 hr2 hne)
                · intro i hi
                  rw [g1.1 5 (by decide) (by decide) (by decide)]
                  exact hK n2 hn2 i hi
                · have := edr t 0 ht he
                  by_cases q : rk t = r
                  · exact hg2.1 m1 g1 g2 g3 g4 t x ht hx q hne2
                  · rw [low t x ht hx (by omega)]; exact hne2
                · have := edr t 1 ht he
                  rw [← low t x ht hx (by omega)]; exact hne2
              exact absurd hz (q2.mpr up)
            · rw [pk_un e]
              exact base
          · dsimp only
            by_cases e : j = 10 * s + n
            · rw [e, rd_s]; decide
            · rw [rd_j e, rd_o (by decide), q3 38 (by decide)]
              exact hg2.2 j hj
          · rcases ht with ht | ⟨h1, h2⟩
            · exact hp2 hy t x (Or.inl ht) hrt hne
            · by_cases e : x = n
              · subst e; subst h1
                have := q2.mp hz
                rw [canP_c (hu2 hy)] at this
                exact this
              · exact hp2 hy t x (Or.inr ⟨h1, by omega⟩) hrt hne
      · have hrk : ¬ rk s = r := fun z => hrk (by rw [z])
        refine st_r ⟨hC2, fun hy t x ht hx hrt hne => ?_⟩
        by_cases e : t = s
        · subst e; exact absurd hrt hrk
        · exact hp2 hy t x (Or.inl ⟨by omega, hx⟩) hrt hne
    · obtain ⟨e2, hC2, hp2⟩ := ha
      unfold t_X7_changes_17
      rw [e2, hC2.1.1 0 (by decide) (by decide) (by decide), hX.2.2.1]
      refine ⟨_, if_pos (nI_le (Nat.le_refl _) (by omega)), hC2, fun hy t x ht hx hrt hne => hp2 hy t x ?_ hrt hne⟩
      by_cases e : t = s
      · exact Or.inr ⟨e, hx⟩
      · exact Or.inl ⟨by omega, hx⟩
  · obtain ⟨e1, hC, hp⟩ := ha
    unfold t_X7_changes_5
    rw [e1, (RM_SH hX hC.1).1]
    exact ⟨_, if_pos (nI_le (Nat.le_refl _) (by omega)), hC, hp⟩
theorem rank_loopg {m0 m : Mem} {c k r : Nat} {P Z d rk : Nat → Nat} (hX : RX m0 c k P Z d rk) (hK : ∀ n, n < k → EK m0 n (d n) k) (hM : RM m0 m) (hr : r ≤ 6) : ∃ m2, l_X7_read_59 (nI r) FU 1 m = some m2 ∧ RM m0 m2 ∧ (∀ j, m2 37 j ≠ m 37 j → ∃ s x, s < c ∧ rk s = r ∧ x < 10 ∧ j = 10 * s + x) ∧ (∀ s n, s < c → n < k → rk s = r → ¬ m2 37 (10 * s + n) = 0 → canP m2 s n (d n) (Z s) 0) ∧ GIv m0 m c k r d Z rk m2 := by
  unfold l_X7_read_59
  refine zlp_run (fun (a : Int32 × Mem) => (a.1 = 0 ∨ a.1 = 1) ∧ RM m0 a.2 ∧ (∀ j, a.2 37 j ≠ m 37 j → ∃ s x, s < c ∧ rk s = r ∧ x < 10 ∧ j = 10 * s + x) ∧ (a.1 = 0 → ∀ s n, s < c → n < k → rk s = r → ¬ a.2 37 (10 * s + n) = 0 → canP a.2 s n (d n) (Z s) 0) ∧ GIv m0 m c k r d Z rk a.2) _ (fun a => 2 * cnt (a.2 37) 60 + if a.1 = 0 then 0 else 1) (fun a ha => ?_) FU (1, m) ⟨Or.inr rfl, hM, fun j z => absurd rfl z, fun z => absurd z (show ¬ (1 : Int32) = 0 from by decide), fun m1 _ _ _ q => q, fun _ q => q⟩ ?_
  · obtain ⟨h01, hM2, hj, hp, hg⟩ := ha
    unfold t_X7_read_59
    by_cases h0 : a.1 = 0
    · rw [if_pos h0]
      exact Or.inl ⟨_, rfl, hM2, hj, hp h0, hg⟩
    · rw [if_neg h0]
      obtain ⟨⟨r20, m21⟩, e, ⟨q1, q2, q3, q4, q5, q7⟩, q6⟩ := changes0g hX hK hM2 hr
      dsimp only at q1 q2 q3 q4 q5 q6 q7
      rw [e]
      refine Or.inr ⟨(r20, m21), rfl, ⟨q2, q1, fun j hne => ?_, fun hz s n hs hn hrk hne => ?_, fun m1 g1 g2 g3 g4 => q7.1 m1 g1 (fun t x ht hx hr => ?_) g3 (hg.1 m1 g1 g2 g3 g4), fun j hj2 => q7.2 j (hg.2 j hj2)⟩, ?_⟩
      · by_cases e2 : m21 37 j = a.2 37 j
        · exact hj j (by rw [← e2]; exact hne)
        · exact q5 j e2
      · have e40 := q3 hz
        rw [canP_c e40]
        dsimp only at hne
        rw [e40 37 (by decide)] at hne
        exact q6 hz s n hs hn hrk hne
      · rw [g2 t x ht hx hr]
        by_cases q : a.2 37 (10 * t + x) = m 37 (10 * t + x)
        · exact q.symm
        · obtain ⟨s3, x3, w1, w2, w3, w4⟩ := hj _ q
          have hk10 := hX.2.1
          have : t = s3 := by omega
          subst this
          omega
      · dsimp only
        by_cases hz : r20 = 0
        · rw [if_pos hz, if_neg h0, q3 hz 37 (by decide)]
          omega
        · have := q4 hz
          rw [if_neg hz, if_neg h0]
          omega
  · have := cnt_le (f := m 37) 60
    have hF : FU = 1000000 := rfl
    dsimp only
    rw [if_neg (show ¬ (1 : Int32) = 0 from by decide)]
    omega
