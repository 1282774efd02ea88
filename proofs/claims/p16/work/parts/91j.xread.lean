/-! the class's whole reading -/
theorem x_rank {mx m0 m : Mem} {k b c r : Nat} {d N T P Z rk : Nat → Nat} {V W : Nat → Int32} (hX : RX m0 c k P Z d rk) (hK : ∀ n, n < k → EK m0 n (d n) k) (R : RC mx m0 k d N T V W b c P Z) (al : ∀ s, s < c → ALW mx m0 s (P s)) (hr : r ≤ 6) (lev : ∀ s, s < c → mx (b + 6) s = nI (rk s)) (hx : XJ mx m) : ∃ m2, l_X2_readFits_66 (nI r) FU 1 0 m = some m2 ∧ XJ mx m2 ∧ m2 41 = m 41 ∧ BS m m2 ∧ (∀ j, img m2 m0 37 j ≠ img m m0 37 j → ∃ s x, s < c ∧ rk s = r ∧ x < 10 ∧ j = 10 * s + x) ∧ (∀ s n, s < c → n < k → rk s = r → ¬ img m2 m0 37 (10 * s + n) = 0 → canP (img m2 m0) s n (d n) (Z s) 0) ∧ GIv m0 (img m m0) c k r d Z rk (img m2 m0) := by
  have hb2 := isb_e R.2.2.2.1
  unfold l_X2_readFits_66
  refine zlp_run (fun (a : Int32 × Int32 × Mem) => (a.1 = 0 ∨ a.1 = 1) ∧ (∃ t, a.2.1 = nI t ∧ t ≤ 61 ∧ (¬ a.1 = 0 → cnt (img a.2.2 m0 37) 60 + t ≤ 60)) ∧ XJ mx a.2.2 ∧ a.2.2 41 = m 41 ∧ BS m a.2.2 ∧ (∀ j, img a.2.2 m0 37 j ≠ img m m0 37 j → ∃ s x, s < c ∧ rk s = r ∧ x < 10 ∧ j = 10 * s + x) ∧ (a.1 = 0 → ∀ s n, s < c → n < k → rk s = r → ¬ img a.2.2 m0 37 (10 * s + n) = 0 → canP (img a.2.2 m0) s n (d n) (Z s) 0) ∧ GIv m0 (img m m0) c k r d Z rk (img a.2.2 m0)) _ (fun a => 2 * cnt (img a.2.2 m0 37) 60 + if a.1 = 0 then 0 else 1) (fun a ha => ?_) FU (1, 0, m) ⟨Or.inr rfl, ⟨0, rfl, by omega, fun _ => by have := cnt_le (f := img m m0 37) 60; dsimp only; omega⟩, hx, rfl, fun _ _ _ q => q, fun j z => absurd rfl z, fun z => absurd z (show ¬ (1 : Int32) = 0 from by decide), fun m1 _ _ _ q => q, fun _ q => q⟩ ?_
  · obtain ⟨h01, ⟨t, et, ht, hcn⟩, hx2, h41, hbs, hj, hp, hg⟩ := ha
    unfold t_X2_readFits_66
    by_cases h0 : a.1 = 0
    · rw [if_pos h0]
      exact Or.inl ⟨_, rfl, hx2, h41, hbs, hj, hp h0, hg⟩
    · have hcn := hcn h0
      have R2 := RC_x R hx2
      obtain ⟨⟨r21, m22⟩, e, q1, q2, qb, ⟨d1, d2, d3, d4, d5, d6⟩, q6⟩ := x_drop hX hK R2 (fun s hs => ALW_x (al s hs) hx2) hr (fun s hs => by rw [hx2 (b + 6) (by omega) (by omega) (by omega)]; exact lev s hs)
      dsimp only at q1 q2 qb d1 d2 d3 d4 d5 d6 q6
      rw [if_neg h0, et, if_neg (show ¬ (60 : Int32) < nI t from nI_nlt (a := 60) (show t ≤ 60 by omega) (by decide)), e]
      refine Or.inr ⟨(r21, nI (t + 1), m22), by rw [zb2_s]; show some (Sum.inl (r21, nI t + 1, m22)) = _; rw [nI_s1], ⟨d2, ⟨t + 1, rfl, by omega, fun hz => by have := d4 hz; dsimp only; omega⟩, XJ_t hx2 q1, q2.trans h41, fun s i hi h => hbs s i hi (qb s i hi h), fun j hne => ?_, fun hz s n hs hn hrk hne => ?_, fun m1 g1 g2 g3 g4 => d6.1 m1 g1 (fun t x ht hx hr => ?_) g3 (hg.1 m1 g1 g2 g3 g4), fun j hj2 => d6.2 j (hg.2 j hj2)⟩, ?_⟩
      · by_cases e2 : img m22 m0 37 j = img a.2.2 m0 37 j
        · exact hj j (by rw [← e2]; exact hne)
        · exact d5 j e2
      · have e40 := d3 hz
        dsimp only at hne ⊢
        rw [canP_c e40]
        rw [e40 37 (by decide)] at hne
        exact q6 hz s n hs hn hrk hne
      · rw [g2 t x ht hx hr]
        by_cases q : img a.2.2 m0 37 (10 * t + x) = img m m0 37 (10 * t + x)
        · exact q.symm
        · obtain ⟨s3, x3, w1, w2, w3, w4⟩ := hj _ q
          have hk10 := hX.2.1
          have : t = s3 := by omega
          subst this
          omega
      · dsimp only
        by_cases hz : r21 = 0
        · rw [if_pos hz, if_neg h0, d3 hz 37 (by decide)]
          omega
        · have := d4 hz
          rw [if_neg hz, if_neg h0]
          omega
  · have := cnt_le (f := img m m0 37) 60
    have hF : FU = 1000000 := rfl
    dsimp only
    rw [if_neg (show ¬ (1 : Int32) = 0 from by decide)]
    omega
theorem sh_10 : ∀ k, k ≤ 10 → ((1 : Int32) <<< (nI k &&& 31)) - 1 = nI (2 ^ k - 1) := by
  have h : ∀ k, k < 11 → ((1 : Int32) <<< (nI k &&& 31)) - 1 = nI (2 ^ k - 1) := by decide +kernel
  intro k hk
  exact h k (by omega)
theorem full_10 : ∀ k, k ≤ 10 → ∀ i, i < 32 → bt (nI (2 ^ k - 1)) i = decide (i < k) := by
  have h : ∀ k, k < 11 → ∀ i, i < 32 → bt (nI (2 ^ k - 1)) i = decide (i < k) := by decide +kernel
  intro k hk
  exact h k (by omega)
/-- no bit beyond the nodes -/
def NB (m : Mem) (a c k : Nat) : Prop := ∀ s, s < c → ∀ i, k ≤ i → i < 32 → bt (m a s) i = false
theorem x_init {mx mm : Mem} {k b c : Nat} {d N T P Z : Nat → Nat} {V W : Nat → Int32} (R : RC mx mm k d N T V W b c P Z) : ∃ m2, l_X2_readFits_10 FU 0 mx = some m2 ∧ (∀ a, a ≠ 40 → m2 a = mx a) ∧ ∀ s, s < c → m2 40 s = nI (2 ^ k - 1) := by
  obtain ⟨g, x, xv, hb, hj, y, yv, sh, lb, bk, lv, ac, h39, jv⟩ := R
  have hb2 := isb_e hb
  have hc6 := sh.2.1
  have k10 := g.1
  unfold l_X2_readFits_10
  refine forG 6 (fun j (a : Int32 × Mem) => a.1 = nI j ∧ (∀ q, q ≠ 40 → a.2 q = mx q) ∧ ∀ s, s < j → s < c → a.2 40 s = nI (2 ^ k - 1)) _ (fun j a hj6 ha => ?_) (fun a ha => ?_) FU 0 (0, mx) (Nat.zero_le _) ⟨rfl, fun _ _ => rfl, fun s hs => absurd hs (Nat.not_lt_zero _)⟩ (FU_lt (by omega))
  · obtain ⟨e1, ho, hs⟩ := ha
    have z6 : zin (nI j) 6 = true := zin_nI hj6 (by decide)
    unfold t_X2_readFits_10
    rw [e1]
    refine st_if (fun z => absurd z (nI_ge (b := 6) hj6 (by decide))) (fun _ => st_k hb (by rw [ho 39 (by decide)]; exact hj) ?_)
    rw [X0_hasShape_eq (by rw [ho b (by omega)]; exact lb.1) hc6, bind_s, if_bb]
    refine st_if (fun w => st_ck z6 (st_n (st_n (st_l ⟨nI_s1, fun q hq => by dsimp only; rw [rd_o hq]; exact ho q hq, fun s h1 h2 => ?_⟩)))) (fun w => st_ck z6 (st_n (st_n (st_l ⟨nI_s1, fun q hq => by dsimp only; rw [rd_o hq]; exact ho q hq, fun s h1 h2 => ?_⟩))))
    · dsimp only
      rw [ix_nI (n := j) (by omega)]
      by_cases e : s = j
      · rw [e, rd_s, ho 1 (by decide), x.1]
        exact sh_10 k k10
      · rw [rd_j e]; exact hs s (by omega) h2
    · dsimp only
      rw [ix_nI (n := j) (by omega)]
      by_cases e : s = j
      · rw [nI_toInt (by omega)] at w
        omega
      · rw [rd_j e]; exact hs s (by omega) h2
  · obtain ⟨e1, ho, hs⟩ := ha
    unfold t_X2_readFits_10
    rw [e1]
    exact ⟨_, if_pos (by decide), ho, fun s h => hs s (by omega) h⟩
theorem x_readFits {mx m0 : Mem} {k b c : Nat} {d N T P Z rk : Nat → Nat} {V W : Nat → Int32} (hX : RX m0 c k P Z d rk) (hK : ∀ n, n < k → EK m0 n (d n) k) (R : RC mx m0 k d N T V W b c P Z) (al : ∀ s, s < c → ALW mx m0 s (P s)) (r5 : ∀ s, s < c → rk s ≤ 5) (lev : ∀ s, s < c → mx (b + 6) s = nI (rk s)) (hf : mx 39 4 = 0) : ∃ m2, s_X2_readFits mx = some m2 ∧ (∀ q, q ≠ 39 → q ≠ 40 → q ≠ 43 → m2 q = mx q) ∧ (∀ j, j ≠ 4 → m2 39 j = mx 39 j) ∧ m2 39 4 = 1 ∧ GRD (img m2 m0) c k d Z rk ∧ NB m2 40 c k := by
  have hc6 := R.2.2.2.2.2.2.2.1.2.1
  have k10 := R.1.1
  unfold s_X2_readFits
  rw [if_pos hf]
  obtain ⟨m14, e14, o14, v14⟩ := x_init R
  rw [e14, bind_s]
  have hx14 : XJ mx m14 := fun q a _ _ => o14 q a
  have full : ∀ s n, s < c → n < k → img m14 m0 37 (10 * s + n) = 1 := fun s n hs hn => by
    rw [img_37 (by omega), v14 s hs, full_10 k k10 n (by omega), decide_eq_true hn, if_pos rfl]
  refine ex_b (Q := fun (m29 : Mem) => XJ mx m29 ∧ m29 41 = mx 41 ∧ GRD (img m29 m0) c k d Z rk ∧ NB m29 40 c k) ?_ (fun m29 h => ?_)
  · unfold l_X2_readFits_56
    refine forG 6 (fun r (a : Int32 × Mem) => a.1 = nI r ∧ XJ mx a.2 ∧ a.2 41 = mx 41 ∧ BS m14 a.2 ∧ (∀ s n, s < c → n < k → rk s < r → ¬ img a.2 m0 37 (10 * s + n) = 0 → canP (img a.2 m0) s n (d n) (Z s) 0) ∧ (∀ m1, RM m0 m1 → ∀ r1, r1 < r → (∀ t x, t < c → x < k → rk t < r1 → m1 37 (10 * t + x) = img a.2 m0 37 (10 * t + x)) → (∀ s n, s < c → n < k → rk s = r1 → ¬ m1 37 (10 * s + n) = 0 → canP m1 s n (d n) (Z s) 0) → ∀ s n, s < c → n < k → rk s = r1 → ¬ m1 37 (10 * s + n) = 0 → ¬ img a.2 m0 37 (10 * s + n) = 0) ∧ ∀ s n, s < c → n < k → r ≤ rk s → ¬ img a.2 m0 37 (10 * s + n) = 0) _ (fun r a hr ha => ?_) (fun a ha => ?_) FU 0 (0, m14) (Nat.zero_le _) ⟨rfl, hx14, o14 41 (by decide), fun _ _ _ q => q, fun s n _ _ h => absurd h (Nat.not_lt_zero _), fun _ _ r1 h => absurd h (Nat.not_lt_zero _), fun s n hs hn _ => by dsimp only; rw [full s n hs hn]; decide⟩ (FU_lt (by omega))
    · obtain ⟨e1, hx, h41, hbs, hp, hg, hfl⟩ := ha
      unfold t_X2_readFits_56
      rw [e1]
      refine st_if (fun z => absurd z (nI_ge (b := 6) hr (by decide))) (fun _ => st_b (x_rank hX hK R al (show r ≤ 6 by omega) lev hx) (fun m23 h23 => st_n (st_l ?_)))
      obtain ⟨q1, q2, qb, q3, q4, q5⟩ := h23
      have un : ∀ t x, t < c → ¬ rk t = r → x < 10 → img m23 m0 37 (10 * t + x) = img a.2 m0 37 (10 * t + x) := fun t x ht hrt hx => by
        by_cases e2 : img m23 m0 37 (10 * t + x) = img a.2 m0 37 (10 * t + x)
        · exact e2
        · obtain ⟨s2, x2, hs2, hr2, hx2, e3⟩ := q3 _ e2
          have : t = s2 := by omega
          subst this
          exact absurd hr2 hrt
      refine ⟨nI_s1, q1, q2.trans h41, fun s i hi h => hbs s i hi (qb s i hi h), fun s n hs hn hrk hne => ?_, fun m1 g1 r1 hr1 g2 g3 s n hs hn hrk hne => ?_, fun s n hs hn hrk => ?_⟩
      · dsimp only at hne ⊢
        by_cases e : rk s = r
        · exact q4 s n hs hn e hne
        · rw [un s n hs e (by omega)] at hne
          exact can_0 hX hK RM_img RM_img hs hn (fun t x ht hx hrt hne2 => by rw [un t x ht (by omega) (by omega)]; exact hne2) (fun t x ht hx hrt hne2 => by rw [un t x ht (by omega) (by omega)] at hne2; exact hne2) (hp s n hs hn (by omega) hne)
      · dsimp only at g2 ⊢
        by_cases e : r1 = r
        · subst e
          exact q5.1 m1 g1 (fun t x ht hx hrt => by rw [g2 t x ht hx hrt]; exact un t x ht (by omega) (by omega)) g3 (fun s n hs hn hrk _ => hfl s n hs hn (by omega)) s n hs hn hrk hne
        · rw [un s n hs (by omega) (by omega)]
          exact hg m1 g1 r1 (by omega) (fun t x ht hx hrt => by rw [g2 t x ht hx hrt]; exact un t x ht (by omega) (by omega)) g3 s n hs hn hrk hne
      · dsimp only
        rw [un s n hs (by omega) (by omega)]
        exact hfl s n hs hn (by omega)
    · obtain ⟨e1, hx, h41, hbs, hp, hg, hfl⟩ := ha
      unfold t_X2_readFits_56
      rw [e1]
      refine ⟨_, if_pos (by decide), hx, h41, ⟨img_BL, fun s n hs hn hne => hp s n hs hn (by have := r5 s hs; omega) hne, fun m1 g1 r g2 g3 s n hs hn hrk hne => hg m1 (RM_t RM_img g1) r (by have := r5 s hs; omega) g2 g3 s n hs hn hrk hne⟩, fun s hs i hi1 hi2 => ?_⟩
      cases q : bt (a.2 40 s) i
      · rfl
      · have := hbs s i hi2 q
        rw [v14 s hs, full_10 k k10 i hi2, decide_eq_false (by omega)] at this
        cases this
  · obtain ⟨h1, h2, h3, h4⟩ := h
    refine ex_n (ex_s ⟨fun q q9 q0 q3 => ?_, fun j hj => ?_, rd_s, ?_, fun s hs i hi1 hi2 => by rw [rd_o (by decide)]; exact h4 s hs i hi1 hi2⟩)
    · rw [rd_o q9]
      by_cases e : q = 41
      · rw [e]; exact h2
      · exact h1 q q0 e q3
    · rw [rd_j hj, h1 39 (by decide) (by decide) (by decide)]
    · have : img (sto m29 39 4 1) m0 = img m29 m0 := by
        unfold img
        rw [rd_o (by decide), rd_o (by decide)]
      rw [this]
      exact h3
