/-! the class's sure reading is the least -/
def DSv (m0 m : Mem) (c k : Nat) (d Z : Nat → Nat) (y : Int32) (a : Mem) : Prop := RM m0 a ∧ (y = 0 ∨ y = 1) ∧ a 37 = m 37 ∧ (y = 0 → ∀ b, b ≠ 40 → a b = m b) ∧ (¬ y = 0 → cnt (m 38) 60 < cnt (a 38) 60) ∧ SI m0 m c k d Z a
theorem DSv_add {m0 m A A2 : Mem} {c k s n : Nat} {P Z d rk : Nat → Nat} {y : Int32} (hX : RX m0 c k P Z d rk) (hK : ∀ n, n < k → EK m0 n (d n) k) (h : DSv m0 m c k d Z y A) (hs : s < c) (hn : n < k) (h0 : A 38 (10 * s + n) = 0) (hc : canP A s n (d n) (Z s) 1) (hM : RM m0 A2) (e37 : A2 37 = A 37) (e38 : A2 38 = upd (A 38) (10 * s + n) 1) : DSv m0 m c k d Z 1 A2 := by
  obtain ⟨hM2, hy2, h37, hu2, hl2, hg2⟩ := h
  have hk10 := hX.2.1
  have hc6 := hX.1.2.1
  refine ⟨hM, Or.inr rfl, e37.trans h37, fun z => absurd z (by decide), fun _ => ?_, fun m1 g1 g2 g3 g4 s2 n2 hs2 hn2 hne => ?_⟩
  · rw [e38]
    have h1 := cnt_gt (f := A 38) (j := 10 * s + n) h0 60 (by omega)
    have h2 : cnt (m 38) 60 ≤ cnt (A 38) 60 := by
      by_cases hy : y = 0
      · rw [hu2 hy 38 (by decide)]; exact Nat.le_refl _
      · exact Nat.le_of_lt (hl2 hy)
    exact Nat.lt_of_le_of_lt h2 h1
  · rw [e38] at hne
    by_cases e : 10 * s2 + n2 = 10 * s + n
    · have es : s2 = s := by omega
      have en : n2 = n := by omega
      subst es
      subst en
      refine g3 s2 n2 hs2 hn2 (can_1 hX hK hM2 g1 hs2 hn2 (fun t x ht hx _ hne2 => hg2 m1 g1 g2 g3 g4 t x ht hx hne2) (fun t x ht hx hne2 => ?_) hc)
      rw [h37, ← g2 t x ht hx]
      exact hne2
    · rw [pk_un e] at hne
      exact hg2 m1 g1 g2 g3 g4 s2 n2 hs2 hn2 hne
def BS1 (m a : Mem) (c k : Nat) : Prop := ∀ s, s < c → ∀ i, k ≤ i → i < 32 → bt (a 41 s) i = true → bt (m 41 s) i = true
theorem x_add {mx m0 : Mem} {k b c : Nat} {d N T P Z rk : Nat → Nat} {V W : Nat → Int32} (hX : RX m0 c k P Z d rk) (hK : ∀ n, n < k → EK m0 n (d n) k) (R : RC mx m0 k d N T V W b c P Z) (al : ∀ s, s < c → ALW mx m0 s (P s)) : ∃ q, s_X2_addSuiting mx = some q ∧ XJ mx q.2 ∧ q.2 40 = mx 40 ∧ BS1 mx q.2 c k ∧ DSv m0 (img mx m0) c k d Z q.1 (img q.2 m0) ∧ (q.1 = 0 → SCl (img mx m0) c k d Z) := by
  have R0 := R
  obtain ⟨g, x, xv, hb, hj, y, yv, sh, lb, bk, lv, ac, h39, jv⟩ := R
  have hb2 := isb_e hb
  have hk10 := g.1
  have hc6 := sh.2.1
  have h0b := lb.1
  unfold s_X2_addSuiting
  refine ex_2 (Q := fun (q : Int32 × Mem) => XJ mx q.2 ∧ q.2 40 = mx 40 ∧ BS1 mx q.2 c k ∧ DSv m0 (img mx m0) c k d Z q.1 (img q.2 m0) ∧ (q.1 = 0 → SCl (img mx m0) c k d Z)) ?_ (fun y25 m26 h => ex_ck h.2.2.2.1.2.1 (ex_s h))
  unfold l_X2_addSuiting_4
  refine forG c (fun s (a : Int32 × Int32 × Mem) => a.2.1 = nI s ∧ XJ mx a.2.2 ∧ a.2.2 40 = mx 40 ∧ BS1 mx a.2.2 c k ∧ DSv m0 (img mx m0) c k d Z a.1 (img a.2.2 m0) ∧ (a.1 = 0 → ∀ t n, t < s → n < k → canP (img mx m0) t n (d n) (Z t) 1 → ¬ img mx m0 38 (10 * t + n) = 0)) _ (fun s a hs ha => ?_) (fun a ha => ?_) FU 0 (0, 0, mx) (Nat.zero_le _) ⟨rfl, XJ_r, rfl, fun _ _ _ _ _ q => q, ⟨RM_img, Or.inl rfl, rfl, fun _ _ _ => rfl, fun z => absurd rfl z, fun m1 _ _ _ q => q⟩, fun _ t n ht => absurd ht (Nat.not_lt_zero t)⟩ (FU_lt (by omega))
  · obtain ⟨e1, hx, h40, hbs, hC, hp⟩ := ha
    have hx' : ∀ q, q < 40 → a.2.2 q = mx q := fun q hq => hx q (by omega) (by omega) (by omega)
    have hj2 : a.2.2 39 1 = nI b := by rw [hx' 39 (by decide)]; exact hj
    unfold t_X2_addSuiting_4
    rw [e1]
    refine st_k hb hj2 ?_
    rw [hx' b (by omega), h0b]
    refine st_if (fun z => absurd z (nI_ge hs (by omega))) (fun _ => st_2 (Q := fun (q : Int32 × Mem) => XJ mx q.2 ∧ q.2 40 = mx 40 ∧ BS1 mx q.2 c k ∧ DSv m0 (img mx m0) c k d Z q.1 (img q.2 m0) ∧ (q.1 = 0 → ∀ t n, t < s + 1 → n < k → canP (img mx m0) t n (d n) (Z t) 1 → ¬ img mx m0 38 (10 * t + n) = 0)) ?_ (fun y21 m22 h => st_n (st_l ⟨nI_s1, h⟩)))
    unfold l_X2_addSuiting_17
    have zs : zin (nI s) 6 = true := zin_nI (by omega) (by decide)
    refine forG k (fun n (a : Int32 × Int32 × Mem) => a.2.1 = nI n ∧ XJ mx a.2.2 ∧ a.2.2 40 = mx 40 ∧ BS1 mx a.2.2 c k ∧ DSv m0 (img mx m0) c k d Z a.1 (img a.2.2 m0) ∧ (a.1 = 0 → ∀ t q, (t < s ∧ q < k) ∨ (t = s ∧ q < n) → canP (img mx m0) t q (d q) (Z t) 1 → ¬ img mx m0 38 (10 * t + q) = 0)) _ (fun n a hn ha => ?_) (fun a ha => ?_) FU 0 (a.1, 0, a.2.2) (Nat.zero_le _) ⟨rfl, hx, h40, hbs, hC, fun hy t q ht => by rcases ht with ⟨h1, h2⟩ | ⟨h1, h2⟩; exact hp hy t q h1 h2; exact absurd h2 (Nat.not_lt_zero q)⟩ (FU_lt (by omega))
    · obtain ⟨e2, hx2, h402, hbs2, hC2, hp2⟩ := ha
      have hx2' : ∀ q, q < 40 → a.2.2 q = mx q := fun q hq => hx2 q (by omega) (by omega) (by omega)
      have R2 := RC_x R0 hx2
      have hu2 := hC2.2.2.2.1
      unfold t_X2_addSuiting_17
      rw [e2, hx2' 1 (by decide), x.1, ix_nI (n := s) (by omega)]
      have i38 : img a.2.2 m0 38 (10 * s + n) = if bt (a.2.2 41 s) n = true then 1 else 0 := img_38 (by omega)
      refine st_if (fun z => absurd z (nI_ge hn (by omega))) (fun _ => st_ck zs (st_if (fun h0 => ?_) (fun h0 => st_n (st_l ⟨nI_s1, hx2, h402, hbs2, hC2, fun hy t q ht hcan => ?_⟩))))
      rotate_left
      · rcases ht with ht | ⟨h1, h2⟩
        · exact hp2 hy t q (Or.inl ht) hcan
        · by_cases e : q = n
          · subst e; subst h1
            rw [← hu2 hy 38 (by decide), i38]
            cases z : bt (a.2.2 41 t) q
            · exact absurd ((bit_0 (by omega)).mpr z) h0
            · decide
          · exact hp2 hy t q (Or.inr ⟨h1, by omega⟩) hcan
      · have hbt := (bit_0 (i := n) (by omega)).mp h0
        refine st_2 (suits_eq (sv := 1) R2 hs hn (Or.inr ⟨rfl, rfl⟩) (ALW_x (al s hs) hx2)) (fun r11 m12 hq => ?_)
        obtain ⟨q1, q2, q3⟩ := hq
        dsimp only at q1 q2 q3
        have i12 : img m12 m0 = img a.2.2 m0 := img_43 q3
        have hx3 : XJ mx m12 := XJ_t hx2 (fun q _ _ c => q3 q c)
        have h40b : m12 40 = mx 40 := by rw [q3 40 (by decide)]; exact h402
        refine st_if (fun hz => st_n (st_l ⟨nI_s1, hx3, h40b, fun t ht i hi1 hi2 hb1 => hbs2 t ht i hi1 hi2 (by dsimp only at hb1; rw [q3 41 (by decide)] at hb1; exact hb1), by rw [i12]; exact hC2, fun hy t q ht hcan => ?_⟩)) (fun hz => st_ck zs (st_ck zs (st_n (st_n (st_l ⟨nI_s1, fun q qa qb qc => ?_, ?_, fun t ht i hi1 hi2 hb1 => ?_, ?_, fun z => absurd z (show ¬ (1 : Int32) = 0 from by decide)⟩)))))
        · rcases ht with ht | ⟨h1, h2⟩
          · exact hp2 hy t q (Or.inl ht) hcan
          · by_cases e : q = n
            · subst e; subst h1
              rw [← canP_c (hu2 hy)] at hcan
              exact absurd hz (q2.mpr hcan)
            · exact hp2 hy t q (Or.inr ⟨h1, by omega⟩) hcan
        · dsimp only; rw [rd_o qb]; exact hx3 q qa qb qc
        · dsimp only; rw [rd_o (by decide)]; exact h40b
        · dsimp only at hb1
          by_cases e : t = s
          · rw [e] at hb1 ⊢
            rw [rd_s, set_b (by omega) i hi2, Bool.or_eq_true, decide_eq_true_iff, q3 41 (by decide)] at hb1
            rcases hb1 with hb1 | hb1
            · exact hbs2 s hs i hi1 hi2 hb1
            · omega
          · rw [rd_j e, q3 41 (by decide)] at hb1
            exact hbs2 t ht i hi1 hi2 hb1
        · dsimp only
          rw [img_set (by omega), i12]
          exact DSv_add hX hK hC2 hs hn (by rw [i38, hbt]; rfl) (q2.mp hz) ⟨fun b b1 b2 b3 => by rw [rd_o b2]; exact img_o b1 b2, BL_set img_BL (Or.inr rfl)⟩ (rd_o (by decide)) (by rw [sto_same])
    · obtain ⟨e2, hx2, h402, hbs2, hC2, hp2⟩ := ha
      unfold t_X2_addSuiting_17
      rw [e2, hx2 1 (by decide) (by decide) (by decide), x.1]
      refine ⟨_, if_pos (nI_le (Nat.le_refl _) (by omega)), hx2, h402, hbs2, hC2, fun hy t q ht hxk hcan => hp2 hy t q ?_ hcan⟩
      by_cases e : t = s
      · exact Or.inr ⟨e, hxk⟩
      · exact Or.inl ⟨by omega, hxk⟩
  · obtain ⟨e1, hx, h40, hbs, hC, hp⟩ := ha
    unfold t_X2_addSuiting_4
    rw [e1, zbk_i hb (by rw [hx 39 (by decide) (by decide) (by decide)]; exact hj), hx b (by omega) (by omega) (by omega), h0b]
    exact ⟨_, if_pos (nI_le (Nat.le_refl _) (by omega)), hx, h40, hbs, hC, hp⟩
theorem x_readSure {mx m0 : Mem} {k b c : Nat} {d N T P Z rk : Nat → Nat} {V W : Nat → Int32} (hX : RX m0 c k P Z d rk) (hK : ∀ n, n < k → EK m0 n (d n) k) (R : RC mx m0 k d N T V W b c P Z) (al : ∀ s, s < c → ALW mx m0 s (P s)) (hf : mx 39 5 = 0) : ∃ m2, s_X2_readSure mx = some m2 ∧ (∀ q, q ≠ 39 → q ≠ 41 → q ≠ 43 → m2 q = mx q) ∧ (∀ j, j ≠ 5 → m2 39 j = mx 39 j) ∧ m2 39 5 = 1 ∧ SRD (img m2 m0) c k d Z ∧ NB m2 41 c k := by
  have hc6 := R.2.2.2.2.2.2.2.1.2.1
  have k10 := R.1.1
  unfold s_X2_readSure
  rw [if_pos hf]
  refine ex_b (Q := fun (m7 : Mem) => (∀ a, a ≠ 41 → m7 a = mx a) ∧ ∀ s, s < 6 → m7 41 s = 0) ?_ (fun m7 h7 => ?_)
  · unfold l_X2_readSure_10
    refine forG 6 (fun j (a : Int32 × Mem) => a.1 = nI j ∧ (∀ q, q ≠ 41 → a.2 q = mx q) ∧ ∀ s, s < j → a.2 41 s = 0) _ (fun j a hj6 ha => ?_) (fun a ha => ?_) FU 0 (0, mx) (Nat.zero_le _) ⟨rfl, fun _ _ => rfl, fun s hs => absurd hs (Nat.not_lt_zero _)⟩ (FU_lt (by omega))
    · obtain ⟨e1, ho, hs⟩ := ha
      unfold t_X2_readSure_10
      rw [e1]
      refine st_if (fun z => absurd z (nI_ge (b := 6) hj6 (by decide))) (fun _ => st_ck (zin_nI hj6 (by decide)) (st_n (st_n (st_l ⟨nI_s1, fun q hq => by dsimp only; rw [rd_o hq]; exact ho q hq, fun s h1 => ?_⟩))))
      dsimp only
      rw [ix_nI (n := j) (by omega)]
      by_cases e : s = j
      · rw [e, rd_s]
      · rw [rd_j e]; exact hs s (by omega)
    · obtain ⟨e1, ho, hs⟩ := ha
      unfold t_X2_readSure_10
      rw [e1]
      exact ⟨_, if_pos (by decide), ho, hs⟩
  obtain ⟨o7, v7⟩ := h7
  have hx7 : XJ mx m7 := fun q _ a _ => o7 q a
  refine ex_b (Q := fun (m17 : Mem) => XJ mx m17 ∧ m17 40 = mx 40 ∧ SRD (img m17 m0) c k d Z ∧ NB m17 41 c k) ?_ (fun m17 h => ?_)
  · unfold l_X2_readSure_33
    refine zlp_run (fun (a : Int32 × Int32 × Mem) => (a.1 = 0 ∨ a.1 = 1) ∧ (∃ t, a.2.1 = nI t ∧ t ≤ 61 ∧ (¬ a.1 = 0 → t ≤ cnt (img a.2.2 m0 38) 60)) ∧ XJ mx a.2.2 ∧ a.2.2 40 = mx 40 ∧ BS1 m7 a.2.2 c k ∧ SI m0 (img m7 m0) c k d Z (img a.2.2 m0) ∧ (a.1 = 0 → SCl (img a.2.2 m0) c k d Z)) _ (fun a => 2 * (60 - cnt (img a.2.2 m0 38) 60) + if a.1 = 0 then 0 else 1) (fun a ha => ?_) FU (1, 0, m7) ⟨Or.inr rfl, ⟨0, rfl, by omega, fun _ => Nat.zero_le _⟩, hx7, o7 40 (by decide), fun _ _ _ _ _ q => q, fun m1 _ _ _ q => q, fun z => absurd z (show ¬ (1 : Int32) = 0 from by decide)⟩ ?_
    · obtain ⟨h01, ⟨t, et, ht, hcn⟩, hx, h40, hbs, hg, hp⟩ := ha
      unfold t_X2_readSure_33
      by_cases h0 : a.1 = 0
      · rw [if_pos h0]
        refine Or.inl ⟨_, rfl, hx, h40, ⟨hp h0, fun m1 g1 g2 g3 s n hs hn hne => hg m1 (RM_t RM_img g1) (fun t x ht2 hx2 => ?_) g3 (fun s n hs hn hne2 => ?_) s n hs hn hne⟩, fun s hs i hi1 hi2 => ?_⟩
        · rw [g2 t x ht2 hx2]
          rw [img_37 (by omega), img_37 (by omega), h40, o7 40 (by decide)]
        · rw [img_38 (by omega), v7 s (by omega), b_0] at hne2
          exact absurd rfl hne2
        · cases q : bt (a.2.2 41 s) i
          · rfl
          · have := hbs s hs i hi1 hi2 q
            rw [v7 s (by omega), b_0] at this
            cases this
      · have hcn := hcn h0
        have R2 := RC_x R hx
        obtain ⟨⟨r12, m13⟩, e, q1, q2, qb, ⟨d1, d2, d3, d4, d5, d6⟩, q6⟩ := x_add hX hK R2 (fun s hs => ALW_x (al s hs) hx)
        dsimp only at q1 q2 qb d1 d2 d3 d4 d5 d6 q6
        have l1 := cnt_le (f := img m13 m0 38) 60
        have l2 := cnt_le (f := img a.2.2 m0 38) 60
        rw [if_neg h0, et, if_neg (show ¬ (60 : Int32) < nI t from nI_nlt (a := 60) (show t ≤ 60 by omega) (by decide)), e]
        refine Or.inr ⟨(r12, nI (t + 1), m13), by rw [zb2_s]; show some (Sum.inl (r12, nI t + 1, m13)) = _; rw [nI_s1], ⟨d2, ⟨t + 1, rfl, by omega, fun hz => by have := d5 hz; dsimp only; omega⟩, XJ_t hx q1, q2.trans h40, fun s hs i hi1 hi2 h => hbs s hs i hi1 hi2 (qb s hs i hi1 hi2 h), fun m1 g1 g2 g3 g4 => d6 m1 g1 (fun t x ht hx => ?_) g3 (hg m1 g1 g2 g3 g4), fun hz s n hs hn hcan => ?_⟩, ?_⟩
        · rw [g2 t x ht hx]
          rw [img_37 (by omega), img_37 (by omega), h40, o7 40 (by decide)]
        · have e40 := d4 hz
          dsimp only at hcan ⊢
          rw [canP_c e40] at hcan
          rw [e40 38 (by decide)]
          exact q6 hz s n hs hn hcan
        · dsimp only
          by_cases hz : r12 = 0
          · rw [if_pos hz, if_neg h0, d4 hz 38 (by decide)]
            omega
          · have := d5 hz
            rw [if_neg hz, if_neg h0]
            omega
    · have hF : FU = 1000000 := rfl
      dsimp only
      rw [if_neg (show ¬ (1 : Int32) = 0 from by decide)]
      omega
  · obtain ⟨h1, h2, h3, h4⟩ := h
    refine ex_n (ex_s ⟨fun q q9 q0 q3 => ?_, fun j hj => ?_, rd_s, ?_, fun s hs i hi1 hi2 => by rw [rd_o (by decide)]; exact h4 s hs i hi1 hi2⟩)
    · rw [rd_o q9]
      by_cases e : q = 40
      · rw [e]; exact h2
      · exact h1 q e q0 q3
    · rw [rd_j hj, h1 39 (by decide) (by decide) (by decide)]
    · have : img (sto m17 39 5 1) m0 = img m17 m0 := by
        unfold img
        rw [rd_o (by decide), rd_o (by decide)]
      rw [this]
      exact h3
