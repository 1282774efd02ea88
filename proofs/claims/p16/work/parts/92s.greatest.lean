/-! the class's reading is the greatest, wherever its suits is the reference's -/
def RGQ (mx m0 : Mem) (k : Nat) (d N T : Nat → Nat) (b c : Nat) (P Z : Nat → Nat) : Prop := GG k d N T ∧ (mx 1 0 = nI k ∧ True) ∧ True ∧ isb b ∧ mx 39 1 = nI b ∧ True ∧ True ∧ SH m0 c P Z ∧ (mx b 0 = nI c ∧ True) ∧ True ∧ True ∧ True ∧ True ∧ ∀ m2, XJ mx m2 → ∀ s n, s < c → n < k → ∃ q, s_X2_suits m2 (nI n) (nI s) 40 = some q ∧ (q.1 = 0 ∨ q.1 = 1) ∧ (¬ q.1 = 0 ↔ canP (img m2 m0) s n (d n) (Z s) 0) ∧ ∀ a, a ≠ 43 → q.2 a = m2 a
theorem RGQ_x {mx mm m2 : Mem} {k b c : Nat} {d N T P Z : Nat → Nat} (R : RGQ mx mm k d N T b c P Z) (h : XJ mx m2) : RGQ m2 mm k d N T b c P Z := by
  obtain ⟨g, x, xv, hb, hj, y, yv, sh, lb, bk, lv, ac, h39, su⟩ := R
  have hb2 := isb_e hb
  exact ⟨g, ⟨by rw [h 1 (by decide) (by decide) (by decide)]; exact x.1, trivial⟩, xv, hb, by rw [h 39 (by decide) (by decide) (by decide)]; exact hj, y, yv, sh, ⟨by rw [h b (by omega) (by omega) (by omega)]; exact lb.1, trivial⟩, bk, lv, ac, h39, fun m3 h3 => su m3 (XJ_t h h3)⟩
theorem x_dropQ {mx m0 : Mem} {k b c r : Nat} {d N T P Z rk : Nat → Nat} (hX : RX m0 c k P Z d rk) (hK : ∀ n, n < k → EK m0 n (d n) k) (R : RGQ mx m0 k d N T b c P Z) (hr : r ≤ 6) (lev : ∀ s, s < c → mx (b + 6) s = nI (rk s)) : ∃ q, s_X2_dropUnfit mx (nI r) = some q ∧ XJ mx q.2 ∧ q.2 41 = mx 41 ∧ BS mx q.2 ∧ D0 m0 (img mx m0) c k r d Z rk q.1 (img q.2 m0) ∧ (q.1 = 0 → ∀ s n, s < c → n < k → rk s = r → ¬ img mx m0 37 (10 * s + n) = 0 → canP (img mx m0) s n (d n) (Z s) 0) := by
  have R0 := R
  obtain ⟨g, x, xv, hb, hj, y, yv, sh, lb, bk, lv, ac, h39, jv⟩ := R
  have hb2 := isb_e hb
  have hk10 := g.1
  have hc6 := sh.2.1
  have h0b := lb.1
  unfold s_X2_dropUnfit
  refine ex_2 (Q := fun (q : Int32 × Mem) => XJ mx q.2 ∧ q.2 41 = mx 41 ∧ BS mx q.2 ∧ D0 m0 (img mx m0) c k r d Z rk q.1 (img q.2 m0) ∧ (q.1 = 0 → ∀ s n, s < c → n < k → rk s = r → ¬ img mx m0 37 (10 * s + n) = 0 → canP (img mx m0) s n (d n) (Z s) 0)) ?_ (fun y28 m29 h => ex_ck h.2.2.2.1.2.1 (ex_s h))
  unfold l_X2_dropUnfit_4
  refine forG c (fun s (a : Int32 × Int32 × Mem) => a.2.1 = nI s ∧ XJ mx a.2.2 ∧ a.2.2 41 = mx 41 ∧ BS mx a.2.2 ∧ D0 m0 (img mx m0) c k r d Z rk a.1 (img a.2.2 m0) ∧ (a.1 = 0 → ∀ t n, t < s → n < k → rk t = r → ¬ img mx m0 37 (10 * t + n) = 0 → canP (img mx m0) t n (d n) (Z t) 0)) _ (fun s a hs ha => ?_) (fun a ha => ?_) FU 0 (0, 0, mx) (Nat.zero_le _) ⟨rfl, XJ_r, rfl, fun _ _ _ q => q, ⟨RM_img, Or.inl rfl, fun _ _ _ => rfl, fun z => absurd rfl z, fun j z => absurd rfl z, fun m1 _ _ _ q => q, fun _ q => q⟩, fun _ t n ht => absurd ht (Nat.not_lt_zero t)⟩ (FU_lt (by omega))
  · obtain ⟨e1, hx, h41, hbs, hC, hp⟩ := ha
    have hx' : ∀ q, q < 40 → a.2.2 q = mx q := fun q hq => hx q (by omega) (by omega) (by omega)
    have hj2 : a.2.2 39 1 = nI b := by rw [hx' 39 (by decide)]; exact hj
    unfold t_X2_dropUnfit_4
    rw [e1]
    refine st_k hb hj2 ?_
    rw [hx' b (by omega), h0b]
    refine st_if (fun z => absurd z (nI_ge hs (by omega))) (fun _ => st_2 (Q := fun (q : Int32 × Mem) => XJ mx q.2 ∧ q.2 41 = mx 41 ∧ BS mx q.2 ∧ D0 m0 (img mx m0) c k r d Z rk q.1 (img q.2 m0) ∧ (q.1 = 0 → ∀ t n, t < s + 1 → n < k → rk t = r → ¬ img mx m0 37 (10 * t + n) = 0 → canP (img mx m0) t n (d n) (Z t) 0)) ?_ (fun y24 m25 h => st_n (st_l ⟨nI_s1, h⟩)))
    unfold l_X2_dropUnfit_18
    have zs : zin (nI s) 6 = true := zin_nI (by omega) (by decide)
    have hr6 := (hX.2.2.2.2.1 s hs).2
    refine forG k (fun n (a : Int32 × Int32 × Mem) => a.2.1 = nI n ∧ XJ mx a.2.2 ∧ a.2.2 41 = mx 41 ∧ BS mx a.2.2 ∧ D0 m0 (img mx m0) c k r d Z rk a.1 (img a.2.2 m0) ∧ (a.1 = 0 → ∀ t q, (t < s ∧ q < k) ∨ (t = s ∧ q < n) → rk t = r → ¬ img mx m0 37 (10 * t + q) = 0 → canP (img mx m0) t q (d q) (Z t) 0)) _ (fun n a hn ha => ?_) (fun a ha => ?_) FU 0 (a.1, 0, a.2.2) (Nat.zero_le _) ⟨rfl, hx, h41, hbs, hC, fun hy t q ht => by rcases ht with ⟨h1, h2⟩ | ⟨h1, h2⟩; exact hp hy t q h1 h2; exact absurd h2 (Nat.not_lt_zero q)⟩ (FU_lt (by omega))
    · obtain ⟨e2, hx2, h412, hbs2, hC2, hp2⟩ := ha
      have hx2' : ∀ q, q < 40 → a.2.2 q = mx q := fun q hq => hx2 q (by omega) (by omega) (by omega)
      have hj3 : a.2.2 39 1 = nI b := by rw [hx2' 39 (by decide)]; exact hj
      have R2 := RGQ_x R0 hx2
      have hu2 := hC2.2.2.1
      unfold t_X2_dropUnfit_18
      rw [e2, hx2' 1 (by decide), x.1]
      refine st_if (fun z => absurd z (nI_ge hn (by omega))) (fun _ => st_k hb hj3 (st_ck zs ?_))
      rw [hx2' (b + 6) (by omega), ix_nI (n := s) (by omega), lev s hs]
      refine st_if (fun hrk => st_ck zs ?_) (fun hrk => ?_)
      · have hrk : rk s = r := (nI_eq (by omega) (by omega)).mp hrk
        have i37 : img a.2.2 m0 37 (10 * s + n) = if bt (a.2.2 40 s) n = true then 1 else 0 := img_37 (by omega)
        refine st_if (fun h0 => st_n (st_l ⟨nI_s1, hx2, h412, hbs2, hC2, fun hy t q ht hrt hne => ?_⟩)) (fun h0 => ?_)
        · rcases ht with ht | ⟨h1, h2⟩
          · exact hp2 hy t q (Or.inl ht) hrt hne
          · by_cases e : q = n
            · subst e; subst h1
              rw [← hu2 hy 37 (by decide), i37, (bit_0 (by omega)).mp h0] at hne
              exact absurd rfl hne
            · exact hp2 hy t q (Or.inr ⟨h1, by omega⟩) hrt hne
        · have hbt : bt (a.2.2 40 s) n = true := by
            cases q : bt (a.2.2 40 s) n
            · exact absurd ((bit_0 (by omega)).mpr q) h0
            · rfl
          refine st_2 (R2.2.2.2.2.2.2.2.2.2.2.2.2.2 _ XJ_r s n hs hn) (fun r13 m14 hq => ?_)
          obtain ⟨q1, q2, q3⟩ := hq
          dsimp only at q1 q2 q3
          have i14 : img m14 m0 = img a.2.2 m0 := img_43 q3
          have hx3 : XJ mx m14 := XJ_t hx2 (fun q _ _ c => q3 q c)
          have h41b : m14 41 = mx 41 := by rw [q3 41 (by decide)]; exact h412
          refine st_if (fun hz => st_ck zs (st_ck zs (st_n (st_n (st_l ⟨nI_s1, fun q qa qb qc => ?_, ?_, fun t i hi hb1 => ?_, ?_, fun z => absurd z (show ¬ (1 : Int32) = 0 from by decide)⟩))))) (fun hz => st_n (st_l ⟨nI_s1, hx3, h41b, fun t i hi hb1 => hbs2 t i hi (by dsimp only at hb1; rw [q3 40 (by decide)] at hb1; exact hb1), by rw [i14]; exact hC2, fun hy t q ht hrt hne => ?_⟩))
          · dsimp only; rw [rd_o qa]; exact hx3 q qa qb qc
          · dsimp only; rw [rd_o (by decide)]; exact h41b
          · dsimp only at hb1
            by_cases e : t = s
            · rw [e] at hb1 ⊢
              rw [rd_s, b_and, Bool.and_eq_true, q3 40 (by decide)] at hb1
              exact hbs2 s i hi hb1.1
            · rw [rd_j e, q3 40 (by decide)] at hb1
              exact hbs2 t i hi hb1
          · dsimp only
            rw [img_clr (by omega), i14]
            refine D0_rm hX hK hC2 hs hn hrk (by rw [i37, if_pos hbt]; decide) (fun z => q2.mpr z hz) ⟨fun b b1 b2 b3 => by rw [rd_o b1]; exact img_o b1 b2, BL_set img_BL (Or.inl rfl)⟩ (by rw [sto_same]) (fun j hj => by rw [rd_o (by decide)]; exact hj)
          · rcases ht with ht | ⟨h1, h2⟩
            · exact hp2 hy t q (Or.inl ht) hrt hne
            · by_cases e : q = n
              · subst e; subst h1
                have := q2.mp hz
                rw [canP_c (hu2 hy)] at this
                exact this
              · exact hp2 hy t q (Or.inr ⟨h1, by omega⟩) hrt hne
      · have hrk : ¬ rk s = r := fun z => hrk (by rw [z])
        refine st_r ⟨hx2, h412, hbs2, hC2, fun hy t q ht hxk hrt hne => ?_⟩
        by_cases e : t = s
        · subst e; exact absurd hrt hrk
        · exact hp2 hy t q (Or.inl ⟨by omega, hxk⟩) hrt hne
    · obtain ⟨e2, hx2, h412, hbs2, hC2, hp2⟩ := ha
      unfold t_X2_dropUnfit_18
      rw [e2, hx2 1 (by decide) (by decide) (by decide), x.1]
      refine ⟨_, if_pos (nI_le (Nat.le_refl _) (by omega)), hx2, h412, hbs2, hC2, fun hy t q ht hxk hrt hne => hp2 hy t q ?_ hrt hne⟩
      by_cases e : t = s
      · exact Or.inr ⟨e, hxk⟩
      · exact Or.inl ⟨by omega, hxk⟩
  · obtain ⟨e1, hx, h41, hbs, hC, hp⟩ := ha
    unfold t_X2_dropUnfit_4
    rw [e1, zbk_i hb (by rw [hx 39 (by decide) (by decide) (by decide)]; exact hj), hx b (by omega) (by omega) (by omega), h0b]
    exact ⟨_, if_pos (nI_le (Nat.le_refl _) (by omega)), hx, h41, hbs, hC, hp⟩
theorem x_rankQ {mx m0 m : Mem} {k b c r : Nat} {d N T P Z rk : Nat → Nat} (hX : RX m0 c k P Z d rk) (hK : ∀ n, n < k → EK m0 n (d n) k) (R : RGQ mx m0 k d N T b c P Z) (hr : r ≤ 6) (lev : ∀ s, s < c → mx (b + 6) s = nI (rk s)) (hx : XJ mx m) : ∃ m2, l_X2_readFits_66 (nI r) FU 1 0 m = some m2 ∧ XJ mx m2 ∧ m2 41 = m 41 ∧ BS m m2 ∧ (∀ j, img m2 m0 37 j ≠ img m m0 37 j → ∃ s x, s < c ∧ rk s = r ∧ x < 10 ∧ j = 10 * s + x) ∧ (∀ s n, s < c → n < k → rk s = r → ¬ img m2 m0 37 (10 * s + n) = 0 → canP (img m2 m0) s n (d n) (Z s) 0) ∧ GIv m0 (img m m0) c k r d Z rk (img m2 m0) := by
  have hb2 := isb_e R.2.2.2.1
  unfold l_X2_readFits_66
  refine zlp_run (fun (a : Int32 × Int32 × Mem) => (a.1 = 0 ∨ a.1 = 1) ∧ (∃ t, a.2.1 = nI t ∧ t ≤ 61 ∧ (¬ a.1 = 0 → cnt (img a.2.2 m0 37) 60 + t ≤ 60)) ∧ XJ mx a.2.2 ∧ a.2.2 41 = m 41 ∧ BS m a.2.2 ∧ (∀ j, img a.2.2 m0 37 j ≠ img m m0 37 j → ∃ s x, s < c ∧ rk s = r ∧ x < 10 ∧ j = 10 * s + x) ∧ (a.1 = 0 → ∀ s n, s < c → n < k → rk s = r → ¬ img a.2.2 m0 37 (10 * s + n) = 0 → canP (img a.2.2 m0) s n (d n) (Z s) 0) ∧ GIv m0 (img m m0) c k r d Z rk (img a.2.2 m0)) _ (fun a => 2 * cnt (img a.2.2 m0 37) 60 + if a.1 = 0 then 0 else 1) (fun a ha => ?_) FU (1, 0, m) ⟨Or.inr rfl, ⟨0, rfl, by omega, fun _ => by have := cnt_le (f := img m m0 37) 60; dsimp only; omega⟩, hx, rfl, fun _ _ _ q => q, fun j z => absurd rfl z, fun z => absurd z (show ¬ (1 : Int32) = 0 from by decide), fun m1 _ _ _ q => q, fun _ q => q⟩ ?_
  · obtain ⟨h01, ⟨t, et, ht, hcn⟩, hx2, h41, hbs, hj, hp, hg⟩ := ha
    unfold t_X2_readFits_66
    by_cases h0 : a.1 = 0
    · rw [if_pos h0]
      exact Or.inl ⟨_, rfl, hx2, h41, hbs, hj, hp h0, hg⟩
    · have hcn := hcn h0
      have R2 := RGQ_x R hx2
      obtain ⟨⟨r21, m22⟩, e, q1, q2, qb, ⟨d1, d2, d3, d4, d5, d6⟩, q6⟩ := x_dropQ hX hK R2 hr (fun s hs => by rw [hx2 (b + 6) (by omega) (by omega) (by omega)]; exact lev s hs)
      dsimp only at q1 q2 qb d1 d2 d3 d4 d5 d6 q6
      rw [if_neg h0, et, if_neg (show ¬ (60 : Int32) < nI t from nI_nlt (a := 60) (show t ≤ 60 by omega) (by decide)), e]
      refine Or.inr ⟨(r21, nI (t + 1), m22), by rw [zb2_s]; show some (Sum.inl (r21, nI t + 1, m22)) = _; rw [nI_s1], ⟨d2, ⟨t + 1, rfl, by omega, fun hz => by have := d4 hz; dsimp only; omega⟩, XJ_t hx2 q1, q2.trans h41, fun s i hi h => hbs s i hi (qb s i hi h), fun j hne => ?_, fun hz s n hs hn hrk hne => ?_, fun m1 g1 g2 g3 g4 => d6.1 m1 g1 (fun t x ht hx hr => ?_) g3 (hg.1 m1 g1 g2 g3 g4), fun j hj2 => d6.2 j (hg.2 j hj2)⟩, ?_⟩
      · by_cases e2 : img m22 m0 37 j = img a.2.2 m0 37 j
        · exact hj j (by rw [← e2]; exact hne)
        · exact d5 j e2
      · have e40 := d3 hz
        dsimp only at hne ⊢
        rw [canP_c e40]
        rw [e40 37 (by decide)] at hne
        exact q6 hz s n hs hn hrk hne
      · rw [g2 t x ht hx hr]
        by_cases q : img a.2.2 m0 37 (10 * t + x) = img m m0 37 (10 * t + x)
        · exact q.symm
        · obtain ⟨s3, x3, w1, w2, w3, w4⟩ := hj _ q
          have hk10 := hX.2.1
          have : t = s3 := by omega
          subst this
          omega
      · dsimp only
        by_cases hz : r21 = 0
        · rw [if_pos hz, if_neg h0, d3 hz 37 (by decide)]
          omega
        · have := d4 hz
          rw [if_neg hz, if_neg h0]
          omega
  · have := cnt_le (f := img m m0 37) 60
    have hF : FU = 1000000 := rfl
    dsimp only
    rw [if_neg (show ¬ (1 : Int32) = 0 from by decide)]
    omega
theorem x_initQ {mx mm : Mem} {k b c : Nat} {d N T P Z : Nat → Nat} (R : RGQ mx mm k d N T b c P Z) : ∃ m2, l_X2_readFits_10 FU 0 mx = some m2 ∧ (∀ a, a ≠ 40 → m2 a = mx a) ∧ ∀ s, s < c → m2 40 s = nI (2 ^ k - 1) := by
  obtain ⟨g, x, xv, hb, hj, y, yv, sh, lb, bk, lv, ac, h39, jv⟩ := R
  have hb2 := isb_e hb
  have hc6 := sh.2.1
  have k10 := g.1
  unfold l_X2_readFits_10
  refine forG 6 (fun j (a : Int32 × Mem) => a.1 = nI j ∧ (∀ q, q ≠ 40 → a.2 q = mx q) ∧ ∀ s, s < j → s < c → a.2 40 s = nI (2 ^ k - 1)) _ (fun j a hj6 ha => ?_) (fun a ha => ?_) FU 0 (0, mx) (Nat.zero_le _) ⟨rfl, fun _ _ => rfl, fun s hs => absurd hs (Nat.not_lt_zero _)⟩ (FU_lt (by omega))
  · obtain ⟨e1, ho, hs⟩ := ha
    have z6 : zin (nI j) 6 = true := zin_nI hj6 (by decide)
    unfold t_X2_readFits_10
    rw [e1]
    refine st_if (fun z => absurd z (nI_ge (b := 6) hj6 (by decide))) (fun _ => st_k hb (by rw [ho 39 (by decide)]; exact hj) ?_)
    rw [X0_hasShape_eq (by rw [ho b (by omega)]; exact lb.1) hc6, bind_s, if_bb]
    refine st_if (fun w => st_ck z6 (st_n (st_n (st_l ⟨nI_s1, fun q hq => by dsimp only; rw [rd_o hq]; exact ho q hq, fun s h1 h2 => ?_⟩)))) (fun w => st_ck z6 (st_n (st_n (st_l ⟨nI_s1, fun q hq => by dsimp only; rw [rd_o hq]; exact ho q hq, fun s h1 h2 => ?_⟩))))
    · dsimp only
      rw [ix_nI (n := j) (by omega)]
      by_cases e : s = j
      · rw [e, rd_s, ho 1 (by decide), x.1]
        exact sh_10 k k10
      · rw [rd_j e]; exact hs s (by omega) h2
    · dsimp only
      rw [ix_nI (n := j) (by omega)]
      by_cases e : s = j
      · rw [nI_toInt (by omega)] at w
        omega
      · rw [rd_j e]; exact hs s (by omega) h2
  · obtain ⟨e1, ho, hs⟩ := ha
    unfold t_X2_readFits_10
    rw [e1]
    exact ⟨_, if_pos (by decide), ho, fun s h => hs s (by omega) h⟩
theorem x_readFitsQ {mx m0 : Mem} {k b c : Nat} {d N T P Z rk : Nat → Nat} (hX : RX m0 c k P Z d rk) (hK : ∀ n, n < k → EK m0 n (d n) k) (R : RGQ mx m0 k d N T b c P Z) (r5 : ∀ s, s < c → rk s ≤ 5) (lev : ∀ s, s < c → mx (b + 6) s = nI (rk s)) (hf : mx 39 4 = 0) : ∃ m2, s_X2_readFits mx = some m2 ∧ (∀ q, q ≠ 39 → q ≠ 40 → q ≠ 43 → m2 q = mx q) ∧ (∀ j, j ≠ 4 → m2 39 j = mx 39 j) ∧ m2 39 4 = 1 ∧ GRD (img m2 m0) c k d Z rk ∧ NB m2 40 c k := by
  have hc6 := R.2.2.2.2.2.2.2.1.2.1
  have k10 := R.1.1
  unfold s_X2_readFits
  rw [if_pos hf]
  obtain ⟨m14, e14, o14, v14⟩ := x_initQ R
  rw [e14, bind_s]
  have hx14 : XJ mx m14 := fun q a _ _ => o14 q a
  have full : ∀ s n, s < c → n < k → img m14 m0 37 (10 * s + n) = 1 := fun s n hs hn => by
    rw [img_37 (by omega), v14 s hs, full_10 k k10 n (by omega), decide_eq_true hn, if_pos rfl]
  refine ex_b (Q := fun (m29 : Mem) => XJ mx m29 ∧ m29 41 = mx 41 ∧ GRD (img m29 m0) c k d Z rk ∧ NB m29 40 c k) ?_ (fun m29 h => ?_)
  · unfold l_X2_readFits_56
    refine forG 6 (fun r (a : Int32 × Mem) => a.1 = nI r ∧ XJ mx a.2 ∧ a.2 41 = mx 41 ∧ BS m14 a.2 ∧ (∀ s n, s < c → n < k → rk s < r → ¬ img a.2 m0 37 (10 * s + n) = 0 → canP (img a.2 m0) s n (d n) (Z s) 0) ∧ (∀ m1, RM m0 m1 → ∀ r1, r1 < r → (∀ t x, t < c → x < k → rk t < r1 → m1 37 (10 * t + x) = img a.2 m0 37 (10 * t + x)) → (∀ s n, s < c → n < k → rk s = r1 → ¬ m1 37 (10 * s + n) = 0 → canP m1 s n (d n) (Z s) 0) → ∀ s n, s < c → n < k → rk s = r1 → ¬ m1 37 (10 * s + n) = 0 → ¬ img a.2 m0 37 (10 * s + n) = 0) ∧ ∀ s n, s < c → n < k → r ≤ rk s → ¬ img a.2 m0 37 (10 * s + n) = 0) _ (fun r a hr ha => ?_) (fun a ha => ?_) FU 0 (0, m14) (Nat.zero_le _) ⟨rfl, hx14, o14 41 (by decide), fun _ _ _ q => q, fun s n _ _ h => absurd h (Nat.not_lt_zero _), fun _ _ r1 h => absurd h (Nat.not_lt_zero _), fun s n hs hn _ => by dsimp only; rw [full s n hs hn]; decide⟩ (FU_lt (by omega))
    · obtain ⟨e1, hx, h41, hbs, hp, hg, hfl⟩ := ha
      unfold t_X2_readFits_56
      rw [e1]
      refine st_if (fun z => absurd z (nI_ge (b := 6) hr (by decide))) (fun _ => st_b (x_rankQ hX hK R (show r ≤ 6 by omega) lev hx) (fun m23 h23 => st_n (st_l ?_)))
      obtain ⟨q1, q2, qb, q3, q4, q5⟩ := h23
      have un : ∀ t x, t < c → ¬ rk t = r → x < 10 → img m23 m0 37 (10 * t + x) = img a.2 m0 37 (10 * t + x) := fun t x ht hrt hx => by
        by_cases e2 : img m23 m0 37 (10 * t + x) = img a.2 m0 37 (10 * t + x)
        · exact e2
        · obtain ⟨s2, x2, hs2, hr2, hx2, e3⟩ := q3 _ e2
          have : t = s2 := by omega
          subst this
          exact absurd hr2 hrt
      refine ⟨nI_s1, q1, q2.trans h41, fun s i hi h => hbs s i hi (qb s i hi h), fun s n hs hn hrk hne => ?_, fun m1 g1 r1 hr1 g2 g3 s n hs hn hrk hne => ?_, fun s n hs hn hrk => ?_⟩
      · dsimp only at hne ⊢
        by_cases e : rk s = r
        · exact q4 s n hs hn e hne
        · rw [un s n hs e (by omega)] at hne
          exact can_0 hX hK RM_img RM_img hs hn (fun t x ht hx hrt hne2 => by rw [un t x ht (by omega) (by omega)]; exact hne2) (fun t x ht hx hrt hne2 => by rw [un t x ht (by omega) (by omega)] at hne2; exact hne2) (hp s n hs hn (by omega) hne)
      · dsimp only at g2 ⊢
        by_cases e : r1 = r
        · subst e
          exact q5.1 m1 g1 (fun t x ht hx hrt => by rw [g2 t x ht hx hrt]; exact un t x ht (by omega) (by omega)) g3 (fun s n hs hn hrk _ => hfl s n hs hn (by omega)) s n hs hn hrk hne
        · rw [un s n hs (by omega) (by omega)]
          exact hg m1 g1 r1 (by omega) (fun t x ht hx hrt => by rw [g2 t x ht hx hrt]; exact un t x ht (by omega) (by omega)) g3 s n hs hn hrk hne
      · dsimp only
        rw [un s n hs (by omega) (by omega)]
        exact hfl s n hs hn (by omega)
    · obtain ⟨e1, hx, h41, hbs, hp, hg, hfl⟩ := ha
      unfold t_X2_readFits_56
      rw [e1]
      refine ⟨_, if_pos (by decide), hx, h41, ⟨img_BL, fun s n hs hn hne => hp s n hs hn (by have := r5 s hs; omega) hne, fun m1 g1 r g2 g3 s n hs hn hrk hne => hg m1 (RM_t RM_img g1) r (by have := r5 s hs; omega) g2 g3 s n hs hn hrk hne⟩, fun s hs i hi1 hi2 => ?_⟩
      cases q : bt (a.2 40 s) i
      · rfl
      · have := hbs s i hi2 q
        rw [v14 s hs, full_10 k k10 i hi2, decide_eq_false (by omega)] at this
        cases this
  · obtain ⟨h1, h2, h3, h4⟩ := h
    refine ex_n (ex_s ⟨fun q q9 q0 q3 => ?_, fun j hj => ?_, rd_s, ?_, fun s hs i hi1 hi2 => by rw [rd_o (by decide)]; exact h4 s hs i hi1 hi2⟩)
    · rw [rd_o q9]
      by_cases e : q = 41
      · rw [e]; exact h2
      · exact h1 q q0 e q3
    · rw [rd_j hj, h1 39 (by decide) (by decide) (by decide)]
    · have : img (sto m29 39 4 1) m0 = img m29 m0 := by
        unfold img
        rw [rd_o (by decide), rd_o (by decide)]
      rw [this]
      exact h3
