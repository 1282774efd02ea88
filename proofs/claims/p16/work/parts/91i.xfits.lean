/-! the class's reading is the greatest -/
def XJ (m a : Mem) : Prop := ∀ q, q ≠ 40 → q ≠ 41 → q ≠ 43 → a q = m q
theorem XJ_r {m : Mem} : XJ m m := fun _ _ _ _ => rfl
theorem XJ_t {x y z : Mem} (h : XJ x y) (g : XJ y z) : XJ x z := fun q a b c => (g q a b c).trans (h q a b c)
theorem RC_x {mx mm m2 : Mem} {k b c : Nat} {d N T P Z : Nat → Nat} {V W : Nat → Int32} (R : RC mx mm k d N T V W b c P Z) (h : XJ mx m2) : RC m2 mm k d N T V W b c P Z := by
  obtain ⟨g, x, xv, hb, hj, y, yv, sh, lb, bk, lv, ac, h39, jv⟩ := R
  have hb2 := isb_e hb
  have h' : ∀ q, q < 40 → m2 q = mx q := fun q hq => h q (by omega) (by omega) (by omega)
  refine ⟨g, ?_, ?_, hb, by rw [h' 39 (by decide)]; exact hj, y, yv, sh, LB_f hb lb (fun a a1 a2 => h' a (by omega)) (fun _ _ _ => rfl), BK_c bk (h' (b + 7) (by omega)) (h' (b + 8) (by omega)) (fun _ _ _ => rfl), fun s hs => by rw [h' (b + 6) (by omega)]; exact lv s hs, ac, by rw [h' 39 (by decide)]; exact h39, JV_j jv ⟨fun a _ a2 a3 _ a5 => h a a2 a3 a5, fun j _ _ _ _ => by rw [h' 39 (by decide)]⟩⟩
  · unfold GX at *
    rw [h' 1 (by decide), h' 4 (by decide), h' 5 (by decide), h' 6 (by decide)]; exact x
  · unfold GV at *
    rw [h' 2 (by decide), h' 3 (by decide)]; exact xv
theorem ALW_x {mx mm m2 : Mem} {s p : Nat} (h : ALW mx mm s p) (g : XJ mx m2) : ALW m2 mm s p := by
  unfold ALW at *
  rw [g 42 (by decide) (by decide) (by decide)]
  exact h
theorem img_clr {m m0 : Mem} {s n : Nat} (hn : n < 10) : img (sto m 40 s ((m 40 s) &&& (((1 : Int32) <<< (nI n &&& 31)) ^^^ (-1)))) m0 = sto (img m m0) 37 (10 * s + n) 0 := by
  funext a
  by_cases h1 : a = 37
  · subst h1
    rw [sto_same]
    funext j
    rw [upd_if]
    show (if bt ((sto m 40 s ((m 40 s) &&& (((1 : Int32) <<< (nI n &&& 31)) ^^^ (-1)))) 40 (j / 10)) (j % 10) = true then (1 : Int32) else 0) = if j = 10 * s + n then 0 else (if bt (m 40 (j / 10)) (j % 10) = true then (1 : Int32) else 0)
    rw [sto_same, upd_if]
    by_cases e : j = 10 * s + n
    · rw [if_pos e, e, show (10 * s + n) / 10 = s by omega, show (10 * s + n) % 10 = n by omega, if_pos rfl, clr_b (by omega) n (by omega), decide_eq_true rfl]
      simp
    · rw [if_neg e]
      by_cases e2 : j / 10 = s
      · rw [if_pos e2, clr_b (by omega) (j % 10) (by omega), decide_eq_false (by omega), e2]
        simp
      · rw [if_neg e2]
  · by_cases h2 : a = 38
    · subst h2
      rw [rd_o (by decide)]
      show (fun j => if bt ((sto m 40 s ((m 40 s) &&& (((1 : Int32) <<< (nI n &&& 31)) ^^^ (-1)))) 41 (j / 10)) (j % 10) = true then (1 : Int32) else 0) = (fun j => if bt (m 41 (j / 10)) (j % 10) = true then (1 : Int32) else 0)
      rw [rd_o (show (41 : Nat) ≠ 40 by decide)]
    · rw [rd_o h1, img_o h1 h2, img_o h1 h2]
theorem img_set {m m0 : Mem} {s n : Nat} (hn : n < 10) : img (sto m 41 s ((m 41 s) ||| ((1 : Int32) <<< (nI n &&& 31)))) m0 = sto (img m m0) 38 (10 * s + n) 1 := by
  funext a
  by_cases h1 : a = 38
  · subst h1
    rw [sto_same]
    funext j
    rw [upd_if]
    show (if bt ((sto m 41 s ((m 41 s) ||| ((1 : Int32) <<< (nI n &&& 31)))) 41 (j / 10)) (j % 10) = true then (1 : Int32) else 0) = if j = 10 * s + n then 1 else (if bt (m 41 (j / 10)) (j % 10) = true then (1 : Int32) else 0)
    rw [sto_same, upd_if]
    by_cases e : j = 10 * s + n
    · rw [if_pos e, e, show (10 * s + n) / 10 = s by omega, show (10 * s + n) % 10 = n by omega, if_pos rfl, set_b (by omega) n (by omega), decide_eq_true rfl]
      simp
    · rw [if_neg e]
      by_cases e2 : j / 10 = s
      · rw [if_pos e2, set_b (by omega) (j % 10) (by omega), decide_eq_false (by omega), e2]
        simp
      · rw [if_neg e2]
  · by_cases h2 : a = 37
    · subst h2
      rw [rd_o (by decide)]
      show (fun j => if bt ((sto m 41 s ((m 41 s) ||| ((1 : Int32) <<< (nI n &&& 31)))) 40 (j / 10)) (j % 10) = true then (1 : Int32) else 0) = (fun j => if bt (m 40 (j / 10)) (j % 10) = true then (1 : Int32) else 0)
      rw [rd_o (show (40 : Nat) ≠ 41 by decide)]
    · rw [rd_o h1, img_o h2 h1, img_o h2 h1]
theorem RM_img {mx m0 : Mem} : RM m0 (img mx m0) := ⟨fun _ a1 a2 _ => img_o a1 a2, img_BL⟩
theorem D0_rm {m0 m A A2 : Mem} {c k r s n : Nat} {P Z d rk : Nat → Nat} {y : Int32} (hX : RX m0 c k P Z d rk) (hK : ∀ n, n < k → EK m0 n (d n) k) (h : D0 m0 m c k r d Z rk y A) (hs : s < c) (hn : n < k) (hr : rk s = r) (h0 : ¬ A 37 (10 * s + n) = 0) (hc : ¬ canP A s n (d n) (Z s) 0) (hM : RM m0 A2) (e37 : A2 37 = upd (A 37) (10 * s + n) 0) (e38 : ∀ j, A 38 j = 0 → A2 38 j = 0) : D0 m0 m c k r d Z rk 1 A2 := by
  obtain ⟨hM2, hy2, hu2, hl2, hj2, hg2⟩ := h
  have hk10 := hX.2.1
  have hc6 := hX.1.2.1
  refine ⟨hM, Or.inr rfl, fun z => absurd z (by decide), fun _ => ?_, fun j hj => ?_, fun m1 g1 g2 g3 g4 s2 n2 hs2 hn2 hr2 hne => ?_, fun j hj => e38 j (hg2.2 j hj)⟩
  · rw [e37]
    have h1 := cnt_lt (f := A 37) (j := 10 * s + n) h0 60 (by omega)
    have h2 : cnt (A 37) 60 ≤ cnt (m 37) 60 := by
      by_cases hy : y = 0
      · rw [hu2 hy 37 (by decide)]; exact Nat.le_refl _
      · exact Nat.le_of_lt (hl2 hy)
    exact Nat.lt_of_lt_of_le h1 h2
  · rw [e37] at hj
    by_cases e : j = 10 * s + n
    · exact ⟨s, n, hs, hr, by omega, e⟩
    · rw [pk_un e] at hj
      exact hj2 j hj
  · rw [e37]
    have base := hg2.1 m1 g1 g2 g3 g4 s2 n2 hs2 hn2 hr2 hne
    by_cases e : 10 * s2 + n2 = 10 * s + n
    · exfalso
      have es : s2 = s := by omega
      have en : n2 = n := by omega
      subst es
      subst en
      have low : ∀ t x, t < c → x < k → rk t < r → A 37 (10 * t + x) = m1 37 (10 * t + x) := fun t x ht hx hrt => by
        rw [g2 t x ht hx hrt]
        by_cases q : A 37 (10 * t + x) = m 37 (10 * t + x)
        · exact q
        · obtain ⟨s3, x3, w1, w2, w3, w4⟩ := hj2 _ q
          have : t = s3 := by omega
          subst this
          omega
      refine hc (can_0 hX hK g1 hM2 hs2 hn2 (fun t x ht hx hrt hne2 => ?_) (fun t x ht hx hrt hne2 => ?_) (g3 s2 n2 hs2 hn2 hr2 hne))
      · by_cases q : rk t = r
        · exact hg2.1 m1 g1 g2 g3 g4 t x ht hx q hne2
        · rw [low t x ht hx (by omega)]; exact hne2
      · rw [← low t x ht hx (by omega)]; exact hne2
    · rw [pk_un e]
      exact base
def BS (m a : Mem) : Prop := ∀ s i, i < 32 → bt (a 40 s) i = true → bt (m 40 s) i = true
theorem x_drop {mx m0 : Mem} {k b c r : Nat} {d N T P Z rk : Nat → Nat} {V W : Nat → Int32} (hX : RX m0 c k P Z d rk) (hK : ∀ n, n < k → EK m0 n (d n) k) (R : RC mx m0 k d N T V W b c P Z) (al : ∀ s, s < c → ALW mx m0 s (P s)) (hr : r ≤ 6) (lev : ∀ s, s < c → mx (b + 6) s = nI (rk s)) : ∃ q, s_X2_dropUnfit mx (nI r) = some q ∧ XJ mx q.2 ∧ q.2 41 = mx 41 ∧ BS mx q.2 ∧ D0 m0 (img mx m0) c k r d Z rk q.1 (img q.2 m0) ∧ (q.1 = 0 → ∀ s n, s < c → n < k → rk s = r → ¬ img mx m0 37 (10 * s + n) = 0 → canP (img mx m0) s n (d n) (Z s) 0) := by
  have R0 := R
  obtain ⟨g, x, xv, hb, hj, y, yv, sh, lb, bk, lv, ac, h39, jv⟩ := R
  have hb2 := isb_e hb
  have hk10 := g.1
  have hc6 := sh.2.1
  have h0b := lb.1
  unfold s_X2_dropUnfit
  refine ex_2 (Q := fun (q : Int32 × Mem) => XJ mx q.2 ∧ q.2 41 = mx 41 ∧ BS mx q.2 ∧ D0 m0 (img mx m0) c k r d Z rk q.1 (img q.2 m0) ∧ (q.1 = 0 → ∀ s n, s < c → n < k → rk s = r → ¬ img mx m0 37 (10 * s + n) = 0 → canP (img mx m0) s n (d n) (Z s) 0)) ?_ (fun y28 m29 h => ex_ck h.2.2.2.1.2.1 (ex_s h))
  unfold l_X2_dropUnfit_4
  refine forG c (fun s (a : Int32 × Int32 × Mem) => a.2.1 = nI s ∧ XJ mx a.2.2 ∧ a.2.2 41 = mx 41 ∧ BS mx a.2.2 ∧ D0 m0 (img mx m0) c k r d Z rk a.1 (img a.2.2 m0) ∧ (a.1 = 0 → ∀ t n, t < s → n < k → rk t = r → ¬ img mx m0 37 (10 * t + n) = 0 → canP (img mx m0) t n (d n) (Z t) 0)) _ (fun s a hs ha => ?_) (fun a ha => ?_) FU 0 (0, 0, mx) (Nat.zero_le _) ⟨rfl, XJ_r, rfl, fun _ _ _ q => q, ⟨RM_img, Or.inl rfl, fun _ _ _ => rfl, fun z => absurd rfl z, fun j z => absurd rfl z, fun m1 _ _ _ q => q, fun _ q => q⟩, fun _ t n ht => absurd ht (Nat.not_lt_zero t)⟩ (FU_lt (by omega))
  · obtain ⟨e1, hx, h41, hbs, hC, hp⟩ := ha
    have hx' : ∀ q, q < 40 → a.2.2 q = mx q := fun q hq => hx q (by omega) (by omega) (by omega)
    have hj2 : a.2.2 39 1 = nI b := by rw [hx' 39 (by decide)]; exact hj
    unfold t_X2_dropUnfit_4
    rw [e1]
    refine st_k hb hj2 ?_
    rw [hx' b (by omega), h0b]
    refine st_if (fun z => absurd z (nI_ge hs (by omega))) (fun _ => st_2 (Q := fun (q : Int32 × Mem) => XJ mx q.2 ∧ q.2 41 = mx 41 ∧ BS mx q.2 ∧ D0 m0 (img mx m0) c k r d Z rk q.1 (img q.2 m0) ∧ (q.1 = 0 → ∀ t n, t < s + 1 → n < k → rk t = r → ¬ img mx m0 37 (10 * t + n) = 0 → canP (img mx m0) t n (d n) (Z t) 0)) ?_ (fun y24 m25 h => st_n (st_l ⟨nI_s1, h⟩)))
    unfold l_X2_dropUnfit_18
    have zs : zin (nI s) 6 = true := zin_nI (by omega) (by decide)
    have hr6 := (hX.2.2.2.2.1 s hs).2
    refine forG k (fun n (a : Int32 × Int32 × Mem) => a.2.1 = nI n ∧ XJ mx a.2.2 ∧ a.2.2 41 = mx 41 ∧ BS mx a.2.2 ∧ D0 m0 (img mx m0) c k r d Z rk a.1 (img a.2.2 m0) ∧ (a.1 = 0 → ∀ t q, (t < s ∧ q < k) ∨ (t = s ∧ q < n) → rk t = r → ¬ img mx m0 37 (10 * t + q) = 0 → canP (img mx m0) t q (d q) (Z t) 0)) _ (fun n a hn ha => ?_) (fun a ha => ?_) FU 0 (a.1, 0, a.2.2) (Nat.zero_le _) ⟨rfl, hx, h41, hbs, hC, fun hy t q ht => by rcases ht with ⟨h1, h2⟩ | ⟨h1, h2⟩; exact hp hy t q h1 h2; exact absurd h2 (Nat.not_lt_zero q)⟩ (FU_lt (by omega))
    · obtain ⟨e2, hx2, h412, hbs2, hC2, hp2⟩ := ha
      have hx2' : ∀ q, q < 40 → a.2.2 q = mx q := fun q hq => hx2 q (by omega) (by omega) (by omega)
      have hj3 : a.2.2 39 1 = nI b := by rw [hx2' 39 (by decide)]; exact hj
      have R2 := RC_x R0 hx2
      have hu2 := hC2.2.2.1
      unfold t_X2_dropUnfit_18
      rw [e2, hx2' 1 (by decide), x.1]
      refine st_if (fun z => absurd z (nI_ge hn (by omega))) (fun _ => st_k hb hj3 (st_ck zs ?_))
      rw [hx2' (b + 6) (by omega), ix_nI (n := s) (by omega), lev s hs]
      refine st_if (fun hrk => st_ck zs ?_) (fun hrk => ?_)
      · have hrk : rk s = r := (nI_eq (by omega) (by omega)).mp hrk
        have i37 : img a.2.2 m0 37 (10 * s + n) = if bt (a.2.2 40 s) n = true then 1 else 0 := img_37 (by omega)
        refine st_if (fun h0 => st_n (st_l ⟨nI_s1, hx2, h412, hbs2, hC2, fun hy t q ht hrt hne => ?_⟩)) (fun h0 => ?_)
        · rcases ht with ht | ⟨h1, h2⟩
          · exact hp2 hy t q (Or.inl ht) hrt hne
          · by_cases e : q = n
            · subst e; subst h1
              rw [← hu2 hy 37 (by decide), i37, (bit_0 (by omega)).mp h0] at hne
              exact absurd rfl hne
            · exact hp2 hy t q (Or.inr ⟨h1, by omega⟩) hrt hne
        · have hbt : bt (a.2.2 40 s) n = true := by
            cases q : bt (a.2.2 40 s) n
            · exact absurd ((bit_0 (by omega)).mpr q) h0
            · rfl
          refine st_2 (suits_eq (sv := 0) R2 hs hn (Or.inl ⟨rfl, rfl⟩) (ALW_x (al s hs) hx2)) (fun r13 m14 hq => ?_)
          obtain ⟨q1, q2, q3⟩ := hq
          dsimp only at q1 q2 q3
          have i14 : img m14 m0 = img a.2.2 m0 := img_43 q3
          have hx3 : XJ mx m14 := XJ_t hx2 (fun q _ _ c => q3 q c)
          have h41b : m14 41 = mx 41 := by rw [q3 41 (by decide)]; exact h412
          refine st_if (fun hz => st_ck zs (st_ck zs (st_n (st_n (st_l ⟨nI_s1, fun q qa qb qc => ?_, ?_, fun t i hi hb1 => ?_, ?_, fun z => absurd z (show ¬ (1 : Int32) = 0 from by decide)⟩))))) (fun hz => st_n (st_l ⟨nI_s1, hx3, h41b, fun t i hi hb1 => hbs2 t i hi (by dsimp only at hb1; rw [q3 40 (by decide)] at hb1; exact hb1), by rw [i14]; exact hC2, fun hy t q ht hrt hne => ?_⟩))
          · dsimp only; rw [rd_o qa]; exact hx3 q qa qb qc
          · dsimp only; rw [rd_o (by decide)]; exact h41b
          · dsimp only at hb1
            by_cases e : t = s
            · rw [e] at hb1 ⊢
              rw [rd_s, b_and, Bool.and_eq_true, q3 40 (by decide)] at hb1
              exact hbs2 s i hi hb1.1
            · rw [rd_j e, q3 40 (by decide)] at hb1
              exact hbs2 t i hi hb1
          · dsimp only
            rw [img_clr (by omega), i14]
            refine D0_rm hX hK hC2 hs hn hrk (by rw [i37, if_pos hbt]; decide) (fun z => q2.mpr z hz) ⟨fun b b1 b2 b3 => by rw [rd_o b1]; exact img_o b1 b2, BL_set img_BL (Or.inl rfl)⟩ (by rw [sto_same]) (fun j hj => by rw [rd_o (by decide)]; exact hj)
          · rcases ht with ht | ⟨h1, h2⟩
            · exact hp2 hy t q (Or.inl ht) hrt hne
            · by_cases e : q = n
              · subst e; subst h1
                have := q2.mp hz
                rw [canP_c (hu2 hy)] at this
                exact this
              · exact hp2 hy t q (Or.inr ⟨h1, by omega⟩) hrt hne
      · have hrk : ¬ rk s = r := fun z => hrk (by rw [z])
        refine st_r ⟨hx2, h412, hbs2, hC2, fun hy t q ht hxk hrt hne => ?_⟩
        by_cases e : t = s
        · subst e; exact absurd hrt hrk
        · exact hp2 hy t q (Or.inl ⟨by omega, hxk⟩) hrt hne
    · obtain ⟨e2, hx2, h412, hbs2, hC2, hp2⟩ := ha
      unfold t_X2_dropUnfit_18
      rw [e2, hx2 1 (by decide) (by decide) (by decide), x.1]
      refine ⟨_, if_pos (nI_le (Nat.le_refl _) (by omega)), hx2, h412, hbs2, hC2, fun hy t q ht hxk hrt hne => hp2 hy t q ?_ hrt hne⟩
      by_cases e : t = s
      · exact Or.inr ⟨e, hxk⟩
      · exact Or.inl ⟨by omega, hxk⟩
  · obtain ⟨e1, hx, h41, hbs, hC, hp⟩ := ha
    unfold t_X2_dropUnfit_4
    rw [e1, zbk_i hb (by rw [hx 39 (by decide) (by decide) (by decide)]; exact hj), hx b (by omega) (by omega) (by omega), h0b]
    exact ⟨_, if_pos (nI_le (Nat.le_refl _) (by omega)), hx, h41, hbs, hC, hp⟩
