/-! whether a node suits a shape, with edges of it left out -/
def CMP (dx d : Nat) (f g fx gx : Nat → Nat) (w : Nat) : Prop := w < 2 ^ dx ∧ d = dm dx w ∧ ∀ i, i < dx → w.testBit i = false → f (dm i w) = fx i ∧ g (dm i w) = gx i
/-- graph, shapes and steps: the class with a mask w, the reference without the masked edges -/
def RCQ (mx mm : Mem) (k : Nat) (dx Nx Tx d N T : Nat → Nat) (V W : Nat → Int32) (b c : Nat) (P Z w : Nat → Nat) : Prop := GG k d N T ∧ GX mx k dx Nx Tx ∧ GV (mx 2) (mx 3) k V W ∧ isb b ∧ mx 39 1 = nI b ∧ GM mm k d N T ∧ GV (mm 1) (mm 2) k V W ∧ SH mm c P Z ∧ LB mx mm b c P ∧ BK mx mm b c ∧ LVs mx mm b c P ∧ AC mm c P ∧ (GG k dx Nx Tx ∧ ∀ n, n < k → s_X2_presentEdges mx (nI n) = some (nI (2 ^ dx n - 1 - w n)) ∧ CMP (dx n) (d n) (fun j => N (n * 5 + j)) (fun j => T (n * 5 + j)) (fun j => Nx (n * 5 + j)) (fun j => Tx (n * 5 + j)) (w n)) ∧ JV mx b k c
theorem passes_eqQ {mx mm : Mem} {k b c s p t tr : Nat} {dx Nx Tx d N T P Z w : Nat → Nat} {V W : Nat → Int32} {sv : Int32} (R : RCQ mx mm k dx Nx Tx d N T V W b c P Z w) (hs : s < c) (hp : p < P s) (ht : t < k) (htr : (tr = 40 ∧ sv = 0) ∨ (tr = 41 ∧ sv = 1)) : s_X2_passes mx (nI t) (nI (6 * s + p)) tr = some (psV (img mx mm) (6 * s + p) t sv) := by
  obtain ⟨g, x, xv, hb, hj, y, yv, sh, lb, bk, lv, ac, h39, jv⟩ := R
  have k10 := g.1
  have hc6 := sh.2.1
  obtain ⟨⟨hP6, -, hR⟩, -⟩ := sh.2.2 s hs
  obtain ⟨-, -, -, -, lp⟩ := lb.2.1 s hs
  obtain ⟨e9, e10, e11, e12⟩ := lp p hp
  have zq : zin (nI (6 * s + p)) 36 = true := zin_nI (by omega) (by decide)
  have zt : zin (nI t) 10 = true := zin_nI (by omega) (by decide)
  have Z1 : ∀ {α : Type} (k : Nat → Option α), zbk (mx 39 1) k = k b := fun k => zbk_i hb hj
  have eP : psV (img mx mm) (6 * s + p) t sv = if mm 10 (6 * s + p) = 1 then (if sv = 0 then img mx mm 37 (10 * ix (mm 11 (6 * s + p)) + t) else img mx mm 38 (10 * ix (mm 11 (6 * s + p)) + t)) else if mm 10 (6 * s + p) = 2 then (if img mx mm 37 (10 * ix (mm 11 (6 * s + p)) + t) = 0 then 1 else 0) else if mm 10 (6 * s + p) = 0 then 1 else if mm 1 t = 0 then 0 else bb (mm 11 (6 * s + p) ≤ mm 2 t ∧ mm 2 t ≤ mm 12 (6 * s + p)) := by
    unfold psV
    rw [img_o (a := 10) (by decide) (by decide), img_o (a := 11) (by decide) (by decide), img_o (a := 12) (by decide) (by decide), img_o (a := 1) (by decide) (by decide), img_o (a := 2) (by decide) (by decide)]
  rw [eP]
  unfold s_X2_passes
  simp only [Z1]
  rw [ck_p zq]
  simp only [bn]
  rw [ck_p zq, ix_nI (n := 6 * s + p) (by omega), e10, e11, e12]
  by_cases c0 : mm 10 (6 * s + p) = 0
  · rw [if_pos c0, if_neg (by rw [c0]; decide), if_neg (by rw [c0]; decide), if_pos c0]
  rw [if_neg c0]
  by_cases c1 : mm 10 (6 * s + p) = 1
  · obtain ⟨f, hf, ef⟩ := hR p hp (Or.inl c1)
    have zf : zin (nI f) 6 = true := zin_nI (by omega) (by decide)
    rw [if_pos c1, if_pos c1, ef, if_neg (m1_lt (by omega)), if_neg (show ¬ (6 : Int32) ≤ nI f from nI_ge (b := 6) (by omega) (by decide)), ck_p zf, ix_nI (n := f) (by omega), ix_n (by omega), img_37 (by omega), img_38 (by omega)]
    rcases htr with ⟨rfl, rfl⟩ | ⟨rfl, rfl⟩
    · rw [if_pos rfl]
      by_cases hbt : bt (mx 40 f) t = true
      · rw [if_pos hbt, if_neg (fun z => by have := (bit_0 (i := t) (by omega)).mp z; rw [hbt] at this; cases this)]
      · rw [if_neg hbt, if_pos ((bit_0 (i := t) (by omega)).mpr (bt_dec hbt))]
    · rw [if_neg (show ¬ (1 : Int32) = 0 by decide)]
      by_cases hbt : bt (mx 41 f) t = true
      · rw [if_pos hbt, if_neg (fun z => by have := (bit_0 (i := t) (by omega)).mp z; rw [hbt] at this; cases this)]
      · rw [if_neg hbt, if_pos ((bit_0 (i := t) (by omega)).mpr (bt_dec hbt))]
  rw [if_neg c1, if_neg c1]
  by_cases c2 : mm 10 (6 * s + p) = 2
  · obtain ⟨f, hf, ef⟩ := hR p hp (Or.inr c2)
    have zf : zin (nI f) 6 = true := zin_nI (by omega) (by decide)
    rw [if_pos c2, if_pos c2, ef, if_neg (m1_lt (by omega)), if_neg (show ¬ (6 : Int32) ≤ nI f from nI_ge (b := 6) (by omega) (by decide)), ck_p zf, ix_nI (n := f) (by omega), ix_n (by omega), img_37 (by omega)]
    by_cases hbt : bt (mx 40 f) t = true
    · rw [if_pos hbt, if_neg (fun z => by have := (bit_0 (i := t) (by omega)).mp z; rw [hbt] at this; cases this), if_neg (by decide)]
    · rw [if_neg hbt, if_pos ((bit_0 (i := t) (by omega)).mpr (bt_dec hbt)), if_pos rfl]
  rw [if_neg c2, if_neg c2, if_neg c0, ck_p zt, ck_p zt, ck_p zt, ck_p zq, ix_nI (n := t) (by omega)]
  obtain ⟨u1, u2, -⟩ := xv t ht
  obtain ⟨w1, w2, -⟩ := yv t ht
  rw [u1, u2, w1, w2]
  by_cases c3 : V t = 0
  · rw [if_pos c3, if_pos c3]
  rw [if_neg c3, if_neg c3]
  by_cases c4 : W t < mm 11 (6 * s + p)
  · rw [if_pos c4, bb_f (fun z => absurd c4 (Int32.not_lt.mpr z.1))]
  rw [if_neg c4]
  by_cases c5 : mm 12 (6 * s + p) < W t
  · rw [if_pos c5, bb_f (fun z => absurd c5 (Int32.not_lt.mpr z.2))]
  · rw [if_neg c5, bb_t ⟨Int32.not_lt.mp c4, Int32.not_lt.mp c5⟩]
theorem lf_bt {m : Mem} {q n : Nat} {sv : Int32} (h39 : ∀ i, i < 5 → m 39 i = -4) : ∀ D, D ≤ 5 → ∀ x, x < 32 → (bt (lfV m q n sv 0 D) x = true ↔ ∃ j, j < D ∧ x = 2 ^ j ∧ ¬ tkV m q (n * 5 + j) sv = 0)
  | 0, _, x, _ => by
    show bt 0 x = true ↔ _
    rw [b_0]
    exact ⟨fun z => absurd z (by decide), fun ⟨j, hj, _⟩ => absurd hj (Nat.not_lt_zero j)⟩
  | D + 1, hD, x, hx => by
    unfold lfV
    have tz := two_lt (i := D) (by omega)
    rw [b_or, Bool.or_eq_true, lf_bt h39 D (by omega) x hx, shl_5 (d := D) (by omega), bt_if tz hx]
    constructor
    · rintro (⟨j, hj, e, t⟩ | ⟨⟨-, t⟩, e⟩)
      · exact ⟨j, by omega, e, t⟩
      · exact ⟨D, by omega, e, t⟩
    · rintro ⟨j, hj, e, t⟩
      by_cases q2 : j = D
      · rw [q2] at e t
        exact Or.inr ⟨⟨Or.inl (h39 D (by omega)), t⟩, e⟩
      · exact Or.inl ⟨j, by omega, e, t⟩
theorem pres_b : ∀ d, d < 6 → ∀ w, w < 2 ^ d → ∀ j, j < d → bt (nI (2 ^ d - 1 - w)) j = !w.testBit j ∧ (2 ^ d - 1 - w).testBit j = !w.testBit j := by decide +kernel
theorem mask_lt : ∀ d, d < 6 → ∀ w, w < 2 ^ d → ∀ v, v < 2 ^ d → v &&& (2 ^ d - 1 - w) < 2 ^ d := by decide +kernel
theorem taken_Q {mx mm : Mem} {k b c s p n tr : Nat} {dx Nx Tx d N T P Z w : Nat → Nat} {V W : Nat → Int32} {sv : Int32} (R : RCQ mx mm k dx Nx Tx d N T V W b c P Z w) (hs : s < c) (hn : n < k) (hp : p < P s) (htr : (tr = 40 ∧ sv = 0) ∨ (tr = 41 ∧ sv = 1)) (a63 : A63 mx) (h39 : ∀ i, i < 5 → mm 39 i = -4) : ∃ r, s_X2_setsTaken mx (nI n) (nI (s * 6 + p)) tr = some r ∧ RNB (dx n) (w n) r (lfV (img mx mm) (6 * s + p) n sv 0 (d n)) := by
  have R0 := R
  obtain ⟨g, x, xv, hb, hj, y, yv, sh, lb, bk, lv, ac, ⟨gx, pr⟩, jv⟩ := R
  obtain ⟨pe, hw, ed, eNT⟩ := pr n hn
  have k10 := g.1
  have hc6 := sh.2.1
  obtain ⟨d5, hN, -⟩ := gx.2 n hn
  obtain ⟨x4, xe⟩ := x.2 n hn
  obtain ⟨y3, ye⟩ := y.2 n hn
  obtain ⟨⟨hP6, -, hR⟩, -⟩ := sh.2.2 s hs
  obtain ⟨-, -, -, -, lp⟩ := lb.2.1 s hs
  obtain ⟨e9, e10, e11, e12⟩ := lp p hp
  have d6 : dx n < 6 := by omega
  have D5 : d n ≤ 5 := (g.2 n hn).1
  have zq : zin (nI (6 * s + p)) 36 = true := zin_nI (by omega) (by decide)
  have zn : zin (nI n) 10 = true := zin_nI (by omega) (by decide)
  have i39 : ∀ i, i < 5 → (img mx mm) 39 i = -4 := fun i hi => by rw [img_o (by decide) (by decide)]; exact h39 i hi
  have tq : ∀ i, i < dx n → (w n).testBit i = false → tkV (img mx mm) (6 * s + p) (n * 5 + dm i (w n)) sv = if mx (b + 9) (6 * s + p) = nI (Nx (n * 5 + i)) then psV (img mx mm) (6 * s + p) (Tx (n * 5 + i)) sv else 0 := fun i hi hwi => by
    have hlt : dm i (w n) < d n := by rw [ed]; exact ((ex_t (dx n) d6 (w n) hw i hi).1 hwi).2
    obtain ⟨y4, y5⟩ := ye _ hlt
    obtain ⟨q1, q2⟩ := eNT i hi hwi
    dsimp only at q1 q2
    have hT := (hN i hi).2
    rw [tk_ps, img_o (a := 4) (by decide) (by decide), img_o (a := 9) (by decide) (by decide), img_o (a := 5) (by decide) (by decide), y4, y5, q1, q2, ix_n (by omega), e9]
    by_cases q : nI (Nx (n * 5 + i)) = mm 9 (6 * s + p)
    · rw [if_pos q, if_pos q.symm]
    · rw [if_neg q, if_neg (fun z => q z.symm)]
  have E : ∃ r, s_X2_setsTaken mx (nI n) (nI (s * 6 + p)) tr = some r ∧ ∀ q, q < 32 → (bt r q = true ↔ ∃ i, i < dx n ∧ q = 2 ^ i ∧ (w n).testBit i = false ∧ ¬ tkV (img mx mm) (6 * s + p) (n * 5 + dm i (w n)) sv = 0) := by
    unfold s_X2_setsTaken l_X2_setsTaken_21
    rw [pe, bind_s, show s * 6 + p = 6 * s + p by omega, show (6 : Int32) = nI 6 from rfl, pk_rem (by omega) (by decide) (by decide), show (6 * s + p) % 6 = p by omega]
    refine ex_n (ex_b (Q := fun r => ∀ q, q < 32 → (bt r q = true ↔ ∃ i, i < dx n ∧ q = 2 ^ i ∧ (w n).testBit i = false ∧ ¬ tkV (img mx mm) (6 * s + p) (n * 5 + dm i (w n)) sv = 0)) ?_ (fun r hr => ex_s hr))
    refine forG (dx n) (fun j (a : Int32 × Int32) => a.2 = nI j ∧ ∀ q, q < 32 → (bt a.1 q = true ↔ ∃ i, i < j ∧ q = 2 ^ i ∧ (w n).testBit i = false ∧ ¬ tkV (img mx mm) (6 * s + p) (n * 5 + dm i (w n)) sv = 0)) _ (fun j a hj2 ha => ?_) (fun a ha => ?_) FU 0 (0, 0) (Nat.zero_le _) ⟨rfl, fun q _ => ⟨fun z => (by rw [b_0] at z; cases z), fun ⟨i, hi, _⟩ => absurd hi (Nat.not_lt_zero i)⟩⟩ (FU_lt (by omega))
    · obtain ⟨e1, e2⟩ := ha
      obtain ⟨hN10, hT⟩ := hN j hj2
      obtain ⟨x5, x6⟩ := xe j hj2
      have z50 : zin (nI (n * 5 + j)) 50 = true := zin_nI (by omega) (by decide)
      have tz := two_lt (i := j) (by omega)
      unfold t_X2_setsTaken_21
      simp only [bn]
      rw [e1, ix_nI (n := n) (by omega), x4, m5, ix_nI (n := n * 5 + j) (by omega), x5, x6, ix_nI (n := j) (by omega)]
      have no : ¬ ((w n).testBit j = false ∧ ¬ tkV (img mx mm) (6 * s + p) (n * 5 + dm j (w n)) sv = 0) → (a.1, nI j + 1).2 = nI (j + 1) ∧ ∀ q, q < 32 → (bt (a.1, nI j + 1).1 q = true ↔ ∃ i, i < j + 1 ∧ q = 2 ^ i ∧ (w n).testBit i = false ∧ ¬ tkV (img mx mm) (6 * s + p) (n * 5 + dm i (w n)) sv = 0) := fun h => ⟨nI_s1, fun q hq => by
        show bt a.1 q = true ↔ _
        rw [e2 q hq]
        constructor
        · rintro ⟨i, hi, r⟩
          exact ⟨i, by omega, r⟩
        · rintro ⟨i, hi, r1, r2⟩
          by_cases q2 : i = j
          · rw [q2] at r2
            exact absurd r2 h
          · exact ⟨i, by omega, r1, r2⟩⟩
      have yes : ((w n).testBit j = false ∧ ¬ tkV (img mx mm) (6 * s + p) (n * 5 + dm j (w n)) sv = 0) → (a.1 ||| ((1 : Int32) <<< (((1 : Int32) <<< (nI j &&& 31)) &&& 31)), nI j + 1).2 = nI (j + 1) ∧ ∀ q, q < 32 → (bt (a.1 ||| ((1 : Int32) <<< (((1 : Int32) <<< (nI j &&& 31)) &&& 31)), nI j + 1).1 q = true ↔ ∃ i, i < j + 1 ∧ q = 2 ^ i ∧ (w n).testBit i = false ∧ ¬ tkV (img mx mm) (6 * s + p) (n * 5 + dm i (w n)) sv = 0) := fun h => ⟨nI_s1, fun q hq => by
        show bt (a.1 ||| ((1 : Int32) <<< (((1 : Int32) <<< (nI j &&& 31)) &&& 31))) q = true ↔ _
        rw [shl_5 (d := j) (by omega), b_or, Bool.or_eq_true, e2 q hq, one_shl tz hq, decide_eq_true_iff]
        constructor
        · rintro (⟨i, hi, r⟩ | r)
          · exact ⟨i, by omega, r⟩
          · exact ⟨j, by omega, r, h⟩
        · rintro ⟨i, hi, r1, r2⟩
          by_cases q2 : i = j
          · rw [q2] at r1
            exact Or.inr r1
          · exact Or.inl ⟨i, by omega, r1, r2⟩⟩
      have pb := (pres_b (dx n) d6 (w n) hw j hj2).1
      refine st_ck zn (st_if (fun z => absurd z (nI_ge hj2 (by omega))) (fun _ => st_if (fun z => ?_) (fun hm => st_ck (zin_nI (by omega) (by decide)) (st_if (fun z => ?_) (fun z => st_ck z50 (st_k hb hj (st_ck zq ?_)))))))
      · have z := (bit_0 (by omega)).mp z
        rw [pb] at z
        exact st_l (no (fun h => by rw [h.1] at z; cases z))
      · have hb0 := (and_0b (by omega)).mp z
        rw [a63 j (by omega), b_63 p (by omega)] at hb0
        cases hb0
      · have hm2 : (w n).testBit j = false := by
          cases q : (w n).testBit j
          · rfl
          · exact absurd ((bit_0 (by omega)).mpr (by rw [pb, q]; rfl)) hm
        rw [ix_nI (n := 6 * s + p) (by omega)]
        have tk := tq j hj2 hm2
        refine st_if (fun hnm => st_ck z50 ?_) (fun hnm => st_l (no ?_))
        · rw [passes_eqQ R0 hs hp hT htr, bind_s]
          rw [if_pos hnm.symm] at tk
          refine st_if (fun q => st_l (no (fun h => h.2 (tk.trans q)))) (fun q => st_l (yes ⟨hm2, fun h => q (tk.symm.trans h)⟩))
        · rw [if_neg (fun q => hnm q.symm)] at tk
          exact fun h => h.2 tk
    · obtain ⟨e1, e2⟩ := ha
      unfold t_X2_setsTaken_21
      rw [e1, ix_nI (n := n) (by omega), x4, ck_p zn]
      exact ⟨_, if_pos (nI_le (Nat.le_refl _) (by omega)), e2⟩
  obtain ⟨r, h1, h2⟩ := E
  refine ⟨r, h1, fun a ha q => ?_, fun i hi q => ?_⟩
  · obtain ⟨j, hj2, e, t⟩ := (lf_bt i39 (d n) D5 a ha).mp q
    obtain ⟨i, hi, hwi, edm⟩ := dm_on (dx n) d6 (w n) hw j (by rw [← ed]; exact hj2)
    obtain ⟨u1, u2⟩ := (ex_t (dx n) d6 (w n) hw i hi).1 hwi
    rw [edm] at u1 u2
    refine ⟨by rw [e]; exact Nat.pow_lt_pow_right (by decide) u2, ?_⟩
    rw [e, u1]
    exact (h2 _ (two_lt (by omega))).mpr ⟨i, hi, rfl, hwi, by rw [edm]; exact t⟩
  · obtain ⟨j, hj2, e, hwj, t⟩ := (h2 i hi).mp q
    obtain ⟨u1, u2⟩ := (ex_t (dx n) d6 (w n) hw j hj2).1 hwj
    have ud : dm j (w n) < d n := by rw [ed]; exact u2
    refine ⟨2 ^ dm j (w n), Nat.pow_lt_pow_right (by decide) u2, by rw [u1, e], ?_⟩
    exact (lf_bt i39 (d n) D5 _ (two_lt (by omega))).mpr ⟨_, ud, rfl, t⟩
