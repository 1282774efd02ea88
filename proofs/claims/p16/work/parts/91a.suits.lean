/-! the class's rows of sets beside the reference's -/
def img (mx mm : Mem) : Mem := fun a => if a = 37 then (fun j => if bt (mx 40 (j / 10)) (j % 10) = true then 1 else 0) else if a = 38 then (fun j => if bt (mx 41 (j / 10)) (j % 10) = true then 1 else 0) else mm a
theorem img_o {mx mm : Mem} {a : Nat} (h : a ≠ 37) (h2 : a ≠ 38) : img mx mm a = mm a := by
  unfold img
  rw [if_neg h, if_neg h2]
theorem img_37 {mx mm : Mem} {s n : Nat} (hn : n < 10) : img mx mm 37 (10 * s + n) = if bt (mx 40 s) n = true then 1 else 0 := by
  show (if bt (mx 40 ((10 * s + n) / 10)) ((10 * s + n) % 10) = true then (1 : Int32) else 0) = _
  rw [show (10 * s + n) / 10 = s by omega, show (10 * s + n) % 10 = n by omega]
theorem img_38 {mx mm : Mem} {s n : Nat} (hn : n < 10) : img mx mm 38 (10 * s + n) = if bt (mx 41 s) n = true then 1 else 0 := by
  show (if bt (mx 41 ((10 * s + n) / 10)) ((10 * s + n) % 10) = true then (1 : Int32) else 0) = _
  rw [show (10 * s + n) / 10 = s by omega, show (10 * s + n) % 10 = n by omega]
theorem img_BL {mx mm : Mem} : BL (img mx mm) := fun j _ => by
  refine ⟨?_, ?_⟩
  · show ((if bt (mx 40 (j / 10)) (j % 10) = true then (1 : Int32) else 0) = 0 ∨ (if bt (mx 40 (j / 10)) (j % 10) = true then (1 : Int32) else 0) = 1)
    by_cases h : bt (mx 40 (j / 10)) (j % 10) = true
    · rw [if_pos h]; exact Or.inr rfl
    · rw [if_neg h]; exact Or.inl rfl
  · show ((if bt (mx 41 (j / 10)) (j % 10) = true then (1 : Int32) else 0) = 0 ∨ (if bt (mx 41 (j / 10)) (j % 10) = true then (1 : Int32) else 0) = 1)
    by_cases h : bt (mx 41 (j / 10)) (j % 10) = true
    · rw [if_pos h]; exact Or.inr rfl
    · rw [if_neg h]; exact Or.inl rfl
/-- graph, shapes and steps, as both hold them -/
def RC (mx mm : Mem) (k : Nat) (d N T : Nat → Nat) (V W : Nat → Int32) (b c : Nat) (P Z : Nat → Nat) : Prop := GG k d N T ∧ GX mx k d N T ∧ GV (mx 2) (mx 3) k V W ∧ isb b ∧ mx 39 1 = nI b ∧ GM mm k d N T ∧ GV (mm 1) (mm 2) k V W ∧ SH mm c P Z ∧ LB mx mm b c P ∧ BK mx mm b c ∧ LVs mx mm b c P ∧ AC mm c P ∧ mx 39 9 = 0 ∧ JV mx b k c
def psV (m : Mem) (q t : Nat) (sv : Int32) : Int32 := if m 10 q = 1 then (if sv = 0 then m 37 (10 * ix (m 11 q) + t) else m 38 (10 * ix (m 11 q) + t)) else if m 10 q = 2 then (if m 37 (10 * ix (m 11 q) + t) = 0 then 1 else 0) else if m 10 q = 0 then 1 else if m 1 t = 0 then 0 else bb (m 11 q ≤ m 2 t ∧ m 2 t ≤ m 12 q)
theorem tk_ps {m : Mem} {q j : Nat} {sv : Int32} : tkV m q j sv = if m 4 j = m 9 q then psV m q (ix (m 5 j)) sv else 0 := rfl
theorem passes_eq {mx mm : Mem} {k b c s p t tr : Nat} {d N T P Z : Nat → Nat} {V W : Nat → Int32} {sv : Int32} (R : RC mx mm k d N T V W b c P Z) (hs : s < c) (hp : p < P s) (ht : t < k) (htr : (tr = 40 ∧ sv = 0) ∨ (tr = 41 ∧ sv = 1)) : s_X2_passes mx (nI t) (nI (6 * s + p)) tr = some (psV (img mx mm) (6 * s + p) t sv) := by
  obtain ⟨g, x, xv, hb, hj, y, yv, sh, lb, bk, lv, ac, h39, jv⟩ := R
  have k10 := g.1
  have hc6 := sh.2.1
  obtain ⟨⟨hP6, -, hR⟩, -⟩ := sh.2.2 s hs
  obtain ⟨-, -, -, -, lp⟩ := lb.2.1 s hs
  obtain ⟨e9, e10, e11, e12⟩ := lp p hp
  have zq : zin (nI (6 * s + p)) 36 = true := zin_nI (by omega) (by decide)
  have zt : zin (nI t) 10 = true := zin_nI (by omega) (by decide)
  have Z1 : ∀ {α : Type} (k : Nat → Option α), zbk (mx 39 1) k = k b := fun k => zbk_i hb hj
  have eP : psV (img mx mm) (6 * s + p) t sv = if mm 10 (6 * s + p) = 1 then (if sv = 0 then img mx mm 37 (10 * ix (mm 11 (6 * s + p)) + t) else img mx mm 38 (10 * ix (mm 11 (6 * s + p)) + t)) else if mm 10 (6 * s + p) = 2 then (if img mx mm 37 (10 * ix (mm 11 (6 * s + p)) + t) = 0 then 1 else 0) else if mm 10 (6 * s + p) = 0 then 1 else if mm 1 t = 0 then 0 else bb (mm 11 (6 * s + p) ≤ mm 2 t ∧ mm 2 t ≤ mm 12 (6 * s + p)) := by
    unfold psV
    rw [img_o (a := 10) (by decide) (by decide), img_o (a := 11) (by decide) (by decide), img_o (a := 12) (by decide) (by decide), img_o (a := 1) (by decide) (by decide), img_o (a := 2) (by decide) (by decide)]
  rw [eP]
  unfold s_X2_passes
  simp only [Z1]
  rw [ck_p zq]
  simp only [bn]
  rw [ck_p zq, ix_nI (n := 6 * s + p) (by omega), e10, e11, e12]
  by_cases c0 : mm 10 (6 * s + p) = 0
  · rw [if_pos c0, if_neg (by rw [c0]; decide), if_neg (by rw [c0]; decide), if_pos c0]
  rw [if_neg c0]
  by_cases c1 : mm 10 (6 * s + p) = 1
  · obtain ⟨f, hf, ef⟩ := hR p hp (Or.inl c1)
    have zf : zin (nI f) 6 = true := zin_nI (by omega) (by decide)
    rw [if_pos c1, if_pos c1, ef, if_neg (m1_lt (by omega)), if_neg (show ¬ (6 : Int32) ≤ nI f from nI_ge (b := 6) (by omega) (by decide)), ck_p zf, ix_nI (n := f) (by omega), ix_n (by omega), img_37 (by omega), img_38 (by omega)]
    rcases htr with ⟨rfl, rfl⟩ | ⟨rfl, rfl⟩
    · rw [if_pos rfl]
      by_cases hbt : bt (mx 40 f) t = true
      · rw [if_pos hbt, if_neg (fun z => by have := (bit_0 (i := t) (by omega)).mp z; rw [hbt] at this; cases this)]
      · rw [if_neg hbt, if_pos ((bit_0 (i := t) (by omega)).mpr (bt_dec hbt))]
    · rw [if_neg (show ¬ (1 : Int32) = 0 by decide)]
      by_cases hbt : bt (mx 41 f) t = true
      · rw [if_pos hbt, if_neg (fun z => by have := (bit_0 (i := t) (by omega)).mp z; rw [hbt] at this; cases this)]
      · rw [if_neg hbt, if_pos ((bit_0 (i := t) (by omega)).mpr (bt_dec hbt))]
  rw [if_neg c1, if_neg c1]
  by_cases c2 : mm 10 (6 * s + p) = 2
  · obtain ⟨f, hf, ef⟩ := hR p hp (Or.inr c2)
    have zf : zin (nI f) 6 = true := zin_nI (by omega) (by decide)
    rw [if_pos c2, if_pos c2, ef, if_neg (m1_lt (by omega)), if_neg (show ¬ (6 : Int32) ≤ nI f from nI_ge (b := 6) (by omega) (by decide)), ck_p zf, ix_nI (n := f) (by omega), ix_n (by omega), img_37 (by omega)]
    by_cases hbt : bt (mx 40 f) t = true
    · rw [if_pos hbt, if_neg (fun z => by have := (bit_0 (i := t) (by omega)).mp z; rw [hbt] at this; cases this), if_neg (by decide)]
    · rw [if_neg hbt, if_pos ((bit_0 (i := t) (by omega)).mpr (bt_dec hbt)), if_pos rfl]
  rw [if_neg c2, if_neg c2, if_neg c0, ck_p zt, ck_p zt, ck_p zt, ck_p zq, ix_nI (n := t) (by omega)]
  obtain ⟨u1, u2, -⟩ := xv t ht
  obtain ⟨w1, w2, -⟩ := yv t ht
  rw [u1, u2, w1, w2]
  by_cases c3 : V t = 0
  · rw [if_pos c3, if_pos c3]
  rw [if_neg c3, if_neg c3]
  by_cases c4 : W t < mm 11 (6 * s + p)
  · rw [if_pos c4, bb_f (fun z => absurd c4 (Int32.not_lt.mpr z.1))]
  rw [if_neg c4]
  by_cases c5 : mm 12 (6 * s + p) < W t
  · rw [if_pos c5, bb_f (fun z => absurd c5 (Int32.not_lt.mpr z.2))]
  · rw [if_neg c5, bb_t ⟨Int32.not_lt.mp c4, Int32.not_lt.mp c5⟩]
theorem full_b : ∀ d, d ≤ 5 → ∀ j, j < d → bt (nI (2 ^ d - 1)) j = true := by decide +kernel
theorem pres_eq {mx mm : Mem} {k b c n : Nat} {d N T P Z : Nat → Nat} {V W : Nat → Int32} (R : RC mx mm k d N T V W b c P Z) (hn : n < k) : s_X2_presentEdges mx (nI n) = some (nI (2 ^ d n - 1)) := by
  obtain ⟨g, x, xv, hb, hj, y, yv, sh, lb, bk, lv, ac, h39, jv⟩ := R
  have k10 := g.1
  obtain ⟨d5, -, -⟩ := g.2 n hn
  unfold s_X2_presentEdges
  rw [ck_p (zin_nI (by omega) (by decide)), ix_nI (n := n) (by omega), (x.2 n hn).1, shl_5 d5, sub1_nI (Nat.pow_pos (by decide)), h39]
  simp only [bn]
  by_cases q : nI n = mx 39 8
  · rw [if_pos q]
    congr 1
    apply b_ext
    intro i hi
    rw [b_and, b_xor, b_0, b_m1 i hi, Bool.false_xor, Bool.and_true]
  · rw [if_neg q]
theorem and_0b {x : Int32} {p : Nat} (hp : p < 32) : (x &&& ((1 : Int32) <<< (nI p &&& 31))) = 0 ↔ bt x p = false := by
  constructor
  · intro h
    have e : bt (x &&& ((1 : Int32) <<< (nI p &&& 31))) p = bt x p := by rw [b_and, one_shl hp hp, decide_eq_true rfl, Bool.and_true]
    rw [← e, h, b_0]
  · intro h
    apply b_ext
    intro i hi
    rw [b_and, one_shl hp hi, b_0]
    by_cases e : i = p
    · rw [e, h, Bool.false_and]
    · rw [decide_eq_false e, Bool.and_false]
/-- to which parts an edge may go: alike -/
def ALW (mx mm : Mem) (s P : Nat) : Prop := ∀ p, p < P → ∀ i, i < 5 → (bt (mx 42 i) p = true ↔ (mm 39 i = -4 ∨ mm 39 i = nI (6 * s + p)))
theorem taken_row {mx mm : Mem} {k b c s p n tr : Nat} {d N T P Z : Nat → Nat} {V W : Nat → Int32} {sv : Int32} (R : RC mx mm k d N T V W b c P Z) (hs : s < c) (hn : n < k) (hp : p < P s) (htr : (tr = 40 ∧ sv = 0) ∨ (tr = 41 ∧ sv = 1)) (al : ALW mx mm s (P s)) : s_X2_setsTaken mx (nI n) (nI (s * 6 + p)) tr = some (lfV (img mx mm) (6 * s + p) n sv 0 (d n)) := by
  have R0 := R
  obtain ⟨g, x, xv, hb, hj, y, yv, sh, lb, bk, lv, ac, h39, jv⟩ := R
  have k10 := g.1
  have hc6 := sh.2.1
  obtain ⟨d5, hN, -⟩ := g.2 n hn
  obtain ⟨x4, xe⟩ := x.2 n hn
  obtain ⟨y3, ye⟩ := y.2 n hn
  obtain ⟨⟨hP6, -, hR⟩, -⟩ := sh.2.2 s hs
  obtain ⟨-, -, -, -, lp⟩ := lb.2.1 s hs
  obtain ⟨e9, e10, e11, e12⟩ := lp p hp
  have zq : zin (nI (6 * s + p)) 36 = true := zin_nI (by omega) (by decide)
  have zn : zin (nI n) 10 = true := zin_nI (by omega) (by decide)
  have E : ∃ r, s_X2_setsTaken mx (nI n) (nI (s * 6 + p)) tr = some r ∧ r = lfV (img mx mm) (6 * s + p) n sv 0 (d n) := by
    unfold s_X2_setsTaken l_X2_setsTaken_21
    rw [pres_eq R0 hn, bind_s, show s * 6 + p = 6 * s + p by omega, show (6 : Int32) = nI 6 from rfl, pk_rem (by omega) (by decide) (by decide), show (6 * s + p) % 6 = p by omega]
    refine ex_n (ex_b (Q := fun r => r = lfV (img mx mm) (6 * s + p) n sv 0 (d n)) ?_ (fun r hr => ex_s hr))
    refine forG (d n) (fun j (a : Int32 × Int32) => a.2 = nI j ∧ a.1 = lfV (img mx mm) (6 * s + p) n sv 0 j) _ (fun j a hj2 ha => ?_) (fun a ha => ?_) FU 0 (0, 0) (Nat.zero_le _) ⟨rfl, rfl⟩ (FU_lt (by omega))
    · obtain ⟨e1, e2⟩ := ha
      obtain ⟨hN10, hT⟩ := hN j hj2
      obtain ⟨x5, x6⟩ := xe j hj2
      obtain ⟨y4, y5⟩ := ye j hj2
      have z50 : zin (nI (n * 5 + j)) 50 = true := zin_nI (by omega) (by decide)
      unfold t_X2_setsTaken_21
      simp only [bn]
      rw [e1, ix_nI (n := n) (by omega), x4, m5, ix_nI (n := n * 5 + j) (by omega), x5, x6, ix_nI (n := j) (by omega)]
      have nx : ∀ {w : Int32}, w = lfV (img mx mm) (6 * s + p) n sv 0 (j + 1) → (w, nI j + 1).2 = nI (j + 1) ∧ (w, nI j + 1).1 = lfV (img mx mm) (6 * s + p) n sv 0 (j + 1) := fun h => ⟨nI_s1, h⟩
      have i39 : (img mx mm) 39 = mm 39 := img_o (by decide) (by decide)
      have tk : tkV (img mx mm) (6 * s + p) (n * 5 + j) sv = if mx (b + 9) (6 * s + p) = nI (N (n * 5 + j)) then psV (img mx mm) (6 * s + p) (T (n * 5 + j)) sv else 0 := by
        rw [tk_ps, img_o (a := 4) (by decide) (by decide), img_o (a := 9) (by decide) (by decide), img_o (a := 5) (by decide) (by decide), y4, y5, ix_n (by omega), e9]
        by_cases q : nI (N (n * 5 + j)) = mm 9 (6 * s + p)
        · rw [if_pos q, if_pos q.symm]
        · rw [if_neg q, if_neg (fun z => q z.symm)]
      have nxt : ∀ (w : Int32), w = lfV (img mx mm) (6 * s + p) n sv 0 j ||| (if (mm 39 j = -4 ∨ mm 39 j = nI (6 * s + p)) ∧ ¬ tkV (img mx mm) (6 * s + p) (n * 5 + j) sv = 0 then (1 : Int32) <<< (((1 : Int32) <<< (nI j &&& 31)) &&& 31) else 0) → w = lfV (img mx mm) (6 * s + p) n sv 0 (j + 1) := fun w hw => by
        rw [hw, ← i39]
        rfl
      refine st_ck zn (st_if (fun z => absurd z (nI_ge hj2 (by omega))) (fun _ => st_if (fun z => ?_) (fun _ => st_ck (zin_nI (by omega) (by decide)) (st_if (fun z => st_l (nx (nxt _ ?_))) (fun z => st_ck z50 (st_k hb hj (st_ck zq ?_)))))))
      · have := (bit_0 (by omega)).mp z
        rw [full_b _ d5 j hj2] at this
        cases this
      · have hb0 := (and_0b (by omega)).mp z
        rw [e2, if_neg (fun w => ?_), or_z]
        have := (al p hp j (by omega)).mpr w.1
        rw [hb0] at this
        cases this
      · have hb1 : bt (mx 42 j) p = true := by
          cases q : bt (mx 42 j) p
          · exact absurd ((and_0b (by omega)).mpr q) z
          · rfl
        have al1 := (al p hp j (by omega)).mp hb1
        rw [ix_nI (n := 6 * s + p) (by omega)]
        refine st_if (fun hnm => st_ck z50 ?_) (fun hnm => st_l (nx (nxt _ ?_)))
        · rw [passes_eq R0 hs hp hT htr, bind_s]
          have tk1 : tkV (img mx mm) (6 * s + p) (n * 5 + j) sv = psV (img mx mm) (6 * s + p) (T (n * 5 + j)) sv := by rw [tk, if_pos hnm.symm]
          refine st_if (fun w => st_l (nx (nxt _ ?_))) (fun w => st_l (nx (nxt _ ?_)))
          · rw [e2, tk1, if_neg (fun q => q.2 w), or_z]
          · rw [e2, tk1, if_pos ⟨al1, w⟩]
        · have tk0 : tkV (img mx mm) (6 * s + p) (n * 5 + j) sv = 0 := by rw [tk, if_neg (fun q => hnm q.symm)]
          rw [e2, tk0, if_neg (fun q => q.2 rfl), or_z]
    · obtain ⟨e1, e2⟩ := ha
      unfold t_X2_setsTaken_21
      rw [e1, ix_nI (n := n) (by omega), x4, ck_p zn]
      exact ⟨_, if_pos (nI_le (Nat.le_refl _) (by omega)), e2⟩
  obtain ⟨r, h1, h2⟩ := E
  rw [h1, h2]
/-! the reference's rows, by the rows of its parts -/
theorem lf_or {m : Mem} {q n : Nat} {sv y : Int32} : ∀ d, lfV m q n sv y d = y ||| lfV m q n sv 0 d
  | 0 => (or_z y).symm
  | d + 1 => by
    unfold lfV
    rw [lf_or d, or_as]
theorem rr_F {F F2 : Nat → Int32} {m : Mem} {s p : Nat} (hs : s < 6) (hp : p ≤ 6) (hF : ∀ i, i < p → F i = F2 i) : ∀ (n : Nat) (a : Int32 × (Nat → Int32)), (∀ j, j < n → KD m s p j) → rrn F m s 0 n a = rrn F2 m s 0 n a
  | 0, _, _ => rfl
  | n + 1, a, hK => by
    show rrn F m s 0 n (rst F m s (0 + n) a) = rrn F2 m s 0 n (rst F2 m s (0 + n) a)
    have e : rst F m s (0 + n) a = rst F2 m s (0 + n) a := by
      rw [Nat.zero_add]
      unfold rst
      by_cases c2 : m 14 (160 * s + n) = 2
      · rw [if_pos c2, if_pos c2]
        have el : lx F s (m 18 (160 * s + n)) (a.2 n) = lx F2 s (m 18 (160 * s + n)) (a.2 n) := by
          unfold lx
          rcases hK n (Nat.lt_succ_self n) with ⟨e1, -⟩ | ⟨e1, -⟩ | ⟨-, -, h18 | ⟨i, hi, h18⟩, -⟩
          · rw [e1] at c2; exact absurd c2 (by decide)
          · rw [e1] at c2; exact absurd c2 (by decide)
          · rw [if_pos h18, if_pos h18]
          · rw [h18, if_neg (nn4 (by omega)), if_neg (nn4 (by omega)), ix_n (by omega), show 6 * s + i - 6 * s = i by omega, hF i hi]
        rw [el]
      · rw [if_neg c2, if_neg c2]
    rw [e]
    exact rr_F hs hp hF n _ (fun j hj => hK j (by omega))
theorem DV_rr {m : Mem} {s n d z p : Nat} {sv : Int32} (hs : s < 6) (hp : p ≤ 6) (hK : ∀ j, j < z → KD m s p j) : DV m s n sv d z = (rr (fun i => lfV m (6 * s + i) n sv 0 d) m s 0 z (1, din m s)).1 := by
  have st : ∀ (j : Nat) (a : Int32 × (Nat → Int32)), j < z → dstep m s n sv d j a = rst (fun i => lfV m (6 * s + i) n sv 0 d) m s j a := fun j a hj => by
    unfold dstep rst
    by_cases c2 : m 14 (160 * s + j) = 2
    · rw [if_pos c2, if_pos c2]
      have el : lfx m n sv d (m 18 (160 * s + j)) (a.2 j) = lx (fun i => lfV m (6 * s + i) n sv 0 d) s (m 18 (160 * s + j)) (a.2 j) := by
        unfold lfx lx
        rcases hK j hj with ⟨e1, -⟩ | ⟨e1, -⟩ | ⟨-, -, h18 | ⟨i, hi, h18⟩, -⟩
        · rw [e1] at c2; exact absurd c2 (by decide)
        · rw [e1] at c2; exact absurd c2 (by decide)
        · rw [if_pos h18, if_pos h18]
        · rw [h18, if_neg (nn4 (by omega)), if_neg (nn4 (by omega)), ix_n (by omega), show 6 * s + i - 6 * s = i by omega, lf_or]
      rw [el]
    · rw [if_neg c2, if_neg c2]
  have run : ∀ (j : Nat) (a : Int32 × (Nat → Int32)), j ≤ z → drun m s n sv d j a = rrn (fun i => lfV m (6 * s + i) n sv 0 d) m s 0 j a := by
    intro j
    induction j with
    | zero => intro a _; rfl
    | succ j ih =>
      intro a hj
      show drun m s n sv d j (dstep m s n sv d j a) = rrn _ m s 0 j (rst _ m s (0 + j) a)
      rw [Nat.zero_add, st j a (by omega), ih _ (by omega)]
  unfold DV rr
  rw [run z _ (Nat.le_refl _), Nat.sub_zero]
