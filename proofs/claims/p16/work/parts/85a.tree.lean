/-! rows of sets: their laws -/
theorem mts_c {x y z : Nat} (h : mts x y z) : mts y x z := ⟨by rw [Nat.and_comm]; exact h.1, by rw [Nat.or_comm]; exact h.2⟩
theorem Jn_c (a b : Int32) : Jn a b = Jn b a := by
  apply b_ext
  intro z hz
  rw [Bool.eq_iff_iff, Jn_bt hz, Jn_bt hz]
  constructor
  · rintro ⟨x, hx, h1, y, hy, h2, h3⟩
    exact ⟨y, hy, h2, x, hx, h1, mts_c h3⟩
  · rintro ⟨x, hx, h1, y, hy, h2, h3⟩
    exact ⟨y, hy, h2, x, hx, h1, mts_c h3⟩
theorem Jn_1 (a : Int32) : Jn a 1 = a := by
  apply b_ext
  intro z hz
  rw [Bool.eq_iff_iff, Jn_bt hz]
  constructor
  · rintro ⟨x, hx, h1, y, hy, h2, h3⟩
    rw [bt_1 y hy, decide_eq_true_iff] at h2
    have e := h3.2
    rw [h2, Nat.or_zero] at e
    rw [← e]
    exact h1
  · intro h
    exact ⟨z, hz, h, 0, by decide, by rw [bt_1 0 (by decide)]; rfl, Nat.and_zero _, Nat.or_zero _⟩
theorem Jn_a (a b c : Int32) : Jn (Jn a b) c = Jn a (Jn b c) := by
  apply b_ext
  intro z hz
  rw [Bool.eq_iff_iff, Jn_bt hz, Jn_bt hz]
  constructor
  · rintro ⟨u, hu, h1, w, hw, h2, h3, h4⟩
    obtain ⟨x, hx, g1, y, hy, g2, g3, g4⟩ := (Jn_bt hu).mp h1
    rw [← g4, Nat.and_or_distrib_right, Nat.or_eq_zero_iff] at h3
    refine ⟨x, hx, g1, y ||| w, or_32 hy hw, (Jn_bt (or_32 hy hw)).mpr ⟨y, hy, g2, w, hw, h2, h3.2, rfl⟩, ?_, ?_⟩
    · rw [Nat.and_or_distrib_left, Nat.or_eq_zero_iff]
      exact ⟨g3, h3.1⟩
    · rw [← Nat.or_assoc, g4]; exact h4
  · rintro ⟨x, hx, g1, v, hv, h1, h3, h4⟩
    obtain ⟨y, hy, g2, w, hw, h2, g3, g4⟩ := (Jn_bt hv).mp h1
    rw [← g4, Nat.and_or_distrib_left, Nat.or_eq_zero_iff] at h3
    refine ⟨x ||| y, or_32 hx hy, (Jn_bt (or_32 hx hy)).mpr ⟨x, hx, g1, y, hy, g2, h3.1, rfl⟩, w, hw, h2, ?_, ?_⟩
    · rw [Nat.and_or_distrib_right, Nat.or_eq_zero_iff]
      exact ⟨h3.2, g3⟩
    · rw [Nat.or_assoc, g4]; exact h4
theorem Jn_1l (a : Int32) : Jn 1 a = a := by rw [Jn_c, Jn_1]
theorem z_or (x : Int32) : 0 ||| x = x := by
  apply b_ext
  intro i _
  rw [b_or, b_0, Bool.false_or]
theorem or_as (x y z : Int32) : (x ||| y) ||| z = x ||| (y ||| z) := by
  apply b_ext
  intro i _
  rw [b_or, b_or, b_or, b_or, Bool.or_assoc]
theorem or_cm (x y : Int32) : x ||| y = y ||| x := by
  apply b_ext
  intro i _
  rw [b_or, b_or, Bool.or_comm]
theorem Cn_11 (x : Int32) : Cn x 1 1 = x := by
  unfold Cn Cn
  rw [if_neg (by decide), if_pos (by decide), z_or]
  unfold soN soN
  exact Jn_1l x
/-! the reference's tree, with the rows of the parts given -/
def lx (F : Nat → Int32) (s : Nat) (x y : Int32) : Int32 := if x = -4 then y else y ||| F (ix x - 6 * s)
def rst (F : Nat → Int32) (m : Mem) (s k : Nat) (a : Int32 × (Nat → Int32)) : Int32 × (Nat → Int32) :=
  if m 14 (160 * s + k) = 2 then (a.1, upd a.2 (ix (m 15 (160 * s + k)) - 160 * s) (Jn (a.2 (ix (m 15 (160 * s + k)) - 160 * s)) (Cn (lx F s (m 18 (160 * s + k)) (a.2 k)) (ix (m 16 (160 * s + k))) (ix (m 17 (160 * s + k))))))
  else if m 14 (160 * s + k) = 1 then (a.1, upd a.2 (ix (m 15 (160 * s + k)) - 160 * s) (a.2 (ix (m 15 (160 * s + k)) - 160 * s) ||| a.2 k))
  else if m 15 (160 * s + k) = -4 then (a.2 k, a.2) else (a.1, upd a.2 (ix (m 15 (160 * s + k)) - 160 * s) (a.2 k))
/-- from lo + n down to lo -/
def rrn (F : Nat → Int32) (m : Mem) (s lo : Nat) : Nat → (Int32 × (Nat → Int32)) → (Int32 × (Nat → Int32))
  | 0, a => a
  | n + 1, a => rrn F m s lo n (rst F m s (lo + n) a)
theorem rrn_cat {F : Nat → Int32} {m : Mem} {s lo p : Nat} : ∀ (q : Nat) (a : Int32 × (Nat → Int32)), rrn F m s lo (p + q) a = rrn F m s lo p (rrn F m s (lo + p) q a)
  | 0, a => rfl
  | q + 1, a => by
    show rrn F m s lo (p + q) (rst F m s (lo + (p + q)) a) = rrn F m s lo p (rrn F m s (lo + p) q (rst F m s (lo + p + q) a))
    rw [rrn_cat q, Nat.add_assoc]
def rr (F : Nat → Int32) (m : Mem) (s lo hi : Nat) (a : Int32 × (Nat → Int32)) : Int32 × (Nat → Int32) := rrn F m s lo (hi - lo) a
theorem rr_cat {F : Nat → Int32} {m : Mem} {s lo mi hi : Nat} (h1 : lo ≤ mi) (h2 : mi ≤ hi) (a : Int32 × (Nat → Int32)) : rr F m s lo hi a = rr F m s lo mi (rr F m s mi hi a) := by
  unfold rr
  rw [show hi - lo = (mi - lo) + (hi - mi) by omega, rrn_cat, show lo + (mi - lo) = mi by omega]
theorem rr_1 {F : Nat → Int32} {m : Mem} {s k : Nat} (a : Int32 × (Nat → Int32)) : rr F m s k (k + 1) a = rst F m s k a := by
  unfold rr
  rw [show k + 1 - k = 0 + 1 by omega]
  rfl
theorem rr_0 {F : Nat → Int32} {m : Mem} {s k : Nat} (a : Int32 × (Nat → Int32)) : rr F m s k k a = a := by
  unfold rr
  rw [Nat.sub_self]
  rfl
/-- two memories that tell the same tree, as far as z -/
def tre (m m2 : Mem) (s lo hi : Nat) : Prop := ∀ a j, 14 ≤ a → a ≤ 18 → lo ≤ j → j < hi → m2 a (160 * s + j) = m a (160 * s + j)
theorem tre_in {m m2 : Mem} {s lo hi lo2 hi2 : Nat} (h : tre m m2 s lo hi) (h1 : lo ≤ lo2) (h2 : hi2 ≤ hi) : tre m m2 s lo2 hi2 := fun a j a1 a2 j1 j2 => h a j a1 a2 (by omega) (by omega)
theorem rst_c {F : Nat → Int32} {m m2 : Mem} {s k : Nat} (h : ∀ a, 14 ≤ a → a ≤ 18 → m2 a (160 * s + k) = m a (160 * s + k)) (a : Int32 × (Nat → Int32)) : rst F m2 s k a = rst F m s k a := by
  unfold rst
  rw [h 14 (by omega) (by omega), h 15 (by omega) (by omega), h 16 (by omega) (by omega), h 17 (by omega) (by omega), h 18 (by omega) (by omega)]
theorem rrn_c {F : Nat → Int32} {m m2 : Mem} {s lo : Nat} : ∀ (n : Nat), tre m m2 s lo (lo + n) → ∀ a, rrn F m2 s lo n a = rrn F m s lo n a
  | 0, _, a => rfl
  | n + 1, h, a => by
    show rrn F m2 s lo n (rst F m2 s (lo + n) a) = rrn F m s lo n (rst F m s (lo + n) a)
    rw [rst_c (fun a a1 a2 => h a (lo + n) a1 a2 (by omega) (by omega)), rrn_c n (tre_in h (Nat.le_refl _) (by omega))]
theorem rr_c {F : Nat → Int32} {m m2 : Mem} {s lo hi : Nat} (h : tre m m2 s lo hi) (a : Int32 × (Nat → Int32)) : rr F m2 s lo hi a = rr F m s lo hi a := by
  unfold rr
  exact rrn_c _ (fun a j a1 a2 j1 j2 => h a j a1 a2 j1 (by omega)) a
/-- a run of nodes: what stands in one of each -/
def SEG (F : Nat → Int32) (m : Mem) (s a z e : Nat) (A E : Int32) : Prop := a < e ∧ e < z ∧ ∀ w g, (∀ i, a < i → i < z → i ≠ e → g i = din m s i) → (rr F m s (a + 1) z (w, g)).1 = w ∧ (rr F m s (a + 1) z (w, g)).2 a = g a ||| (A ||| Jn (g e) E) ∧ ∀ i, i < a → (rr F m s (a + 1) z (w, g)).2 i = g i
theorem SEG_c {F : Nat → Int32} {m m2 : Mem} {s a z e : Nat} {A E : Int32} (t : tre m m2 s a z) (h : SEG F m s a z e A E) : SEG F m2 s a z e A E := by
  obtain ⟨h1, h2, h3⟩ := h
  refine ⟨h1, h2, fun w g hg => ?_⟩
  rw [rr_c (tre_in t (by omega) (Nat.le_refl _))]
  refine h3 w g (fun i i1 i2 i3 => ?_)
  rw [hg i i1 i2 i3]
  unfold din
  rw [t 14 i (by omega) (by omega) (by omega) i2]
/-- a part or what stands in brackets: the row that it leaves at its own node -/
def ITM (F : Nat → Int32) (m : Mem) (s t z : Nat) (X : Int32) : Prop := t < z ∧ ∀ w g, (∀ i, t ≤ i → i < z → g i = din m s i) → (rr F m s (t + 1) z (w, g)).1 = w ∧ lx F s (m 18 (160 * s + t)) ((rr F m s (t + 1) z (w, g)).2 t) = X ∧ ∀ i, i < t → (rr F m s (t + 1) z (w, g)).2 i = g i
theorem ITM_c {F : Nat → Int32} {m m2 : Mem} {s t z : Nat} {X : Int32} (r : tre m m2 s (t + 1) z) (e : m2 18 (160 * s + t) = m 18 (160 * s + t)) (e4 : m2 14 (160 * s + t) = m 14 (160 * s + t)) (h : ITM F m s t z X) : ITM F m2 s t z X := by
  obtain ⟨h1, h3⟩ := h
  refine ⟨h1, fun w g hg => ?_⟩
  rw [rr_c r, e]
  refine h3 w g (fun i i1 i2 => ?_)
  rw [hg i i1 i2]
  unfold din
  by_cases q : i = t
  · rw [q, e4]
  · rw [r 14 i (by omega) (by omega) (by omega) i2]
/-- the first run of all -/
theorem SEG_0 {F : Nat → Int32} {m : Mem} {s a : Nat} (hs : s < 6) (ha : a + 2 ≤ 160) (k : m 14 (160 * s + (a + 1)) = 1) (u : m 15 (160 * s + (a + 1)) = nI (160 * s + a)) : SEG F m s a (a + 2) (a + 1) 0 1 := by
  refine ⟨by omega, by omega, fun w g hg => ?_⟩
  rw [show a + 2 = a + 1 + 1 by omega, rr_1]
  unfold rst
  rw [k, if_neg (by decide), if_pos rfl, u, ix_n (by omega), show 160 * s + a - 160 * s = a by omega]
  refine ⟨rfl, ?_, fun i hi => ?_⟩
  · dsimp only
    rw [upd_if, if_pos rfl, Jn_1, z_or]
  · dsimp only
    rw [upd_if, if_neg (by omega)]
/-- one more in the last of each -/
theorem SEG_i {F : Nat → Int32} {m : Mem} {s a t z e l h : Nat} {A E X : Int32} (hs : s < 6) (hz : z ≤ 160) (g1 : SEG F m s a t e A E) (g2 : ITM F m s t z X) (k : m 14 (160 * s + t) = 2) (u : m 15 (160 * s + t) = nI (160 * s + e)) (hl : m 16 (160 * s + t) = nI l) (hh : m 17 (160 * s + t) = nI h) (l5 : l ≤ 5) (h5 : h ≤ 5) : SEG F m s a z e A (Jn E (Cn X l h)) := by
  obtain ⟨p1, p2, p3⟩ := g1
  obtain ⟨q1, q3⟩ := g2
  refine ⟨p1, by omega, fun w g hg => ?_⟩
  obtain ⟨r1, r2, r3⟩ := q3 w g (fun i i1 i2 => hg i (by omega) i2 (by omega))
  rw [rr_cat (show a + 1 ≤ t by omega) (show t ≤ z by omega), rr_cat (show t ≤ t + 1 by omega) (show t + 1 ≤ z by omega), rr_1]
  generalize rr F m s (t + 1) z (w, g) = y at r1 r2 r3
  obtain ⟨y1, y2⟩ := y
  dsimp only at r1 r2 r3
  have e1 : rst F m s t (y1, y2) = (w, upd y2 e (Jn (g e) (Cn X l h))) := by
    unfold rst
    rw [k, if_pos rfl, u, ix_n (by omega), show 160 * s + e - 160 * s = e by omega, hl, hh, ix_n (by omega), ix_n (by omega)]
    dsimp only
    rw [r1, r2, r3 e p2]
  rw [e1]
  obtain ⟨v1, v2, v3⟩ := p3 w (upd y2 e (Jn (g e) (Cn X l h))) (fun i i1 i2 i3 => by rw [upd_if, if_neg i3, r3 i i2]; exact hg i i1 (by omega) i3)
  refine ⟨v1, ?_, fun i hi => ?_⟩
  · rw [v2, upd_if, if_neg (by omega), upd_if, if_pos rfl, r3 a (by omega), Jn_a, Jn_c (Cn X l h) E]
  · rw [v3 i hi, upd_if, if_neg (by omega), r3 i (by omega)]
/-- a part -/
theorem ITM_p {F : Nat → Int32} {m : Mem} {s t p : Nat} (hs : s < 6) (hp : p < 6) (k : m 14 (160 * s + t) = 2) (e : m 18 (160 * s + t) = nI (6 * s + p)) : ITM F m s t (t + 1) (F p) := by
  refine ⟨by omega, fun w g hg => ?_⟩
  rw [rr_0]
  refine ⟨rfl, ?_, fun i _ => rfl⟩
  unfold lx
  rw [e, if_neg (nn4 (by omega)), ix_n (by omega), show 6 * s + p - 6 * s = p by omega]
  dsimp only
  rw [hg t (by omega) (by omega)]
  unfold din
  rw [k, if_neg (by decide), z_or]
/-- what stands in brackets -/
theorem ITM_g {F : Nat → Int32} {m : Mem} {s t z e : Nat} {A E : Int32} (hs : s < 6) (hz : z ≤ 160) (g : SEG F m s (t + 1) z e A E) (k2 : m 14 (160 * s + t) = 2) (k : m 14 (160 * s + (t + 1)) = 0) (u : m 15 (160 * s + (t + 1)) = nI (160 * s + t)) (ke : m 14 (160 * s + e) = 1) (po : m 18 (160 * s + t) = -4) : ITM F m s t z (A ||| E) := by
  obtain ⟨p1, p2, p3⟩ := g
  refine ⟨by omega, fun w g hg => ?_⟩
  obtain ⟨v1, v2, v3⟩ := p3 w g (fun i i1 i2 _ => hg i (by omega) i2)
  rw [rr_cat (show t + 1 ≤ t + 1 + 1 by omega) (show t + 1 + 1 ≤ z by omega), rr_1]
  generalize rr F m s (t + 1 + 1) z (w, g) = y at v1 v2 v3
  obtain ⟨y1, y2⟩ := y
  dsimp only at v1 v2 v3
  have e1 : rst F m s (t + 1) (y1, y2) = (w, upd y2 t (A ||| E)) := by
    unfold rst
    rw [k, if_neg (by decide), if_neg (by decide), u, if_neg (nn4 (by omega)), ix_n (by omega), show 160 * s + t - 160 * s = t by omega]
    dsimp only
    rw [v1, v2, hg (t + 1) (by omega) (by omega), hg e (by omega) (by omega)]
    unfold din
    rw [k, ke, if_neg (by decide), if_pos rfl, Jn_1l, z_or]
  rw [e1]
  refine ⟨rfl, ?_, fun i hi => ?_⟩
  · unfold lx
    rw [po, if_pos rfl]
    dsimp only
    rw [upd_if, if_pos rfl]
  · dsimp only
    rw [upd_if, if_neg (by omega), v3 i (by omega)]
/-- one of each more -/
theorem SEG_b {F : Nat → Int32} {m : Mem} {s a z e : Nat} {A E : Int32} (hs : s < 6) (hz : z + 1 ≤ 160) (g1 : SEG F m s a z e A E) (ke : m 14 (160 * s + e) = 1) (k : m 14 (160 * s + z) = 1) (u : m 15 (160 * s + z) = nI (160 * s + a)) : SEG F m s a (z + 1) z (A ||| E) 1 := by
  obtain ⟨p1, p2, p3⟩ := g1
  refine ⟨by omega, by omega, fun w g hg => ?_⟩
  rw [rr_cat (show a + 1 ≤ z by omega) (show z ≤ z + 1 by omega), rr_1]
  have e1 : rst F m s z (w, g) = (w, upd g a (g a ||| g z)) := by
    unfold rst
    rw [k, if_neg (by decide), if_pos rfl, u, ix_n (by omega), show 160 * s + a - 160 * s = a by omega]
  rw [e1]
  obtain ⟨v1, v2, v3⟩ := p3 w (upd g a (g a ||| g z)) (fun i i1 i2 i3 => by rw [upd_if, if_neg (by omega)]; exact hg i i1 (by omega) (by omega))
  refine ⟨v1, ?_, fun i hi => ?_⟩
  · rw [v2, upd_if, if_pos rfl, upd_if, if_neg (by omega), hg e (by omega) (by omega) (by omega)]
    unfold din
    rw [ke, if_pos rfl, Jn_1l, Jn_1, or_as, or_cm (g z)]
  · rw [v3 i hi, upd_if, if_neg (by omega)]
/-- the whole -/
theorem SEG_w {F : Nat → Int32} {m : Mem} {s z e : Nat} {A E : Int32} (hz : z ≤ 160) (g1 : SEG F m s 0 z e A E) (ke : m 14 (160 * s + e) = 1) (k : m 14 (160 * s + 0) = 0) (u : m 15 (160 * s + 0) = -4) : (rr F m s 0 z (1, din m s)).1 = (A ||| E) := by
  obtain ⟨p1, p2, p3⟩ := g1
  obtain ⟨v1, v2, v3⟩ := p3 1 (din m s) (fun i i1 i2 i3 => rfl)
  rw [rr_cat (show 0 ≤ 0 + 1 by omega) (show 0 + 1 ≤ z by omega), rr_1]
  generalize rr F m s (0 + 1) z (1, din m s) = y at v1 v2 v3
  obtain ⟨y1, y2⟩ := y
  dsimp only at v1 v2 v3
  unfold rst
  rw [k, if_neg (by decide), if_neg (by decide), u, if_pos rfl]
  dsimp only
  rw [v2]
  unfold din
  rw [k, ke, if_neg (by decide), if_pos rfl, Jn_1l, z_or]
