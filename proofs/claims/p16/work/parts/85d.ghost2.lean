/-! what , | ) and the end of a shape do -/
def SC (b c d j v : Nat) (m m2 : Mem) : Prop := (∀ i, i ≠ j → m2 9 i = m 9 i) ∧ (∀ l, l < 32 → bt (m2 9 j) l = (bt (m 9 j) l && !decide (l = d))) ∧ ((bt (m 9 j) d = true ∧ SWt m m2 b c v) ∨ (bt (m 9 j) d = false ∧ m2 = m))
def GC (mx mm : Mem) (b c d z i p : Nat) (fs S0 : Nat → Nat) : Prop := (∀ l, d ≤ l → l < 32 → bt (mx 9 4) l = false) ∧ (∀ l, d < l → l < 32 → bt (mx 9 5) l = false) ∧ GS mx b c i p fs S0 (fun F T => ∃ a e A E T0, BEL F mm c (mx 9 4) (mx 9 5) d a T0 ∧ HD mm c d a e ∧ SEG F (dk mm) c a z e A E ∧ T = E :: ((if bt (mx 9 5) d = true then [A] else []) ++ T0) ∧ (bt (mx 9 5) d = false → A = 0))
def GD (mx mm : Mem) (b c d z i p : Nat) (fs S0 : Nat → Nat) : Prop := (∀ l, d ≤ l → l < 32 → bt (mx 9 4) l = false ∧ bt (mx 9 5) l = false) ∧ GS mx b c i p fs S0 (fun F T => ∃ a e A E T0, BEL F mm c (mx 9 4) (mx 9 5) d a T0 ∧ HD mm c d a e ∧ SEG F (dk mm) c a z e A E ∧ T = (A ||| E) :: T0)
theorem bt_dec {x : Bool} (h : ¬ x = true) : x = false := by cases x with
  | true => exact absurd rfl h
  | false => rfl
theorem GC_of {mx m4 mm : Mem} {b c d t z l h i p : Nat} {fs S0 : Nat → Nat} (g : GA mx mm b c d t z l h i p fs S0) (hi : i ≤ 400) (hc : c < 6) (hp : p ≤ 6) (hd : d < 8) (hz : z ≤ 160) (s : SC b c d 4 128 mx m4) : GC m4 mm b c d z i p fs S0 := by
  obtain ⟨bh, ⟨i1, i2, i3, i4, i5, i6, i7⟩, gs⟩ := g
  obtain ⟨s1, s2, s3⟩ := s
  have e5 : m4 9 5 = mx 9 5 := s1 5 (by decide)
  have bits : ∀ l, l < d → bt (m4 9 4) l = bt (mx 9 4) l ∧ bt (m4 9 5) l = bt (mx 9 5) l := fun l hl => ⟨by rw [s2 l (by omega), decide_eq_false (by omega)]; simp, by rw [e5]⟩
  refine ⟨fun l l1 l2 => ?_, fun l l1 l2 => by rw [e5]; exact (bh l l1 l2).2, ?_⟩
  · rw [s2 l l2]
    by_cases q : l = d
    · rw [decide_eq_true q]; simp
    · rw [(bh l (by omega) l2).1]; rfl
  have key : ∀ {F : Nat → Int32} {X : Int32} {T0 : List Int32} {E2 : Int32} {U : List Int32}, LVL F mm c (mx 9 4) (mx 9 5) d t T0 → ITM F (dk mm) c t z X → (∀ E V, T0 = (if bt (mx 9 4) d = true then [E] else []) ++ V → (bt (mx 9 4) d = false → E = 1) → E2 = Jn E (Cn X l h) ∧ U = E2 :: V) → ∃ a e A E T0, BEL F mm c (m4 9 4) (m4 9 5) d a T0 ∧ HD mm c d a e ∧ SEG F (dk mm) c a z e A E ∧ U = E :: ((if bt (m4 9 5) d = true then [A] else []) ++ T0) ∧ (bt (m4 9 5) d = false → A = 0) := fun {F X T0 E2 U} h1 h2 h3 => by
    obtain ⟨a, e, A, E, T1, b1, b2, b3, b4, b5, b6⟩ := LVL_i.mp h1
    obtain ⟨u1, u2⟩ := h3 E _ b4 b5
    refine ⟨a, e, A, E2, T1, BEL_c (fun _ _ _ _ _ => rfl) (fun _ _ => rfl) (fun _ _ _ => rfl) bits b1, b2, ?_, by rw [e5]; exact u2, by rw [e5]; exact b6⟩
    rw [u1]
    refine SEG_i hc hz b3 h2 i2 ?_ i4 i5 i6 i7
    show mm 29 _ = _
    rw [i3]; exact b2.1
  rcases s3 with ⟨cb, st⟩ | ⟨cb, e⟩
  · refine GS_w (GS_join gs hi hc hp (Or.inl rfl) st (fun F T w => ?_)) SK_r (Nat.le_refl _) (fun F T w => ?_)
    · obtain ⟨X, T0, e, w1, w2⟩ := w
      obtain ⟨a, e2, A, E, T1, b1, b2, b3, b4, b5, b6⟩ := LVL_i.mp w1
      rw [if_pos cb] at b4
      exact ⟨_, _, _, by rw [e, b4]; rfl⟩
    · obtain ⟨y, x, u, ⟨X, T0, e, w1, w2⟩, w3⟩ := w
      obtain ⟨ey, eu⟩ := List.cons.inj e
      refine key (E2 := Jn x y) w1 w2 (fun E V hT hE => ?_)
      rw [if_pos cb, ← eu] at hT
      obtain ⟨ex, ev⟩ := List.cons.inj hT
      rw [w3, if_pos rfl, ex, ey, ev]
      exact ⟨rfl, rfl⟩
  · refine GS_w gs (by rw [e]; exact SK_r) (Nat.le_refl _) (fun F T w => ?_)
    obtain ⟨X, T0, e, w1, w2⟩ := w
    refine key (E2 := Cn X l h) w1 w2 (fun E V hT hE => ?_)
    rw [if_neg (by rw [cb]; decide)] at hT
    rw [hE cb, Jn_1l, e, hT]
    exact ⟨rfl, rfl⟩
theorem GD_of {m4 m6 mm : Mem} {b c d z i p : Nat} {fs S0 : Nat → Nat} (g : GC m4 mm b c d z i p fs S0) (hi : i ≤ 400) (hc : c < 6) (hp : p ≤ 6) (hd : d < 8) (s : SC b c d 5 192 m4 m6) : GD m6 mm b c d z i p fs S0 := by
  obtain ⟨g4, g5, gs⟩ := g
  obtain ⟨s1, s2, s3⟩ := s
  have e4 : m6 9 4 = m4 9 4 := s1 4 (by decide)
  have bits : ∀ l, l < d → bt (m6 9 4) l = bt (m4 9 4) l ∧ bt (m6 9 5) l = bt (m4 9 5) l := fun l hl => ⟨by rw [e4], by rw [s2 l (by omega), decide_eq_false (by omega)]; simp⟩
  refine ⟨fun l l1 l2 => ⟨by rw [e4]; exact g4 l l1 l2, ?_⟩, ?_⟩
  · rw [s2 l l2]
    by_cases q : l = d
    · rw [decide_eq_true q]; simp
    · rw [g5 l (by omega) l2]; rfl
  rcases s3 with ⟨cb, st⟩ | ⟨cb, e⟩
  · refine GS_w (GS_join gs hi hc hp (Or.inr rfl) st (fun F T w => ?_)) SK_r (Nat.le_refl _) (fun F T w => ?_)
    · obtain ⟨a, e, A, E, T0, w1, w2, w3, w4, w5⟩ := w
      rw [if_pos cb] at w4
      exact ⟨_, _, _, w4⟩
    · obtain ⟨y, x, u, ⟨a, e, A, E, T0, w1, w2, w3, w4, w5⟩, w6⟩ := w
      rw [if_pos cb] at w4
      obtain ⟨ey, eu⟩ := List.cons.inj w4
      obtain ⟨ex, ev⟩ := List.cons.inj eu
      refine ⟨a, e, A, E, T0, BEL_c (fun _ _ _ _ _ => rfl) (fun _ _ => rfl) (fun _ _ _ => rfl) bits w1, w2, w3, ?_⟩
      rw [w6, if_neg (by decide), ex, ey, ev]
      rfl
  · refine GS_w gs (by rw [e]; exact SK_r) (Nat.le_refl _) (fun F T w => ?_)
    obtain ⟨a, e, A, E, T0, w1, w2, w3, w4, w5⟩ := w
    rw [if_neg (by rw [cb]; decide)] at w4
    refine ⟨a, e, A, E, T0, BEL_c (fun _ _ _ _ _ => rfl) (fun _ _ => rfl) (fun _ _ _ => rfl) bits w1, w2, w3, ?_⟩
    rw [w5 cb, z_or, w4]
    rfl
theorem GB_comma {m4 m2 mm mm2 : Mem} {b c d z i j p : Nat} {fs S0 : Nat → Nat} (g : GC m4 mm b c d z i p fs S0) (hd : d < 8) (k : SK b m4 m2) (e4 : ∀ l, l < 32 → bt (m2 9 4) l = (bt (m4 9 4) l || decide (l = d))) (e5 : m2 9 5 = m4 9 5) (hm : ∀ a, 27 ≤ a → a ≤ 35 → mm2 a = mm a) (hj : i ≤ j) : GB m2 mm2 b c d z j p fs S0 := by
  obtain ⟨g4, g5, gs⟩ := g
  refine ⟨fun l l1 l2 => ⟨by rw [e4 l l2, g4 l (by omega) l2, decide_eq_false (by omega)]; rfl, by rw [e5]; exact g5 l l1 l2⟩, GS_w gs k hj (fun F T w => ?_)⟩
  obtain ⟨a, e, A, E, T0, w1, w2, w3, w4, w5⟩ := w
  refine LVL_i.mpr ⟨a, e, A, E, T0, BEL_c (fun x jj x1 x2 _ => by rw [hm x (by omega) (by omega)]) (fun l _ => by rw [hm 34 (by decide) (by decide)]) (fun l _ _ => by rw [hm 35 (by decide) (by decide)]) (fun l hl => ⟨by rw [e4 l (by omega), decide_eq_false (by omega), Bool.or_false], by rw [e5]⟩) w1, HD_c (fun x jj x1 x2 _ => by rw [hm x (by omega) (by omega)]) (by rw [hm 34 (by decide) (by decide)]) w2, SEG_c (tre_dk (fun x jj x1 x2 _ _ => by rw [hm x (by omega) (by omega)])) w3, ?_⟩
  have hb : bt (m2 9 4) d = true := by rw [e4 d (by omega), decide_eq_true rfl, Bool.or_true]
  unfold TOPV
  rw [e5, if_pos hb]
  exact ⟨by rw [w4]; rfl, fun q => absurd (hb.symm.trans q) (by decide), w5⟩
theorem GB_bar {m6 m2 m42 mm2 : Mem} {b c d z i j p v w : Nat} {fs S0 : Nat → Nat} (g : GD m6 m42 b c d z i p fs S0) (hc : c < 6) (hd : d < 8) (hz : z + 1 ≤ 160) (k : SK b m6 m2) (e4 : m2 9 4 = m6 9 4) (e5 : ∀ l, l < 32 → bt (m2 9 5) l = (bt (m6 9 5) l || decide (l = d))) (ev : m42 34 d = nI (160 * c + v)) (hv : v < 160) (hw : w < 160) (ew : m42 29 (160 * c + v) = nI (160 * c + w)) (hm : ∀ a, a ≠ 0 → mm2 a = (sto (cm m42 c z 1 (nI (160 * c + w))) 34 d (nI (160 * c + z))) a) (hj : i ≤ j) : GB m2 mm2 b c d (z + 1) j p fs S0 := by
  obtain ⟨g4, gs⟩ := g
  have o28 : ∀ a jj, 28 ≤ a → a ≤ 32 → jj ≠ 160 * c + z → mm2 a jj = m42 a jj := fun a jj a1 a2 j0 => by
    rw [hm a (by omega), rd_o (by omega), cm_j (by omega) j0]
  have e34 : ∀ l, l ≠ d → mm2 34 l = m42 34 l := fun l hl => by rw [hm 34 (by decide), rd_j hl, cm_o (by omega)]
  have v34 : mm2 34 d = nI (160 * c + z) := by rw [hm 34 (by decide), rd_s]
  have e35 : mm2 35 = m42 35 := by rw [hm 35 (by decide), rd_o (by decide), cm_o (by omega)]
  obtain ⟨p1, p2, p3, p4, p5⟩ := cm_s (m := m42) (c := c) (z := z) (what := 1) (within := nI (160 * c + w))
  have v28 : mm2 28 (160 * c + z) = 1 := by rw [hm 28 (by decide), rd_o (by decide)]; exact p1
  have v29 : mm2 29 (160 * c + z) = nI (160 * c + w) := by rw [hm 29 (by decide), rd_o (by decide)]; exact p2
  refine ⟨fun l l1 l2 => ⟨by rw [e4]; exact (g4 l (by omega) l2).1, by rw [e5 l l2, (g4 l (by omega) l2).2, decide_eq_false (by omega)]; rfl⟩, GS_w gs k hj (fun F T q => ?_)⟩
  obtain ⟨a, e, A, E, T0, w1, w2, w3, w4⟩ := q
  have a1 := w3.1
  have a2 := w3.2.1
  have ee : e = v := by
    have := w2.1.symm.trans ev
    have := (nI_eq (by omega) (by omega)).mp this
    omega
  have ea : a = w := by
    have := w2.2.2.1
    rw [ee, ew] at this
    have := (nI_eq (by omega) (by omega)).mp this
    omega
  have h1 : bt (m2 9 5) d = true := by rw [e5 d (by omega), decide_eq_true rfl, Bool.or_true]
  have h2 : bt (m2 9 4) d = false := by rw [e4]; exact (g4 d (Nat.le_refl _) (by omega)).1
  refine LVL_i.mpr ⟨a, z, A ||| E, 1, T0, BEL_c (fun x jj x1 x2 hj => o28 x _ x1 x2 (by omega)) (fun l hl => e34 l (by omega)) (fun l _ _ => by rw [e35]) (fun l hl => ⟨by rw [e4], by rw [e5 l (by omega), decide_eq_false (by omega), Bool.or_false]⟩) w1, ⟨v34, v28, by rw [v29, ea], by rw [o28 28 _ (by decide) (by decide) (by omega)]; exact w2.2.2.2⟩, ?_, ?_⟩
  · have sg : SEG F (dk mm2) c a z e A E := SEG_c (tre_dk (fun x jj x1 x2 _ j2 => o28 x _ x1 x2 (by omega))) w3
    refine SEG_b hc hz sg ?_ v28 ?_
    · show mm2 28 (160 * c + e) = 1
      rw [o28 28 _ (by decide) (by decide) (by omega)]
      exact w2.2.1
    · show mm2 29 (160 * c + z) = nI (160 * c + a)
      rw [v29, ea]
  · unfold TOPV
    rw [if_pos h1, h2]
    exact ⟨by rw [w4]; simp, fun _ => rfl, fun q => absurd (h1.symm.trans q) (by decide)⟩
theorem GA_close {m6 m2 mm mm2 : Mem} {b c d z i j p u : Nat} {fs S0 : Nat → Nat} (g : GD m6 mm b c (d + 1) z i p fs S0) (hc : c < 6) (hd : d < 8) (hz : z ≤ 160) (k : SK b m6 m2) (e4 : m2 9 4 = m6 9 4) (e5 : m2 9 5 = m6 9 5) (eu : mm 35 (d + 1) = nI (160 * c + u)) (hu : u < z) (hm : ∀ a, 27 ≤ a → a ≤ 35 → mm2 a = mm a) (hj : i ≤ j) : GA m2 mm2 b c d u z 1 1 j p fs S0 := by
  obtain ⟨g4, gs⟩ := g
  have gs2 := gs
  obtain ⟨q, S, h, w, hq, ok, s0, hp, pot, hF⟩ := gs2
  have up : ∀ {F : Nat → Int32} {a e : Nat} {A E : Int32} {T0 : List Int32}, BEL F mm c (m6 9 4) (m6 9 5) (d + 1) a T0 → HD mm c (d + 1) a e → SEG F (dk mm) c a z e A E → a = u + 1 ∧ ITV mm c d u ∧ LVL F mm c (m6 9 4) (m6 9 5) d u T0 := fun {F a e A E T0} w1 w2 w3 => by
    obtain ⟨t, rfl, w5, w6⟩ := w1
    have a1 := w3.1
    have a2 := w3.2.1
    have et : t = u := by
      have := w5.1.symm.trans eu
      have := (nI_eq (by omega) (by omega)).mp this
      omega
    subst et
    exact ⟨rfl, w5, w6⟩
  refine ⟨fun l l1 l2 => ?_, ?_, GS_w gs k hj (fun F T q => ?_)⟩
  · rw [e4, e5]
    exact g4 l (by omega) l2
  · obtain ⟨-, a, e, A, E, T0, w1, w2, w3, w4⟩ := hF (fun _ => 0)
    obtain ⟨ea, ⟨i1, i2, i3, i4, i5, i6, i7⟩, -⟩ := up w1 w2 w3
    exact ⟨hu, by rw [hm 28 (by decide) (by decide)]; exact i2, by rw [hm 29 (by decide) (by decide), hm 34 (by decide) (by decide)]; exact i3, by rw [hm 30 (by decide) (by decide)]; exact i4, by rw [hm 31 (by decide) (by decide)]; exact i5, by decide, by decide⟩
  · obtain ⟨a, e, A, E, T0, w1, w2, w3, w4⟩ := q
    obtain ⟨ea, ⟨i1, i2, i3, i4, i5, i6, i7⟩, w6⟩ := up w1 w2 w3
    subst ea
    refine ⟨A ||| E, T0, by rw [w4, Cn_11], LVL_c d u T0 (fun x jj x1 x2 _ => by rw [hm x (by omega) (by omega)]) (fun l _ => by rw [hm 34 (by decide) (by decide)]) (fun l _ _ => by rw [hm 35 (by decide) (by decide)]) (fun l _ => by rw [e4, e5]; exact ⟨rfl, rfl⟩) w6, ITM_c (tre_dk (fun x jj x1 x2 _ _ => by rw [hm x (by omega) (by omega)])) ?_ ?_ (ITM_g hc hz w3 i2 w2.2.2.2 i7 w2.2.1 i6)⟩
    · show mm2 32 _ = mm 32 _
      rw [hm 32 (by decide) (by decide)]
    · show mm2 28 _ = mm 28 _
      rw [hm 28 (by decide) (by decide)]
/-! the shapes that are told -/
def FINs (mm : Mem) (S fs : Nat → Nat) (c : Nat) : Prop := ∀ s, s < c → fs s ≤ fs (s + 1) ∧ fs (s + 1) ≤ fs c ∧ ∃ z, mm 27 s = nI z ∧ z ≤ 160 ∧ ∀ F, (xst F S (fs s) (fs (s + 1) - fs s)).length ≤ 1 ∧ (rr F (dk mm) s 0 z (1, din (dk mm) s)).1 = (xst F S (fs s) (fs (s + 1) - fs s)).headD 1
def GF (mx mm : Mem) (b c i : Nat) : Prop := ∃ S fs : Nat → Nat, mx b 1 = nI (fs c) ∧ (∀ s, s ≤ c → mx (b + 7) s = nI (fs s)) ∧ (∀ j, j < fs c → mx (b + 8) j = nI (S j) ∧ okv (S j)) ∧ 4 * fs c ≤ i + 29 * c ∧ FINs mm S fs c
/-- the shape is at its end -/
def GE (mx mm : Mem) (b c i p : Nat) (fs S0 : Nat → Nat) : Prop := ∃ z, mm 27 c = nI z ∧ z ≤ 160 ∧ GS mx b c i p fs S0 (fun F T => (p = 0 ∨ T.length = 1) ∧ T.length ≤ 1 ∧ (rr F (dk mm) c 0 z (1, din (dk mm) c)).1 = T.headD 1)
theorem GE_of {m6 m2 mm mm2 : Mem} {b c z i j p : Nat} {fs S0 : Nat → Nat} (g : GD m6 mm b c 0 z i p fs S0) (hz : z ≤ 160) (ez : mm 27 c = nI z) (k : SK b m6 m2) (hm : ∀ a, 27 ≤ a → a ≤ 35 → mm2 a = mm a) (hj : i ≤ j) : GE m2 mm2 b c j p fs S0 := by
  obtain ⟨g4, gs⟩ := g
  refine ⟨z, by rw [hm 27 (by decide) (by decide)]; exact ez, hz, GS_w gs k hj (fun F T q => ?_)⟩
  obtain ⟨a, e, A, E, T0, w1, w2, w3, w4⟩ := q
  obtain ⟨rfl, rfl, w5⟩ := w1
  rw [w4]
  refine ⟨Or.inr rfl, Nat.le_refl _, ?_⟩
  refine SEG_w (e := e) hz (SEG_c (tre_dk (fun x jj x1 x2 _ _ => by rw [hm x (by omega) (by omega)])) w3) ?_ ?_ ?_
  · show mm2 28 _ = 1
    rw [hm 28 (by decide) (by decide)]; exact w2.2.1
  · show mm2 28 _ = 0
    rw [hm 28 (by decide) (by decide)]; exact w2.2.2.2
  · show mm2 29 _ = -4
    rw [hm 29 (by decide) (by decide)]; exact w5
theorem rr_din {F : Nat → Int32} {m m2 : Mem} {s z : Nat} (te : ∀ x j, 14 ≤ x → x ≤ 18 → j < z → m2 x (160 * s + j) = m x (160 * s + j)) (hz : z ≤ 160) (hK : ∀ j, j < z → ∃ p, KD m s p j) (hs : s < 6) : (rr F m2 s 0 z (1, din m2 s)).1 = (rr F m s 0 z (1, din m s)).1 := by
  have ag : ∀ (n : Nat) (w : Int32) (f g : Nat → Int32), n ≤ z → (∀ j, j < z → f j = g j) → (rrn F m s 0 n (w, f)).1 = (rrn F m s 0 n (w, g)).1 := by
    intro n
    induction n with
    | zero => intro w f g _ _; rfl
    | succ n ih =>
      intro w f g hn h
      show (rrn F m s 0 n (rst F m s (0 + n) (w, f))).1 = (rrn F m s 0 n (rst F m s (0 + n) (w, g))).1
      rw [Nat.zero_add]
      have en := h n (by omega)
      obtain ⟨p, hk⟩ := hK n (by omega)
      have U : ∀ (u : Nat) (x : Int32), ∀ j, j < z → upd f u x j = upd g u x j := fun u x j hj => by
        rw [upd_if, upd_if]
        by_cases e : j = u
        · rw [if_pos e, if_pos e]
        · rw [if_neg e, if_neg e]; exact h j hj
      by_cases c15 : m 15 (160 * s + n) = -4
      · have c2 : ¬ m 14 (160 * s + n) = 2 := fun c => by
          rcases hk with ⟨e, -⟩ | ⟨e, -⟩ | ⟨-, ⟨u, hu, e⟩, -⟩
          · rw [e] at c; exact absurd c (by decide)
          · rw [e] at c; exact absurd c (by decide)
          · rw [c15] at e; exact nn4 (by omega) e.symm
        have c1 : ¬ m 14 (160 * s + n) = 1 := fun c => by
          rcases hk with ⟨e, -⟩ | ⟨-, u, hu, e⟩ | ⟨e, -⟩
          · rw [e] at c; exact absurd c (by decide)
          · rw [c15] at e; exact nn4 (by omega) e.symm
          · rw [e] at c; exact absurd c (by decide)
        unfold rst
        rw [if_neg c2, if_neg c1, if_pos c15, if_neg c2, if_neg c1, if_pos c15]
        dsimp only
        rw [en]
        exact ih _ _ _ (by omega) h
      · obtain ⟨u, hu, e15, eu⟩ := dstep_u hk (by omega : n < z) hs c15 hz
        have hu2 := h u (by omega)
        unfold rst
        rw [eu]
        dsimp only
        rw [en, hu2]
        by_cases c2 : m 14 (160 * s + n) = 2
        · rw [if_pos c2, if_pos c2]
          exact ih _ _ _ (by omega) (U _ _)
        · rw [if_neg c2, if_neg c2]
          by_cases c1 : m 14 (160 * s + n) = 1
          · rw [if_pos c1, if_pos c1]
            exact ih _ _ _ (by omega) (U _ _)
          · rw [if_neg c1, if_neg c1, if_neg c15, if_neg c15]
            exact ih _ _ _ (by omega) (U _ _)
  have e1 : rr F m2 s 0 z (1, din m2 s) = rr F m s 0 z (1, din m2 s) := rr_c (fun a j a1 a2 _ j2 => te a j a1 a2 j2) _
  rw [e1]
  unfold rr
  exact ag _ _ _ _ (by omega) (fun j hj => by unfold din; rw [te 14 j (by decide) (by decide) hj])
def FRs (c : Nat) (m m2 : Mem) : Prop := ∀ s, s < c → m2 27 s = m 27 s ∧ ∀ a j, 28 ≤ a → a ≤ 32 → j < 160 → m2 a (160 * s + j) = m a (160 * s + j)
theorem FINs_c {mm mm2 : Mem} {S S2 fs : Nat → Nat} {c : Nat} {P Z : Nat → Nat} (h : FINs mm S fs c) (hc : c ≤ 6) (f : FRs c mm mm2) (D : DS mm c P Z) (e : ∀ j, j < fs c → S2 j = S j) : FINs mm2 S2 fs c := by
  intro s hs
  obtain ⟨h1, h2, z, h3, h4, h5⟩ := h s hs
  obtain ⟨f2, f3⟩ := f s hs
  obtain ⟨d1, d2, d3, d4, d5⟩ := D s hs
  have ez : Z s = z := (nI_eq (by omega) (by omega)).mp (d3.symm.trans h3)
  refine ⟨h1, h2, z, by rw [f2]; exact h3, h4, fun F => ?_⟩
  rw [xst_c (F := F) (S := S) (S2 := S2) (f := fs s) (fs (s + 1) - fs s) (fun i i1 i2 => e i (by omega))]
  obtain ⟨g1, g2⟩ := h5 F
  refine ⟨g1, ?_⟩
  rw [← g2]
  exact rr_din (fun x j x1 x2 hj => f3 (x + 14) j (by omega) (by omega) (by omega)) h4 (fun j hj => ⟨P s, d5 j (by omega)⟩) (by omega)
theorem FINs_n {mm mm2 : Mem} {S fs : Nat → Nat} {c : Nat} (h : FINs mm S fs c) (hm : ∀ a, 27 ≤ a → a ≤ 35 → mm2 a = mm a) : FINs mm2 S fs c := by
  intro s hs
  obtain ⟨h1, h2, z, h3, h4, h5⟩ := h s hs
  refine ⟨h1, h2, z, by rw [hm 27 (by decide) (by decide)]; exact h3, h4, fun F => ?_⟩
  obtain ⟨g1, g2⟩ := h5 F
  refine ⟨g1, ?_⟩
  rw [← g2]
  have rre : rr F (dk mm2) s 0 = rr F (dk mm) s 0 := by
    funext hi a
    exact rr_c (tre_dk (fun x jj x1 x2 _ _ => by rw [hm x (by omega) (by omega)])) a
  have dne : din (dk mm2) s = din (dk mm) s := by
    funext jj
    show (if mm2 28 _ = 1 then _ else _) = (if mm 28 _ = 1 then _ else _)
    rw [hm 28 (by decide) (by decide)]
  rw [rre, dne]
theorem GE_n {mx mx2 mm mm2 : Mem} {b c i j p : Nat} {fs S0 : Nat → Nat} (g : GE mx mm b c i p fs S0) (k : SK b mx mx2) (hj : i ≤ j) (hm : ∀ a, 27 ≤ a → a ≤ 35 → mm2 a = mm a) : GE mx2 mm2 b c j p fs S0 := by
  obtain ⟨z, ez, hz, gs⟩ := g
  refine ⟨z, by rw [hm 27 (by decide) (by decide)]; exact ez, hz, GS_w gs k hj (fun F T q => ?_)⟩
  obtain ⟨q1, q2, q3⟩ := q
  refine ⟨q1, q2, ?_⟩
  rw [← q3]
  have rre : rr F (dk mm2) c 0 = rr F (dk mm) c 0 := by
    funext hi a
    exact rr_c (tre_dk (fun x jj x1 x2 _ _ => by rw [hm x (by omega) (by omega)])) a
  have dne : din (dk mm2) c = din (dk mm) c := by
    funext jj
    show (if mm2 28 _ = 1 then _ else _) = (if mm 28 _ = 1 then _ else _)
    rw [hm 28 (by decide) (by decide)]
  rw [rre, dne]
theorem bits_0 {x : Int32} (h : ∀ l, 0 ≤ l → l < 32 → bt x l = false) : x = 0 := b_ext (fun l hl => by rw [h l (Nat.zero_le _) hl, b_0])
theorem GF_of {mx mx2 mm mm2 : Mem} {b c i j p : Nat} {fs S0 : Nat → Nat} (g : GE mx mm b c i p fs S0) (hp : p ≤ 6) (hc : c < 6) (hj : i + 1 ≤ j) (k : SK b mx mx2) (hf : ∀ S : Nat → Nat, (∀ j, j < fs c → S j = S0 j) → FINs mm S fs c) (hm : ∀ a, 27 ≤ a → a ≤ 35 → mm2 a = mm a) : GF mx2 mm2 b (c + 1) j := by
  obtain ⟨z, ez, hz, q, S, h, w, hq, ok, s0, hh, pot, hF⟩ := g
  obtain ⟨w1, w2, w3, w4⟩ := SW_c k.1 k.2.1 k.2.2 w
  have fi := hf S s0
  refine ⟨S, up fs (c + 1) q, by rw [up_s]; exact w1, fun s hs => ?_, fun j hj => ?_, ?_, fun s hs => ?_⟩
  · by_cases e : s = c + 1
    · rw [e, up_s]; exact w3
    · rw [up_o e]; exact w2 s (by omega)
  · rw [up_s] at hj
    exact ⟨w4 j hj, ok j hj⟩
  · rw [up_s]
    obtain ⟨e1, e2, e3, -⟩ := hF (fun _ => 0)
    rcases e2 with e2 | e2 <;> omega
  · rw [up_s, up_o (show s ≠ c + 1 by omega)]
    have rre : ∀ F s, rr F (dk mm2) s 0 = rr F (dk mm) s 0 := fun F s => by
      funext hi a
      exact rr_c (tre_dk (fun x jj x1 x2 _ _ => by rw [hm x (by omega) (by omega)])) a
    have dne : ∀ s, din (dk mm2) s = din (dk mm) s := fun s => by
      funext jj
      show (if mm2 28 _ = 1 then _ else _) = (if mm 28 _ = 1 then _ else _)
      rw [hm 28 (by decide) (by decide)]
    by_cases e : s = c
    · subst e
      rw [up_s]
      refine ⟨hq, Nat.le_refl _, z, by rw [hm 27 (by decide) (by decide)]; exact ez, hz, fun F => ?_⟩
      obtain ⟨-, -, e3, e4⟩ := hF F
      rw [rre, dne]
      exact ⟨e3, e4⟩
    · obtain ⟨h1, h2, z2, h3, h4, h5⟩ := fi s (by omega)
      rw [up_o (show s + 1 ≠ c + 1 by omega)]
      refine ⟨h1, by omega, z2, by rw [hm 27 (by decide) (by decide)]; exact h3, h4, fun F => ?_⟩
      rw [rre, dne]
      exact h5 F
/-- a shape begins: nothing of it is noted -/
theorem GS_new {mx mx2 mm : Mem} {b c i j : Nat} (g : GF mx mm b c i) (hj : i + 2 ≤ j) (e1 : mx2 b 1 = mx b 1) (e8 : mx2 (b + 8) = mx (b + 8)) (e7 : mx2 (b + 7) = upd (mx (b + 7)) (c + 1) (mx b 1)) : ∃ S fs : Nat → Nat, FINs mm S fs c ∧ GS mx2 b c j 0 fs S (fun _ T => T = []) := by
  obtain ⟨S, fs, g1, g2, g3, g4, g5⟩ := g
  refine ⟨S, fs, g5, fs c, S, 0, ⟨by rw [e1]; exact g1, fun s hs => ?_, ?_, fun j hj => ?_⟩, Nat.le_refl _, fun j hj => (g3 j hj).2, fun _ _ => rfl, Nat.le_refl _, by omega, fun F => ?_⟩
  · rw [e7, pk_un (by omega)]; exact g2 s hs
  · rw [e7, pk_us]; exact g1
  · rw [e8]; exact (g3 j hj).1
  · rw [Nat.sub_self]
    exact ⟨rfl, rfl⟩
theorem GE_0 {mx mx2 mm : Mem} {b c i j : Nat} {fs S0 : Nat → Nat} (g : GS mx b c i 0 fs S0 (fun _ T => T = [])) (k : SK b mx mx2) (hj : i ≤ j) (ez : mm 27 c = nI 0) : GE mx2 mm b c j 0 fs S0 := by
  refine ⟨0, ez, by omega, GS_w g k hj (fun F T q => ?_)⟩
  rw [q]
  exact ⟨Or.inl rfl, Nat.zero_le _, by rw [rr_0]; rfl⟩
/-- the first level opens -/
theorem GB_0 {mx mx2 m mm2 : Mem} {b c i j : Nat} {fs S0 : Nat → Nat} (g : GS mx b c i 0 fs S0 (fun _ T => T = [])) (hc : c < 6) (e4 : mx2 9 4 = 0) (e5 : mx2 9 5 = 0) (k : SK b mx mx2) (hj : i ≤ j) (hm : ∀ a, a ≠ 0 → mm2 a = (sto (cm (cm (sto m 35 0 (-4)) c 0 0 (-4)) c (0 + 1) 1 (nI (160 * c + 0))) 34 0 (nI (160 * c + (0 + 1)))) a) : GB mx2 mm2 b c 0 2 j 0 fs S0 := by
  refine ⟨fun l _ _ => by rw [e4, e5]; exact ⟨b_0 l, b_0 l⟩, GS_w g k hj (fun F T h => ?_)⟩
  have z0 : ∀ a, 28 ≤ a → a ≤ 32 → mm2 a (160 * c + 0) = (cm (sto m 35 0 (-4)) c 0 0 (-4)) a (160 * c + 0) := fun a a1 a2 => by
    rw [hm a (by omega), rd_o (by omega), cm_j (by omega) (by omega)]
  have z1 : ∀ a, 28 ≤ a → a ≤ 32 → mm2 a (160 * c + 1) = (cm (cm (sto m 35 0 (-4)) c 0 0 (-4)) c (0 + 1) 1 (nI (160 * c + 0))) a (160 * c + (0 + 1)) := fun a a1 a2 => by
    rw [hm a (by omega), rd_o (by omega)]
  obtain ⟨p1, p2, p3, p4, p5⟩ := cm_s (m := sto m 35 0 (-4)) (c := c) (z := 0) (what := 0) (within := -4)
  obtain ⟨q1, q2, q3, q4, q5⟩ := cm_s (m := cm (sto m 35 0 (-4)) c 0 0 (-4)) (c := c) (z := 0 + 1) (what := 1) (within := nI (160 * c + 0))
  have v28 : mm2 28 (160 * c + 1) = 1 := by rw [z1 28 (by decide) (by decide)]; exact q1
  have v29 : mm2 29 (160 * c + 1) = nI (160 * c + 0) := by rw [z1 29 (by decide) (by decide)]; exact q2
  refine ⟨1, 0, 1, ⟨by rw [hm 34 (by decide), rd_s], v28, v29, by rw [z0 28 (by decide) (by decide)]; exact p1⟩, by rw [z0 29 (by decide) (by decide)]; exact p2, SEG_0 (a := 0) hc (by omega) v28 v29, ?_⟩
  unfold TOPV
  rw [e4, e5, b_0, h]
  exact ⟨rfl, fun _ => rfl, fun _ => rfl⟩
