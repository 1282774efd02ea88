/-! the class's steps, as they are noted -/
def SW (m : Mem) (b c q : Nat) (S fs : Nat → Nat) : Prop := m b 1 = nI q ∧ (∀ s, s ≤ c → m (b + 7) s = nI (fs s)) ∧ m (b + 7) (c + 1) = nI q ∧ ∀ i, i < q → m (b + 8) i = nI (S i)
def SWt (mx mx2 : Mem) (b c v : Nat) : Prop := ∀ (q : Nat) (S fs : Nat → Nat), SW mx b c q S fs → q < 146 → SW mx2 b c (q + 1) (up S q v) fs
theorem SW_c {m m2 : Mem} {b c q : Nat} {S fs : Nat → Nat} (e1 : m2 b 1 = m b 1) (e7 : m2 (b + 7) = m (b + 7)) (e8 : m2 (b + 8) = m (b + 8)) (h : SW m b c q S fs) : SW m2 b c q S fs := by
  unfold SW at *
  rw [e1, e7, e8]
  exact h
/-- the three rows of a book in which its steps stand -/
def SK (b : Nat) (m m2 : Mem) : Prop := m2 b 1 = m b 1 ∧ m2 (b + 7) = m (b + 7) ∧ m2 (b + 8) = m (b + 8)
theorem SK_r {b : Nat} {m : Mem} : SK b m m := ⟨rfl, rfl, rfl⟩
theorem SK_t {b : Nat} {x y z : Mem} (h : SK b x y) (g : SK b y z) : SK b x z := ⟨g.1.trans h.1, g.2.1.trans h.2.1, g.2.2.trans h.2.2⟩
theorem SK_9 {b j a : Nat} {m : Mem} {x : Int32} (h0 : a ≠ b) (h7 : a ≠ b + 7) (h8 : a ≠ b + 8) : SK b m (sto m a j x) := ⟨by rw [rd_o (fun z => h0 z.symm)], rd_o (fun z => h7 z.symm), rd_o (fun z => h8 z.symm)⟩
theorem SWt_k {b c v : Nat} {x y x2 y2 : Mem} (h : SWt x y b c v) (g : SK b x2 x) (g2 : SK b y y2) : SWt x2 y2 b c v := fun q S fs w hq => SW_c g2.1 g2.2.1 g2.2.2 (h q S fs (SW_c g.1 g.2.1 g.2.2 w) hq)
theorem o_addStep2 {m : Mem} {b c v : Nat} {kd ar : Int32} (h : CB m b (c + 1)) (hv : kd * 64 + ar = nI v) : ∃ m2, s_X0_addStep m b kd ar = some m2 ∧ CB m2 b (c + 1) ∧ (∀ a, a ≠ b → a ≠ b + 7 → a ≠ b + 8 → m2 a = m a) ∧ m2 b 2 = m b 2 ∧ SWt m m2 b c v := by
  obtain ⟨m2, e, h1, h2, h3⟩ := o_addStep (kd := kd) (ar := ar) h
  refine ⟨m2, e, h1, h2, h3, fun q S fs w hq => ?_⟩
  obtain ⟨hb, h0, hc, -⟩ := h
  have hb2 := isb_e hb
  obtain ⟨w1, w2, w3, w4⟩ := w
  unfold s_X0_addStep at e
  rw [w1, if_neg (show ¬ (146 : Int32) ≤ nI q from nI_ge (b := 146) hq (by decide)), hs_last h0 hc, bind_s, if_bb, if_pos (show 0 < c + 1 by omega), ck_p (zin_nI hq (by decide)), ix_nI (n := q) (by omega), hv] at e
  simp only [bn] at e
  have r1 : (sto m (b + 8) q (nI v)) b 1 = nI q := by rw [rd_o (by omega)]; exact w1
  rw [r1, nI_s1] at e
  have r2 : (sto (sto m (b + 8) q (nI v)) b 1 (nI (q + 1))) b 0 = nI (c + 1) := by rw [rd_j (by decide), rd_o (by omega)]; exact h0
  rw [r2, rd_s, ck_p (zin_nI (by omega) (by decide)), ix_nI (n := c + 1) (by omega)] at e
  have e := Option.some.inj e
  subst e
  refine ⟨by rw [rd_o (by omega), rd_s], fun s hs => ?_, rd_s, fun i hi => ?_⟩
  · rw [rd_j (by omega), rd_o (by omega), rd_o (by omega)]; exact w2 s hs
  · rw [rd_o (by omega), rd_o (by omega)]
    by_cases q2 : i = q
    · rw [q2, rd_s, up_s]
    · rw [rd_j q2, up_o q2]; exact w4 i (by omega)
theorem xst_up {F : Nat → Int32} {S : Nat → Nat} {f q v : Nat} (h : f ≤ q) : xst F (up S q v) f (q + 1 - f) = xsp F v (xst F S f (q - f)) := by
  rw [show q + 1 - f = (q - f) + 1 by omega]
  show xsp F (up S q v (f + (q - f))) (xst F (up S q v) f (q - f)) = _
  rw [show f + (q - f) = q by omega, up_s, xst_c _ (fun i i1 i2 => up_o (by omega))]
/-- the steps of the shape that is being told; what the stack then holds, by the rows of the parts -/
def GS (mx : Mem) (b c i p : Nat) (fs S0 : Nat → Nat) (R : (Nat → Int32) → List Int32 → Prop) : Prop := ∃ (q : Nat) (S : Nat → Nat) (h : Nat), SW mx b c q S fs ∧ fs c ≤ q ∧ (∀ j, j < q → okv (S j)) ∧ (∀ j, j < fs c → S j = S0 j) ∧ h ≤ p ∧ 4 * q + 4 * h + 2 ≤ i + 29 * c + 6 * p ∧ ∀ F, (xst F S (fs c) (q - fs c)).length = h ∧ R F (xst F S (fs c) (q - fs c))
theorem GS_w {mx mx2 : Mem} {b c i j p : Nat} {fs S0 : Nat → Nat} {R R2 : (Nat → Int32) → List Int32 → Prop} (g : GS mx b c i p fs S0 R) (k : SK b mx mx2) (hj : i ≤ j) (hR : ∀ F T, R F T → R2 F T) : GS mx2 b c j p fs S0 R2 := by
  obtain ⟨q, S, h, w, hq, ok, s0, hp, pot, hF⟩ := g
  exact ⟨q, S, h, SW_c k.1 k.2.1 k.2.2 w, hq, ok, s0, hp, by omega, fun F => ⟨(hF F).1, hR F _ (hF F).2⟩⟩
theorem GS_join {mx mx2 : Mem} {b c i p v : Nat} {fs S0 : Nat → Nat} {R : (Nat → Int32) → List Int32 → Prop} (g : GS mx b c i p fs S0 R) (hi : i ≤ 400) (hc : c < 6) (hp6 : p ≤ 6) (hv : v = 128 ∨ v = 192) (t : SWt mx mx2 b c v) (hR : ∀ F T, R F T → ∃ y x u, T = y :: x :: u) : GS mx2 b c i p fs S0 (fun F T => ∃ y x u, R F (y :: x :: u) ∧ T = (if v = 128 then Jn x y else x ||| y) :: u) := by
  obtain ⟨q, S, h, w, hq, ok, s0, hp, pot, hF⟩ := g
  have h2 : 2 ≤ h := by
    obtain ⟨e1, e2⟩ := hF (fun _ => 0)
    obtain ⟨y, x, u, e⟩ := hR _ _ e2
    rw [e] at e1
    have e1 : u.length + 1 + 1 = h := e1
    omega
  refine ⟨q + 1, up S q v, h - 1, t q S fs w (by omega), by omega, fun j hj => ?_, fun j hj => ?_, by omega, by omega, fun F => ?_⟩
  · by_cases e : j = q
    · rw [e, up_s]; unfold okv; omega
    · rw [up_o e]; exact ok j (by omega)
  · rw [up_o (by omega)]; exact s0 j hj
  · obtain ⟨e1, e2⟩ := hF F
    obtain ⟨y, x, u, e⟩ := hR _ _ e2
    rw [xst_up hq]
    rw [e] at e1 e2 ⊢
    have e1 : u.length + 1 + 1 = h := e1
    have ex : xsp F v (y :: x :: u) = (if v = 128 then Jn x y else x ||| y) :: u := by
      unfold xsp
      rcases hv with rfl | rfl
      · rw [if_neg (by decide), if_neg (by decide), if_pos (by decide), if_pos rfl]
        rfl
      · rw [if_neg (by decide), if_neg (by decide), if_neg (by decide), if_neg (by decide)]
        rfl
    rw [ex]
    exact ⟨by show u.length + 1 = h - 1; omega, y, x, u, e2, rfl⟩
theorem GS_part {mx mx2 : Mem} {b c i j p : Nat} {fs S0 : Nat → Nat} {R : (Nat → Int32) → List Int32 → Prop} (g : GS mx b c i p fs S0 R) (hi : i ≤ 400) (hc : c < 6) (hp6 : p < 6) (t : SWt mx mx2 b c p) (hj : i + 2 ≤ j) : GS mx2 b c j (p + 1) fs S0 (fun F T => ∃ T0, R F T0 ∧ T = F p :: T0) := by
  obtain ⟨q, S, h, w, hq, ok, s0, hp, pot, hF⟩ := g
  refine ⟨q + 1, up S q p, h + 1, t q S fs w (by omega), by omega, fun j hj => ?_, fun j hj => ?_, by omega, by omega, fun F => ?_⟩
  · by_cases e : j = q
    · rw [e, up_s]; unfold okv; omega
    · rw [up_o e]; exact ok j (by omega)
  · rw [up_o (by omega)]; exact s0 j hj
  · obtain ⟨e1, e2⟩ := hF F
    rw [xst_up hq]
    have ex : xsp F p (xst F S (fs c) (q - fs c)) = F p :: xst F S (fs c) (q - fs c) := by
      unfold xsp
      rw [if_pos (by omega), if_pos (by omega)]
    rw [ex]
    exact ⟨by show _ + 1 = h + 1; omega, _, e2, rfl⟩
theorem GS_times {mx mx2 : Mem} {b c i j p l h : Nat} {fs S0 : Nat → Nat} {R : (Nat → Int32) → List Int32 → Prop} (g : GS mx b c i p fs S0 R) (hi : i ≤ 400) (hc : c < 6) (hp6 : p ≤ 6) (hl : l ≤ 5) (hh : h ≤ 5) (t : SWt mx mx2 b c (64 + (l * 8 + h))) (hj : i + 4 ≤ j) (hR : ∀ F T, R F T → ∃ x u, T = x :: u) : GS mx2 b c j p fs S0 (fun F T => ∃ x u, R F (x :: u) ∧ T = Cn x l h :: u) := by
  obtain ⟨q, S, n, w, hq, ok, s0, hp, pot, hF⟩ := g
  refine ⟨q + 1, up S q (64 + (l * 8 + h)), n, t q S fs w (by omega), by omega, fun j hj => ?_, fun j hj => ?_, hp, by omega, fun F => ?_⟩
  · by_cases e : j = q
    · rw [e, up_s]; unfold okv; omega
    · rw [up_o e]; exact ok j (by omega)
  · rw [up_o (by omega)]; exact s0 j hj
  · obtain ⟨e1, e2⟩ := hF F
    obtain ⟨x, u, e⟩ := hR _ _ e2
    rw [xst_up hq]
    rw [e] at e1 e2 ⊢
    have ex : xsp F (64 + (l * 8 + h)) (x :: u) = Cn x l h :: u := by
      unfold xsp
      rw [if_neg (by omega), if_pos (by omega)]
      unfold xtm
      rw [show (64 + (l * 8 + h) - 64) / 8 = l by omega, show (64 + (l * 8 + h) - 64) % 8 = h by omega]
    rw [ex]
    exact ⟨e1, x, u, e2, rfl⟩
/-! the levels that stand open: the reference's tree beside the class's stack -/
def HD (m : Mem) (s d a e : Nat) : Prop := m 34 d = nI (160 * s + e) ∧ m 28 (160 * s + e) = 1 ∧ m 29 (160 * s + e) = nI (160 * s + a) ∧ m 28 (160 * s + a) = 0
def TOPV (C B : Int32) (d : Nat) (A E : Int32) (T0 T : List Int32) : Prop := T = (if bt C d = true then [E] else []) ++ ((if bt B d = true then [A] else []) ++ T0) ∧ (bt C d = false → E = 1) ∧ (bt B d = false → A = 0)
def ITV (m : Mem) (s d t : Nat) : Prop := m 35 (d + 1) = nI (160 * s + t) ∧ m 28 (160 * s + t) = 2 ∧ m 29 (160 * s + t) = m 34 d ∧ m 30 (160 * s + t) = 1 ∧ m 31 (160 * s + t) = 1 ∧ m 32 (160 * s + t) = -4 ∧ m 29 (160 * s + (t + 1)) = nI (160 * s + t)
def LVL (F : Nat → Int32) (m : Mem) (s : Nat) (C B : Int32) : Nat → Nat → List Int32 → Prop
  | 0, z, T => ∃ e A E, HD m s 0 0 e ∧ m 29 (160 * s + 0) = -4 ∧ SEG F (dk m) s 0 z e A E ∧ TOPV C B 0 A E [] T
  | d + 1, z, T => ∃ t e A E T0, ITV m s d t ∧ LVL F m s C B d t T0 ∧ HD m s (d + 1) (t + 1) e ∧ SEG F (dk m) s (t + 1) z e A E ∧ TOPV C B (d + 1) A E T0 T
def BEL (F : Nat → Int32) (m : Mem) (s : Nat) (C B : Int32) : Nat → Nat → List Int32 → Prop
  | 0, a, T0 => a = 0 ∧ T0 = [] ∧ m 29 (160 * s + 0) = -4
  | d + 1, a, T0 => ∃ t, a = t + 1 ∧ ITV m s d t ∧ LVL F m s C B d t T0
theorem LVL_i {F : Nat → Int32} {m : Mem} {s d z : Nat} {C B : Int32} {T : List Int32} : LVL F m s C B d z T ↔ ∃ a e A E T0, BEL F m s C B d a T0 ∧ HD m s d a e ∧ SEG F (dk m) s a z e A E ∧ TOPV C B d A E T0 T := by
  cases d with
  | zero =>
    constructor
    · rintro ⟨e, A, E, h1, h2, h3, h4⟩
      exact ⟨0, e, A, E, [], ⟨rfl, rfl, h2⟩, h1, h3, h4⟩
    · rintro ⟨a, e, A, E, T0, ⟨rfl, rfl, h2⟩, h1, h3, h4⟩
      exact ⟨e, A, E, h1, h2, h3, h4⟩
  | succ d =>
    constructor
    · rintro ⟨t, e, A, E, T0, h1, h2, h3, h4, h5⟩
      exact ⟨t + 1, e, A, E, T0, ⟨t, rfl, h1, h2⟩, h3, h4, h5⟩
    · rintro ⟨a, e, A, E, T0, ⟨t, rfl, h1, h2⟩, h3, h4, h5⟩
      exact ⟨t, e, A, E, T0, h1, h2, h3, h4, h5⟩
theorem HD_c {m m2 : Mem} {s d a e : Nat} (te : ∀ x j, 28 ≤ x → x ≤ 32 → (j = a ∨ j = e) → m2 x (160 * s + j) = m x (160 * s + j)) (e34 : m2 34 d = m 34 d) (h : HD m s d a e) : HD m2 s d a e := by
  obtain ⟨h1, h2, h3, h4⟩ := h
  exact ⟨by rw [e34]; exact h1, by rw [te 28 e (by decide) (by decide) (Or.inr rfl)]; exact h2, by rw [te 29 e (by decide) (by decide) (Or.inr rfl)]; exact h3, by rw [te 28 a (by decide) (by decide) (Or.inl rfl)]; exact h4⟩
theorem ITV_c {m m2 : Mem} {s d t : Nat} (te : ∀ x j, 28 ≤ x → x ≤ 32 → (j = t ∨ j = t + 1) → m2 x (160 * s + j) = m x (160 * s + j)) (e34 : m2 34 d = m 34 d) (e35 : m2 35 (d + 1) = m 35 (d + 1)) (h : ITV m s d t) : ITV m2 s d t := by
  obtain ⟨h1, h2, h3, h4, h5, h6, h7⟩ := h
  exact ⟨by rw [e35]; exact h1, by rw [te 28 t (by decide) (by decide) (Or.inl rfl)]; exact h2, by rw [te 29 t (by decide) (by decide) (Or.inl rfl), e34]; exact h3, by rw [te 30 t (by decide) (by decide) (Or.inl rfl)]; exact h4, by rw [te 31 t (by decide) (by decide) (Or.inl rfl)]; exact h5, by rw [te 32 t (by decide) (by decide) (Or.inl rfl)]; exact h6, by rw [te 29 (t + 1) (by decide) (by decide) (Or.inr rfl)]; exact h7⟩
theorem tre_dk {m m2 : Mem} {s lo hi : Nat} (te : ∀ x j, 28 ≤ x → x ≤ 32 → lo ≤ j → j < hi → m2 x (160 * s + j) = m x (160 * s + j)) : tre (dk m) (dk m2) s lo hi := fun a j a1 a2 j1 j2 => te (a + 14) j (by omega) (by omega) j1 j2
theorem TOPV_c {C B C2 B2 : Int32} {d : Nat} {A E : Int32} {T0 T : List Int32} (h1 : bt C2 d = bt C d) (h2 : bt B2 d = bt B d) (h : TOPV C B d A E T0 T) : TOPV C2 B2 d A E T0 T := by
  unfold TOPV at *
  rw [h1, h2]
  exact h
theorem LVL_c {F : Nat → Int32} {m m2 : Mem} {s : Nat} {C B C2 B2 : Int32} : ∀ (d z : Nat) (T : List Int32), (∀ x j, 28 ≤ x → x ≤ 32 → j < z → m2 x (160 * s + j) = m x (160 * s + j)) → (∀ l, l ≤ d → m2 34 l = m 34 l) → (∀ l, 1 ≤ l → l ≤ d → m2 35 l = m 35 l) → (∀ l, l ≤ d → bt C2 l = bt C l ∧ bt B2 l = bt B l) → LVL F m s C B d z T → LVL F m2 s C2 B2 d z T
  | 0, z, T, te, e34, e35, eb, h => by
    obtain ⟨e, A, E, h1, h2, h3, h4⟩ := h
    have g1 := h3.1
    have g2 := h3.2.1
    exact ⟨e, A, E, HD_c (fun x j x1 x2 hj => te x j x1 x2 (by omega)) (e34 0 (Nat.le_refl _)) h1, by rw [te 29 0 (by decide) (by decide) (by omega)]; exact h2, SEG_c (tre_dk (fun x j x1 x2 _ j2 => te x j x1 x2 j2)) h3, TOPV_c (eb 0 (Nat.le_refl _)).1 (eb 0 (Nat.le_refl _)).2 h4⟩
  | d + 1, z, T, te, e34, e35, eb, h => by
    obtain ⟨t, e, A, E, T0, h1, h2, h3, h4, h5⟩ := h
    have g1 := h4.1
    have g2 := h4.2.1
    exact ⟨t, e, A, E, T0, ITV_c (fun x j x1 x2 hj => te x j x1 x2 (by omega)) (e34 d (by omega)) (e35 (d + 1) (by omega) (Nat.le_refl _)) h1, LVL_c d t T0 (fun x j x1 x2 hj => te x j x1 x2 (by omega)) (fun l hl => e34 l (by omega)) (fun l l1 hl => e35 l l1 (by omega)) (fun l hl => eb l (by omega)) h2, HD_c (fun x j x1 x2 hj => te x j x1 x2 (by omega)) (e34 (d + 1) (Nat.le_refl _)) h3, SEG_c (tre_dk (fun x j x1 x2 _ j2 => te x j x1 x2 j2)) h4, TOPV_c (eb (d + 1) (Nat.le_refl _)).1 (eb (d + 1) (Nat.le_refl _)).2 h5⟩
theorem BEL_c {F : Nat → Int32} {m m2 : Mem} {s d a : Nat} {C B C2 B2 : Int32} {T0 : List Int32} (te : ∀ x j, 28 ≤ x → x ≤ 32 → j < a + 1 → m2 x (160 * s + j) = m x (160 * s + j)) (e34 : ∀ l, l < d → m2 34 l = m 34 l) (e35 : ∀ l, 1 ≤ l → l ≤ d → m2 35 l = m 35 l) (eb : ∀ l, l < d → bt C2 l = bt C l ∧ bt B2 l = bt B l) (h : BEL F m s C B d a T0) : BEL F m2 s C2 B2 d a T0 := by
  cases d with
  | zero =>
    obtain ⟨h1, h2, h3⟩ := h
    exact ⟨h1, h2, by rw [te 29 0 (by decide) (by decide) (by omega)]; exact h3⟩
  | succ d =>
    obtain ⟨t, h1, h2, h3⟩ := h
    exact ⟨t, h1, ITV_c (fun x j x1 x2 hj => te x j x1 x2 (by omega)) (e34 d (by omega)) (e35 (d + 1) (by omega) (Nat.le_refl _)) h2, LVL_c d t T0 (fun x j x1 x2 hj => te x j x1 x2 (by omega)) (fun l hl => e34 l (by omega)) (fun l l1 hl => e35 l l1 (by omega)) (fun l hl => eb l (by omega)) h3⟩
def BH (mx : Mem) (d : Nat) : Prop := ∀ l, d < l → l < 32 → bt (mx 9 4) l = false ∧ bt (mx 9 5) l = false
/-- before one, at level d, the tree as far as z -/
def GB (mx mm : Mem) (b c d z i p : Nat) (fs S0 : Nat → Nat) : Prop := BH mx d ∧ GS mx b c i p fs S0 (fun F T => LVL F mm c (mx 9 4) (mx 9 5) d z T)
def ITA (mm : Mem) (c d t z l h : Nat) : Prop := t < z ∧ mm 28 (160 * c + t) = 2 ∧ mm 29 (160 * c + t) = mm 34 d ∧ mm 30 (160 * c + t) = nI l ∧ mm 31 (160 * c + t) = nI h ∧ l ≤ 5 ∧ h ≤ 5
/-- behind one (at t), of which l to h -/
def GA (mx mm : Mem) (b c d t z l h i p : Nat) (fs S0 : Nat → Nat) : Prop := BH mx d ∧ ITA mm c d t z l h ∧ GS mx b c i p fs S0 (fun F T => ∃ X T0, T = Cn X l h :: T0 ∧ LVL F mm c (mx 9 4) (mx 9 5) d t T0 ∧ ITM F (dk mm) c t z X)
theorem GB_open {mx mx2 m mm2 : Mem} {b c d z i j p u : Nat} {fs S0 : Nat → Nat} (g : GB mx m b c d z i p fs S0) (hc : c < 6) (hz : z + 3 ≤ 160) (hd : d < 6) (eu : m 34 d = nI (160 * c + u)) (k : SK b mx mx2) (e4 : mx2 9 4 = mx 9 4) (e5 : mx2 9 5 = mx 9 5) (hj : i ≤ j) (hm : ∀ a, a ≠ 0 → mm2 a = (sto (cm (cm (sto (cm m c z 2 (nI (160 * c + u))) 35 (d + 1) (nI (160 * c + z))) c (z + 1) 0 (nI (160 * c + z))) c (z + 1 + 1) 1 (nI (160 * c + (z + 1)))) 34 (d + 1) (nI (160 * c + (z + 1 + 1)))) a) : GB mx2 mm2 b c (d + 1) (z + 3) j p fs S0 := by
  obtain ⟨bh, gs⟩ := g
  have o28 : ∀ a jj, 28 ≤ a → a ≤ 32 → jj ≠ 160 * c + z → jj ≠ 160 * c + (z + 1) → jj ≠ 160 * c + (z + 1 + 1) → mm2 a jj = m a jj := fun a jj a1 a2 j0 j1 j2 => by
    rw [hm a (by omega), rd_o (by omega), cm_j (by omega) j2, cm_j (by omega) j1, rd_o (by omega), cm_j (by omega) j0]
  have e34 : ∀ l, l ≤ d → mm2 34 l = m 34 l := fun l hl => by
    rw [hm 34 (by decide), rd_j (by omega), cm_o (by omega), cm_o (by omega), rd_o (by decide), cm_o (by omega)]
  have e35 : ∀ l, l ≤ d → mm2 35 l = m 35 l := fun l hl => by
    rw [hm 35 (by decide), rd_o (by decide), cm_o (by omega), cm_o (by omega), rd_j (by omega), cm_o (by omega)]
  have v34 : mm2 34 (d + 1) = nI (160 * c + (z + 2)) := by rw [hm 34 (by decide), rd_s]
  have v35 : mm2 35 (d + 1) = nI (160 * c + z) := by rw [hm 35 (by decide), rd_o (by decide), cm_o (by omega), cm_o (by omega), rd_s]
  have z0 : ∀ a, 28 ≤ a → a ≤ 32 → mm2 a (160 * c + z) = (cm m c z 2 (nI (160 * c + u))) a (160 * c + z) := fun a a1 a2 => by
    rw [hm a (by omega), rd_o (by omega), cm_j (by omega) (by omega), cm_j (by omega) (by omega), rd_o (by omega)]
  have z1 : ∀ a, 28 ≤ a → a ≤ 32 → mm2 a (160 * c + (z + 1)) = (cm (sto (cm m c z 2 (nI (160 * c + u))) 35 (d + 1) (nI (160 * c + z))) c (z + 1) 0 (nI (160 * c + z))) a (160 * c + (z + 1)) := fun a a1 a2 => by
    rw [hm a (by omega), rd_o (by omega), cm_j (by omega) (by omega)]
  have z2 : ∀ a, 28 ≤ a → a ≤ 32 → mm2 a (160 * c + (z + 2)) = (cm (cm (sto (cm m c z 2 (nI (160 * c + u))) 35 (d + 1) (nI (160 * c + z))) c (z + 1) 0 (nI (160 * c + z))) c (z + 1 + 1) 1 (nI (160 * c + (z + 1)))) a (160 * c + (z + 1 + 1)) := fun a a1 a2 => by
    rw [hm a (by omega), rd_o (by omega)]
  obtain ⟨p1, p2, p3, p4, p5⟩ := cm_s (m := m) (c := c) (z := z) (what := 2) (within := nI (160 * c + u))
  obtain ⟨q1, q2, q3, q4, q5⟩ := cm_s (m := sto (cm m c z 2 (nI (160 * c + u))) 35 (d + 1) (nI (160 * c + z))) (c := c) (z := z + 1) (what := 0) (within := nI (160 * c + z))
  obtain ⟨r1, r2, r3, r4, r5⟩ := cm_s (m := cm (sto (cm m c z 2 (nI (160 * c + u))) 35 (d + 1) (nI (160 * c + z))) c (z + 1) 0 (nI (160 * c + z))) (c := c) (z := z + 1 + 1) (what := 1) (within := nI (160 * c + (z + 1)))
  refine ⟨fun l l1 l2 => by rw [e4, e5]; exact bh l (by omega) l2, GS_w gs k hj (fun F T h => ?_)⟩
  obtain ⟨b4, b5⟩ := bh (d + 1) (by omega) (by omega)
  refine ⟨z, z + 2, 0, 1, T, ⟨v35, by rw [z0 28 (by decide) (by decide)]; exact p1, by rw [z0 29 (by decide) (by decide), p2, e34 d (Nat.le_refl _), eu], by rw [z0 30 (by decide) (by decide)]; exact p3, by rw [z0 31 (by decide) (by decide)]; exact p4, by rw [z0 32 (by decide) (by decide)]; exact p5, by rw [z1 29 (by decide) (by decide)]; exact q2⟩, LVL_c d z T (fun x jj x1 x2 hj => o28 x _ x1 x2 (by omega) (by omega) (by omega)) e34 (fun l _ hl => e35 l hl) (fun l _ => by rw [e4, e5]; exact ⟨rfl, rfl⟩) h, ⟨v34, by rw [z2 28 (by decide) (by decide)]; exact r1, by rw [z2 29 (by decide) (by decide)]; exact r2, by rw [z1 28 (by decide) (by decide)]; exact q1⟩, SEG_0 (a := z + 1) hc (by omega) ?_ ?_, ?_⟩
  · show mm2 28 (160 * c + (z + 2)) = 1
    rw [z2 28 (by decide) (by decide)]; exact r1
  · show mm2 29 (160 * c + (z + 2)) = _
    rw [z2 29 (by decide) (by decide)]; exact r2
  · unfold TOPV
    rw [e4, e5, b4, b5]
    exact ⟨by simp, fun _ => rfl, fun _ => rfl⟩
theorem GA_part {mx mx2 m m25 : Mem} {b c d z i j p u : Nat} {fs S0 : Nat → Nat} (g : GB mx m b c d z i p fs S0) (hi : i ≤ 400) (hc : c < 6) (hp : p < 6) (hd : d < 8) (eu : m 34 d = nI (160 * c + u)) (e4 : mx2 9 4 = mx 9 4) (e5 : mx2 9 5 = mx 9 5) (t : SWt mx mx2 b c p) (hj : i + 2 ≤ j) (h32 : m25 32 = upd ((cm m c z 2 (nI (160 * c + u))) 32) (160 * c + z) (nI (6 * c + p))) (ho : ∀ a, 27 ≤ a → a ≤ 35 → a ≠ 32 → m25 a = (cm m c z 2 (nI (160 * c + u))) a) : GA mx2 m25 b c d z (z + 1) 1 1 j (p + 1) fs S0 := by
  obtain ⟨bh, gs⟩ := g
  obtain ⟨p1, p2, p3, p4, p5⟩ := cm_s (m := m) (c := c) (z := z) (what := 2) (within := nI (160 * c + u))
  have o28 : ∀ a jj, 28 ≤ a → a ≤ 32 → jj ≠ 160 * c + z → m25 a jj = m a jj := fun a jj a1 a2 j0 => by
    by_cases q : a = 32
    · rw [q, h32, pk_un j0, cm_j (by omega) j0]
    · rw [ho a (by omega) (by omega) q, cm_j (by omega) j0]
  have e34 : m25 34 = m 34 := by rw [ho 34 (by decide) (by decide) (by decide), cm_o (by omega)]
  have e35 : m25 35 = m 35 := by rw [ho 35 (by decide) (by decide) (by decide), cm_o (by omega)]
  have v28 : m25 28 (160 * c + z) = 2 := by rw [ho 28 (by decide) (by decide) (by decide)]; exact p1
  refine ⟨fun l l1 l2 => by rw [e4, e5]; exact bh l l1 l2, ⟨Nat.lt_succ_self z, v28, by rw [ho 29 (by decide) (by decide) (by decide), p2, e34, eu], by rw [ho 30 (by decide) (by decide) (by decide)]; exact p3, by rw [ho 31 (by decide) (by decide) (by decide)]; exact p4, by decide, by decide⟩, GS_w (GS_part gs hi hc hp t hj) SK_r (Nat.le_refl _) (fun F T h => ?_)⟩
  obtain ⟨T0, h1, h2⟩ := h
  refine ⟨F p, T0, by rw [h2, Cn_11], LVL_c d z T0 (fun x jj x1 x2 hj => o28 x _ x1 x2 (by omega)) (fun l _ => by rw [e34]) (fun l _ _ => by rw [e35]) (fun l _ => by rw [e4, e5]; exact ⟨rfl, rfl⟩) h1, ITM_p hc hp v28 ?_⟩
  show m25 32 (160 * c + z) = _
  rw [h32, pk_us]
theorem GA_count {mx mx2 mm mm2 : Mem} {b c d t z l h i j p : Nat} {fs S0 : Nat → Nat} (g : GA mx mm b c d t z 1 1 i p fs S0) (hi : i ≤ 400) (hc : c < 6) (hp : p ≤ 6) (hl : l ≤ 5) (hh : h ≤ 5) (e4 : mx2 9 4 = mx 9 4) (e5 : mx2 9 5 = mx 9 5) (s : SWt mx mx2 b c (64 + (l * 8 + h))) (hj : i + 4 ≤ j) (h30 : mm2 30 = upd (mm 30) (160 * c + t) (nI l)) (h31 : mm2 31 = upd (mm 31) (160 * c + t) (nI h)) (ho : ∀ a, 27 ≤ a → a ≤ 35 → a ≠ 30 → a ≠ 31 → mm2 a = mm a) : GA mx2 mm2 b c d t z l h j p fs S0 := by
  obtain ⟨bh, ⟨i1, i2, i3, i4, i5, i6, i7⟩, gs⟩ := g
  have o28 : ∀ a jj, 28 ≤ a → a ≤ 32 → jj ≠ 160 * c + t → mm2 a jj = mm a jj := fun a jj a1 a2 j0 => by
    by_cases q : a = 30
    · rw [q, h30, pk_un j0]
    · by_cases q2 : a = 31
      · rw [q2, h31, pk_un j0]
      · rw [ho a (by omega) (by omega) q q2]
  have e34 : mm2 34 = mm 34 := ho 34 (by decide) (by decide) (by decide) (by decide)
  have e35 : mm2 35 = mm 35 := ho 35 (by decide) (by decide) (by decide) (by decide)
  refine ⟨fun l l1 l2 => by rw [e4, e5]; exact bh l l1 l2, ⟨i1, by rw [ho 28 (by decide) (by decide) (by decide) (by decide)]; exact i2, by rw [ho 29 (by decide) (by decide) (by decide) (by decide), e34]; exact i3, by rw [h30, pk_us], by rw [h31, pk_us], hl, hh⟩, GS_w (GS_times gs hi hc hp hl hh s hj ?_) SK_r (Nat.le_refl _) (fun F T w => ?_)⟩
  · rintro F T ⟨X, T0, e, -⟩
    exact ⟨_, _, e⟩
  · obtain ⟨x, v, ⟨X, T0, e, w1, w2⟩, w3⟩ := w
    rw [Cn_11] at e
    obtain ⟨ex, ev⟩ := List.cons.inj e
    refine ⟨X, T0, by rw [w3, ex, ev], LVL_c d t T0 (fun x jj x1 x2 hj => o28 x _ x1 x2 (by omega)) (fun l _ => by rw [e34]) (fun l _ _ => by rw [e35]) (fun l _ => by rw [e4, e5]; exact ⟨rfl, rfl⟩) w1, ITM_c (tre_dk (fun x jj x1 x2 j1 j2 => o28 x _ x1 x2 (by omega))) ?_ ?_ w2⟩
    · show mm2 32 _ = mm 32 _
      rw [ho 32 (by decide) (by decide) (by decide) (by decide)]
    · show mm2 28 _ = mm 28 _
      rw [ho 28 (by decide) (by decide) (by decide) (by decide)]
