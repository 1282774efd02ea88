/-! from one witness to all -/
theorem GRD_c {m : Mem} {c k : Nat} {d d2 Z Z2 rk rk2 : Nat → Nat} (hd : ∀ n, n < k → d2 n = d n) (hZ : ∀ s, s < c → Z2 s = Z s) (hr : ∀ s, s < c → rk2 s = rk s) (h : GRD m c k d Z rk) : GRD m c k d2 Z2 rk2 := by
  obtain ⟨h1, h2, h3⟩ := h
  refine ⟨h1, fun s n hs hn hne => ?_, fun m1 g1 r g2 g3 s n hs hn hrk hne => ?_⟩
  · rw [hd n hn, hZ s hs]
    exact h2 s n hs hn hne
  · refine h3 m1 g1 r (fun t x ht hx hx2 => g2 t x ht hx (by rw [hr t ht]; exact hx2)) (fun t x ht hx hx2 hne2 => ?_) s n hs hn (by rw [← hr s hs]; exact hrk) hne
    have := g3 t x ht hx (by rw [hr t ht]; exact hx2) hne2
    rw [hd x hx, hZ t ht] at this
    exact this
theorem SCl_c {m : Mem} {c k : Nat} {d d2 Z Z2 : Nat → Nat} (hd : ∀ n, n < k → d2 n = d n) (hZ : ∀ s, s < c → Z2 s = Z s) (h : SCl m c k d Z) : SCl m c k d2 Z2 := fun s n hs hn hc => h s n hs hn (by rw [hd n hn, hZ s hs] at hc; exact hc)
theorem SRD_c {m : Mem} {c k : Nat} {d d2 Z Z2 : Nat → Nat} (hd : ∀ n, n < k → d2 n = d n) (hZ : ∀ s, s < c → Z2 s = Z s) (h : SRD m c k d Z) : SRD m c k d2 Z2 := ⟨SCl_c hd hZ h.1, fun m1 g1 g2 g3 => h.2 m1 g1 g2 (SCl_c (fun n hn => (hd n hn).symm) (fun s hs => (hZ s hs).symm) g3)⟩
theorem nrm_P {m : Mem} {P P2 : Nat → Nat} {r : Nat} (h : r ≠ 41) : nrm m P2 r = nrm m P r := by
  unfold nrm
  simp only [if_neg h]
theorem RB_img {mx mm : Mem} {k c : Nat} {d N T P Z : Nat → Nat} (h : RB mm k d N T c P Z) : RB (img mx mm) k d N T c P Z := by
  obtain ⟨g1, g2, g3⟩ := h
  refine ⟨g1, ?_, SH_c (fun a a1 a2 => img_o (by omega) (by omega)) (by rw [img_o (by decide) (by decide)]) g3⟩
  unfold GM at *
  rw [img_o (by decide) (by decide), img_o (by decide) (by decide), img_o (by decide) (by decide), img_o (by decide) (by decide)]
  exact g2
theorem EX_of {mx mm : Mem} {k c : Nat} {d N T P Z : Nat → Nat} (B : RB mm k d N T c P Z) (hx : CX mx mm c k d Z P) (hm : CM mm c k d Z P) : EX mx mm := by
  intro k2 d2 N2 T2 c2 P2 Z2 B2
  have B2 : RB mm k2 d2 N2 T2 c2 P2 Z2 := B2
  have hk : k2 = k := (nI_eq (by have := B2.1.1; omega) (by have := B.1.1; omega)).mp (B2.2.1.1.symm.trans B.2.1.1)
  have hc : c2 = c := (nI_eq (by have := B2.2.2.2.1; omega) (by have := B.2.2.2.1; omega)).mp (B2.2.2.1.symm.trans B.2.2.1)
  subst hk
  subst hc
  have hd : ∀ n, n < k2 → d2 n = d n := fun n hn => by
    have e1 := EG_of B.1 B.2.1 hn
    have e2 := EG_of B2.1 B2.2.1 hn
    exact (nI_eq (by have := e2.2.1; omega) (by have := e1.2.1; omega)).mp (e2.2.2.1.symm.trans e1.2.2.1)
  have hP : ∀ s, s < c2 → P2 s = P s := fun s hs => by
    have e1 := (B.2.2.2.2 s hs).1
    have e2 := (B2.2.2.2.2 s hs).1
    exact (nI_eq (by have := e2.1; omega) (by have := e1.1; omega)).mp (e2.2.1.symm.trans e1.2.1)
  have hZ : ∀ s, s < c2 → Z2 s = Z s := fun s hs => by
    have e1 := (B.2.2.2.2 s hs).2
    have e2 := (B2.2.2.2.2 s hs).2
    exact (nI_eq (by have := e2.1; omega) (by have := e1.1; omega)).mp (e2.2.1.symm.trans e1.2.1)
  have hj : ∀ s, s < c2 → Jr mm P2 6 s = Jr mm P 6 s := Jrx_c (SH_RF B.2.2) hP (fun _ _ _ _ => ⟨rfl, rfl⟩) 6
  have ag : ∀ m : Mem, AGR (nrm m P) (nrm m P2) k2 d := fun m => ⟨fun a ha => nrm_P (by omega), fun n hn i hi => by rw [nrm_P (P := P) (P2 := P2) (r := 4) (by decide), nrm_P (P := P) (P2 := P2) (r := 5) (by decide)]; exact ⟨rfl, rfl⟩, fun i hi => by rw [nrm_P (P := P) (P2 := P2) (r := 39) (by decide)]⟩
  have gr : ∀ m : Mem, RB m k2 d N T c2 P Z → GRD (nrm m P) c2 k2 d Z (Jr mm P 6) → GRD (nrm m P2) c2 k2 d2 Z2 (Jr mm P2 6) := fun m hb h => GRD_c hd hZ hj (GRD_g (ag m) (RB_n hb) (RB_n hb) (nrm_P (by decide)) (nrm_P (by decide)) h)
  have sr : ∀ m : Mem, RB m k2 d N T c2 P Z → SRD (nrm m P) c2 k2 d Z → SRD (nrm m P2) c2 k2 d2 Z2 := fun m hb h => SRD_c hd hZ (SRD_g (ag m) (RB_n hb) (RB_n hb) (nrm_P (by decide)) (nrm_P (by decide)) h)
  refine ⟨?_, ?_⟩
  · rcases hx with h | ⟨h1, h2, h3, h4⟩
    · exact Or.inl h
    · refine Or.inr ⟨h1, gr _ (RB_img B) h2, h3, ?_⟩
      rcases h4 with h4 | ⟨h4, h5⟩
      · exact Or.inl h4
      · exact Or.inr ⟨sr _ (RB_img B) h4, h5⟩
  · rcases hm with h | ⟨h1, h2, h3⟩
    · exact Or.inl h
    · exact Or.inr ⟨gr _ B h1, sr _ B h2, h3⟩
/-! what stands after a reading -/
theorem KX_r {m : Mem} : KX m m := ⟨fun _ _ _ _ _ => rfl, fun _ _ _ => rfl⟩
theorem KX_jf {m m2 : Mem} (h : KX m m2) : jf m m2 := ⟨fun q a1 a2 a3 _ a5 => h.1 q a1 a2 a3 a5, fun j j1 j2 _ _ => h.2 j j1 j2⟩
theorem rdf_KPM {m m2 : Mem} (f : rdf m m2) : KPM m m2 := ⟨fun a b1 b2 => f.1 a (by omega) (by omega) (by omega) (by omega) (by omega) (by omega), f.2 0 (by decide), f.2 7 (by decide)⟩
theorem jc_after {mx mm m2 m4 : Mem} {k L b c : Nat} {d N T P Z : Nat → Nat} {V W : Nat → Int32} (h9 : mx 39 9 = 0) (a63 : A63 mx) (g : GG k d N T) (hs : sumd d k ≤ 40) (hL : L ≤ 400) (x : IX mx k d N T V W L b) (hT : TPE mx mm) (l : LC mx mm b c P) (kx : KX mx m2) (e42 : m2 42 = mx 42) (cx : CX m2 mm c k d Z P) (y4 : IM m4 k d N T V W L c P Z) (f : rdf mm m4) (g4 : GRD (nrm m4 P) c k d Z (Jr mm P 6)) (s4 : SRD (nrm m4 P) c k d Z) (t4 : ∀ i, i < 5 → m4 39 i = -4) : JC m2 m4 := by
  have ej : Jr m4 P 6 = Jr mm P 6 := Jr_e (f.1 10 (by decide) (by decide) (by decide) (by decide) (by decide) (by decide)) (f.1 11 (by decide) (by decide) (by decide) (by decide) (by decide) (by decide)) 6
  refine ⟨⟨JK_f x hT l (jf_SX (KX_jf kx)) (fun a ha => ?_) g hs hL (IX_j x (KX_jf kx)) y4, (kx.2 9 (by decide) (by decide)).trans h9⟩, A63_of a63 e42, EX_of ⟨g, y4.1, y4.2.2.2.1⟩ (CX_k KPX_r (rdf_KPM f) cx) (Or.inr ⟨by rw [ej]; exact g4, s4, t4⟩)⟩
  unfold SM at ha
  exact f.1 a (by omega) (by omega) (by omega) (by omega) (by omega) (by omega)
theorem x_pairc {mx mm : Mem} {k L b c : Nat} {d N T P Z : Nat → Nat} {V W : Nat → Int32} (g : GG k d N T) (x : IX mx k d N T V W L b) (y : IM mm k d N T V W L c P Z) (l : LC mx mm b c P) : ∀ n s, s_X6_isPair mx n s = some (bb ((0 ≤ n.toInt ∧ n.toInt < k) ∧ (0 ≤ s.toInt ∧ s.toInt < c))) := by
  obtain ⟨c2, hc2, ec, jv, hp⟩ := x_pair g x
  have e : c2 = c := (nI_eq (by omega) (by have := y.2.2.2.1.2.1; omega)).mp (ec.symm.trans l.1.1)
  subst e
  exact hp
theorem jc_fits (cmp : Prop) {mx mm : Mem} (h : JC mx mm) : Hc_fits cmp JC mx mm := by
  have h0 := h
  obtain ⟨⟨⟨k, d, N, T, V, W, L, b, c, P, Z, g, hs, hL, x, y, t, l⟩, h9⟩, a63, hE⟩ := h
  obtain ⟨cx, cm⟩ := hE k d N T c P Z ⟨g, y.1, y.2.2.2.1⟩
  have hp := x_pairc g x y l
  have hc6 := y.2.2.2.1.2.1
  have h10 := g.1
  intro n s
  by_cases z : (0 ≤ n.toInt ∧ n.toInt < k) ∧ (0 ≤ s.toInt ∧ s.toInt < c)
  · have z0 := z
    obtain ⟨a, ha, rfl, ea⟩ := int_nI z.1.1
    obtain ⟨u, hu, rfl, eu⟩ := int_nI z.2.1
    have ha2 : a < k := by omega
    have hu2 : u < c := by omega
    obtain ⟨m2, e2, kx, e42, cr⟩ := x_readg (rc_of g x y l h9) a63 cx
    obtain ⟨m4, e4, i4, f4, g4, s4, t4⟩ := m_readg g y cm
    have v1 : ∃ q, s_X6_fits mx (nI a) (nI u) = some q ∧ q = ((if bt (m2 40 u) a = true then 1 else 0), m2) := by
      unfold s_X6_fits
      rw [hp]
      simp only [bind_s, if_bb]
      refine ex_if (fun _ => ex_b (Q := fun q => q = m2) ⟨m2, e2, rfl⟩ (fun m hm => ?_)) (fun z2 => absurd z0 z2)
      rw [hm, ix_nI (n := u) (by omega), bit_v (by omega)]
      exact ex_ck (zin_nI (by omega) (by decide)) (ex_s rfl)
    have v2 : ∃ q, s_X7_fits mm (nI a) (nI u) = some q ∧ q = ((if m4 37 (10 * u + a) = 0 then 0 else 1), m4) := by
      unfold s_X7_fits
      rw [m_both g y]
      simp only [bind_s, if_bb]
      refine ex_if (fun _ => ex_b (Q := fun q => q = m4) ⟨m4, e4, rfl⟩ (fun m hm => ?_)) (fun z2 => absurd z0 z2)
      rw [hm, p10, ix_nI (n := 10 * u + a) (by omega)]
      exact ex_ck (zin_nI (by omega) (by decide)) (ex_if (fun w => ex_s (by rw [if_pos w])) (fun w => ex_s (by rw [if_neg w])))
    obtain ⟨q1, r1, rfl⟩ := v1
    obtain ⟨q2, r2, rfl⟩ := v2
    refine ⟨_, _, _, _, r1, r2, fun _ => ?_, jc_after h9 a63 g hs hL x t l kx e42 (Or.inr cr) i4 f4 g4 s4 t4⟩
    have w := ag_fits hc6 h10 f4 cr.2.1 g4 u a hu2 ha2
    by_cases w2 : m4 37 (10 * u + a) = 0
    · rw [if_pos w2, if_neg (fun q => absurd w2 (w.mp q))]
    · rw [if_neg w2, if_pos (w.mpr w2)]
  · have v1 : s_X6_fits mx n s = some (-1, mx) := by
      unfold s_X6_fits
      rw [hp]
      simp only [bind_s, if_bb]
      rw [if_neg z]
    have v2 : s_X7_fits mm n s = some (-1, mm) := by
      unfold s_X7_fits
      rw [m_both g y]
      simp only [bind_s, if_bb]
      rw [if_neg z]
    exact ⟨_, _, _, _, v1, v2, fun _ => rfl, h0⟩
theorem jc_surely (cmp : Prop) {mx mm : Mem} (h : JC mx mm) : Hc_surely cmp JC mx mm := by
  have h0 := h
  obtain ⟨⟨⟨k, d, N, T, V, W, L, b, c, P, Z, g, hs, hL, x, y, t, l⟩, h9⟩, a63, hE⟩ := h
  obtain ⟨cx, cm⟩ := hE k d N T c P Z ⟨g, y.1, y.2.2.2.1⟩
  have hp := x_pairc g x y l
  have hc6 := y.2.2.2.1.2.1
  have h10 := g.1
  intro n s
  by_cases z : (0 ≤ n.toInt ∧ n.toInt < k) ∧ (0 ≤ s.toInt ∧ s.toInt < c)
  · have z0 := z
    obtain ⟨a, ha, rfl, ea⟩ := int_nI z.1.1
    obtain ⟨u, hu, rfl, eu⟩ := int_nI z.2.1
    have ha2 : a < k := by omega
    have hu2 : u < c := by omega
    have R := rc_of g x y l h9
    obtain ⟨m1, e1, k1, e421, cr1⟩ := x_readg R a63 cx
    obtain ⟨m2, e2, k2, e422, e40, cr, su, -⟩ := x_sureg (RC_k R k1) (A63_of a63 e421) cr1
    obtain ⟨m4, e4, i4, f4, g4, s4, t4⟩ := m_readg g y cm
    have v1 : ∃ q, s_X6_surely mx (nI a) (nI u) = some q ∧ q = ((if bt (m2 41 u) a = true then 1 else 0), m2) := by
      unfold s_X6_surely
      rw [hp]
      simp only [bind_s, if_bb]
      refine ex_if (fun _ => ex_b (Q := fun q => q = m1) ⟨m1, e1, rfl⟩ (fun m hm => ?_)) (fun z2 => absurd z0 z2)
      rw [hm]
      refine ex_b (Q := fun q => q = m2) ⟨m2, e2, rfl⟩ (fun m hm => ?_)
      rw [hm, ix_nI (n := u) (by omega), bit_v (by omega)]
      exact ex_ck (zin_nI (by omega) (by decide)) (ex_s rfl)
    have v2 : ∃ q, s_X7_surely mm (nI a) (nI u) = some q ∧ q = ((if m4 38 (10 * u + a) = 0 then 0 else 1), m4) := by
      unfold s_X7_surely
      rw [m_both g y]
      simp only [bind_s, if_bb]
      refine ex_if (fun _ => ex_b (Q := fun q => q = m4) ⟨m4, e4, rfl⟩ (fun m hm => ?_)) (fun z2 => absurd z0 z2)
      rw [hm, p10, ix_nI (n := 10 * u + a) (by omega)]
      exact ex_ck (zin_nI (by omega) (by decide)) (ex_if (fun w => ex_s (by rw [if_pos w])) (fun w => ex_s (by rw [if_neg w])))
    obtain ⟨q1, r1, rfl⟩ := v1
    obtain ⟨q2, r2, rfl⟩ := v2
    refine ⟨_, _, _, _, r1, r2, fun _ => ?_, jc_after h9 a63 g hs hL x t l (KX_t k1 k2) (e422.trans e421) (Or.inr cr) i4 f4 g4 s4 t4⟩
    have w := ag_sure hc6 h10 f4 cr.2.1 g4 su s4 u a hu2 ha2
    by_cases w2 : m4 38 (10 * u + a) = 0
    · rw [if_pos w2, if_neg (fun q => absurd w2 (w.mp q))]
    · rw [if_neg w2, if_pos (w.mpr w2)]
  · have v1 : s_X6_surely mx n s = some (-1, mx) := by
      unfold s_X6_surely
      rw [hp]
      simp only [bind_s, if_bb]
      rw [if_neg z]
    have v2 : s_X7_surely mm n s = some (-1, mm) := by
      unfold s_X7_surely
      rw [m_both g y]
      simp only [bind_s, if_bb]
      rw [if_neg z]
    exact ⟨_, _, _, _, v1, v2, fun _ => rfl, h0⟩
