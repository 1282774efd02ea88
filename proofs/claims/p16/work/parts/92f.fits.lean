/-! the class's reading, however it stood -/
theorem rc_of {mx mm : Mem} {k L b c : Nat} {d N T P Z : Nat → Nat} {V W : Nat → Int32} (g : GG k d N T) (x : IX mx k d N T V W L b) (y : IM mm k d N T V W L c P Z) (l : LC mx mm b c P) (h39 : mx 39 9 = 0) : RC mx mm k d N T V W b c P Z := by
  obtain ⟨c2, hc2, ec, jv⟩ := IX_JV g x
  have e : c2 = c := (nI_eq (by omega) (by have := y.2.2.2.1.2.1; omega)).mp (ec.symm.trans l.1.1)
  subst e
  exact ⟨g, x.1, x.2.2.1, x.2.2.2.2.1, x.2.2.2.2.2.2.1, y.1, y.2.1, y.2.2.2.1, l.1, l.2.1, l.2.2, y.2.2.2.2.1, h39, jv⟩
theorem b_63 : ∀ p, p < 6 → bt 63 p = true := by decide +kernel
theorem alw_n {mx mm : Mem} {s c : Nat} {P Z : Nat → Nat} (h : A63 mx) (sh : SH mm c P Z) (hs : s < c) (P2 : Nat → Nat) : ALW mx (nrm mm P2) s (P s) := fun p hp i hi => by
  have := (sh.2.2 s hs).1.1
  rw [h i hi, b_63 p (by omega)]
  exact ⟨fun _ => Or.inl rfl, fun _ => rfl⟩
def KX (m m2 : Mem) : Prop := (∀ q, q ≠ 39 → q ≠ 40 → q ≠ 41 → q ≠ 43 → m2 q = m q) ∧ ∀ j, j ≠ 4 → j ≠ 5 → m2 39 j = m 39 j
theorem KX_t {x y z : Mem} (h : KX x y) (g : KX y z) : KX x z := ⟨fun q a b c d => (g.1 q a b c d).trans (h.1 q a b c d), fun j a b => (g.2 j a b).trans (h.2 j a b)⟩
theorem RC_k {mx mm m2 : Mem} {k b c : Nat} {d N T P Z : Nat → Nat} {V W : Nat → Int32} (R : RC mx mm k d N T V W b c P Z) (h : KX mx m2) : RC m2 mm k d N T V W b c P Z := by
  obtain ⟨g, x, xv, hb, hj, y, yv, sh, lb, bk, lv, ac, h39, jv⟩ := R
  have hb2 := isb_e hb
  have h' : ∀ q, q < 39 → m2 q = mx q := fun q hq => h.1 q (by omega) (by omega) (by omega) (by omega)
  refine ⟨g, ?_, ?_, hb, by rw [h.2 1 (by decide) (by decide)]; exact hj, y, yv, sh, LB_f hb lb (fun a a1 a2 => h' a (by omega)) (fun _ _ _ => rfl), BK_c bk (h' (b + 7) (by omega)) (h' (b + 8) (by omega)) (fun _ _ _ => rfl), fun s hs => by rw [h' (b + 6) (by omega)]; exact lv s hs, ac, by rw [h.2 9 (by decide) (by decide)]; exact h39, JV_j jv ⟨fun a a1 a2 a3 _ a5 => h.1 a a1 a2 a3 a5, fun j j1 j2 _ _ => h.2 j j1 j2⟩⟩
  · unfold GX at *
    rw [h' 1 (by decide), h' 4 (by decide), h' 5 (by decide), h' 6 (by decide)]; exact x
  · unfold GV at *
    rw [h' 2 (by decide), h' 3 (by decide)]; exact xv
/-- the class's reading stands -/
def CR (mx mm : Mem) (c k : Nat) (d Z P : Nat → Nat) : Prop := ¬ mx 39 4 = 0 ∧ GRD (nrm (img mx mm) P) c k d Z (Jr mm P 6) ∧ NB mx 40 c k ∧ (mx 39 5 = 0 ∨ (SRD (nrm (img mx mm) P) c k d Z ∧ NB mx 41 c k))
theorem x_readg {mx mm : Mem} {k b c : Nat} {d N T P Z : Nat → Nat} {V W : Nat → Int32} (R : RC mx mm k d N T V W b c P Z) (a63 : A63 mx) (cx : CX mx mm c k d Z P) : ∃ m2, s_X2_readFits mx = some m2 ∧ KX mx m2 ∧ m2 42 = mx 42 ∧ CR m2 mm c k d Z P := by
  have R0 := R
  obtain ⟨g, x, xv, hb, hj, y, yv, sh, lb, bk, lv, ac, h39, jv⟩ := R
  rcases cx with ⟨f4, f5⟩ | cr
  · have hX := RX_n g y sh ac
    obtain ⟨m2, e, o1, o2, o3, o4, o5⟩ := x_readFits (m0 := nrm mm P) hX (fun n hn => EK_of g (GM_n y) hn) (RC_n R0) (fun s hs => alw_n a63 sh hs P) (fun s hs => Jr_5 (SH_RF sh) ac hs) lv f4
    refine ⟨m2, e, ⟨fun q q1 q2 _ q4 => o1 q q1 q2 q4, fun j j1 _ => o2 j j1⟩, o1 42 (by decide) (by decide) (by decide), by rw [o3]; decide, ?_, o5, Or.inl (by rw [o2 5 (by decide)]; exact f5)⟩
    rw [img_nrm] at o4
    exact o4
  · refine ⟨mx, ?_, ⟨fun _ _ _ _ _ => rfl, fun _ _ _ => rfl⟩, rfl, cr⟩
    unfold s_X2_readFits
    rw [if_neg cr.1]
theorem img_x {mx m2 mm : Mem} (e40 : m2 40 = mx 40) : ∀ a, a ≠ 38 → img m2 mm a = img mx mm a := fun a ha => by
  by_cases h : a = 37
  · subst h
    show (fun j => if bt (m2 40 (j / 10)) (j % 10) = true then (1 : Int32) else 0) = (fun j => if bt (mx 40 (j / 10)) (j % 10) = true then (1 : Int32) else 0)
    rw [e40]
  · rw [img_o h ha, img_o h ha]
/-- the greatest reading doesn't look at the sure one -/
theorem GRD_38 {m m2 : Mem} {c k : Nat} {P d Z rk : Nat → Nat} (hS : SH m c P Z) (hE : ∀ n, n < k → EG m n (d n)) (e : ∀ a, a ≠ 38 → m2 a = m a) (hB : BL m2) (h : GRD m c k d Z rk) : GRD m2 c k d Z rk := by
  obtain ⟨h1, h2, h3⟩ := h
  refine ⟨hB, fun s n hs hn hne => ?_, fun m1 g1 r g2 g3 s n hs hn hrk hne => ?_⟩
  · rw [e 37 (by decide)] at hne
    exact (canP_r hS hs (hE n hn) (fun a a1 a2 a3 => e a a2) (fun _ _ _ _ _ _ => by rw [e 37 (by decide)])).mpr (h2 s n hs hn hne)
  · rw [e 37 (by decide)]
    exact h3 m1 ⟨fun a a1 a2 a3 => by rw [g1.1 a a1 a2 a3]; exact e a a2, g1.2⟩ r (fun t x ht hx hr => by rw [g2 t x ht hx hr, e 37 (by decide)]) g3 s n hs hn hrk hne
theorem x_sureg {mx mm : Mem} {k b c : Nat} {d N T P Z : Nat → Nat} {V W : Nat → Int32} (R : RC mx mm k d N T V W b c P Z) (a63 : A63 mx) (cr : CR mx mm c k d Z P) : ∃ m2, s_X2_readSure mx = some m2 ∧ KX mx m2 ∧ m2 42 = mx 42 ∧ m2 40 = mx 40 ∧ CR m2 mm c k d Z P ∧ SRD (nrm (img m2 mm) P) c k d Z ∧ NB m2 41 c k := by
  have R0 := R
  obtain ⟨g, x, xv, hb, hj, y, yv, sh, lb, bk, lv, ac, h39, jv⟩ := R
  by_cases f5 : mx 39 5 = 0
  · have hX := RX_n g y sh ac
    obtain ⟨m2, e, o1, o2, o3, o4, o5⟩ := x_readSure (m0 := nrm mm P) hX (fun n hn => EK_of g (GM_n y) hn) (RC_n R0) (fun s hs => alw_n a63 sh hs P) f5
    rw [img_nrm] at o4
    have e40 := o1 40 (by decide) (by decide) (by decide)
    have en : ∀ a, a ≠ 38 → nrm (img m2 mm) P a = nrm (img mx mm) P a := fun a ha => by
      by_cases h : a = 37
      · rw [nrm_3 (Or.inl h), nrm_3 (Or.inl h)]
        exact img_x e40 a ha
      · rw [nrm_img a h ha, nrm_img a h ha]
    refine ⟨m2, e, ⟨fun q q1 _ q3 q4 => o1 q q1 q3 q4, fun j _ j2 => o2 j j2⟩, o1 42 (by decide) (by decide) (by decide), e40, ⟨by rw [o2 4 (by decide)]; exact cr.1, ?_, ?_, Or.inr ⟨o4, o5⟩⟩, o4, o5⟩
    · have B : RB (img mx mm) k d N T c P Z := by
        refine ⟨g, ?_, SH_c (fun a a1 a2 => img_o (by omega) (by omega)) (by rw [img_o (by decide) (by decide)]) sh⟩
        unfold GM at *
        rw [img_o (by decide) (by decide), img_o (by decide) (by decide), img_o (by decide) (by decide), img_o (by decide) (by decide)]
        exact y
      refine GRD_38 (P := P) (SH_n B.2.2) (fun n hn => EG_of g (GM_n B.2.1) hn) en (BL_e (nrm_3 (Or.inl rfl)) (nrm_3 (Or.inr rfl)) img_BL) cr.2.1
    · unfold NB
      rw [e40]
      exact cr.2.2.1
  · obtain ⟨c1, c2, c3, c4⟩ := cr
    obtain ⟨c5, c6⟩ := c4.resolve_left f5
    refine ⟨mx, ?_, ⟨fun _ _ _ _ _ => rfl, fun _ _ _ => rfl⟩, rfl, rfl, ⟨c1, c2, c3, Or.inr ⟨c5, c6⟩⟩, c5, c6⟩
    unfold s_X2_readSure
    rw [if_neg f5]
/-- both readings tell the same -/
theorem ag_fits {mx mm mm2 : Mem} {k c : Nat} {d Z P : Nat → Nat} (hc : c ≤ 6) (hk : k ≤ 10) (f : rdf mm mm2) (h : GRD (nrm (img mx mm) P) c k d Z (Jr mm P 6)) (h2 : GRD (nrm mm2 P) c k d Z (Jr mm P 6)) : ∀ s n, s < c → n < k → (bt (mx 40 s) n = true ↔ ¬ mm2 37 (10 * s + n) = 0) := by
  have e : ∀ a, a ≠ 37 → a ≠ 38 → a ≠ 40 → nrm mm2 P a = nrm (img mx mm) P a := fun a a1 a2 _ => by
    rw [nrm_img a a1 a2]
    exact nrm_e (fun a b1 b2 => f.1 a (by omega) (by omega) (by omega) (by omega) (by omega) (by omega)) (f.2 0 (by decide)) (f.2 7 (by decide)) a a1 a2
  intro s n hs hn
  have := GRD_1 hc hk e h h2 s n hs hn
  rw [nrm_3 (Or.inl rfl), nrm_3 (Or.inl rfl), img_37 (by omega)] at this
  rw [← this]
  by_cases q : bt (mx 40 s) n = true
  · rw [if_pos q]
    exact ⟨fun _ => by decide, fun _ => q⟩
  · rw [if_neg q]
    exact ⟨fun z => absurd z q, fun z => absurd rfl z⟩
theorem ag_sure {mx mm mm2 : Mem} {k c : Nat} {d Z P : Nat → Nat} (hc : c ≤ 6) (hk : k ≤ 10) (f : rdf mm mm2) (h : GRD (nrm (img mx mm) P) c k d Z (Jr mm P 6)) (h2 : GRD (nrm mm2 P) c k d Z (Jr mm P 6)) (u : SRD (nrm (img mx mm) P) c k d Z) (u2 : SRD (nrm mm2 P) c k d Z) : ∀ s n, s < c → n < k → (bt (mx 41 s) n = true ↔ ¬ mm2 38 (10 * s + n) = 0) := by
  have e : ∀ a, a ≠ 37 → a ≠ 38 → a ≠ 40 → nrm mm2 P a = nrm (img mx mm) P a := fun a a1 a2 _ => by
    rw [nrm_img a a1 a2]
    exact nrm_e (fun a b1 b2 => f.1 a (by omega) (by omega) (by omega) (by omega) (by omega) (by omega)) (f.2 0 (by decide)) (f.2 7 (by decide)) a a1 a2
  have e37 : ∀ s n, s < c → n < k → nrm mm2 P 37 (10 * s + n) = nrm (img mx mm) P 37 (10 * s + n) := fun s n hs hn => by
    have := GRD_1 hc hk e h h2 s n hs hn
    have b1 := (h.1 (10 * s + n) (by omega)).1
    have b2 := (h2.1 (10 * s + n) (by omega)).1
    rcases b1 with b1 | b1 <;> rcases b2 with b2 | b2
    · rw [b1, b2]
    · rw [b1, b2] at this; exact absurd (this.mp rfl) (by decide)
    · rw [b1, b2] at this; exact absurd (this.mpr rfl) (by decide)
    · rw [b1, b2]
  intro s n hs hn
  have := SRD_1 e h.1 h2.1 e37 u u2 s n hs hn
  rw [nrm_3 (Or.inr rfl), nrm_3 (Or.inr rfl), img_38 (by omega)] at this
  rw [← this]
  by_cases q : bt (mx 41 s) n = true
  · rw [if_pos q]
    exact ⟨fun _ => by decide, fun _ => q⟩
  · rw [if_neg q]
    exact ⟨fun z => absurd z q, fun z => absurd rfl z⟩
