/-! dealt: both deal alike -/
theorem RC_m {mx mm M : Mem} {k b c : Nat} {d N T P Z : Nat → Nat} {V W : Nat → Int32} (R : RC mx mm k d N T V W b c P Z) (f : ∀ a, 1 ≤ a → a ≤ 18 → M a = mm a) (f0 : M 0 0 = mm 0 0) (f7 : M 0 7 = mm 0 7) : RC mx M k d N T V W b c P Z := by
  obtain ⟨g, x, xv, hb, hj, y, yv, sh, lb, bk, lv, ac, h39, jv⟩ := R
  obtain ⟨q1, q2, q3⟩ := LC_f (mx2 := mx) (mm2 := M) hb ⟨lb, bk, lv⟩ (fun _ _ _ => rfl) (fun a a1 a2 => f a (by omega) a2)
  refine ⟨g, x, xv, hb, hj, ?_, by rw [f 1 (by decide) (by decide), f 2 (by decide) (by decide)]; exact yv, SH_c (fun a a1 a2 => f a (by omega) (by omega)) f7 sh, q1, q2, q3, AC_c (f 10 (by decide) (by decide)) (f 11 (by decide) (by decide)) ac, h39, jv⟩
  unfold GM at *
  rw [f0, f 3 (by decide) (by decide), f 4 (by decide) (by decide), f 5 (by decide) (by decide)]
  exact y
theorem RC_j {mx mm m2 : Mem} {k b c : Nat} {d N T P Z : Nat → Nat} {V W : Nat → Int32} (R : RC mx mm k d N T V W b c P Z) (h : ∀ q, q ≠ 42 → q ≠ 43 → m2 q = mx q) : RC m2 mm k d N T V W b c P Z := by
  obtain ⟨g, x, xv, hb, hj, y, yv, sh, lb, bk, lv, ac, h39, jv⟩ := R
  have hb2 := isb_e hb
  have h' : ∀ q, q < 42 → m2 q = mx q := fun q hq => h q (by omega) (by omega)
  obtain ⟨q1, q2, q3⟩ := LC_f (mx2 := m2) (mm2 := mm) hb ⟨lb, bk, lv⟩ (fun a a1 a2 => h' a (by omega)) (fun _ _ _ => rfl)
  refine ⟨g, ?_, ?_, hb, by rw [h' 39 (by decide)]; exact hj, y, yv, sh, q1, q2, q3, ac, by rw [h' 39 (by decide)]; exact h39, JV_j jv ⟨fun a _ _ _ a4 a5 => h a a4 a5, fun j _ _ _ _ => by rw [h' 39 (by decide)]⟩⟩
  · unfold GX at *
    rw [h' 1 (by decide), h' 4 (by decide), h' 5 (by decide), h' 6 (by decide)]; exact x
  · unfold GV at *
    rw [h' 2 (by decide), h' 3 (by decide)]; exact xv
theorem canP_37 {m m2 : Mem} {c k s n d : Nat} {P Z : Nat → Nat} (hk : k ≤ 10) (hS : SH m c P Z) (hs : s < c) (hE : EG m n d) (hK : EK m n d k) (e : ∀ a, a ≠ 37 → a ≠ 38 → a ≠ 40 → m2 a = m a) (h : ∀ t x, t < c → x < k → (m 37 (10 * t + x) = 0 ↔ m2 37 (10 * t + x) = 0)) (hc : canP m s n d (Z s) 0) : canP m2 s n d (Z s) 0 :=
  can_m hS hs hE e (tkm_0 hS hs hK hk e (fun t ht _ x hx q z => q ((h t x ht hx).mpr z)) (fun t ht _ x hx q z => q ((h t x ht hx).mp z))) hc
/-- the class asks what the reference asks -/
theorem suits_m {mx a : Mem} {k b c s n : Nat} {d N T P Z : Nat → Nat} {V W : Nat → Int32} (R : RC mx a k d N T V W b c P Z) (hs : s < c) (hn : n < k) (al : ALW mx a s (P s)) (ag : ∀ t x, t < c → x < k → (bt (mx 40 t) x = true ↔ ¬ a 37 (10 * t + x) = 0)) : ∃ q, s_X2_suits mx (nI n) (nI s) 40 = some q ∧ (q.1 = 0 ∨ q.1 = 1) ∧ (¬ q.1 = 0 ↔ canP a s n (d n) (Z s) 0) ∧ ∀ a, a ≠ 43 → q.2 a = mx a := by
  obtain ⟨q, e, v, h, f⟩ := suits_eq (sv := 0) R hs hn (Or.inl ⟨rfl, rfl⟩) al
  refine ⟨q, e, v, h.trans ?_, f⟩
  have R0 := R
  obtain ⟨g, x, xv, hb, hj, y, yv, sh, lb, bk, lv, ac, h39, jv⟩ := R
  have hc6 := sh.2.1
  have h10 := g.1
  have w : ∀ t x, t < c → x < k → (a 37 (10 * t + x) = 0 ↔ img mx a 37 (10 * t + x) = 0) := fun t x ht hx => by
    have h1 := ag t x ht hx
    rw [img_37 (by omega)]
    by_cases q : bt (mx 40 t) x = true
    · rw [if_pos q]
      exact ⟨fun z => absurd z (h1.mp q), fun z => absurd z (by decide)⟩
    · rw [if_neg q]
      refine ⟨fun _ => rfl, fun _ => ?_⟩
      by_cases z : a 37 (10 * t + x) = 0
      · exact z
      · exact absurd (h1.mpr z) q
  have B : RB (img mx a) k d N T c P Z := RB_img ⟨g, y, sh⟩
  exact ⟨canP_37 h10 B.2.2 hs (EG_of g B.2.1 hn) (EK_of g B.2.1 hn) (fun a a1 a2 _ => (img_o a1 a2).symm) (fun t x ht hx => (w t x ht hx).symm), canP_37 h10 sh hs (EG_of g y hn) (EK_of g y hn) (fun a a1 a2 _ => img_o a1 a2) w⟩
def DR (mx6 m4 mx a : Mem) (s p : Nat) : Prop := (∀ q, q ≠ 42 → q ≠ 43 → mx q = mx6 q) ∧ (∀ q, q ≠ 39 → q ≠ 40 → a q = m4 q) ∧ ALW mx a s p
theorem ALW_b {mx a : Mem} {s P j p : Nat} (hs : s < 6) (hP : P ≤ 6) (hp : p < P) (hj : j < 5) (h : ALW mx a s P) : ALW (sto mx 42 j ((1 : Int32) <<< (nI p &&& 31))) (bnd a s j p) s P := fun p2 hp2 i hi => by
  by_cases e : i = j
  · rw [e, rd_s, one_shl (by omega) (by omega), decide_eq_true_iff]
    unfold bnd
    rw [rd_s]
    constructor
    · intro z
      exact Or.inr (by rw [z])
    · intro z
      rcases z with z | z
      · exact absurd z (nn4 (by omega))
      · have := (nI_eq (by omega) (by omega)).mp z
        omega
  · unfold bnd
    rw [rd_j e, rd_j e]
    exact h p2 hp2 i hi
/-- the class's search for the least part -/
theorem bind_eq {mx6 m4 mx a : Mem} {k b c s n j p0 : Nat} {d N T P Z : Nat → Nat} {V W : Nat → Int32} (R : RC mx6 m4 k d N T V W b c P Z) (hs : s < c) (hn : n < k) (hj : j < 5) (ag : ∀ t x, t < c → x < k → (bt (mx6 40 t) x = true ↔ ¬ m4 37 (10 * t + x) = 0)) (D : DR mx6 m4 mx a s (P s)) (hp : p0 < P s) (h1 : canP (bnd a s j p0) s n (d n) (Z s) 0) (h2 : ∀ q, q < p0 → ¬ canP (bnd a s j q) s n (d n) (Z s) 0) : ∃ mx2, s_X2_bindToLeastPart mx (nI n) (nI s) (nI j) = some (nI p0, mx2) ∧ DR mx6 m4 mx2 (bnd a s j p0) s (P s) := by
  have R0 := R
  obtain ⟨g, x, xv, hb, hjb, y, yv, sh, lb, bk, lv, ac, h39, jv⟩ := R
  have hc6 := sh.2.1
  have hb2 := isb_e hb
  obtain ⟨D1, D2, D3⟩ := D
  have hP6 := (sh.2.2 s hs).1.1
  have E : ∃ q, s_X2_bindToLeastPart mx (nI n) (nI s) (nI j) = some q ∧ (q.1 = nI p0 ∧ DR mx6 m4 q.2 (bnd a s j p0) s (P s)) := by
    unfold s_X2_bindToLeastPart l_X2_bindToLeastPart_3
    have step : ∀ p (m2 : Mem), p < P s → (∀ q, q ≠ 42 → q ≠ 43 → m2 q = mx6 q) → (∀ i, i ≠ j → m2 42 i = mx 42 i) → ∃ q, s_X2_suits (sto m2 42 j ((1 : Int32) <<< (nI p &&& 31))) (nI n) (nI s) 40 = some q ∧ (q.1 = 0 ∨ q.1 = 1) ∧ (¬ q.1 = 0 ↔ canP (bnd a s j p) s n (d n) (Z s) 0) ∧ (∀ r, r ≠ 42 → r ≠ 43 → q.2 r = mx6 r) ∧ (∀ i, i ≠ j → q.2 42 i = mx 42 i) ∧ ALW q.2 (bnd a s j p) s (P s) := fun p m2 hpp f1 f2 => by
      have al : ALW (sto m2 42 j ((1 : Int32) <<< (nI p &&& 31))) (bnd a s j p) s (P s) := by
        have q0 := ALW_b (by omega) hP6 hpp hj D3
        intro p2 hp2 i hi
        rw [← q0 p2 hp2 i hi]
        by_cases e : i = j
        · rw [e, rd_s, rd_s]
        · rw [rd_j e, rd_j e, f2 i e]
      have fa : ∀ q, q ≠ 39 → q ≠ 40 → bnd a s j p q = m4 q := fun q q1 q2 => by rw [bnd_o q1]; exact D2 q q1 q2
      have R1 : RC (sto m2 42 j ((1 : Int32) <<< (nI p &&& 31))) (bnd a s j p) k d N T V W b c P Z := RC_m (RC_j R0 (fun q q1 q2 => by rw [rd_o q1]; exact f1 q q1 q2)) (fun q q1 q2 => fa q (by omega) (by omega)) (by rw [fa 0 (by decide) (by decide)]) (by rw [fa 0 (by decide) (by decide)])
      obtain ⟨q, e, v, h, f⟩ := suits_m R1 hs hn al (fun t x ht hx => by rw [rd_o (by decide), f1 40 (by decide) (by decide), fa 37 (by decide) (by decide)]; exact ag t x ht hx)
      refine ⟨q, e, v, h, fun r r1 r2 => by rw [f r r2, rd_o r1]; exact f1 r r1 r2, fun i hi => by rw [f 42 (by decide), rd_j hi]; exact f2 i hi, ?_⟩
      intro p2 hp2 i hi
      rw [f 42 (by decide)]
      exact al p2 hp2 i hi
    have hP : ∀ (m2 : Mem), (∀ q, q ≠ 42 → q ≠ 43 → m2 q = mx6 q) → m2 39 1 = nI b ∧ m2 (b + 2) s = nI (P s) := fun m2 f1 => ⟨by rw [f1 39 (by decide) (by decide)]; exact hjb, by rw [f1 (b + 2) (by omega) (by omega)]; exact (lb.2.1 s hs).1⟩
    have zs : zin (nI s) 6 = true := zin_nI (by omega) (by decide)
    have zj : zin (nI j) 5 = true := zin_nI (by omega) (by decide)
    refine forG p0 (fun p (q : Int32 × Mem) => q.1 = nI p ∧ (∀ r, r ≠ 42 → r ≠ 43 → q.2 r = mx6 r) ∧ ∀ i, i ≠ j → q.2 42 i = mx 42 i) _ (fun p q hpp hq => ?_) (fun q hq => ?_) FU 0 (0, mx) (Nat.zero_le _) ⟨rfl, D1, fun _ _ => rfl⟩ (FU_lt (by omega))
    · obtain ⟨e1, f1, f2⟩ := hq
      obtain ⟨w1, w2⟩ := hP q.2 f1
      obtain ⟨r, er, -, vr, u1, u2, -⟩ := step p q.2 (by omega) f1 f2
      unfold t_X2_bindToLeastPart_3
      rw [e1]
      refine st_k hb w1 (st_ck zs ?_)
      rw [ix_nI (n := s) (by omega), ix_nI (n := j) (by omega), w2]
      refine st_if (fun z => absurd z (nI_ge (by omega) (by omega))) (fun _ => st_ck zj (st_n (st_2 (Q := fun t => t = r) ⟨r, er, rfl⟩ (fun r8 m9 hr => ?_))))
      have r8e : r8 = r.1 := by rw [← hr]
      have m9e : m9 = r.2 := by rw [← hr]
      rw [r8e, m9e]
      refine st_if (fun _ => st_n (st_l ⟨nI_s1, u1, u2⟩)) (fun z => absurd (vr.mp z) (h2 p hpp))
    · obtain ⟨e1, f1, f2⟩ := hq
      obtain ⟨w1, w2⟩ := hP q.2 f1
      obtain ⟨r, er, -, vr, u1, u2, u3⟩ := step p0 q.2 hp f1 f2
      have hr0 : ¬ r.1 = 0 := vr.mpr h1
      unfold t_X2_bindToLeastPart_3
      rw [e1, zbk_i hb w1, ck_p zs, ix_nI (n := s) (by omega), ix_nI (n := j) (by omega), w2, if_neg (nI_ge (by omega) (by omega)), ck_p zj]
      simp only [bn]
      obtain ⟨r1, r2⟩ := r
      rw [er, zb2_s, if_neg hr0]
      exact ⟨_, rfl, rfl, u1, fun q q1 q2 => by rw [bnd_o q1]; exact D2 q q1 q2, u3⟩
  obtain ⟨⟨r, m2⟩, e, h, D⟩ := E
  have h : r = nI p0 := h
  rw [h] at e
  exact ⟨m2, e, D⟩
