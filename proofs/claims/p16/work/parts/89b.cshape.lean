/-! both readers: a shape -/
theorem c_known {m : Mem} {c : Nat} (h21 : m 0 21 = nI c) (hc : c ≤ 6) (h0 : m 0 42 = 0) : ∃ r, l_X7_readShape_51 FU 0 m = some r ∧ ((r = m ∧ ∀ k, k < c → ¬ m 19 k = m 0 41) ∨ (r = fl m 5 (m 0 39) ∧ ∃ k, k < c ∧ m 19 k = m 0 41)) := by
  have f21 : (fl m 5 (m 0 39)) 0 21 = nI c := by rw [fl_j (by decide) (by decide)]; exact h21
  have fb : ¬ (fl m 5 (m 0 39)) 0 42 = 0 := fl_b (by decide)
  unfold l_X7_readShape_51
  refine forG c (fun j (a : Int32 × Mem) => a.1 = nI j ∧ ((a.2 = m ∧ ∀ k, k < j → ¬ m 19 k = m 0 41) ∨ (a.2 = fl m 5 (m 0 39) ∧ ∃ k, k < c ∧ m 19 k = m 0 41))) _ (fun j a hj ha => ?_) (fun a ha => ?_) FU 0 (0, m) (Nat.zero_le _) ⟨rfl, Or.inl ⟨rfl, fun k hk => absurd hk (Nat.not_lt_zero _)⟩⟩ (FU_lt (by omega))
  · obtain ⟨e1, ha⟩ := ha
    unfold t_X7_readShape_51
    rcases ha with ⟨e, hk⟩ | ⟨e, hk⟩
    · rw [e1, e, h21, ix_nI (n := j) (by omega)]
      refine st_if (fun z => absurd z (nI_ge hj (by omega))) (fun _ => ?_)
      rw [if_pos h0]
      refine st_ck (zin_nI (by omega) (by decide)) (st_if (fun q => ?_) (fun q => st_n (st_l ⟨nI_s1, Or.inl ⟨rfl, fun k hk2 => ?_⟩⟩)))
      · rw [fails_eq, bind_s]
        exact st_n (st_l ⟨nI_s1, Or.inr ⟨rfl, j, hj, q⟩⟩)
      · by_cases e3 : k = j
        · rw [e3]; exact q
        · exact hk k (by omega)
    · rw [e1, e, f21]
      refine st_if (fun z => absurd z (nI_ge hj (by omega))) (fun _ => ?_)
      rw [if_neg fb]
      exact st_r (Or.inr ⟨rfl, hk⟩)
  · obtain ⟨e1, ha⟩ := ha
    have q21 : a.2 0 21 = nI c := ha.elim (fun q => by rw [q.1]; exact h21) (fun q => by rw [q.1]; exact f21)
    unfold t_X7_readShape_51
    rw [e1, q21]
    exact ⟨_, if_pos (nI_le (Nat.le_refl _) (by omega)), ha⟩
theorem PE_open {mx mm mx2 mm2 : Mem} {b c : Nat} {P : Nat → Nat} {w : Int32} (h : PE mx mm b c P) (hx : ∀ a s, b + 1 ≤ a → a ≤ b + 6 → s ≠ c → mx2 a s = mx a s) (hx9 : ∀ a, b + 9 ≤ a → a ≤ b + 13 → mx2 a = mx a) (hy : ∀ a s, 19 ≤ a → a ≤ 21 → s ≠ c → mm2 a s = mm a s) (hy9 : ∀ a, 22 ≤ a → a ≤ 26 → mm2 a = mm a) (x1 : mx2 (b + 1) c = w) (x2 : mx2 (b + 2) c = 0) (x3 : mx2 (b + 3) c = vp_nar .boolean 0) (x4 : mx2 (b + 4) c = 0) (x5 : mx2 (b + 5) c = 0) (x6 : mx2 (b + 6) c = 0) (y1 : mm2 19 c = w) (y2 : mm2 20 c = vp_nar .boolean 0) (y3 : mm2 21 c = 0) : PE mx2 mm2 b (c + 1) (up P c 0) := by
  intro s hs
  by_cases e : s = c
  · rw [e, up_s]
    refine ⟨by omega, y3, x2, x1.trans y1.symm, by rw [x3, y2]; decide, x5, x6, fun k hk => ?_, fun i hi => absurd hi (Nat.not_lt_zero _)⟩
    rw [x4, b_0]
    exact ⟨fun z => absurd z (by decide), fun ⟨i, hi, _⟩ => absurd hi (Nat.not_lt_zero _)⟩
  · rw [up_o e]
    exact PEs_c (fun a a1 a2 => hx a s a1 a2 e) (fun a a1 a2 => hy a s a1 a2 e) (fun a i a1 a2 _ => by rw [hx9 a a1 a2]) (fun a i a1 a2 _ => by rw [hy9 a a1 a2]) (h s (by omega))
theorem PE_close {mx mm mx2 mm2 : Mem} {b c : Nat} {P : Nat → Nat} (h : PE mx mm b (c + 1) P) (hx : ∀ a s, b + 1 ≤ a → a ≤ b + 6 → (s ≠ c ∨ a ≠ b + 3) → mx2 a s = mx a s) (hx9 : ∀ a, b + 9 ≤ a → a ≤ b + 13 → mx2 a = mx a) (hy : ∀ a s, 19 ≤ a → a ≤ 21 → (s ≠ c ∨ a ≠ 20) → mm2 a s = mm a s) (hy9 : ∀ a, 22 ≤ a → a ≤ 26 → mm2 a = mm a) (x3 : mx2 (b + 3) c = vp_nar .boolean 1) (y2 : mm2 20 c = vp_nar .boolean 1) : PE mx2 mm2 b (c + 1) P := by
  intro s hs
  by_cases e : s = c
  · obtain ⟨h1, h2, h3, h4, h5, h6, h7, h8, h9⟩ := h s hs
    rw [e] at h1 h2 h3 h4 h6 h7 h8 h9 ⊢
    refine ⟨h1, ?_, ?_, ?_, by rw [x3, y2]; decide, ?_, ?_, fun k hk => ?_, fun i hi => ?_⟩
    · rw [hy 21 c (by omega) (by omega) (by omega)]; exact h2
    · rw [hx (b + 2) c (by omega) (by omega) (by omega)]; exact h3
    · rw [hx (b + 1) c (by omega) (by omega) (by omega), hy 19 c (by omega) (by omega) (by omega)]; exact h4
    · rw [hx (b + 5) c (by omega) (by omega) (by omega)]; exact h6
    · rw [hx (b + 6) c (by omega) (by omega) (by omega)]; exact h7
    · rw [hx (b + 4) c (by omega) (by omega) (by omega), hy9 22 (by omega) (by omega)]; exact h8 k hk
    · rw [hx9 (b + 9) (by omega) (by omega), hx9 (b + 10) (by omega) (by omega), hx9 (b + 11) (by omega) (by omega), hx9 (b + 12) (by omega) (by omega), hx9 (b + 13) (by omega) (by omega), hy9 22 (by omega) (by omega), hy9 23 (by omega) (by omega), hy9 24 (by omega) (by omega), hy9 25 (by omega) (by omega), hy9 26 (by omega) (by omega)]
      exact h9 i hi
  · exact PEs_c (fun a a1 a2 => hx a s a1 a2 (Or.inl e)) (fun a a1 a2 => hy a s a1 a2 (Or.inl e)) (fun a i a1 a2 _ => by rw [hx9 a a1 a2]) (fun a i a1 a2 _ => by rw [hy9 a a1 a2]) (h s hs)
theorem o_open7 {m m2 : Mem} {b c : Nat} {w : Int32} (h : CB m b c) (hc : c < 6) (e : s_X0_openShape m b w = some m2) : m2 b 1 = m b 1 ∧ m2 (b + 7) = upd (m (b + 7)) (c + 1) (m b 1) := by
  obtain ⟨h9, h0, hc6, q, hq, h1⟩ := h
  have hb2 := isb_e h9
  have z6 : zin (nI c) 6 = true := zin_nI hc (by decide)
  unfold s_X0_openShape at e
  rw [h0, if_pos (show nI c < 6 from nI_lt (b := 6) hc (by decide))] at e
  simp only [bn] at e
  rw [ck_p z6, ck_p z6, ck_p z6, ck_p z6, ck_p z6, ck_p z6, nI_s1, ck_p (zin_nI (by omega) (by decide)), ix_nI (n := c) (by omega), ix_nI (n := c + 1) (by omega)] at e
  have e := Option.some.inj e
  subst e
  have e1 : (sto (sto (sto (sto (sto (sto (sto m b 0 (nI (c + 1))) (b + 1) c w) (b + 2) c 0) (b + 3) c (vp_nar .boolean 0)) (b + 4) c 0) (b + 5) c 0) (b + 6) c 0) b 1 = m b 1 := by
    rw [rd_o (by omega), rd_o (by omega), rd_o (by omega), rd_o (by omega), rd_o (by omega), rd_o (by omega), rd_j (by decide)]
  refine ⟨?_, ?_⟩
  · rw [rd_o (by omega)]; exact e1
  · rw [sto_same, e1, rd_o (by omega), rd_o (by omega), rd_o (by omega), rd_o (by omega), rd_o (by omega), rd_o (by omega), rd_o (by omega)]
/-- what may end a shape -/
def ES (mx m1 x : Mem) (b c j p : Nat) (fs S0 : Nat → Nat) : Prop := (mx 9 2 = 2 ∧ ¬ m1 10 2 = 40 ∧ ¬ m1 10 2 = 3 ∧ mx 9 4 = 0 ∧ mx 9 5 = 0 ∧ x 27 c = nI 0 ∧ p = 0 ∧ GS mx b c j 0 fs S0 (fun _ T => T = [])) ∨ (AIS mx m1 ∧ ¬ m1 10 2 = 44 ∧ ¬ m1 10 2 = 124 ∧ p ≤ 6 ∧ ∃ z t vl vh, x 27 c = nI z ∧ z ≤ 160 ∧ GA mx x b c 0 t z vl vh j p fs S0)
theorem es_tk {mx m1 x : Mem} {b c j p : Nat} {fs S0 : Nat → Nat} (h : ES mx m1 x b c j p fs S0) (hj : j ≤ 400) (kk : SK b mx m1) (q9 : m1 9 = mx 9) (cb : CB m1 b (c + 1)) (h9 : m1 9 1 = nI b) (h3 : m1 9 3 = nI 0) : p ≤ 6 ∧ (m1 10 2 = 59 → ∃ m2, s_X4_takeToken m1 = some m2 ∧ TB b (c + 1) m1 m2 ∧ m2 9 2 = 0 ∧ m2 9 3 = nI 0 ∧ m2 9 4 = 0 ∧ m2 9 5 = 0 ∧ GE m2 x b c j p fs S0) ∧ (m1 10 2 = 4 → ∃ m4 m2, s_X4_takeToken m1 = some m2 ∧ TB b (c + 1) m1 m4 ∧ m4 9 3 = nI 0 ∧ m2 = sto (sto m4 (b + 3) c (vp_nar .boolean 1)) 9 2 13 ∧ m4 9 4 = 0 ∧ m4 9 5 = 0 ∧ GE m4 x b c j p fs S0) ∧ (¬ m1 10 2 = 59 → ¬ m1 10 2 = 4 → s_X4_takeToken m1 = some (sto (sto m1 9 8 2) 9 9 (m1 10 3))) := by
  have c5 : c < 6 := by have := cb.2.2.1; omega
  have hb2 := isb_e cb.1
  rcases h with ⟨h, k40, k3, f4, f5, f27, fp, fg⟩ | ⟨h, k44, k124, hp, z, t, vl, vh, f27, hz, fg⟩
  · have e2 : s_X4_takeToken m1 = s_X4_takeShapeEnd m1 := by
      rw [tt_2 (by rw [q9]; exact h)]
      unfold s_X4_takeBody
      rw [if_neg k40, if_neg k3, b_id]
    subst fp
    rw [e2]
    unfold s_X4_takeShapeEnd s_X4_takeSign
    refine ⟨by omega, fun K => ?_, fun K => ?_, fun n59 n4 => ?_⟩
    · rw [K, if_neg (by decide), if_pos rfl]
      exact ⟨_, rfl, TB_9 cb (by omega), rd_s, by rw [rd_j (by decide)]; exact h3, by rw [rd_j (by decide), q9]; exact f4, by rw [rd_j (by decide), q9]; exact f5, GE_0 fg (SK_t kk (SK_9 (by omega) (by omega) (by omega))) (Nat.le_refl _) f27⟩
    · rw [if_pos K, h9, zbk_i cb.1 rfl, o_close cb.2.1 c5, bind_s]
      exact ⟨m1, _, rfl, ⟨fun _ _ _ _ _ => rfl, fun _ _ => rfl, cb⟩, h3, rfl, by rw [q9]; exact f4, by rw [q9]; exact f5, GE_0 fg kk (Nat.le_refl _) f27⟩
    · rw [if_neg n4, if_neg n59, b_id, b_id, fail_eq]
  · rw [ai_tk h q9]
    obtain ⟨t1, t2⟩ := tb_end cb h9 h3
    have G1 : GA m1 x b c 0 t z vl vh j p fs S0 := GA_n fg (by rw [q9]) (by rw [q9]) kk (Nat.le_refl _) (fun _ _ _ => rfl)
    refine ⟨hp, fun K => ?_, fun K => ?_, fun n59 n4 => tb_bad k44 k124 (Or.inl ⟨by rw [h3]; decide, n59, n4⟩)⟩
    · obtain ⟨m2, e2, tt, s2, d2, m4, m6, sc1, sc2, k6, g4, g5⟩ := t1 K
      have G2 := GD_of (GC_of G1 hj c5 hp (by decide) hz sc1) hj c5 hp (by decide) sc2
      exact ⟨m2, e2, tt, s2, d2, by rw [g4]; exact bits_0 (fun l l1 l2 => (G2.1 l l1 l2).1), by rw [g5]; exact bits_0 (fun l l1 l2 => (G2.1 l l1 l2).2), GE_of G2 hz f27 k6 (fun _ _ _ => rfl) (Nat.le_refl _)⟩
    · obtain ⟨m4, m2, e2, tt, d2, y4, m5, sc1, sc2⟩ := t2 K
      have G2 := GD_of (GC_of G1 hj c5 hp (by decide) hz sc1) hj c5 hp (by decide) sc2
      exact ⟨m4, m2, e2, tt, d2, y4, bits_0 (fun l l1 l2 => (G2.1 l l1 l2).1), bits_0 (fun l l1 l2 => (G2.1 l l1 l2).2), GE_of G2 hz f27 SK_r (fun _ _ _ => rfl) (Nat.le_refl _)⟩
def SE (m2 x : Mem) (b c i : Nat) : Prop := m2 9 4 = 0 ∧ m2 9 5 = 0 ∧ ∃ (p : Nat) (fs S0 : Nat → Nat), p ≤ 6 ∧ GE m2 x b c i p fs S0 ∧ ∀ S : Nat → Nat, (∀ k, k < fs c → S k = S0 k) → FINs x S fs c
theorem c_shape {L i c b : Nat} {mx mm m1 : Mem} {P P2 Z2 : Nat → Nat} (h : TOK L i mx mm m1) (hst : mx 9 2 = 0) (h3 : mx 9 3 = nI 0) (h9 : mx 9 1 = nI b) (hC : CB mx b c) (hE : PE mx mm b c P) (h21 : mm 0 21 = nI c) (hD : DS mm c P2 Z2) (hend : c = 0 ∨ ¬ mm 0 40 = 0) (hz4 : mx 9 4 = 0) (hz5 : mx 9 5 = 0) (hG : GF mx mm b c i) : ∃ mm2, s_X7_readShape mm = some mm2 ∧ (DD i mx mm2 ∨ (mm2 0 42 = 0 ∧ ∃ j mx2 m3 P, XS i mx j mx2 ∧ TOK L j mx2 mm2 m3 ∧ mx2 9 2 = 0 ∧ mx2 9 3 = nI 0 ∧ mx2 9 1 = nI b ∧ CB mx2 b (c + 1) ∧ PE mx2 mm2 b (c + 1) P ∧ mm2 0 21 = nI (c + 1) ∧ mx2 9 4 = 0 ∧ mx2 9 5 = 0 ∧ GF mx2 mm2 b (c + 1) j)) := by
  have hb := hC.1
  have hb2 := isb_e hb
  have hc := hC.2.2.1
  have h0 := h.2.2.2.1
  have h5 := h.2.2.2.2.1
  have q9 : m1 9 = mx 9 := h.2.1 9 (by decide)
  have z19 : m1 9 1 = nI b := by rw [q9]; exact h9
  have t0 := tt_0 (m := m1) (by rw [q9]; exact hst)
  have cb1 : CB m1 b c := CB_o hC (h.2.1 b (by omega))
  have n42 : ∀ (x y : Int32), 0 < x → ¬ (fl mm x y) 0 42 ≤ 0 := fun x y hx => by
    unfold fl
    rw [if_pos h0, rd_j (by decide), rd_s]
    exact Int32.not_le.mpr hx
  unfold s_X7_readShape
  rw [if_pos h0]
  have kdead : ∀ (x : Int32), 0 < x → l_X7_readShape_51 FU 0 (fl mm x (mm 0 39)) = some (fl mm x (mm 0 39)) := fun x hx => by
    have f21 : (fl mm x (mm 0 39)) 0 21 = nI c := by rw [fl_j (by decide) (by decide)]; exact h21
    unfold l_X7_readShape_51
    rw [show FU = 999999 + 1 from rfl]
    refine zlp_off ?_
    unfold t_X7_readShape_51
    by_cases q : (fl mm x (mm 0 39)) 0 21 ≤ 0
    · rw [if_pos q]
    · rw [if_neg q, if_neg (fl_b hx)]
  by_cases s1 : mm 0 40 = 1
  rotate_left
  · have nK2 : ¬ m1 10 2 = 2 := fun q => s1 ((KT_w h.2.2.1.1).2.1.mpr q)
    rw [if_neg s1, fails_eq, bind_s, bind_s, if_neg (fl_b (by decide)), bind_s, kdead 2 (by decide), bind_s, if_neg (n42 _ _ (by decide))]
    refine ex_s (Or.inl (DD_f h0 (by decide) (tk_fail (mf := m1) (k := 2) h (by decide) ?_)))
    rw [t0]
    unfold s_X4_takeShapeWord
    by_cases K0 : m1 10 2 = 0
    · have c0 : c = 0 := hend.resolve_right (fun q => q ((KT_w h.2.2.1.1).1.mpr K0))
      rw [if_pos K0, z19, zbk_i hb rfl, if_pos (by rw [cb1.2.1, c0]; decide), if_neg nK2, b_id, fail_eq]
    · rw [if_neg K0, if_neg nK2, b_id, fail_eq]
  have K2 : m1 10 2 = 2 := (KT_w h.2.2.1.1).2.1.mp s1
  have nv : m1 10 4 = mm 0 41 := h.2.2.1.2.1 (Or.inl s1)
  rw [if_pos s1, bind_s, if_pos h0, h21]
  by_cases c6 : c = 6
  · rw [if_pos (show nI c = 6 by rw [c6]; rfl), fails_eq, bind_s, bind_s, kdead 4 (by decide), bind_s, if_neg (n42 _ _ (by decide))]
    refine ex_s (Or.inl (DD_f h0 (by decide) (tk_fail (mf := m1) (k := 4) h (by decide) ?_)))
    rw [t0]
    unfold s_X4_takeShapeWord
    rw [K2, if_neg (by decide), if_pos rfl, z19, zbk_i hb rfl, if_neg (by rw [cb1.2.1, c6]; decide), b_id, fail_eq]
  have hc6 : c < 6 := by omega
  rw [if_neg (show ¬ nI c = 6 from fun q => c6 ((nI_eq (b := 6) (by omega) (by decide)).mp q)), bind_s]
  obtain ⟨r, er, hr⟩ := c_known h21 hc h0
  obtain ⟨so, eso, hso⟩ := o_shapeOf (w := mm 0 41) cb1.2.1 hc
  have wd : ∀ s, s < c → m1 (b + 1) s = mm 19 s := fun s hs => by rw [h.2.1 (b + 1) (by omega)]; exact (hE s hs).2.2.2.1
  have tw : s_X4_takeToken m1 = (if so < 0 then (s_X0_openShape m1 b (mm 0 41)).bind fun m25 => some (sto m25 9 2 1) else s_X4_fail m1 5) := by
    rw [t0]
    unfold s_X4_takeShapeWord
    rw [K2, if_neg (by decide), if_pos rfl, z19, zbk_i hb rfl, if_pos (by rw [cb1.2.1]; exact nI_lt (b := 6) hc6 (by decide)), zbk_i hb rfl, nv, eso, bind_s, zbk_i hb rfl, b_id]
    rfl
  rw [er, bind_s]
  rcases hr with ⟨e, hk⟩ | ⟨e, k, hk, ek⟩
  rotate_left
  · rw [e, if_neg (n42 _ _ (by decide))]
    refine ex_s (Or.inl (DD_f h0 (by decide) (tk_fail (mf := m1) (k := 5) h (by decide) ?_)))
    rcases hso with ⟨-, hn⟩ | ⟨t, ht, et, -, -⟩
    · exact absurd ((wd k hk).trans ek) (hn k hk)
    · rw [tw, et, if_neg (m1_lt (by omega)), fail_eq]
  have eso2 : so = -1 := by
    rcases hso with ⟨e, -⟩ | ⟨t, ht, et, ew, -⟩
    · exact e
    · exact absurd ((wd t ht).symm.trans ew) (hk t ht)
  obtain ⟨m25, e25, cb25, f25, g1, g2, g3, g4, g5, g6⟩ := o_open (w := mm 0 41) cb1 hc6
  obtain ⟨o71, o77⟩ := o_open7 cb1 hc6 e25
  rw [eso2, if_pos (by decide), e25, bind_s] at tw
  have f25' : ∀ a, a < b → m25 a = m1 a := fun a ha => f25 a (by omega)
  obtain ⟨m16, e16, c16, j16, out⟩ := tk_next (mn := sto mm 0 44 (mm 0 39)) h (by rw [s1]; decide) tw (by rw [rd_o (by decide), f25' 10 (by omega)]) (by rw [rd_o (by decide), f25' 7 (by omega)]) (by rw [rd_o (by decide), f25' 8 (by omega)]) (by rw [rd_j (by decide), f25' 9 (by omega), q9]; exact h5) (by rw [rd_s]; decide) (fun j _ => rd_j (by omega)) (rd_o (by decide))
  have z6 : zin (nI c) 6 = true := zin_nI hc6 (by decide)
  rw [e, if_pos (show mm 0 42 ≤ 0 by rw [h0]; decide), taken_ok h0 s1 e16, zb2_s, h21, ix_nI (n := c) (by omega)]
  refine ex_ck z6 (ex_n ?_)
  have u21 : m16 0 21 = nI c := by rw [j16 21 (by omega), rd_j (by decide)]; exact h21
  rw [rd_o (show (0 : Nat) ≠ 19 by decide), u21, ix_nI (n := c) (by omega)]
  refine ex_ck z6 (ex_n ?_)
  rw [rd_o (show (0 : Nat) ≠ 27 by decide), rd_o (show (0 : Nat) ≠ 19 by decide), u21, ix_nI (n := c) (by omega)]
  refine ex_ck z6 (ex_n ?_)
  rw [rd_o (show (0 : Nat) ≠ 21 by decide), rd_o (show (0 : Nat) ≠ 27 by decide), rd_o (show (0 : Nat) ≠ 19 by decide), u21, ix_nI (n := c) (by omega)]
  refine ex_ck z6 (ex_n ?_)
  have k0 : (sto (sto (sto (sto m16 19 c (mm 0 41)) 27 c 0) 21 c 0) 20 c (vp_nar .boolean 0)) 0 = m16 0 := by rw [rd_o (by decide), rd_o (by decide), rd_o (by decide), rd_o (by decide)]
  have kc : ∀ a, a ≠ 19 → a ≠ 20 → a ≠ 21 → a ≠ 27 → (sto (sto (sto (sto m16 19 c (mm 0 41)) 27 c 0) 21 c 0) 20 c (vp_nar .boolean 0)) a = m16 a := fun a a1 a2 a3 a4 => by rw [rd_o a2, rd_o a3, rd_o a4, rd_o a1]
  have ks : ∀ a s, s ≠ c → (sto (sto (sto (sto m16 19 c (mm 0 41)) 27 c 0) 21 c 0) 20 c (vp_nar .boolean 0)) a s = m16 a s := fun a s hs => by
    have e : ∀ (m : Mem) (q : Nat) (y : Int32), (sto m q c y) a s = m a s := fun m q y => by
      by_cases z : a = q
      · rw [z, rd_j hs]
      · rw [rd_o z]
    rw [e, e, e, e]
  have k19 : (sto (sto (sto (sto m16 19 c (mm 0 41)) 27 c 0) 21 c 0) 20 c (vp_nar .boolean 0)) 19 c = mm 0 41 := by rw [rd_o (by decide), rd_o (by decide), rd_o (by decide), rd_s]
  have k20 : (sto (sto (sto (sto m16 19 c (mm 0 41)) 27 c 0) 21 c 0) 20 c (vp_nar .boolean 0)) 20 c = vp_nar .boolean 0 := rd_s
  have k21 : (sto (sto (sto (sto m16 19 c (mm 0 41)) 27 c 0) 21 c 0) 20 c (vp_nar .boolean 0)) 21 c = 0 := by rw [rd_o (by decide), rd_s]
  have k27 : (sto (sto (sto (sto m16 19 c (mm 0 41)) 27 c 0) 21 c 0) 20 c (vp_nar .boolean 0)) 27 c = 0 := by rw [rd_o (by decide), rd_o (by decide), rd_s]
  generalize sto (sto (sto (sto m16 19 c (mm 0 41)) 27 c 0) 21 c 0) 20 c (vp_nar .boolean 0) = m24 at k0 kc ks k19 k20 k21 k27 ⊢
  -- the end of a shape
  have DEND : ∀ x, DD i mx x → ∃ r, ((s_X7_taken2 x 59).bind fun m29 => bn (sto m29 0 21 ((m29 0 21) + 1)) fun m30 => some m30) = some r ∧ (DD i mx r ∨ (r 0 42 = 0 ∧ ∃ j mx2 m3 P, XS i mx j mx2 ∧ TOK L j mx2 r m3 ∧ mx2 9 2 = 0 ∧ mx2 9 3 = nI 0 ∧ mx2 9 1 = nI b ∧ CB mx2 b (c + 1) ∧ PE mx2 r b (c + 1) P ∧ r 0 21 = nI (c + 1) ∧ mx2 9 4 = 0 ∧ mx2 9 5 = 0 ∧ GF mx2 r b (c + 1) j)) := fun x D => by
    rw [taken2_dead D.1, bind_s]
    exact ex_n (ex_s (Or.inl ⟨by rw [rd_j (by decide)]; exact D.1, by rw [rd_j (by decide)]; exact D.2⟩))
  have AEND : ∀ (j : Nat) (mx4 x m4 : Mem) (Q : Nat → Nat), XS i mx j mx4 → TOK L j mx4 x m4 → x 0 21 = nI c → PE mx4 x b (c + 1) Q → (m4 10 2 = 59 → ∃ m2, s_X4_takeToken m4 = some m2 ∧ TB b (c + 1) m4 m2 ∧ m2 9 2 = 0 ∧ m2 9 3 = nI 0 ∧ m2 9 1 = nI b ∧ SE m2 x b c j) → (¬ m4 10 2 = 59 → s_X4_takeToken m4 = some (sto (sto m4 9 8 2) 9 9 (m4 10 3))) → ∃ r, ((s_X7_taken2 x 59).bind fun m29 => bn (sto m29 0 21 ((m29 0 21) + 1)) fun m30 => some m30) = some r ∧ (DD i mx r ∨ (r 0 42 = 0 ∧ ∃ j mx2 m3 P, XS i mx j mx2 ∧ TOK L j mx2 r m3 ∧ mx2 9 2 = 0 ∧ mx2 9 3 = nI 0 ∧ mx2 9 1 = nI b ∧ CB mx2 b (c + 1) ∧ PE mx2 r b (c + 1) P ∧ r 0 21 = nI (c + 1) ∧ mx2 9 4 = 0 ∧ mx2 9 5 = 0 ∧ GF mx2 r b (c + 1) j)) := fun j mx4 x m4 Q X4 T4 x21 E4 ok bd => by
    have x0 := T4.2.2.2.1
    by_cases z : x 0 42 = 0 ∧ x 0 40 = 4 ∧ x 0 41 = 59
    · obtain ⟨m2, e2, t2, s2, d2, b2, se4, se5, sp, sfs, sS0, shp, sge, shf⟩ := ok ((TOK_is T4 (by unfold sgn; decide)).mp z)
      obtain ⟨mf, ef, cf, jf2, out⟩ := tk_next (mn := x) T4 (by rw [z.2.1]; decide) e2 (t2.1 10 (by omega) (by omega) (by omega) (by omega)) (t2.1 7 (by omega) (by omega) (by omega) (by omega)) (t2.1 8 (by omega) (by omega) (by omega) (by omega)) (by rw [t2.2.1 8 (by omega), T4.2.1 9 (by decide)]; exact T4.2.2.2.2.1) (by rw [s2]; decide) (fun _ _ => rfl) rfl
      rw [taken2_ok z, ef, bind_s, jf2 21 (by omega), x21, nI_s1]
      refine ex_n (ex_s ?_)
      rcases out with ⟨o0, X5, m5, T5⟩ | ⟨o0, F5⟩
      · exact Or.inr ⟨by rw [rd_j (by decide)]; exact o0, _, m2, m5, Q, XS_t X4 X5, TOK_m T5 (fun j hj => rd_j (by omega)) (rd_o (by decide)), s2, d2, b2, t2.2.2, PE_k (fun a ha => by rw [t2.1 a (by omega) (by omega) (by omega) (by omega)]; exact T4.2.1 a (by omega)) (fun a a1 a2 => by rw [rd_o (by omega)]; exact cf a (by omega)) E4, rd_s, se4, se5, GF_of sge shp hc6 (Nat.le_refl _) SK_r shf (fun a a1 a2 => by rw [rd_o (by omega)]; exact cf a (by omega))⟩
      · exact Or.inl ⟨by rw [rd_j (by decide)]; exact o0, by rw [rd_j (by decide)]; exact FLD_t X4 F5⟩
    · have nK : ¬ m4 10 2 = 59 := fun q => z ((TOK_is T4 (by unfold sgn; decide)).mpr q)
      have D : DD i mx (fl x 2 (x 0 39)) := DD_f x0 (by decide) (FLD_t X4 (tk_fail (mf := m4) (k := 2) T4 (by decide) (bd nK)))
      rw [taken2_bad x0 z, bind_s]
      exact ex_n (ex_s (Or.inl ⟨by rw [rd_j (by decide)]; exact D.1, by rw [rd_j (by decide)]; exact D.2⟩))
  have DTAIL : ∀ x, DD i mx x → ∃ r, ((((if (x 0 42) = 0 then ((s_X7_is x 40).bind fun r44 => (if r44 = 0 then ((if (x 0 40) = 2 then ((s_X7_readAny x).bind fun m48 => some m48) else (some x))) else ((s_X7_readAny x).bind fun m46 => some m46))) else (some x)) : Option (Mem)).bind fun m27 => (if (m27 0 42) = 0 then ((if (m27 0 40) = 3 then (ck (zin (m27 0 21) 6 = true) (bn (sto m27 20 (Int32.toNatClampNeg (m27 0 21)) (vp_nar .boolean 1)) fun m35 => (s_X7_next m35).bind fun m37 => (s_X7_taken2 m37 59).bind fun m39 => bn (sto m39 0 21 ((m39 0 21) + 1)) fun m40 => some m40)) else ((s_X7_taken2 m27 59).bind fun m32 => bn (sto m32 0 21 ((m32 0 21) + 1)) fun m33 => some m33))) else ((s_X7_taken2 m27 59).bind fun m29 => bn (sto m29 0 21 ((m29 0 21) + 1)) fun m30 => some m30)))) = some r ∧ (DD i mx r ∨ (r 0 42 = 0 ∧ ∃ j mx2 m3 P, XS i mx j mx2 ∧ TOK L j mx2 r m3 ∧ mx2 9 2 = 0 ∧ mx2 9 3 = nI 0 ∧ mx2 9 1 = nI b ∧ CB mx2 b (c + 1) ∧ PE mx2 r b (c + 1) P ∧ r 0 21 = nI (c + 1) ∧ mx2 9 4 = 0 ∧ mx2 9 5 = 0 ∧ GF mx2 r b (c + 1) j)) := fun x D => by
    rw [if_neg D.1, bind_s, if_neg D.1]
    exact DEND x D
  rcases out with ⟨o0, X1, m3, T3⟩ | ⟨o0, F⟩
  rotate_left
  · have D : DD i mx m24 := ⟨by rw [k0]; exact o0, by rw [k0]; exact F⟩
    rw [taken2_dead D.1, bind_s]
    exact DTAIL _ D
  have T24 : TOK L (i + 1) (sto m25 9 2 1) m24 m3 := TOK_m T3 (fun j _ => by rw [k0]) (kc 33 (by decide) (by decide) (by decide) (by decide))
  have m3c := T24.2.1
  have m39 : ∀ j, j ≠ 2 → m3 9 j = mx 9 j := fun j hj => by rw [m3c 9 (by decide), rd_j hj, f25' 9 (by omega), q9]
  have t1 := tt_1 (m := m3) (by rw [m3c 9 (by decide), rd_s])
  have m24z := T24.2.2.2.1
  have E24 : PE (sto m25 9 2 1) m24 b (c + 1) (up P c 0) := by
    refine PE_open (w := mm 0 41) hE (fun a s a1 a2 hs => ?_) (fun a a1 a2 => ?_) (fun a s a1 a2 hs => ?_) (fun a a1 a2 => ?_) ?_ ?_ ?_ ?_ ?_ ?_ k19 k20 k21
    · rw [rd_o (by omega)]
      have hu : ∀ (x : Int32), upd (m1 a) c x s = mx a s := fun x => by rw [pk_un hs, h.2.1 a (by omega)]
      have ha : a = b + 1 ∨ a = b + 2 ∨ a = b + 3 ∨ a = b + 4 ∨ a = b + 5 ∨ a = b + 6 := by omega
      rcases ha with q | q | q | q | q | q
      · rw [q] at hu ⊢; rw [g1]; exact hu _
      · rw [q] at hu ⊢; rw [g2]; exact hu _
      · rw [q] at hu ⊢; rw [g3]; exact hu _
      · rw [q] at hu ⊢; rw [g4]; exact hu _
      · rw [q] at hu ⊢; rw [g5]; exact hu _
      · rw [q] at hu ⊢; rw [g6]; exact hu _
    · rw [rd_o (by omega), f25 a (by omega), h.2.1 a (by omega)]
    · rw [ks a s hs, c16 a (by omega), rd_o (by omega)]
    · rw [kc a (by omega) (by omega) (by omega) (by omega), c16 a (by omega), rd_o (by omega)]
    · rw [rd_o (by omega), g1, pk_us]
    · rw [rd_o (by omega), g2, pk_us]
    · rw [rd_o (by omega), g3, pk_us]
    · rw [rd_o (by omega), g4, pk_us]
    · rw [rd_o (by omega), g5, pk_us]
    · rw [rd_o (by omega), g6, pk_us]
  by_cases z61 : m24 0 42 = 0 ∧ m24 0 40 = 4 ∧ m24 0 41 = 61
  rotate_left
  · have nK : ¬ m3 10 2 = 61 := fun q => z61 ((TOK_is T24 (by unfold sgn; decide)).mpr q)
    rw [taken2_bad m24z z61, bind_s]
    refine DTAIL _ (DD_f m24z (by decide) (FLD_t X1 (tk_fail (mf := m3) (k := 2) T24 (by decide) ?_)))
    rw [t1]
    unfold s_X4_takeSign
    rw [if_neg nK, b_id, fail_eq]
  have tkB : s_X4_takeToken m3 = some (sto m3 9 2 2) := by
    rw [t1]
    unfold s_X4_takeSign
    rw [if_pos ((TOK_is T24 (by unfold sgn; decide)).mp z61)]
    rfl
  obtain ⟨m26, e26, c26, j26, out2⟩ := tk_next (mn := m24) T24 (by rw [z61.2.1]; decide) tkB (rd_o (by decide)) (rd_o (by decide)) (rd_o (by decide)) (by rw [rd_j (by decide), m39 8 (by decide)]; exact h5) (by rw [rd_s]; decide) (fun _ _ => rfl) rfl
  rw [taken2_ok z61, e26, bind_s]
  rcases out2 with ⟨o1, X2, m5, T5⟩ | ⟨o1, F2⟩
  rotate_left
  · exact DTAIL _ ⟨o1, FLD_t X1 F2⟩
  have X12 := XS_t X1 X2
  have x26 : ∀ a, a ≠ 9 → a ≠ 10 → (sto m3 9 2 2) a = (sto m25 9 2 1) a := fun a a9 a10 => by rw [rd_o a9]; exact m3c a a10
  have E26 : PE (sto m3 9 2 2) m26 b (c + 1) (up P c 0) := PE_k (fun a ha => x26 a (by omega) (by omega)) (fun a a1 a2 => c26 a (by omega)) E24
  have C26 : CB (sto m3 9 2 2) b (c + 1) := CB_o cb25 (by rw [x26 b (by omega) (by omega), rd_o (by omega)])
  have n91 : (sto m3 9 2 2) 9 1 = nI b := by rw [rd_j (by decide), m39 1 (by decide)]; exact h9
  have n93 : (sto m3 9 2 2) 9 3 = nI 0 := by rw [rd_j (by decide), m39 3 (by decide)]; exact h3
  have n92 : (sto m3 9 2 2) 9 2 = 2 := rd_s
  have u26 : m26 0 21 = nI c := by rw [j26 21 (by omega), k0]; exact u21
  have D26 : DC m26 c 0 0 := ⟨by rw [c26 21 (by decide), k21]; rfl, by omega, by rw [c26 27 (by decide), k27]; rfl, by omega, fun j hj => absurd hj (Nat.not_lt_zero _)⟩
  have n94 : (sto m3 9 2 2) 9 4 = 0 := by rw [rd_j (by decide), m39 4 (by decide)]; exact hz4
  have n95 : (sto m3 9 2 2) 9 5 = 0 := by rw [rd_j (by decide), m39 5 (by decide)]; exact hz5
  obtain ⟨S0, fs, FIN0, G0⟩ := GS_new (mx2 := sto m3 9 2 2) (j := i + 1 + 1) hG (by omega) (by rw [x26 b (by omega) (by omega), rd_o (by omega), o71, h.2.1 b (by omega)]) (by rw [x26 (b + 8) (by omega) (by omega), rd_o (by omega), f25 (b + 8) (by omega), h.2.1 (b + 8) (by omega)]) (by rw [x26 (b + 7) (by omega) (by omega), rd_o (by omega), o77, h.2.1 (b + 7) (by omega), h.2.1 b (by omega)])
  have FR26 : FRs c mm m26 := fun s hs => ⟨by rw [c26 27 (by decide), ks 27 s (by omega), c16 27 (by decide), rd_o (by decide)], fun a jj a1 a2 _ => by rw [c26 a (by omega), kc a (by omega) (by omega) (by omega) (by omega), c16 a (by omega), rd_o (by omega)]⟩
  have m2627 : m26 27 c = nI 0 := by rw [c26 27 (by decide), k27]; rfl
  generalize sto m3 9 2 2 = mx5 at T5 X2 X12 E26 C26 n91 n93 n92 n94 n95 G0 x26
  refine ex_b (Q := fun (x : Mem) => DD i mx x ∨ (x 0 42 = 0 ∧ x 0 21 = nI c ∧ ∃ (j : Nat) (mx4 m4 : Mem) (Q : Nat → Nat), XS i mx j mx4 ∧ TOK L j mx4 x m4 ∧ mx4 9 1 = nI b ∧ mx4 9 3 = nI 0 ∧ CB mx4 b (c + 1) ∧ PE mx4 x b (c + 1) Q ∧ (∃ p, ES mx4 m4 x b c j p fs S0) ∧ FRs c m26 x)) ?_ (fun m27 q => ?_)
  · have AN : (m5 10 2 = 40 ∨ m5 10 2 = 3) → ∃ r, ((s_X7_readAny m26).bind fun m46 => some m46) = some r ∧ (DD i mx r ∨ (r 0 42 = 0 ∧ r 0 21 = nI c ∧ ∃ (j : Nat) (mx4 m4 : Mem) (Q : Nat → Nat), XS i mx j mx4 ∧ TOK L j mx4 r m4 ∧ mx4 9 1 = nI b ∧ mx4 9 3 = nI 0 ∧ CB mx4 b (c + 1) ∧ PE mx4 r b (c + 1) Q ∧ (∃ p, ES mx4 m4 r b c j p fs S0) ∧ FRs c m26 r)) := fun hK => by
      obtain ⟨r, er, fr, -⟩ := readAny_eq (TOK_TA T5) u26 hc6 D26
      rw [er, bind_s]
      refine ex_s ?_
      unfold s_X7_readAny at er
      have z8 : zin 0 8 = true := by decide
      rw [ck_p z8, show Int32.toNatClampNeg 0 = 0 from rfl] at er
      simp only [bn] at er
      have TT := TOK_TA T5
      have f1 : FR c m26 L (sto m26 35 0 (-4)) := FR_c TT (by omega)
      have d1 : DC (sto m26 35 0 (-4)) c 0 0 := DC_u (by omega) D26
      rw [comes_eq (FR_21 f1 u26) hc6 d1.2.2.1 (by omega), zb2_s] at er
      have f2 := FR_t f1 (FR_D (cm_DF (c := c) (z := 0) (what := 0) (within := -4) f1.1))
      have d2 := cm_DC (what := 0) (within := -4) d1 (by omega) (Or.inl ⟨rfl, Or.inl rfl⟩)
      rw [comes_eq (FR_21 f2 u26) hc6 d2.2.2.1 (by omega), zb2_s, ck_p z8] at er
      have f3 := FR_t f2 (FR_D (cm_DF (c := c) (z := 0 + 1) (what := 1) (within := nI (160 * c + 0)) f2.1))
      have d3 := cm_DC (what := 1) (within := nI (160 * c + 0)) d2 (by omega) (Or.inr ⟨Or.inl rfl, 0, by omega, rfl⟩)
      have f4 := FR_t f3 (FR_c (c := c) (a := 34) (i := 0) (x := nI (160 * c + (0 + 1))) f3.1 (by omega))
      have d4 := DC_u (a := 34) (i := 0) (x := nI (160 * c + (0 + 1))) (by omega) d3
      have eo : ∀ a, a < 27 ∨ a = 33 → (sto (cm (cm (sto m26 35 0 (-4)) c 0 0 (-4)) c (0 + 1) 1 (nI (160 * c + 0))) 34 0 (nI (160 * c + (0 + 1)))) a = m26 a := fun a ha => by rw [rd_o (by omega), cm_o (by omega), cm_o (by omega), rd_o (by omega)]
      have I0 : AI c m26 L 0 (sto (cm (cm (sto m26 35 0 (-4)) c 0 0 (-4)) c (0 + 1) 1 (nI (160 * c + 0))) 34 0 (nI (160 * c + (0 + 1)))) := ⟨f4, fun _ => ⟨0, 0, 0 + 1 + 1, rfl, by omega, by omega, d4, fun l hl => ⟨0 + 1, by omega, by rw [show l = 0 by omega, rd_s], by rw [rd_o (by decide)]; exact cm_s.1⟩, fun l l1 hl => by omega⟩⟩
      have en27 : (sto (cm (cm (sto m26 35 0 (-4)) c 0 0 (-4)) c (0 + 1) 1 (nI (160 * c + 0))) 34 0 (nI (160 * c + (0 + 1)))) 27 c = nI (0 + 1 + 1) := by
        rw [rd_o (by decide)]
        unfold cm
        rw [rd_s]
      generalize hm10 : sto (cm (cm (sto m26 35 0 (-4)) c 0 0 (-4)) c (0 + 1) 1 (nI (160 * c + 0))) 34 0 (nI (160 * c + (0 + 1))) = m10 at eo I0 er en27
      have J0 : CJ L c b (i + 1 + 1) mx5 fs S0 0 1 m10 := Or.inr ⟨by rw [eo 0 (by omega)]; exact o1, 0, i + 1 + 1, mx5, m5, up P c 0, 2, rfl, by omega, XS_r, TOK_m T5 (fun j _ => by rw [eo 0 (by omega)]) (eo 33 (by omega)), n91, n93, C26, PE_k (fun _ _ => rfl) (fun a a1 a2 => eo a (by omega)) E26, ⟨en27, by omega⟩, Or.inl ⟨by decide, Or.inr ⟨n92, hK⟩, by rw [up_s]; exact GB_0 G0 hc6 n94 n95 SK_r (Nat.le_refl _) (fun a a0 => by rw [hm10])⟩⟩
      obtain ⟨r2, er2, res⟩ := c_any_loop u26 hc6 hb I0 J0
      rw [er2, bind_s] at er
      have e9 : r2 = r := Option.some.inj er
      rw [e9] at res
      rcases res with D | ⟨r0, j, mx4, m4, Q, X4, T4, w1, w3, wC, wE, wA, w44, w124, gz, gt, gl, gh, gez, ghz, gga⟩
      · exact Or.inl ⟨D.1, FLD_t X12 D.2⟩
      · exact Or.inr ⟨r0, FR_21 fr u26, j, mx4, m4, Q, XS_t X12 X4, T4, w1, w3, wC, wE, ⟨Q c, Or.inr ⟨wA, w44, w124, (wE c (Nat.lt_succ_self c)).1, gz, gt, gl, gh, gez, ghz, gga⟩⟩, fun s hs => ⟨(fr.2.1.2.2.2 s hs).2.1, (fr.2.1.2.2.2 s hs).2.2⟩⟩
    rw [if_pos o1, is_eq, bind_s, if_bb]
    refine ex_if (fun z => AN (Or.inl ((TOK_is T5 (by unfold sgn; decide)).mp z))) (fun nz => ex_if (fun z => AN (Or.inr ((KT_w T5.2.2.1.1).2.2.1.mp z))) (fun nz2 => ex_s (Or.inr ⟨o1, u26, _, mx5, m5, _, X12, T5, n91, n93, C26, E26, ⟨0, Or.inl ⟨n92, fun q => nz ((TOK_is T5 (by unfold sgn; decide)).mpr q), fun q => nz2 ((KT_w T5.2.2.1.1).2.2.1.mpr q), n94, n95, m2627, rfl, G0⟩⟩, fun _ _ => ⟨rfl, fun _ _ _ _ _ => rfl⟩⟩)))
  rcases q with D | ⟨o2, u27, j, mx4, m4, Q, X4, T4, w1, w3, wC, wE, ⟨ep, wS⟩, wFR⟩
  · rw [if_neg D.1]
    exact DEND _ D
  have p9 : m4 9 = mx4 9 := T4.2.1 9 (by decide)
  have cb4 : CB m4 b (c + 1) := CB_o wC (T4.2.1 b (by omega))
  have FIN27 : ∀ S : Nat → Nat, (∀ k, k < fs c → S k = S0 k) → FINs m27 S fs c := fun S hS => FINs_c FIN0 hc (fun s hs => ⟨((wFR s hs).1).trans (FR26 s hs).1, fun a jj a1 a2 a3 => ((wFR s hs).2 a jj a1 a2 a3).trans ((FR26 s hs).2 a jj a1 a2 a3)⟩) hD hS
  obtain ⟨ep6, s59, s4, sb⟩ := es_tk wS (TOK_i T4) (SK_T T4 hb) p9 cb4 (by rw [p9]; exact w1) (by rw [p9]; exact w3)
  rw [if_pos o2]
  by_cases z3 : m27 0 40 = 3
  rotate_left
  · rw [if_neg z3]
    refine AEND j mx4 m27 m4 Q X4 T4 u27 wE (fun K => ?_) (fun nK => sb nK (fun q => z3 ((KT_w T4.2.2.1.1).2.2.2.1.mpr q)))
    obtain ⟨m2, e2, t2, y1, y2, y4, y5, yg⟩ := s59 K
    exact ⟨m2, e2, t2, y1, y2, by rw [t2.2.1 1 (by omega), p9]; exact w1, y4, y5, ep, fs, S0, ep6, yg, FIN27⟩
  obtain ⟨m6, m2, e2, t2, y3, y4, yc4, yc5, yg⟩ := s4 ((KT_w T4.2.2.1.1).2.2.2.1.mp z3)
  rw [if_pos z3, u27, ix_nI (n := c) (by omega)]
  refine ex_ck z6 (ex_n ?_)
  have l0 : (sto m27 20 c (vp_nar .boolean 1)) 0 = m27 0 := rd_o (by decide)
  have y4a : ∀ a, a ≠ 9 → a ≠ b + 3 → m2 a = m6 a := fun a a9 a3 => by rw [y4, rd_o a9, rd_o a3]
  have y49 : ∀ j, j ≠ 2 → m2 9 j = m6 9 j := fun j hj => by rw [y4, rd_j hj, rd_o (by omega)]
  have y492 : m2 9 2 = 13 := by rw [y4, rd_s]
  have y43 : m2 (b + 3) = upd (m6 (b + 3)) c (vp_nar .boolean 1) := by rw [y4, rd_o (by omega), sto_same]
  obtain ⟨m37, e37, c37, j37, out3⟩ := tk_next (mn := sto m27 20 c (vp_nar .boolean 1)) T4 (by rw [z3]; decide) e2 (by rw [y4a 10 (by omega) (by omega)]; exact t2.1 10 (by omega) (by omega) (by omega) (by omega)) (by rw [y4a 7 (by omega) (by omega)]; exact t2.1 7 (by omega) (by omega) (by omega) (by omega)) (by rw [y4a 8 (by omega) (by omega)]; exact t2.1 8 (by omega) (by omega) (by omega) (by omega)) (by rw [y49 8 (by decide), t2.2.1 8 (by omega), p9]; exact T4.2.2.2.2.1) (by rw [y492]; decide) (fun j _ => by rw [l0]) (rd_o (by decide))
  rw [e37, bind_s]
  rcases out3 with ⟨o3, X5, m7, T7⟩ | ⟨o3, F3⟩
  rotate_left
  · exact DEND _ ⟨o3, FLD_t X4 F3⟩
  have m7c := T7.2.1
  have t13 : s_X4_takeToken m7 = s_X4_takeSign m7 59 0 := tt_13 (by rw [m7c 9 (by decide)]; exact y492)
  refine AEND _ m2 m37 m7 Q (XS_t X4 X5) T7 (by rw [j37 21 (by omega), l0]; exact u27) (PE_close wE (fun a s a1 a2 hs => ?_) (fun a a1 a2 => ?_) (fun a s a1 a2 hs => ?_) (fun a a1 a2 => ?_) ?_ ?_) (fun K => ?_) (fun nK => ?_)
  · by_cases q : a = b + 3
    · rw [q, y43, pk_un (by omega), t2.1 (b + 3) (by omega) (by omega) (by omega) (by omega), T4.2.1 (b + 3) (by omega)]
    · rw [y4a a (by omega) q, t2.1 a (by omega) (by omega) (by omega) (by omega), T4.2.1 a (by omega)]
  · rw [y4a a (by omega) (by omega), t2.1 a (by omega) (by omega) (by omega) (by omega), T4.2.1 a (by omega)]
  · rw [c37 a (by omega)]
    by_cases q : a = 20
    · rw [q, rd_j (by omega)]
    · rw [rd_o q]
  · rw [c37 a (by omega), rd_o (by omega)]
  · rw [y43, pk_us]
  · rw [c37 20 (by decide), rd_s]
  · refine ⟨sto m7 9 2 0, ?_, TB_9 (CB_o (CB_o t2.2.2 (by rw [y4a b (by omega) (by omega)])) (m7c b (by omega))) (by omega), rd_s, by rw [rd_j (by decide), m7c 9 (by decide), y49 3 (by decide)]; exact y3, by rw [rd_j (by decide), m7c 9 (by decide), y49 1 (by decide), t2.2.1 1 (by omega), p9]; exact w1, by rw [rd_j (by decide), m7c 9 (by decide), y49 4 (by decide)]; exact yc4, by rw [rd_j (by decide), m7c 9 (by decide), y49 5 (by decide)]; exact yc5, ep, fs, S0, ep6, GE_n yg ⟨by rw [rd_o (by omega), m7c b (by omega), y4a b (by omega) (by omega)], by rw [rd_o (by omega), m7c (b + 7) (by omega), y4a (b + 7) (by omega) (by omega)], by rw [rd_o (by omega), m7c (b + 8) (by omega), y4a (b + 8) (by omega) (by omega)]⟩ (by omega) (fun a a1 a2 => by rw [c37 a (by omega), rd_o (by omega)]), fun S hS => FINs_n (FIN27 S hS) (fun a a1 a2 => by rw [c37 a (by omega), rd_o (by omega)])⟩
    rw [t13]
    unfold s_X4_takeSign
    rw [if_pos K]
    rfl
  · rw [t13]
    unfold s_X4_takeSign
    rw [if_neg nK, b_id, fail_eq]
