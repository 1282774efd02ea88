/-! both: a text, to its answer -/
def LV (mx mm : Mem) (b c : Nat) (P : Nat → Nat) : Prop := (∀ s, s < c → P s ≤ 6 ∧ mm 21 s = nI (P s) ∧ mx (b + 2) s = nI (P s) ∧ mx (b + 1) s = mm 19 s ∧ mx (b + 3) s = vp_nar .boolean (mm 20 s) ∧ (∀ k, k < 10 → (bt (mx (b + 4) s) k = true ↔ ∃ i, i < P s ∧ mm 22 (6 * s + i) = nI k)) ∧ ∀ i, i < P s → mx (b + 9) (6 * s + i) = mm 22 (6 * s + i) ∧ mx (b + 10) (6 * s + i) = mm 23 (6 * s + i) ∧ mx (b + 11) (6 * s + i) = mm 24 (6 * s + i) ∧ mx (b + 12) (6 * s + i) = mm 25 (6 * s + i)) ∧ ∀ s t, s < c → t < c → (bt (mx (b + 5) s) t = true ↔ Wn c (RF0 (mm 23) (mm 24) P c) c s t)
theorem c_settle {mx mm : Mem} {b c : Nat} {P : Nat → Nat} (hC : CB mx b c) (h91 : mx 9 1 = nI b) (h98 : mx 9 8 = 0) (h21 : mm 0 21 = nI c) (h42 : mm 0 42 = 0) (hE : PE mx mm b c P) : ∃ m29 m74, s_X4_linkShapes mx = some m29 ∧ s_X7_settleWords mm = some m74 ∧ ((¬ m74 0 42 = 0 ∧ ¬ m29 9 8 = 0 ∧ m29 9 9 = m74 0 43) ∨ (m74 0 42 = 0 ∧ m29 9 8 = 0 ∧ m29 b 0 = nI c ∧ m74 0 21 = nI c ∧ LV m29 m74 b c P ∧ SK b mx m29 ∧ RF (vw b m29) c P ∧ ∀ s, s < c → m29 (b + 6) s = nI (Jr (vw b m29) P 6 s))) := by
  have hb := hC.1
  have hb2 := isb_e hb
  have hc := hC.2.2.1
  have hP : ∀ s, s < c → P s ≤ 6 ∧ mm 21 s = nI (P s) := fun s hs => ⟨(hE s hs).1, (hE s hs).2.1⟩
  obtain ⟨m44, e44, k44, r44⟩ := settle_1 h21 hc hP (by rw [h42]; decide)
  obtain ⟨ms, es, -, -, -, ws⟩ := settle_eq h21 hc hP (by rw [h42]; decide)
  unfold s_X7_settleWords at es
  rw [e44, bind_s] at es
  unfold s_X4_linkShapes s_X7_settleWords
  rw [h91, zbk_i hb rfl, e44, bind_s]
  rcases c_link (P := P) hb hc c 0 FU mx mm (by omega) (FU_lt (by omega)) hC.2.1 h21 h42 (LK_0 hE) with ⟨pl, m4, mm2, q1, q2, q3, q4, ⟨q0, hq0, eq0⟩, q6⟩ | ⟨m4, mm2, q1, q2, q3, q4, q5, q6⟩
  · have e9 : mm2 = m44 := Option.some.inj (q2.symm.trans e44)
    rw [e9] at q3 q4
    have lr : s_X0_linkReferences mx b = some (pl, m4) := q1
    rw [lr, zb2_s, eq0, if_neg (m1_lt (by omega)), if_neg (fun z => q3 (Int32.le_antisymm z k44.2.2))]
    refine ⟨_, m44, rfl, rfl, Or.inl ⟨q3, by rw [rd_j (by decide), rd_s]; decide, by rw [rd_s, q4, eq0]⟩⟩
  have e9 : mm2 = m44 := Option.some.inj (q2.symm.trans e44)
  rw [e9] at q3 q4 q6
  have lr : s_X0_linkReferences mx b = some (-1, m4) := q1
  have m40 : m4 b 0 = nI c := by rw [q5 b (by omega) (by omega)]; exact hC.2.1
  have m491 : m4 9 1 = nI b := by rw [q5 9 (by omega) (by omega)]; exact h91
  rw [lr, zb2_s, if_pos (by decide), m491, zbk_i hb rfl, if_pos (show m44 0 42 ≤ 0 by rw [q3]; decide)]
  have RR := r44 q3
  have P44 : ∀ s, s < c → P s ≤ 6 ∧ m44 21 s = nI (P s) := fun s hs => ⟨(q6 s hs).1, (q6 s hs).2.1⟩
  obtain ⟨m7, e7, o7, b7⟩ := reach_all hb m40 hc
  obtain ⟨m46, e46, o46, l46⟩ := leadsx_1 hc q4 (fun s hs => ⟨(P44 s hs).1, (P44 s hs).2, fun i hi hn => RR s i hs hs hi hn⟩)
  rw [e7, bind_s, e46, bind_s, show m7 9 1 = nI b from by rw [o7 9 (by omega)]; exact m491, zbk_i hb rfl]
  have rch : ∀ s t, s < c → t < c → (bt (m7 (b + 5) s) t = true ↔ Wn c (RF0 (m44 23) (m44 24) P c) c s t) := fun s t hs ht => by
    rw [b7 s t hs ht]
    refine Wn_g (n := c) (Nat.le_refl _) (fun p q hp hq => ?_) c (Nat.le_refl _) s t hs ht
    rw [(q6 p hp).2.2.2.2.2.2.2.2 q (by omega)]
    exact ⟨fun ⟨i, hi, _, g⟩ => ⟨hp, i, hi, g⟩, fun ⟨_, i, hi, g⟩ => ⟨i, hi, hp, g⟩⟩
  have m70 : m7 b 0 = nI c := by rw [o7 b (by omega)]; exact m40
  have hcr : CRC m7 m46 b c P := fun s hs => by
    obtain ⟨f1, f2, f3, f4, f5, f6, f7, f8, f9⟩ := q6 s hs
    refine ⟨f1, by rw [o46 21 (by decide)]; exact f2, by rw [o7 (b + 2) (by omega)]; exact f3, fun i hi => ?_⟩
    obtain ⟨v1, v2, v3, v4, v5, v6⟩ := f8 i hi
    rw [o7 (b + 10) (by omega), o7 (b + 11) (by omega), o7 (b + 13) (by omega), o46 23 (by decide), o46 24 (by decide), o46 26 (by decide)]
    refine ⟨v2, v3, v5, v6, fun h2 => ?_⟩
    obtain ⟨t, ht, et⟩ := RR s i hs hs hi (Or.inr h2)
    refine ⟨t, ht, et, ?_⟩
    rw [rch t s ht hs, ← l46 t s (by omega) (by omega)]
    refine ⟨Or.inr, fun w => w.elim (fun w => ?_) id⟩
    rw [w, l46 s s (by omega) (by omega)]
    exact Wn_0 ⟨hs, i, hi, Or.inr h2, by rw [et, w]⟩ c
  have m460 : m46 0 = m44 0 := o46 0 (by decide)
  rcases c_circ (P := P) hb hc m70 (by rw [m460]; exact q4) (by rw [m460]; exact q3) hcr c 0 FU (by omega) (FU_lt (by omega)) with ⟨pl, mm3, r1, r2, r3, r4, q0, hq0, eq0⟩ | ⟨r1, r2⟩
  · have pc : s_X0_placeOfCircle m7 b = some pl := r1
    have r2' : l_X7_settleWords_129 FU 0 m46 = some mm3 := r2
    rw [pc, bind_s, eq0, if_neg (m1_lt (by omega)), r2', bind_s]
    exact ⟨_, mm3, rfl, rfl, Or.inl ⟨r3, by rw [rd_j (by decide), rd_s]; decide, by rw [rd_s, r4, eq0]⟩⟩
  · have pc : s_X0_placeOfCircle m7 b = some (-1) := r1
    have r2' : l_X7_settleWords_129 FU 0 m46 = some m46 := r2
    rw [if_pos (show m44 0 42 ≤ 0 by rw [q3]; decide), e46, bind_s, r2', bind_s] at es
    have ems := Option.some.inj es
    subst ems
    obtain ⟨-, R, R1, R2, R3⟩ := ws (by rw [m460]; exact q3)
    have part7 : ∀ s i, s < c → i < P s → vw b m7 10 (6 * s + i) = m44 23 (6 * s + i) ∧ vw b m7 11 (6 * s + i) = m44 24 (6 * s + i) := fun s i hs hi => by
      obtain ⟨f1, f2, f3, f4, f5, f6, f7, f8, f9⟩ := q6 s hs
      obtain ⟨v1, v2, v3, v4, v5, v6⟩ := f8 i hi
      exact ⟨by show m7 (b + 10) _ = _; rw [o7 (b + 10) (by omega)]; exact v2, by show m7 (b + 11) _ = _; rw [o7 (b + 11) (by omega)]; exact v3⟩
    have RF7 : RF (vw b m7) c P := ⟨hc, fun s hs i hi h => by
      rw [(part7 s i hs hi).1] at h
      rw [(part7 s i hs hi).2]
      exact RR s i hs hs hi h⟩
    have AC7 : AC (vw b m7) c P := by
      refine ⟨R, R1, fun s t w hs ht e => ?_, fun s t hs ht e => ?_⟩
      · obtain ⟨i, hi, e1, e2⟩ := e
        rw [(part7 s i hs hi).2] at e1
        rw [(part7 s i hs hi).1] at e2
        refine R2 s i t hs hi ht ?_ ?_
        · rw [o46 23 (by decide)]
          exact e2.elim (fun q => Or.inl q.1) (fun q => Or.inr q.1)
        · rw [o46 24 (by decide)]; exact e1
      · obtain ⟨i, hi, e1, e2⟩ := e
        rw [(part7 s i hs hi).2] at e1
        rw [(part7 s i hs hi).1] at e2
        refine R3 s i t hs hi ht ?_ ?_
        · rw [o46 23 (by decide)]
          rcases e2 with ⟨-, q⟩ | ⟨q, -⟩
          · exact absurd q (by decide)
          · exact q
        · rw [o46 24 (by decide)]; exact e1
    obtain ⟨m13, e13, o13, lv13⟩ := o_levels2 (P := P) hb m70 hc (fun s hs => ⟨(q6 s hs).1, by rw [o7 (b + 2) (by omega)]; exact (q6 s hs).2.2.1⟩) RF7 AC7 (fun s hs => by rw [o7 (b + 6) (by omega)]; exact (q6 s hs).2.2.2.2.2.1)
    rw [pc, bind_s, if_pos (by decide), zbk_i hb rfl, e13, bind_s, r2', bind_s]
    refine ⟨m13, m46, rfl, rfl, Or.inr ⟨by rw [m460]; exact q3, by rw [o13 9 (by omega), o7 9 (by omega), q5 9 (by omega) (by omega)]; exact h98, by rw [o13 b (by omega)]; exact m70, by rw [m460]; exact q4, ⟨fun s hs => ?_, fun s t hs ht => ?_⟩, ⟨by rw [o13 b (by omega), o7 b (by omega), q5 b (by omega) (by omega)], by rw [o13 (b + 7) (by omega), o7 (b + 7) (by omega), q5 (b + 7) (by omega) (by omega)], by rw [o13 (b + 8) (by omega), o7 (b + 8) (by omega), q5 (b + 8) (by omega) (by omega)]⟩, RFx_c (m := vw b m7) (m2 := vw b m13) RF7 (fun _ _ => rfl) (fun x i hx hi => ⟨by show m13 (b + 10) _ = m7 (b + 10) _; rw [o13 (b + 10) (by omega)], by show m13 (b + 11) _ = m7 (b + 11) _; rw [o13 (b + 11) (by omega)]⟩), fun s hs => (lv13 s hs).trans (congrArg nI (Jrx_c (m := vw b m7) (m2 := vw b m13) RF7 (fun _ _ => rfl) (fun x i hx hi => ⟨by show m13 (b + 10) _ = m7 (b + 10) _; rw [o13 (b + 10) (by omega)], by show m13 (b + 11) _ = m7 (b + 11) _; rw [o13 (b + 11) (by omega)]⟩) 6 s hs).symm)⟩⟩
    · obtain ⟨f1, f2, f3, f4, f5, f6, f7, f8, f9⟩ := q6 s hs
      rw [o13 (b + 2) (by omega), o13 (b + 1) (by omega), o13 (b + 3) (by omega), o13 (b + 4) (by omega), o13 (b + 9) (by omega), o13 (b + 10) (by omega), o13 (b + 11) (by omega), o13 (b + 12) (by omega), o7 (b + 2) (by omega), o7 (b + 1) (by omega), o7 (b + 3) (by omega), o7 (b + 4) (by omega), o7 (b + 9) (by omega), o7 (b + 10) (by omega), o7 (b + 11) (by omega), o7 (b + 12) (by omega), o46 21 (by decide), o46 19 (by decide), o46 20 (by decide), o46 22 (by decide), o46 23 (by decide), o46 24 (by decide), o46 25 (by decide)]
      refine ⟨f1, f2, f3, f4, f5, f7, fun i hi => ?_⟩
      obtain ⟨v1, v2, v3, v4, v5, v6⟩ := f8 i hi
      exact ⟨v1, v2, v3, v4⟩
    · rw [o13 (b + 5) (by omega), o46 23 (by decide), o46 24 (by decide)]
      exact rch s t hs ht
/-- what stands in both when a text has been read -/
def LB (mx mm : Mem) (b c : Nat) (P : Nat → Nat) : Prop := mx b 0 = nI c ∧ (∀ s, s < c → mx (b + 2) s = nI (P s) ∧ mx (b + 1) s = mm 6 s ∧ mx (b + 3) s = mm 7 s ∧ (∀ k, k < 10 → (bt (mx (b + 4) s) k = true ↔ ∃ i, i < P s ∧ mm 9 (6 * s + i) = nI k)) ∧ ∀ i, i < P s → mx (b + 9) (6 * s + i) = mm 9 (6 * s + i) ∧ mx (b + 10) (6 * s + i) = mm 10 (6 * s + i) ∧ mx (b + 11) (6 * s + i) = mm 11 (6 * s + i) ∧ mx (b + 12) (6 * s + i) = mm 12 (6 * s + i)) ∧ ∀ s t, s < c → t < c → (bt (mx (b + 5) s) t = true ↔ Wn c (RF0 (mm 10) (mm 11) P c) c s t)
/-- the steps of all shapes, beside the reference's rows -/
def BK (mx mm : Mem) (b c : Nat) : Prop := ∃ S fs : Nat → Nat, (∀ s, s ≤ c → mx (b + 7) s = nI (fs s)) ∧ (∀ j, j < fs c → mx (b + 8) j = nI (S j) ∧ okv (S j)) ∧ fs c ≤ 146 ∧ ∀ s, s < c → fs s ≤ fs (s + 1) ∧ fs (s + 1) ≤ fs c ∧ ∃ z, mm 13 s = nI z ∧ z ≤ 160 ∧ ∀ F, (xst F S (fs s) (fs (s + 1) - fs s)).length ≤ 1 ∧ (rr F mm s 0 z (1, din mm s)).1 = (xst F S (fs s) (fs (s + 1) - fs s)).headD 1
theorem BK_c {mx mm mx2 mm2 : Mem} {b c : Nat} (h : BK mx mm b c) (e7 : mx2 (b + 7) = mx (b + 7)) (e8 : mx2 (b + 8) = mx (b + 8)) (ey : ∀ a, 13 ≤ a → a ≤ 18 → mm2 a = mm a) : BK mx2 mm2 b c := by
  obtain ⟨S, fs, h1, h2, h3, h4⟩ := h
  refine ⟨S, fs, by rw [e7]; exact h1, by rw [e8]; exact h2, h3, fun s hs => ?_⟩
  obtain ⟨g1, g2, z, g3, g4, g5⟩ := h4 s hs
  refine ⟨g1, g2, z, by rw [ey 13 (by decide) (by decide)]; exact g3, g4, fun F => ?_⟩
  have dne : din mm2 s = din mm s := by
    funext jj
    show (if mm2 14 _ = 1 then _ else _) = (if mm 14 _ = 1 then _ else _)
    rw [ey 14 (by decide) (by decide)]
  rw [dne, rr_c (fun a j a1 a2 _ _ => by rw [ey a (by omega) a2])]
  exact g5 F
theorem BK_of {mx mm mx2 mm2 : Mem} {b c i : Nat} {P Z : Nat → Nat} (h : GF mx mm b c i) (hi : i ≤ 401) (hc : c ≤ 6) (D : DS mm c P Z) (e7 : mx2 (b + 7) = mx (b + 7)) (e8 : mx2 (b + 8) = mx (b + 8)) (e13 : ∀ s, s < c → mm2 13 s = mm 27 s) (ey : ∀ a j, 14 ≤ a → a ≤ 18 → j < 960 → mm2 a j = mm (a + 14) j) : BK mx2 mm2 b c := by
  obtain ⟨S, fs, h0, h1, h2, h3, h4⟩ := h
  refine ⟨S, fs, by rw [e7]; exact h1, by rw [e8]; exact h2, by omega, fun s hs => ?_⟩
  obtain ⟨g1, g2, z, g3, g4, g5⟩ := h4 s hs
  refine ⟨g1, g2, z, by rw [e13 s hs]; exact g3, g4, fun F => ?_⟩
  obtain ⟨d1, d2, d3, d4, d5⟩ := D s hs
  have ez : Z s = z := (nI_eq (by omega) (by omega)).mp (d3.symm.trans g3)
  obtain ⟨w1, w2⟩ := g5 F
  refine ⟨w1, ?_⟩
  rw [← w2]
  exact rr_din (fun a j a1 a2 hj => ey a (160 * s + j) a1 a2 (by omega)) g4 (fun j hj => ⟨P s, d5 j (by omega)⟩) (by omega)
/-- levels -/
def LVs (mx mm : Mem) (b c : Nat) (P : Nat → Nat) : Prop := ∀ s, s < c → mx (b + 6) s = nI (Jr mm P 6 s)
theorem RF0_g {f g f2 g2 : Nat → Int32} {P : Nat → Nat} {c p q : Nat} (hP : ∀ s, s < c → P s ≤ 6) (hf : ∀ s i, s < c → i < P s → f2 (6 * s + i) = f (6 * s + i) ∧ g2 (6 * s + i) = g (6 * s + i)) : RF0 f2 g2 P c p q ↔ RF0 f g P c p q := by
  constructor
  · rintro ⟨h, i, hi, h1, h2⟩
    obtain ⟨e1, e2⟩ := hf p i h hi
    rw [e1] at h1
    rw [e2] at h2
    exact ⟨h, i, hi, h1, h2⟩
  · rintro ⟨h, i, hi, h1, h2⟩
    obtain ⟨e1, e2⟩ := hf p i h hi
    exact ⟨h, i, hi, by rw [e1]; exact h1, by rw [e2]; exact h2⟩
theorem LB_of {mx mm mx2 mm2 : Mem} {b c : Nat} {P : Nat → Nat} (h : LV mx mm b c P) (hc : c ≤ 6) (h0 : mx2 b 0 = nI c) (ex : ∀ a, b + 1 ≤ a → a ≤ b + 13 → mx2 a = mx a) (e6 : ∀ s, s < c → mm2 6 s = mm 19 s ∧ mm2 7 s = vp_nar .boolean (mm 20 s)) (e9 : ∀ s, s < 36 → mm2 9 s = mm 22 s ∧ mm2 10 s = mm 23 s ∧ mm2 11 s = mm 24 s ∧ mm2 12 s = mm 25 s) : LB mx2 mm2 b c P := by
  have rr : ∀ s i, s < c → i < P s → 6 * s + i < 36 := fun s i hs hi => by
    have := (h.1 s hs).1
    omega
  refine ⟨h0, fun s hs => ?_, fun s t hs ht => ?_⟩
  · obtain ⟨f1, f2, f3, f4, f5, f7, f8⟩ := h.1 s hs
    obtain ⟨g1, g2⟩ := e6 s hs
    refine ⟨by rw [ex (b + 2) (by omega) (by omega)]; exact f3, by rw [ex (b + 1) (by omega) (by omega), g1]; exact f4, by rw [ex (b + 3) (by omega) (by omega), g2]; exact f5, fun k hk => ?_, fun i hi => ?_⟩
    · rw [ex (b + 4) (by omega) (by omega), f7 k hk]
      exact ⟨fun ⟨i, hi, e⟩ => ⟨i, hi, by rw [(e9 (6 * s + i) (rr s i hs hi)).1]; exact e⟩, fun ⟨i, hi, e⟩ => ⟨i, hi, by rw [← (e9 (6 * s + i) (rr s i hs hi)).1]; exact e⟩⟩
    · obtain ⟨v1, v2, v3, v4⟩ := f8 i hi
      obtain ⟨u1, u2, u3, u4⟩ := e9 (6 * s + i) (rr s i hs hi)
      rw [ex (b + 9) (by omega) (by omega), ex (b + 10) (by omega) (by omega), ex (b + 11) (by omega) (by omega), ex (b + 12) (by omega) (by omega), u1, u2, u3, u4]
      exact ⟨v1, v2, v3, v4⟩
  · rw [ex (b + 5) (by omega) (by omega), h.2 s t hs ht]
    exact Wn_g (n := c) (Nat.le_refl _) (fun p q _ _ => (RF0_g (fun s hs => (h.1 s hs).1) (fun s i hs hi => ⟨(e9 (6 * s + i) (rr s i hs hi)).2.1, (e9 (6 * s + i) (rr s i hs hi)).2.2.1⟩)).symm) c (Nat.le_refl _) s t hs ht
theorem c_shapes {mx mm : Mem} {k L b c : Nat} {d N T P Z : Nat → Nat} {V W : Nat → Int32} (hL : L ≤ 400) (x : IX mx k d N T V W L b) (y : IM mm k d N T V W L c P Z) (hT : TPE mx mm) : ∃ r mx2 mm2, s_X6_shapes mx = some (r, mx2) ∧ s_X7_shapes mm = some (r, mm2) ∧ mx2 8 = mx 8 ∧ mm2 33 = mm 33 ∧ ((mx2 0 4 = mx 0 4 ∧ (∀ a, b ≤ a → a < b + 14 → mx2 a = mx a) ∧ (∀ a, 6 ≤ a → a ≤ 18 → mm2 a = mm a) ∧ mm2 0 7 = mm 0 7 ∧ (∀ a, 39 ≤ a → a ≤ 43 → mx2 a = mx a) ∧ (∀ a, 1 ≤ a → a ≤ 5 → mm2 a = mm a) ∧ (∀ a, 37 ≤ a → a ≤ 39 → mm2 a = mm a) ∧ mm2 0 0 = mm 0 0 ∧ mm2 0 6 = mm 0 6) ∨ ∃ b2 c2 P2, isb b2 ∧ mx2 0 4 = nI b2 ∧ mm2 0 7 = nI c2 ∧ c2 ≤ 6 ∧ (∀ s, s < c2 → P2 s ≤ 6 ∧ mm2 8 s = nI (P2 s)) ∧ LB mx2 mm2 b2 c2 P2 ∧ BK mx2 mm2 b2 c2 ∧ LVs mx2 mm2 b2 c2 P2 ∧ mx2 39 4 = 0 ∧ mx2 39 5 = 0 ∧ mm2 0 6 = 0 ∧ mx2 42 = mx 42) := by
  obtain ⟨h1, h2, h3, h4', h5, h6, h7, h8, b2, h9, hA, hB, hC⟩ := x
  have hb := isb_e h5
  have hb2 := isb_e h9
  obtain ⟨m3x, e3x, -, hf⟩ := X_readText h9 hC h4' hL
  have RT := e3x
  unfold s_X4_readText at e3x
  simp only [bn] at e3x
  rw [rd_s, zbk_i h9 rfl] at e3x
  -- the book is cleared, the reader set to its start
  have cl : s_X0_clear (sto mx 9 1 (nI b2)) b2 = some (sto (sto (sto (sto (sto mx 9 1 (nI b2)) b2 0 0) b2 1 0) b2 2 0) (b2 + 7) 0 0) := by
    unfold s_X0_clear
    simp only [bn]
    rw [ck_p (show zin 0 7 = true by decide)]
    rfl
  rw [cl, bind_s] at e3x
  have rw1 : ∀ (m : Mem), s_X5_rewind m = some (sto m 10 1 0) := fun m => rfl
  rw [rw1, bind_s] at e3x
  have f9 : ∀ (m : Mem) (j : Nat) (v : Int32), j ≠ 1 → (sto m 9 j v) 9 1 = m 9 1 := fun m j v hj => rd_j (fun z => hj z.symm)
  have g91 : (sto (sto (sto (sto (sto (sto (sto (sto (sto (sto (sto (sto mx 9 1 (nI b2)) b2 0 0) b2 1 0) b2 2 0) (b2 + 7) 0 0) 10 1 0) 9 2 0) 9 3 0) 9 4 0) 9 5 0) 9 8 0) 9 9 0) 9 1 = nI b2 := by
    rw [f9 _ _ _ (by decide), f9 _ _ _ (by decide), f9 _ _ _ (by decide), f9 _ _ _ (by decide), f9 _ _ _ (by decide), f9 _ _ _ (by decide), rd_o (by omega), rd_o (by omega), rd_o (by omega), rd_o (by omega), rd_o (by omega), rd_s]
  have g92 : (sto (sto (sto (sto (sto (sto (sto (sto (sto (sto (sto (sto mx 9 1 (nI b2)) b2 0 0) b2 1 0) b2 2 0) (b2 + 7) 0 0) 10 1 0) 9 2 0) 9 3 0) 9 4 0) 9 5 0) 9 8 0) 9 9 0) 9 2 = 0 := by
    rw [rd_j (by decide), rd_j (by decide), rd_j (by decide), rd_j (by decide), rd_j (by decide), rd_s]
  have g93 : (sto (sto (sto (sto (sto (sto (sto (sto (sto (sto (sto (sto mx 9 1 (nI b2)) b2 0 0) b2 1 0) b2 2 0) (b2 + 7) 0 0) 10 1 0) 9 2 0) 9 3 0) 9 4 0) 9 5 0) 9 8 0) 9 9 0) 9 3 = nI 0 := by
    rw [rd_j (by decide), rd_j (by decide), rd_j (by decide), rd_j (by decide), rd_s]; rfl
  have g98 : (sto (sto (sto (sto (sto (sto (sto (sto (sto (sto (sto (sto mx 9 1 (nI b2)) b2 0 0) b2 1 0) b2 2 0) (b2 + 7) 0 0) 10 1 0) 9 2 0) 9 3 0) 9 4 0) 9 5 0) 9 8 0) 9 9 0) 9 8 = 0 := by
    rw [rd_j (by decide), rd_s]
  have g10 : (sto (sto (sto (sto (sto (sto (sto (sto (sto (sto (sto (sto mx 9 1 (nI b2)) b2 0 0) b2 1 0) b2 2 0) (b2 + 7) 0 0) 10 1 0) 9 2 0) 9 3 0) 9 4 0) 9 5 0) 9 8 0) 9 9 0) 10 1 = nI 0 := by
    rw [rd_o (by decide), rd_o (by decide), rd_o (by decide), rd_o (by decide), rd_o (by decide), rd_o (by decide), rd_s]; rfl
  have gb0 : (sto (sto (sto (sto (sto (sto (sto (sto (sto (sto (sto (sto mx 9 1 (nI b2)) b2 0 0) b2 1 0) b2 2 0) (b2 + 7) 0 0) 10 1 0) 9 2 0) 9 3 0) 9 4 0) 9 5 0) 9 8 0) 9 9 0) b2 = (sto (sto (sto (sto mx 9 1 (nI b2)) b2 0 0) b2 1 0) b2 2 0) b2 := by
    rw [rd_o (by omega), rd_o (by omega), rd_o (by omega), rd_o (by omega), rd_o (by omega), rd_o (by omega), rd_o (by omega), rd_o (by omega)]
  have g94 : (sto (sto (sto (sto (sto (sto (sto (sto (sto (sto (sto (sto mx 9 1 (nI b2)) b2 0 0) b2 1 0) b2 2 0) (b2 + 7) 0 0) 10 1 0) 9 2 0) 9 3 0) 9 4 0) 9 5 0) 9 8 0) 9 9 0) 9 4 = 0 := by
    rw [rd_j (by decide), rd_j (by decide), rd_j (by decide), rd_s]
  have g95 : (sto (sto (sto (sto (sto (sto (sto (sto (sto (sto (sto (sto mx 9 1 (nI b2)) b2 0 0) b2 1 0) b2 2 0) (b2 + 7) 0 0) 10 1 0) 9 2 0) 9 3 0) 9 4 0) 9 5 0) 9 8 0) 9 9 0) 9 5 = 0 := by
    rw [rd_j (by decide), rd_j (by decide), rd_s]
  have gb7 : (sto (sto (sto (sto (sto (sto (sto (sto (sto (sto (sto (sto mx 9 1 (nI b2)) b2 0 0) b2 1 0) b2 2 0) (b2 + 7) 0 0) 10 1 0) 9 2 0) 9 3 0) 9 4 0) 9 5 0) 9 8 0) 9 9 0) (b2 + 7) 0 = nI 0 := by
    rw [rd_o (by omega), rd_o (by omega), rd_o (by omega), rd_o (by omega), rd_o (by omega), rd_o (by omega), rd_o (by omega), rd_s]; rfl
  have go : ∀ a, a ≠ 9 → a ≠ 10 → a ≠ b2 → a ≠ b2 + 7 → (sto (sto (sto (sto (sto (sto (sto (sto (sto (sto (sto (sto mx 9 1 (nI b2)) b2 0 0) b2 1 0) b2 2 0) (b2 + 7) 0 0) 10 1 0) 9 2 0) 9 3 0) 9 4 0) 9 5 0) 9 8 0) 9 9 0) a = mx a := fun a a9 a10 ab a7 => by
    rw [rd_o a9, rd_o a9, rd_o a9, rd_o a9, rd_o a9, rd_o a9, rd_o a10, rd_o a7, rd_o ab, rd_o ab, rd_o ab, rd_o a9]
  generalize sto (sto (sto (sto (sto (sto (sto (sto (sto (sto (sto (sto mx 9 1 (nI b2)) b2 0 0) b2 1 0) b2 2 0) (b2 + 7) 0 0) 10 1 0) 9 2 0) 9 3 0) 9 4 0) 9 5 0) 9 8 0) 9 9 0 = mx0 at g91 g92 g93 g94 g95 gb7 g98 g10 gb0 go e3x
  have hCB : CB mx0 b2 0 := ⟨h9, by rw [gb0, rd_j (by decide), rd_j (by decide), rd_s]; rfl, by omega, 0, by omega, by rw [gb0, rd_j (by decide), rd_s]; rfl⟩
  have tot : ∃ m, l_X4_readText_51 FU 0 mx0 = some m := by
    cases q : l_X4_readText_51 FU 0 mx0 with
    | none => rw [q] at e3x; cases e3x
    | some m => exact ⟨m, rfl⟩
  have hT0 : TPE mx0 mm := fun p hp => by rw [go 8 (by omega) (by omega) (by omega) (by omega)]; exact hT p hp
  obtain ⟨m5, m13, m27, en5, e13, e27, res⟩ := c_loop hL (by rw [go 7 (by omega) (by omega) (by omega) (by omega)]; exact h4') hT0 y.2.2.1 g91 g92 g93 g98 g10 hCB g94 g95 (by rw [gb0, rd_j (by decide), rd_s]; rfl) gb7 tot
  obtain ⟨m5', en5', m13', e13', t13, o13, c13, hc13, e1321, D13⟩ := text_eq hL y.2.2.1
  have q5 : m5' = m5 := Option.some.inj (en5'.symm.trans en5)
  rw [q5] at e13'
  have q13 : m13' = m13 := Option.some.inj (e13'.symm.trans e13)
  rw [q13] at t13 o13 e1321 D13
  rw [e27, bind_s] at e3x
  have MSH : s_X7_shapes mm = (((if (m13 0 42) = 0 then ((s_X7_settleWords m13).bind fun m74 => some m74) else (some m13)) : Option (Mem)).bind fun m14 => bn (sto m14 0 37 0) fun m15 => (if (m15 0 42) ≤ 0 then (bn (sto m15 0 7 (m15 0 21)) fun m16 => ((l_X7_shapes_93 FU 0 m16).bind fun m33 => ((l_X7_shapes_157 FU 0 m33).bind fun m50 => ((l_X7_shapes_219 FU 0 m50).bind fun m70 => bn (sto m70 0 6 0) fun m71 => some ((m71 0 7), m71))))) else (some (((-10) - (m15 0 43)), m15)))) := by
    unfold s_X7_shapes
    show (s_X7_next _).bind _ = _
    rw [en5, bind_s, e13, bind_s]
  have XSH : s_X6_shapes mx = (if m3x 9 8 = 0 then (zbk (m3x 0 4) fun b6 => zbk (m3x 0 5) fun b7 => bn (sto (sto (sto m3x 7 1 0) 0 6 (m3x 9 8)) 0 4 (nI b7)) fun m8 => bn (sto m8 0 5 (nI b6)) fun m9 => zbk (m9 0 4) fun b10 => (s_X2_follow m9 b10).bind fun m12 => zbk (m12 0 4) fun b13 => some ((m12 b13 0), m12)) else some (((-10) - (m3x 9 9)), sto (sto m3x 7 1 0) 0 6 (m3x 9 8))) := by
    unfold s_X6_shapes
    rw [hB, zbk_i h9 rfl, RT, bind_s]
    show (if (sto (sto m3x 7 1 0) 0 6 ((sto m3x 7 1 0) 9 8)) 0 6 = 0 then _ else _) = _
    rw [rd_s, rd_o (show (9 : Nat) ≠ 7 by decide), rd_j (show (4 : Nat) ≠ 6 by decide), rd_j (show (5 : Nat) ≠ 6 by decide), rd_o (show (0 : Nat) ≠ 7 by decide), rd_o (show (9 : Nat) ≠ 0 by decide), rd_o (show (9 : Nat) ≠ 7 by decide)]
  have f8 : m3x 8 = mx 8 := hf 8 (by omega) (by omega) (by omega)
  have f04 : m3x 0 4 = nI b := by rw [hf 0 (by omega) (by omega) (by omega)]; exact h6
  have f05 : m3x 0 5 = nI b2 := by rw [hf 0 (by omega) (by omega) (by omega)]; exact hB
  have bad : ∀ (mb : Mem), ¬ mb 0 42 = 0 → 0 ≤ mb 0 42 → (∀ a, a ≠ 0 → a < 19 ∨ a = 33 → mb a = mm a) → mb 0 7 = mm 0 7 → (∀ a, 37 ≤ a → a ≤ 39 → mb a = mm a) → mb 0 0 = mm 0 0 → mb 0 6 = mm 0 6 → ¬ m3x 9 8 = 0 → m3x 9 9 = mb 0 43 → s_X7_shapes mm = (bn (sto mb 0 37 0) fun m15 => (if (m15 0 42) ≤ 0 then (bn (sto m15 0 7 (m15 0 21)) fun m16 => ((l_X7_shapes_93 FU 0 m16).bind fun m33 => ((l_X7_shapes_157 FU 0 m33).bind fun m50 => ((l_X7_shapes_219 FU 0 m50).bind fun m70 => bn (sto m70 0 6 0) fun m71 => some ((m71 0 7), m71))))) else (some (((-10) - (m15 0 43)), m15)))) → ∃ r mx2 mm2, s_X6_shapes mx = some (r, mx2) ∧ s_X7_shapes mm = some (r, mm2) ∧ mx2 8 = mx 8 ∧ mm2 33 = mm 33 ∧ ((mx2 0 4 = mx 0 4 ∧ (∀ a, b ≤ a → a < b + 14 → mx2 a = mx a) ∧ (∀ a, 6 ≤ a → a ≤ 18 → mm2 a = mm a) ∧ mm2 0 7 = mm 0 7 ∧ (∀ a, 39 ≤ a → a ≤ 43 → mx2 a = mx a) ∧ (∀ a, 1 ≤ a → a ≤ 5 → mm2 a = mm a) ∧ (∀ a, 37 ≤ a → a ≤ 39 → mm2 a = mm a) ∧ mm2 0 0 = mm 0 0 ∧ mm2 0 6 = mm 0 6) ∨ ∃ b2 c2 P2, isb b2 ∧ mx2 0 4 = nI b2 ∧ mm2 0 7 = nI c2 ∧ c2 ≤ 6 ∧ (∀ s, s < c2 → P2 s ≤ 6 ∧ mm2 8 s = nI (P2 s)) ∧ LB mx2 mm2 b2 c2 P2 ∧ BK mx2 mm2 b2 c2 ∧ LVs mx2 mm2 b2 c2 P2 ∧ mx2 39 4 = 0 ∧ mx2 39 5 = 0 ∧ mm2 0 6 = 0 ∧ mx2 42 = mx 42) := fun mb z zp fo f7 f37 f00 f06 n8 n9 hm => by
    refine ⟨(-10) - (m3x 9 9), sto (sto m3x 7 1 0) 0 6 (m3x 9 8), sto mb 0 37 0, ?_, ?_, ?_, ?_, Or.inl ⟨?_, fun a a1 a2 => ?_, fun a a1 a2 => ?_, ?_, fun a a1 a2 => ?_, fun a a1 a2 => ?_, fun a a1 a2 => ?_, ?_, ?_⟩⟩
    · rw [XSH, if_neg n8]
    · rw [hm]
      show (if (sto mb 0 37 0) 0 42 ≤ 0 then _ else _) = _
      rw [rd_j (show (42 : Nat) ≠ 37 by decide), if_neg (fun w => z (Int32.le_antisymm w zp)), rd_j (show (43 : Nat) ≠ 37 by decide), n9]
    · rw [rd_o (by decide), rd_o (by decide)]; exact f8
    · rw [rd_o (by decide)]; exact fo 33 (by decide) (by omega)
    · rw [rd_j (by decide), rd_o (by decide), f04, h6]
    · rw [rd_o (by omega), rd_o (by omega)]; exact hf a (by omega) (by omega) (by omega)
    · rw [rd_o (by omega)]; exact fo a (by omega) (by omega)
    · rw [rd_j (by decide)]; exact f7
    · rw [rd_o (by omega), rd_o (by omega)]; exact hf a (by omega) (by omega) (by omega)
    · rw [rd_o (by omega)]; exact fo a (by omega) (by omega)
    · rw [rd_o (by omega)]; exact f37 a a1 a2
    · rw [rd_j (by decide)]; exact f00
    · rw [rd_j (by decide)]; exact f06
  rcases res with ⟨z42, z98, z99⟩ | ⟨z42, z98, c2, P2, hc0, z21, z91, zC, zE, zi, hzi, zGF⟩
  · rw [if_neg z98] at e3x
    have e9 : m27 = m3x := Option.some.inj e3x
    rw [e9] at z98 z99
    exact bad m13 z42 t13.2.2.1 (fun a a0 a1 => o13.1 a a0 (by omega)) (o13.2 7 (by decide) (by decide) (by decide)) (fun a a1 a2 => o13.1 a (by omega) (by omega)) (o13.2 0 (by decide) (by decide) (by decide)) (o13.2 6 (by decide) (by decide) (by decide)) z98 z99 (by rw [MSH, if_neg z42, bind_s])
  · obtain ⟨m29, m74, e29, e74, out⟩ := c_settle zC z91 z98 z21 z42 zE
    rw [if_pos z98, e29, bind_s] at e3x
    have e9 : m29 = m3x := Option.some.inj e3x
    rw [e9] at out
    have c26 := zC.2.2.1
    obtain ⟨m74', e74', w1, w2, w3, -⟩ := settle_eq z21 c26 (fun s hs => ⟨(zE s hs).1, (zE s hs).2.1⟩) (by rw [z42]; decide)
    have q74 : m74' = m74 := Option.some.inj (e74'.symm.trans e74)
    rw [q74] at w1 w2 w3
    have fo : ∀ a, a ≠ 0 → a < 19 ∨ a = 33 → m74 a = mm a := fun a a0 a1 => by rw [w1 a a0 (by omega) (by omega)]; exact o13.1 a a0 (by omega)
    have f7 : m74 0 7 = mm 0 7 := by rw [w2 7 (by decide) (by decide)]; exact o13.2 7 (by decide) (by decide) (by decide)
    rw [if_pos z42, e74, bind_s, bind_s] at MSH
    rcases out with ⟨u42, u98, u99⟩ | ⟨u42, u98, u0, u21, uL, uK, uRF, uV⟩
    · exact bad m74 u42 w3 fo f7 (fun a a1 a2 => by rw [w1 a (by omega) (by omega) (by omega)]; exact o13.1 a (by omega) (by omega)) (by rw [w2 0 (by decide) (by decide)]; exact o13.2 0 (by decide) (by decide) (by decide)) (by rw [w2 6 (by decide) (by decide)]; exact o13.2 6 (by decide) (by decide) (by decide)) u98 u99 MSH
    have j15 : ∀ j, j ≠ 37 → (sto m74 0 37 0) 0 j = m74 0 j := fun j j0 => rd_j j0
    have a15 : ∀ a, a ≠ 0 → (sto m74 0 37 0) a = m74 a := fun a a0 => rd_o a0
    have M2 : s_X7_shapes mm = (bn (sto (sto m74 0 37 0) 0 7 ((sto m74 0 37 0) 0 21)) fun m16 => ((l_X7_shapes_93 FU 0 m16).bind fun m33 => ((l_X7_shapes_157 FU 0 m33).bind fun m50 => ((l_X7_shapes_219 FU 0 m50).bind fun m70 => bn (sto m70 0 6 0) fun m71 => some ((m71 0 7), m71))))) := by
      rw [MSH]
      show (if (sto m74 0 37 0) 0 42 ≤ 0 then _ else _) = _
      rw [j15 42 (by decide), if_pos (by rw [u42]; decide)]
    have n16 : (sto (sto m74 0 37 0) 0 7 ((sto m74 0 37 0) 0 21)) 0 7 = nI c2 := by rw [rd_s, j15 21 (by decide)]; exact u21
    have a16 : ∀ a, a ≠ 0 → (sto (sto m74 0 37 0) 0 7 ((sto m74 0 37 0) 0 21)) a = m74 a := fun a a0 => by rw [rd_o a0]; exact a15 a a0
    generalize sto (sto m74 0 37 0) 0 7 ((sto m74 0 37 0) 0 21) = m16 at n16 a16 M2
    obtain ⟨m33, e33, o33, v33⟩ := copy_1 n16 c26
    obtain ⟨m50, e50, o50, v50⟩ := copy_2 (m := m33)
    obtain ⟨m70, e70, o70, v70⟩ := copy_3 (m := m50)
    simp only [bn] at M2
    rw [e33, bind_s, e50, bind_s, e70, bind_s] at M2
    have k7 : (sto m70 0 6 0) 0 7 = nI c2 := by rw [rd_j (by decide), o70 0 (by omega), o50 0 (by omega), o33 0 (by omega) (by omega) (by omega) (by omega)]; exact n16
    have fg5 : ∀ (m : Mem), s_X2_follow m b2 = some (sto (sto (sto m 39 1 (nI b2)) 39 4 0) 39 5 0) := fun m => rfl
    have r4 : (sto (sto (sto (sto m3x 7 1 0) 0 6 (m3x 9 8)) 0 4 (nI b2)) 0 5 (nI b)) 0 4 = nI b2 := by rw [rd_j (by decide), rd_s]
    have r12 : (sto (sto (sto (sto (sto (sto (sto m3x 7 1 0) 0 6 (m3x 9 8)) 0 4 (nI b2)) 0 5 (nI b)) 39 1 (nI b2)) 39 4 0) 39 5 0) 0 4 = nI b2 := by rw [rd_o (by decide), rd_o (by decide), rd_o (by decide)]; exact r4
    have rb : ∀ a, a ≠ 0 → a ≠ 7 → a ≠ 39 → (sto (sto (sto (sto (sto (sto (sto m3x 7 1 0) 0 6 (m3x 9 8)) 0 4 (nI b2)) 0 5 (nI b)) 39 1 (nI b2)) 39 4 0) 39 5 0) a = m3x a := fun a a0 a7 a39 => by rw [rd_o a39, rd_o a39, rd_o a39, rd_o a0, rd_o a0, rd_o a0, rd_o a7]
    have X2 : s_X6_shapes mx = some (nI c2, sto (sto (sto (sto (sto (sto (sto m3x 7 1 0) 0 6 (m3x 9 8)) 0 4 (nI b2)) 0 5 (nI b)) 39 1 (nI b2)) 39 4 0) 39 5 0) := by
      rw [XSH, if_pos u98, f04, zbk_i h5 rfl, f05, zbk_i h9 rfl]
      simp only [bn]
      rw [r4, zbk_i h9 rfl, fg5, bind_s, r12, zbk_i h9 rfl, rb b2 (by omega) (by omega) (by omega), u0]
    refine ⟨nI c2, _, _, X2, by rw [M2, k7], ?_, ?_, Or.inr ⟨b2, c2, P2, h9, r12, k7, c26, fun s hs => ⟨(uL.1 s hs).1, ?_⟩, LB_of uL c26 (by rw [rb b2 (by omega) (by omega) (by omega)]; exact u0) (fun a a1 a2 => rb a (by omega) (by omega) (by omega)) (fun s hs => ?_) (fun s hs => ?_), ?_, fun s hs => ?_, by rw [rd_j (by decide), rd_s], rd_s, rd_s, by rw [rd_o (by decide), rd_o (by decide), rd_o (by decide), rd_o (by decide), rd_o (by decide), rd_o (by decide), rd_o (by decide)]; exact hf 42 (by omega) (by omega) (by omega)⟩⟩
    · rw [rb 8 (by decide) (by decide) (by decide)]; exact f8
    · rw [rd_o (by decide), o70 33 (by omega), o50 33 (by omega), o33 33 (by omega) (by omega) (by omega) (by omega), a16 33 (by decide)]; exact fo 33 (by decide) (by omega)
    · obtain ⟨-, -, v3, -⟩ := v33 s hs
      rw [rd_o (by decide), o70 8 (by omega), o50 8 (by omega), v3, a16 21 (by decide)]
      exact (uL.1 s hs).2.1
    · obtain ⟨v1, v2, -, -⟩ := v33 s hs
      rw [rd_o (by decide), rd_o (by decide), o70 6 (by omega), o70 7 (by omega), o50 6 (by omega), o50 7 (by omega), v1, v2, a16 19 (by decide), a16 20 (by decide)]
      exact ⟨rfl, rfl⟩
    · obtain ⟨v1, v2, v3, v4⟩ := v50 s hs
      rw [rd_o (by decide), rd_o (by decide), rd_o (by decide), rd_o (by decide), o70 9 (by omega), o70 10 (by omega), o70 11 (by omega), o70 12 (by omega), v1, v2, v3, v4, o33 22 (by omega) (by omega) (by omega) (by omega), o33 23 (by omega) (by omega) (by omega) (by omega), o33 24 (by omega) (by omega) (by omega) (by omega), o33 25 (by omega) (by omega) (by omega) (by omega), a16 22 (by decide), a16 23 (by decide), a16 24 (by decide), a16 25 (by decide)]
      exact ⟨rfl, rfl, rfl, rfl⟩
    · obtain ⟨PD, ZD, DD13⟩ := D13 z42
      have ec : c13 = c2 := (nI_eq (by omega) (by omega)).mp (e1321.symm.trans z21)
      rw [ec] at DD13
      have w27 : ∀ a, 27 ≤ a → a ≤ 32 → m16 a = m13 a := fun a a1 a2 => by rw [a16 a (by omega), w1 a (by omega) (by omega) (by omega)]
      refine BK_of (GF_n zGF uK (Nat.le_refl _) (fun _ _ _ => rfl)) hzi c26 DD13 (rb (b2 + 7) (by omega) (by omega) (by omega)) (rb (b2 + 8) (by omega) (by omega) (by omega)) (fun s hs => ?_) (fun a j a1 a2 hj => ?_)
      · obtain ⟨-, -, -, v4⟩ := v33 s hs
        rw [rd_o (by decide), o70 13 (by omega), o50 13 (by omega), v4, w27 27 (by decide) (by decide)]
      · obtain ⟨v1, v2, v3, v4, v5⟩ := v70 j hj
        have oo : ∀ q, 28 ≤ q → q ≤ 32 → m50 q = m13 q := fun q q1 q2 => by rw [o50 q (by omega), o33 q (by omega) (by omega) (by omega) (by omega), w27 q (by omega) q2]
        rw [rd_o (by omega)]
        rcases (show a = 14 ∨ a = 15 ∨ a = 16 ∨ a = 17 ∨ a = 18 by omega) with rfl | rfl | rfl | rfl | rfl
        · rw [v1, oo 28 (by decide) (by decide)]
        · rw [v2, oo 29 (by decide) (by decide)]
        · rw [v3, oo 30 (by decide) (by decide)]
        · rw [v4, oo 31 (by decide) (by decide)]
        · rw [v5, oo 32 (by decide) (by decide)]
    · rw [rb (b2 + 6) (by omega) (by omega) (by omega), uV s hs]
      have part : ∀ s i, s < c2 → i < P2 s → (sto m70 0 6 0) 10 (6 * s + i) = vw b2 m3x 10 (6 * s + i) ∧ (sto m70 0 6 0) 11 (6 * s + i) = vw b2 m3x 11 (6 * s + i) := fun s i hs hi => by
        have p6 := (uL.1 s hs).1
        obtain ⟨v1, v2, v3, v4⟩ := v50 (6 * s + i) (by omega)
        obtain ⟨f1, f2, f3, f4, f5, f7, f8⟩ := uL.1 s hs
        obtain ⟨g1, g2, g3, g4⟩ := f8 i hi
        refine ⟨?_, ?_⟩
        · show _ = m3x (b2 + 10) _
          rw [g2, rd_o (by decide), o70 10 (by omega), v2, o33 23 (by omega) (by omega) (by omega) (by omega), a16 23 (by decide)]
        · show _ = m3x (b2 + 11) _
          rw [g3, rd_o (by decide), o70 11 (by omega), v3, o33 24 (by omega) (by omega) (by omega) (by omega), a16 24 (by decide)]
      exact congrArg nI (Jrx_c uRF (fun _ _ => rfl) part 6 s hs).symm
