/-! both readers: a part, to its end -/
def tl3 (x : Nat) (m51 : Mem) : Option Mem := (if (m51 0 42) = 0 then ((if (m51 0 40) = 2 then (ck (zin (nI x) 36 = true) ((if (m51 24 x) ≤ (m51 0 41) then (zb2 (s_X7_taken m51 2) fun r64 m65 => ck (zin (nI x) 36 = true) (bn (sto m65 25 x r64) fun m67 => some m67)) else ((s_X7_fails m51 3 (m51 0 39)).bind fun m69 => zb2 (s_X7_taken m69 2) fun r71 m72 => ck (zin (nI x) 36 = true) (bn (sto m72 25 x r71) fun m74 => some m74))))) else (zb2 (s_X7_taken m51 2) fun r58 m59 => ck (zin (nI x) 36 = true) (bn (sto m59 25 x r58) fun m61 => some m61)))) else (zb2 (s_X7_taken m51 2) fun r53 m54 => ck (zin (nI x) 36 = true) (bn (sto m54 25 x r53) fun m56 => some m56)))
def tl2 (x : Nat) (r45 : Int32) (m46 : Mem) : Option Mem := ck (zin (nI x) 36 = true) (bn (sto m46 24 x r45) fun m48 => zb2 (s_X7_taken m48 5) fun r50 m51 => tl3 x m51)
theorem dead_25 {i x : Nat} {mx d : Mem} (zx : zin (nI x) 36 = true) (h : DD i mx d) : ∃ r, (zb2 (s_X7_taken d 2) fun r53 m54 => ck (zin (nI x) 36 = true) (bn (sto m54 25 x r53) fun m56 => some m56)) = some r ∧ DD i mx r := by
  rw [taken_dead h.1, zb2_s]
  exact ex_ck zx (ex_n (ex_s (DD_c (DD_44 h) (by decide))))
theorem dead_3 {i x : Nat} {mx d : Mem} (zx : zin (nI x) 36 = true) (h : DD i mx d) : ∃ r, tl3 x d = some r ∧ DD i mx r := by
  unfold tl3
  rw [if_neg h.1]
  exact dead_25 zx h
theorem dead_2 {i x : Nat} {mx d : Mem} {r45 : Int32} (zx : zin (nI x) 36 = true) (h : DD i mx d) : ∃ r, tl2 x r45 d = some r ∧ DD i mx r := by
  unfold tl2
  refine ex_ck zx (ex_n ?_)
  have d1 := DD_c (a := 24) (j := x) (x := r45) h (by decide)
  rw [taken_dead d1.1, zb2_s]
  exact dead_3 zx (DD_44 d1)
theorem dead_12 {i x : Nat} {mx d : Mem} {r33 : Int32} (zx : zin (nI x) 36 = true) (h : DD i mx d) : ∃ r, (ck (zin (nI x) 36 = true) (bn (sto d 24 x r33) fun m36 => ck (zin (nI x) 36 = true) (bn (sto m36 26 x (m36 0 44)) fun m38 => some m38))) = some r ∧ DD i mx r := ex_ck zx (ex_n (ex_ck zx (ex_n (ex_s (DD_c (DD_c h (by decide)) (by decide))))))
theorem c_part {L i c b it : Nat} {mx mm m1 : Mem} {P : Nat → Nat} (h : TOK L i mx mm m1) (hst : mx 9 2 = 3 ∨ mx 9 2 = 2) (hS : mm 0 40 = 2) (h9 : mx 9 1 = nI b) (hC : CB mx b (c + 1)) (hE : PE mx mm b (c + 1) P) (h21 : mm 0 21 = nI c) (hit : it < 160) : ∃ mm2, s_X7_readPart mm (nI (160 * c + it)) = some mm2 ∧ ((mm2 0 42 = 0 ∧ ∃ j mx2 m3, XS i mx j mx2 ∧ TOK L j mx2 mm2 m3 ∧ i + 2 ≤ j ∧ mx2 9 2 = 8 ∧ mx2 9 1 = nI b ∧ (∀ k, 3 ≤ k → k ≤ 5 → mx2 9 k = mx 9 k) ∧ CB mx2 b (c + 1) ∧ PE mx2 mm2 b (c + 1) (up P c (P c + 1)) ∧ SWt mx mx2 b c (P c) ∧ mm2 32 = upd (mm 32) (160 * c + it) (nI (6 * c + P c)) ∧ ∀ a, 27 ≤ a → a ≤ 35 → a ≠ 32 → mm2 a = mm a) ∨ DD i mx mm2) := by
  have hh := h
  obtain ⟨h1, h2, ⟨kt, kn, kp⟩, h4, h5, h6, -, -⟩ := h
  have hb := hC.1
  have hb2 := isb_e hb
  have hc6 : c < 6 := by have := hC.2.2.1; omega
  have pe := hE c (Nat.lt_succ_self c)
  have hP6 := pe.1
  have p21 := pe.2.1
  have px2 := pe.2.2.1
  have K3 : m1 10 2 = 3 := (KT_w kt).2.2.1.mp hS
  have nv : m1 10 4 = mm 0 41 := kn (Or.inr hS)
  have q9 : m1 9 = mx 9 := h2 9 (by decide)
  have zb9 : m1 9 1 = nI b := by rw [q9]; exact h9
  have tk : s_X4_takeToken m1 = s_X4_takeOne m1 := by
    rcases hst with e | e
    · exact tt_3 (by rw [q9]; exact e)
    · rw [tt_2 (by rw [q9]; exact e)]
      unfold s_X4_takeBody
      rw [K3, if_neg (by decide), if_pos rfl, b_id]
  have one : s_X4_takeOne m1 = (if mm 0 41 < 0 then s_X4_fail m1 3 else if mm 0 41 < 10 then (zbk (m1 9 1) fun b3 => (s_X0_hasRoomForPart m1 b3).bind fun r5 => if r5 = 0 then s_X4_fail m1 4 else zbk (m1 9 1) fun b6 => (s_X0_addPart m1 b6 (mm 0 41)).bind fun m8 => some (sto m8 9 2 4)) else s_X4_fail m1 3) := by
    unfold s_X4_takeOne
    rw [K3, if_neg (by decide), if_pos rfl, nv]
    simp only [b_id]
    rfl
  have c0 : m1 b 0 = nI (c + 1) := by rw [h2 b (by omega)]; exact hC.2.1
  have x2 : m1 (b + 2) c = nI (P c) := by rw [h2 (b + 2) (by omega)]; exact px2
  have room := o_room c0 hc6 x2 hP6
  have z6 : zin (nI c) 6 = true := zin_nI hc6 (by decide)
  have zk : zin (nI (160 * c + it)) 960 = true := zin_nI (by omega) (by decide)
  have n42 : ∀ (x y : Int32), 0 < x → ¬ (fl mm x y) 0 42 ≤ 0 := fun x y hx => by
    unfold fl
    rw [if_pos h4, rd_j (by decide), rd_s]
    exact Int32.not_le.mpr hx
  unfold s_X7_readPart
  rw [if_pos h4, in_09, bind_s, if_bb]
  by_cases hv : 0 ≤ (mm 0 41).toInt ∧ (mm 0 41).toInt < (10 : Nat)
  rotate_left
  · rw [if_neg hv, fails_eq, bind_s, bind_s, if_neg (fl_b (by decide)), bind_s, if_neg (n42 _ _ (by decide))]
    refine ex_s (Or.inr (DD_f h4 (by decide) (tk_fail (mf := m1) (k := 3) hh (by decide) ?_)))
    rw [tk, one]
    by_cases q : mm 0 41 < 0
    · rw [if_pos q, fail_eq]
    · rw [if_neg q, if_neg, fail_eq]
      intro q2
      refine hv ⟨?_, ?_⟩
      · have := le_i.mp (Int32.not_lt.mp q)
        rw [toInt_0] at this
        exact this
      · have := lt_i.mp q2
        exact this
  obtain ⟨nm, hn, en⟩ := (bk_iff (by decide)).mp hv
  have v0 : ¬ mm 0 41 < 0 := by rw [en]; exact m1_lt (by omega)
  have v10 : mm 0 41 < 10 := by rw [en]; exact nI_lt (b := 10) hn (by decide)
  rw [if_pos hv, bind_s, if_pos h4, h21, ck_p z6, ix_nI (n := c) (by omega), p21]
  by_cases hp : P c = 6
  · rw [if_pos (show nI (P c) = 6 by rw [hp]; rfl), fails_eq, bind_s, bind_s, if_neg (n42 _ _ (by decide))]
    refine ex_s (Or.inr (DD_f h4 (by decide) (tk_fail (mf := m1) (k := 4) hh (by decide) ?_)))
    rw [tk, one, if_neg v0, if_pos v10, zb9, zbk_i hb rfl, room, bind_s, if_bb, if_neg (by omega), fail_eq]
  have hp6 : P c < 6 := by omega
  rw [if_neg (show ¬ nI (P c) = 6 from fun q => hp ((nI_eq (b := 6) (by omega) (by decide)).mp q)), bind_s, if_pos (show mm 0 42 ≤ 0 by rw [h4]; decide), h21, ck_p z6, ix_nI (n := c) (by omega), p21, p6]
  have zx : zin (nI (6 * c + P c)) 36 = true := zin_nI (by omega) (by decide)
  refine ex_n (ex_ck zk (ex_n ?_))
  rw [rd_o (show (0 : Nat) ≠ 32 by decide), h21, rd_o (show (21 : Nat) ≠ 32 by decide), ix_nI (n := c) (by omega), p21, nI_s1, ix_nI (n := 160 * c + it) (by omega), ix_nI (n := 6 * c + P c) (by omega)]
  refine ex_ck z6 (ex_ck z6 (ex_n ?_))
  have m90 : (sto (sto mm 32 (160 * c + it) (nI (6 * c + P c))) 21 c (nI (P c + 1))) 0 = mm 0 := by rw [rd_o (by decide), rd_o (by decide)]
  have m9c : ∀ a, a ≠ 21 → a ≠ 32 → (sto (sto mm 32 (160 * c + it) (nI (6 * c + P c))) 21 c (nI (P c + 1))) a = mm a := fun a a1 a2 => by rw [rd_o a1, rd_o a2]
  have m921 : ∀ s, s ≠ c → (sto (sto mm 32 (160 * c + it) (nI (6 * c + P c))) 21 c (nI (P c + 1))) 21 s = mm 21 s := fun s hs => by rw [rd_j hs, rd_o (by decide)]
  have m921c : (sto (sto mm 32 (160 * c + it) (nI (6 * c + P c))) 21 c (nI (P c + 1))) 21 c = nI (P c + 1) := rd_s
  have m932 : (sto (sto mm 32 (160 * c + it) (nI (6 * c + P c))) 21 c (nI (P c + 1))) 32 = upd (mm 32) (160 * c + it) (nI (6 * c + P c)) := by rw [rd_o (by decide), sto_same]
  generalize sto (sto mm 32 (160 * c + it) (nI (6 * c + P c))) 21 c (nI (P c + 1)) = m9 at m90 m9c m921 m921c m932 ⊢
  have T9 : TOK L i mx m9 m1 := TOK_m hh (fun j _ => by rw [m90]) (m9c 33 (by decide) (by decide))
  obtain ⟨m8, e8, cb8, f8, l8, g2, g9, g4, sw8⟩ := o_addPart2 (nm := mm 0 41) (CB_o hC (h2 b (by omega))) x2 hp6
  have f8' : ∀ a, a < b → m8 a = m1 a := fun a ha => f8 a (by omega) (by omega) (by omega) (by omega) (by omega) (by omega)
  have tkA : s_X4_takeToken m1 = some (sto m8 9 2 4) := by
    rw [tk, one, if_neg v0, if_pos v10, zb9, zbk_i hb rfl, room, bind_s, if_bb, if_pos hp6, zbk_i hb rfl, e8, bind_s]
  have x9 : ∀ j, j ≠ 2 → (sto m8 9 2 4) 9 j = mx 9 j := fun j hj => by rw [rd_j hj, f8' 9 (by omega), q9]
  obtain ⟨m12, en12, c12, j12, out⟩ := tk_next (mn := sto m9 0 44 (m9 0 39)) T9 (by rw [m90, hS]; decide) tkA (by rw [rd_o (by decide), f8' 10 (by omega)]) (by rw [rd_o (by decide), f8' 7 (by omega)]) (by rw [rd_o (by decide), f8' 8 (by omega)]) (by rw [x9 8 (by decide)]; exact h5) (by rw [rd_s]; decide) (fun j hj => rd_j (by omega)) (rd_o (by decide))
  rw [taken_ok (by rw [m90]; exact h4) (by rw [m90]; exact hS) en12, zb2_s, m90]
  refine ex_ck zx (ex_n (ex_ck zx (ex_n (ex_ck zx (ex_n (ex_ck zx (ex_n ?_)))))))
  have m12c : ∀ a, a ≠ 0 → a ≠ 21 → a ≠ 32 → m12 a = mm a := fun a a0 a1 a2 => by rw [c12 a a0, rd_o a0]; exact m9c a a1 a2
  have m1221 : m12 21 = m9 21 := by rw [c12 21 (by decide), rd_o (by decide)]
  have k0 : (sto (sto (sto (sto m12 22 (6 * c + P c) (mm 0 41)) 24 (6 * c + P c) 0) 25 (6 * c + P c) 0) 26 (6 * c + P c) 0) 0 = m12 0 := by rw [rd_o (by decide), rd_o (by decide), rd_o (by decide), rd_o (by decide)]
  have kc : ∀ a, a ≠ 22 → a ≠ 24 → a ≠ 25 → a ≠ 26 → (sto (sto (sto (sto m12 22 (6 * c + P c) (mm 0 41)) 24 (6 * c + P c) 0) 25 (6 * c + P c) 0) 26 (6 * c + P c) 0) a = m12 a := fun a a1 a2 a3 a4 => by rw [rd_o a4, rd_o a3, rd_o a2, rd_o a1]
  have ki : ∀ a j, j ≠ 6 * c + P c → (sto (sto (sto (sto m12 22 (6 * c + P c) (mm 0 41)) 24 (6 * c + P c) 0) 25 (6 * c + P c) 0) 26 (6 * c + P c) 0) a j = m12 a j := fun a j hj => by
    have e : ∀ (m : Mem) (q : Nat) (y : Int32), (sto m q (6 * c + P c) y) a j = m a j := fun m q y => by
      by_cases z : a = q
      · rw [z, rd_j hj]
      · rw [rd_o z]
    rw [e, e, e, e]
  have v22 : (sto (sto (sto (sto m12 22 (6 * c + P c) (mm 0 41)) 24 (6 * c + P c) 0) 25 (6 * c + P c) 0) 26 (6 * c + P c) 0) 22 (6 * c + P c) = mm 0 41 := by rw [rd_o (by decide), rd_o (by decide), rd_o (by decide), rd_s]
  have v24 : (sto (sto (sto (sto m12 22 (6 * c + P c) (mm 0 41)) 24 (6 * c + P c) 0) 25 (6 * c + P c) 0) 26 (6 * c + P c) 0) 24 (6 * c + P c) = 0 := by rw [rd_o (by decide), rd_o (by decide), rd_s]
  have v25 : (sto (sto (sto (sto m12 22 (6 * c + P c) (mm 0 41)) 24 (6 * c + P c) 0) 25 (6 * c + P c) 0) 26 (6 * c + P c) 0) 25 (6 * c + P c) = 0 := by rw [rd_o (by decide), rd_s]
  have v26 : (sto (sto (sto (sto m12 22 (6 * c + P c) (mm 0 41)) 24 (6 * c + P c) 0) 25 (6 * c + P c) 0) 26 (6 * c + P c) 0) 26 (6 * c + P c) = 0 := rd_s
  generalize sto (sto (sto (sto m12 22 (6 * c + P c) (mm 0 41)) 24 (6 * c + P c) 0) 25 (6 * c + P c) 0) 26 (6 * c + P c) 0 = m20 at k0 kc ki v22 v24 v25 v26 ⊢
  have PN : ∀ (mxf mmf : Mem), (∀ a, a ≠ 9 → a ≠ 10 → a < b + 10 ∨ b + 13 < a → mxf a = m8 a) → (∀ a j, b + 10 ≤ a → a ≤ b + 13 → j ≠ 6 * c + P c → mxf a j = m8 a j) → (∀ a, a ≠ 0 → a < 22 ∨ 26 < a → mmf a = m12 a) → (∀ a j, 22 ≤ a → a ≤ 26 → j ≠ 6 * c + P c → mmf a j = m12 a j) → mmf 22 (6 * c + P c) = mm 0 41 → mxf (b + 10) (6 * c + P c) = mmf 23 (6 * c + P c) → mxf (b + 11) (6 * c + P c) = mmf 24 (6 * c + P c) → mxf (b + 12) (6 * c + P c) = mmf 25 (6 * c + P c) → mxf (b + 13) (6 * c + P c) = mmf 26 (6 * c + P c) → (∃ q, q < 1000 ∧ mmf 26 (6 * c + P c) = nI q) → PE mxf mmf b (c + 1) (up P c (P c + 1)) ∧ SWt mx mxf b c (P c) ∧ mmf 32 = upd (mm 32) (160 * c + it) (nI (6 * c + P c)) ∧ ∀ a, 27 ≤ a → a ≤ 35 → a ≠ 32 → mmf a = mm a := fun mxf mmf a1 a2 a3 a4 w22 w10 w11 w12 w13 w26 => by
    refine ⟨?_, SWt_k sw8 ⟨by rw [h2 b (by omega)], h2 (b + 7) (by omega), h2 (b + 8) (by omega)⟩ ⟨by rw [a1 b (by omega) (by omega) (by omega)], a1 (b + 7) (by omega) (by omega) (by omega), a1 (b + 8) (by omega) (by omega) (by omega)⟩, by rw [a3 32 (by decide) (by decide), c12 32 (by decide), rd_o (by decide)]; exact m932, fun a b1 b2 b3 => by rw [a3 a (by omega) (by omega)]; exact m12c a (by omega) (by omega) b3⟩
    refine PE_new hE hp6 en hn (fun a s s1 s2 hs => ?_) ?_ ?_ (fun a j s1 s2 hj => ?_) (fun a s s1 s2 hs => ?_) ?_ (fun a j s1 s2 hj => ?_) w22 ?_ w10 w11 w12 w13 w26
    · rw [a1 a (by omega) (by omega) (by omega)]
      by_cases q2 : a = b + 2
      · rw [q2, g2, pk_un (by omega), h2 (b + 2) (by omega)]
      · by_cases q4 : a = b + 4
        · rw [q4, g4, pk_un (by omega), h2 (b + 4) (by omega)]
        · rw [f8 a (by omega) (by omega) (by omega) (by omega) (by omega) (by omega), h2 a (by omega)]
    · rw [a1 (b + 2) (by omega) (by omega) (by omega), g2, pk_us]
    · rw [a1 (b + 4) (by omega) (by omega) (by omega), g4, pk_us, h2 (b + 4) (by omega)]
    · by_cases q : a = b + 9
      · rw [q, a1 (b + 9) (by omega) (by omega) (by omega), g9, pk_un hj, h2 (b + 9) (by omega)]
      · rw [a2 a j (by omega) (by omega) hj, f8 a (by omega) (by omega) (by omega) (by omega) (by omega) (by omega), h2 a (by omega)]
    · rw [a3 a (by omega) (by omega)]
      by_cases q : a = 21
      · rw [q, m1221, m921 s (by omega)]
      · rw [m12c a (by omega) q (by omega)]
    · rw [a3 21 (by decide) (by decide), m1221, m921c]
    · rw [a4 a j s1 s2 hj, m12c a (by omega) (by omega) (by omega)]
    · rw [a1 (b + 9) (by omega) (by omega) (by omega), g9, pk_us]
  rcases out with ⟨o0, X1, m3, T3⟩ | ⟨o0, F⟩
  rotate_left
  · have D : DD i mx m20 := ⟨by rw [k0]; exact o0, by rw [k0]; exact F⟩
    rw [DD_is D, bind_s, if_pos rfl, DD_is D, bind_s, if_pos rfl, DD_is D, bind_s, if_pos rfl]
    exact ex_ck zx (ex_n (ex_w (dead_end (r11 := 0) zx D) (fun r hr => Or.inr hr)))
  have T20 : TOK L (i + 1) (sto m8 9 2 4) m20 m3 := TOK_m T3 (fun j _ => by rw [k0]) (kc 33 (by decide) (by decide) (by decide) (by decide))
  have m3c := T20.2.1
  have K20 := T20.2.2.1
  have n20 := T20.2.2.2.1
  have m392 : m3 9 2 = 4 := by rw [m3c 9 (by decide), rd_s]
  have m39 : ∀ j, j ≠ 2 → m3 9 j = mx 9 j := fun j hj => by rw [m3c 9 (by decide)]; exact x9 j hj
  have m3b : ∀ a, a ≠ 9 → a ≠ 10 → m3 a = m8 a := fun a a9 a10 => by rw [m3c a a10, rd_o a9]
  have m3l : m3 b 2 = nI (6 * c + P c) := by rw [m3b b (by omega) (by omega)]; exact l8
  have zb3 : m3 9 1 = nI b := by rw [m39 1 (by decide)]; exact h9
  have cb3 : CB m3 b (c + 1) := CB_o cb8 (m3b b (by omega) (by omega))
  have T4 := tt_4 m392
  rw [is_eq, bind_s, if_bb]
  have iK : ∀ s, sgn s → ((m20 0 42 = 0 ∧ m20 0 40 = 4 ∧ m20 0 41 = s) ↔ m3 10 2 = s) := fun s hs => TOK_is T20 hs
  by_cases z46 : m20 0 42 = 0 ∧ m20 0 40 = 4 ∧ m20 0 41 = 46
  · have K := (iK 46 (by unfold sgn; decide)).mp z46
    rw [if_pos z46]
    refine ex_ck zx (ex_n ?_)
    have tkB : s_X4_takeToken m3 = some (sto (sto (sto (sto (sto m3 (b + 10) (6 * c + P c) 0) (b + 11) (6 * c + P c) 0) (b + 12) (6 * c + P c) 0) (b + 13) (6 * c + P c) 0) 9 2 8) := by
      rw [T4]
      unfold s_X4_takeTest
      rw [K, if_pos rfl, zb3, zbk_i hb rfl, o_tell hb m3l (by omega), bind_s]
      rfl
    obtain ⟨mf, ef, cf, jf2, out2⟩ := tk_next (mn := sto m20 23 (6 * c + P c) 0) T20 (by rw [z46.2.1]; decide) tkB (by rw [rd_o (by omega), rd_o (by omega), rd_o (by omega), rd_o (by omega), rd_o (by omega)]) (by rw [rd_o (by omega), rd_o (by omega), rd_o (by omega), rd_o (by omega), rd_o (by omega)]) (by rw [rd_o (by omega), rd_o (by omega), rd_o (by omega), rd_o (by omega), rd_o (by omega)]) (by rw [rd_j (by decide), rd_o (by omega), rd_o (by omega), rd_o (by omega), rd_o (by omega), m39 8 (by decide)]; exact h5) (by rw [rd_s]; decide) (fun j _ => by rw [rd_o (by decide)]) (rd_o (by decide))
    rw [ef, bind_s]
    refine ex_s ?_
    rcases out2 with ⟨p0, X2, m5, T5⟩ | ⟨p0, F2⟩
    · refine Or.inl ⟨p0, _, _, m5, XS_t X1 X2, T5, by omega, rd_s, ?_, ?_, ?_, PN _ _ (fun a a9 a10 hr => ?_) (fun a j a1 a2 hj => ?_) (fun a a0 hr => ?_) (fun a j a1 a2 hj => ?_) ?_ ?_ ?_ ?_ ?_ ?_⟩
      · rw [rd_j (by decide), rd_o (by omega), rd_o (by omega), rd_o (by omega), rd_o (by omega)]; exact zb3
      · intro k k1 k2; rw [rd_j (by omega), rd_o (by omega), rd_o (by omega), rd_o (by omega), rd_o (by omega)]; exact m39 k (by omega)
      · exact CB_o cb3 (by rw [rd_o (by omega), rd_o (by omega), rd_o (by omega), rd_o (by omega), rd_o (by omega)])
      · rw [rd_o a9, rd_o (by omega), rd_o (by omega), rd_o (by omega), rd_o (by omega)]; exact m3b a a9 a10
      · have e : ∀ (m : Mem) (q : Nat) (y : Int32), (sto m q (6 * c + P c) y) a j = m a j := fun m q y => by
          by_cases z : a = q
          · rw [z, rd_j hj]
          · rw [rd_o z]
        rw [rd_o (by omega), e, e, e, e, m3b a (by omega) (by omega)]
      · rw [cf a a0, rd_o (by omega), kc a (by omega) (by omega) (by omega) (by omega)]
      · rw [cf a (by omega)]
        by_cases z : a = 23
        · rw [z, rd_j hj]; exact ki 23 j hj
        · rw [rd_o z]; exact ki a j hj
      · rw [cf 22 (by decide), rd_o (by decide)]; exact v22
      · rw [rd_o (by omega), rd_o (by omega), rd_o (by omega), rd_o (by omega), rd_s, cf 23 (by decide), rd_s]
      · rw [rd_o (by omega), rd_o (by omega), rd_o (by omega), rd_s, cf 24 (by decide), rd_o (by decide), v24]
      · rw [rd_o (by omega), rd_o (by omega), rd_s, cf 25 (by decide), rd_o (by decide), v25]
      · rw [rd_o (by omega), rd_s, cf 26 (by decide), rd_o (by decide), v26]
      · exact ⟨0, by omega, by rw [cf 26 (by decide), rd_o (by decide), v26]; rfl⟩
    · exact Or.inr ⟨p0, FLD_t X1 F2⟩
  rw [if_neg z46]
  have n46 : ¬ m3 10 2 = 46 := fun q => z46 ((iK 46 (by unfold sgn; decide)).mpr q)
  have REF : ∀ w : Int32, s_X4_takeToken m3 = some (sto (sto m3 9 6 w) 9 2 5) → ¬ m20 0 40 = 0 → ∃ r, (ck (zin (nI (6 * c + P c)) 36 = true) (bn (sto m20 23 (6 * c + P c) w) fun m29 => (s_X7_next m29).bind fun m31 => zb2 (s_X7_taken m31 1) fun r33 m34 => ck (zin (nI (6 * c + P c)) 36 = true) (bn (sto m34 24 (6 * c + P c) r33) fun m36 => ck (zin (nI (6 * c + P c)) 36 = true) (bn (sto m36 26 (6 * c + P c) (m36 0 44)) fun m38 => some m38)))) = some r ∧ ((r 0 42 = 0 ∧ ∃ j mx2 m3, XS i mx j mx2 ∧ TOK L j mx2 r m3 ∧ i + 2 ≤ j ∧ mx2 9 2 = 8 ∧ mx2 9 1 = nI b ∧ (∀ k, 3 ≤ k → k ≤ 5 → mx2 9 k = mx 9 k) ∧ CB mx2 b (c + 1) ∧ PE mx2 r b (c + 1) (up P c (P c + 1)) ∧ SWt mx mx2 b c (P c) ∧ r 32 = upd (mm 32) (160 * c + it) (nI (6 * c + P c)) ∧ ∀ a, 27 ≤ a → a ≤ 35 → a ≠ 32 → r a = mm a) ∨ DD i mx r) := fun w tw hs => by
    refine ex_ck zx (ex_n ?_)
    obtain ⟨m31, e31, c31, j31, out2⟩ := tk_next (mn := sto m20 23 (6 * c + P c) w) T20 hs tw (by rw [rd_o (by omega), rd_o (by omega)]) (by rw [rd_o (by omega), rd_o (by omega)]) (by rw [rd_o (by omega), rd_o (by omega)]) (by rw [rd_j (by decide), rd_j (by decide), m39 8 (by decide)]; exact h5) (by rw [rd_s]; decide) (fun j _ => by rw [rd_o (by decide)]) (rd_o (by decide))
    rw [e31, bind_s]
    rcases out2 with ⟨p0, X2, m5, T5⟩ | ⟨p0, F2⟩
    rotate_left
    · have D : DD i mx m31 := ⟨p0, FLD_t X1 F2⟩
      rw [taken_dead D.1, zb2_s]
      exact ex_w (dead_12 zx (DD_44 D)) (fun r hr => Or.inr hr)
    have m5c := T5.2.1
    have m59 : ∀ j, j ≠ 2 → j ≠ 6 → m5 9 j = mx 9 j := fun j j2 j6 => by rw [m5c 9 (by decide), rd_j j2, rd_j j6]; exact m39 j j2
    have m5b : ∀ a, a ≠ 9 → a ≠ 10 → m5 a = m8 a := fun a a9 a10 => by rw [m5c a a10, rd_o a9, rd_o a9]; exact m3b a a9 a10
    have T5t := tt_5 (m := m5) (by rw [m5c 9 (by decide), rd_s])
    by_cases hw : m31 0 40 = 1
    · have K5 : m5 10 2 = 2 := (KT_w T5.2.2.1.1).2.1.mp hw
      have tkC : s_X4_takeToken m5 = some (sto (sto (sto (sto (sto m5 (b + 10) (6 * c + P c) w) (b + 11) (6 * c + P c) (m31 0 41)) (b + 12) (6 * c + P c) 0) (b + 13) (6 * c + P c) (m31 0 39)) 9 2 8) := by
        rw [T5t]
        unfold s_X4_takeReference
        rw [K5, if_pos rfl, m59 1 (by decide) (by decide), h9, zbk_i hb rfl, o_tell hb (by rw [m5b b (by omega) (by omega)]; exact l8) (by omega), bind_s, T5.2.2.1.2.1 (Or.inl hw), T5.2.2.1.2.2.1, show m5 9 6 = w from by rw [m5c 9 (by decide), rd_j (by decide), rd_s]]
        rfl
      obtain ⟨m34, e34, c34, j34, out3⟩ := tk_next (mn := sto m31 0 44 (m31 0 39)) T5 (by rw [hw]; decide) tkC (by rw [rd_o (by omega), rd_o (by omega), rd_o (by omega), rd_o (by omega), rd_o (by omega)]) (by rw [rd_o (by omega), rd_o (by omega), rd_o (by omega), rd_o (by omega), rd_o (by omega)]) (by rw [rd_o (by omega), rd_o (by omega), rd_o (by omega), rd_o (by omega), rd_o (by omega)]) (by rw [rd_j (by decide), rd_o (by omega), rd_o (by omega), rd_o (by omega), rd_o (by omega), m59 8 (by decide) (by decide)]; exact h5) (by rw [rd_s]; decide) (fun j _ => rd_j (by omega)) (rd_o (by decide))
      rw [taken_ok p0 hw e34, zb2_s]
      rcases out3 with ⟨p3, X3, m6, T6⟩ | ⟨p3, F3⟩
      rotate_left
      · exact ex_w (dead_12 zx ⟨p3, FLD_t (XS_t X1 X2) F3⟩) (fun r hr => Or.inr hr)
      refine ex_ck zx (ex_n (ex_ck zx (ex_n (ex_s (Or.inl ⟨?_, _, _, m6, XS_t (XS_t X1 X2) X3, TOK_m T6 (fun j _ => by rw [rd_o (by decide), rd_o (by decide)]) (by rw [rd_o (by decide), rd_o (by decide)]), by omega, rd_s, ?_, ?_, ?_, PN _ _ (fun a a9 a10 hr => ?_) (fun a j a1 a2 hj => ?_) (fun a a0 hr => ?_) (fun a j a1 a2 hj => ?_) ?_ ?_ ?_ ?_ ?_ ?_⟩)))))
      · rw [rd_o (by decide), rd_o (by decide)]; exact p3
      · rw [rd_j (by decide), rd_o (by omega), rd_o (by omega), rd_o (by omega), rd_o (by omega), m59 1 (by decide) (by decide)]; exact h9
      · intro k k1 k2; rw [rd_j (by omega), rd_o (by omega), rd_o (by omega), rd_o (by omega), rd_o (by omega)]; exact m59 k (by omega) (by omega)
      · exact CB_o cb8 (by rw [rd_o (by omega), rd_o (by omega), rd_o (by omega), rd_o (by omega), rd_o (by omega), m5b b (by omega) (by omega)])
      · rw [rd_o a9, rd_o (by omega), rd_o (by omega), rd_o (by omega), rd_o (by omega)]; exact m5b a a9 a10
      · have e : ∀ (m : Mem) (q : Nat) (y : Int32), (sto m q (6 * c + P c) y) a j = m a j := fun m q y => by
          by_cases z : a = q
          · rw [z, rd_j hj]
          · rw [rd_o z]
        rw [rd_o (by omega), e, e, e, e, m5b a (by omega) (by omega)]
      · rw [rd_o (by omega), rd_o (by omega), c34 a a0, rd_o a0, c31 a a0, rd_o (by omega), kc a (by omega) (by omega) (by omega) (by omega)]
      · have e : ∀ (m : Mem) (q : Nat) (y : Int32), (sto m q (6 * c + P c) y) a j = m a j := fun m q y => by
          by_cases z : a = q
          · rw [z, rd_j hj]
          · rw [rd_o z]
        rw [e, e, c34 a (by omega), rd_o (by omega), c31 a (by omega), e]
        exact ki a j hj
      · rw [rd_o (by decide), rd_o (by decide), c34 22 (by decide), rd_o (by decide), c31 22 (by decide), rd_o (by decide)]; exact v22
      · rw [rd_o (by omega), rd_o (by omega), rd_o (by omega), rd_o (by omega), rd_s, rd_o (by decide), rd_o (by decide), c34 23 (by decide), rd_o (by decide), c31 23 (by decide), rd_s]
      · rw [rd_o (by omega), rd_o (by omega), rd_o (by omega), rd_s, rd_o (by decide), rd_s]
      · rw [rd_o (by omega), rd_o (by omega), rd_s, rd_o (by decide), rd_o (by decide), c34 25 (by decide), rd_o (by decide), c31 25 (by decide), rd_o (by decide), v25]
      · rw [rd_o (by omega), rd_s, rd_s, rd_o (by decide), j34 44 (by omega), rd_s]
      · obtain ⟨f, hf, ef⟩ := T5.2.2.1.2.2.2
        exact ⟨f, hf, by rw [rd_s, rd_o (by decide), j34 44 (by omega), rd_s]; exact ef⟩
    · have nK : ¬ m5 10 2 = 2 := fun q => hw ((KT_w T5.2.2.1.1).2.1.mpr q)
      rw [taken_bad p0 hw, zb2_s]
      refine ex_w (dead_12 zx (DD_44 (DD_f p0 (by decide) (FLD_t (XS_t X1 X2) (tk_fail (mf := m5) (k := 2) T5 (by decide) ?_))))) (fun r hr => Or.inr hr)
      rw [T5t]
      unfold s_X4_takeReference
      rw [if_neg nK, b_id, fail_eq]
  rw [is_eq m20 64, bind_s, if_bb]
  by_cases z64 : m20 0 42 = 0 ∧ m20 0 40 = 4 ∧ m20 0 41 = 64
  · have K := (iK 64 (by unfold sgn; decide)).mp z64
    rw [if_pos z64, bind_s, if_bb, if_pos z64, bind_s]
    refine REF 1 ?_ (by rw [z64.2.1]; decide)
    rw [T4]
    unfold s_X4_takeTest
    rw [K, if_neg (by decide), if_pos rfl, if_pos rfl]
    rfl
  rw [if_neg z64, is_eq m20 33, bind_s, if_bb]
  by_cases z33 : m20 0 42 = 0 ∧ m20 0 40 = 4 ∧ m20 0 41 = 33
  · have K := (iK 33 (by unfold sgn; decide)).mp z33
    rw [if_pos z33, bind_s, if_bb, if_neg z64, bind_s]
    refine REF 2 ?_ (by rw [z33.2.1]; decide)
    rw [T4]
    unfold s_X4_takeTest
    rw [K, if_neg (by decide), if_neg (by decide), if_pos rfl, if_neg (by decide)]
    rfl
  rw [if_neg z33]
  have n64 : ¬ m3 10 2 = 64 := fun q => z64 ((iK 64 (by unfold sgn; decide)).mpr q)
  have n33 : ¬ m3 10 2 = 33 := fun q => z33 ((iK 33 (by unfold sgn; decide)).mpr q)
  refine ex_ck zx (ex_n ?_)
  have s0 : (sto m20 23 (6 * c + P c) 3) 0 = m20 0 := rd_o (by decide)
  by_cases hw : m20 0 40 = 2
  rotate_left
  · have nK : ¬ m3 10 2 = 3 := fun q => hw ((KT_w K20.1).2.2.1.mpr q)
    rw [taken_bad (by rw [s0]; exact n20) (by rw [s0]; exact hw), zb2_s]
    have FF : FLD i mx (m20 0 39) := FLD_t X1 (tk_fail (mf := m3) (k := 2) T20 (by decide) (by
      rw [T4]
      unfold s_X4_takeTest
      rw [if_neg n46, if_neg n64, if_neg n33, if_neg nK, b_id, fail_eq]))
    exact ex_w (dead_2 (r45 := (sto m20 23 (6 * c + P c) 3) 0 41) zx (DD_44 (DD_f (by rw [s0]; exact n20) (by decide) (by rw [s0]; exact FF)))) (fun r hr => Or.inr hr)
  have K3' : m3 10 2 = 3 := (KT_w K20.1).2.2.1.mp hw
  have nv3 : m3 10 4 = m20 0 41 := K20.2.1 (Or.inr hw)
  have tkD : s_X4_takeToken m3 = some (sto (sto m3 9 7 (m20 0 41)) 9 2 6) := by
    rw [T4]
    unfold s_X4_takeTest
    rw [if_neg n46, if_neg n64, if_neg n33, if_pos K3', nv3]
    rfl
  obtain ⟨m46, e46, c46, j46, out2⟩ := tk_next (mn := sto (sto m20 23 (6 * c + P c) 3) 0 44 ((sto m20 23 (6 * c + P c) 3) 0 39)) T20 (by rw [hw]; decide) tkD (by rw [rd_o (by omega), rd_o (by omega)]) (by rw [rd_o (by omega), rd_o (by omega)]) (by rw [rd_o (by omega), rd_o (by omega)]) (by rw [rd_j (by decide), rd_j (by decide), m39 8 (by decide)]; exact h5) (by rw [rd_s]; decide) (fun j _ => by rw [rd_j (by omega), rd_o (by decide)]) (by rw [rd_o (by decide), rd_o (by decide)])
  rw [taken_ok (by rw [s0]; exact n20) (by rw [s0]; exact hw) e46, zb2_s, s0]
  rcases out2 with ⟨p0, X2, m5, T5⟩ | ⟨p0, F2⟩
  rotate_left
  · exact ex_w (dead_2 (r45 := m20 0 41) zx ⟨p0, FLD_t X1 F2⟩) (fun r hr => Or.inr hr)
  have X12 := XS_t X1 X2
  have m5c := T5.2.1
  have m59 : ∀ j, j ≠ 2 → j ≠ 7 → m5 9 j = mx 9 j := fun j j2 j6 => by rw [m5c 9 (by decide), rd_j j2, rd_j j6]; exact m39 j j2
  have m597 : m5 9 7 = m20 0 41 := by rw [m5c 9 (by decide), rd_j (by decide), rd_s]
  have m5b : ∀ a, a ≠ 9 → a ≠ 10 → m5 a = m8 a := fun a a9 a10 => by rw [m5c a a10, rd_o a9, rd_o a9]; exact m3b a a9 a10
  have T6t := tt_6 (m := m5) (by rw [m5c 9 (by decide), rd_s])
  refine ex_ck zx (ex_n ?_)
  have s4 : (sto m46 24 (6 * c + P c) (m20 0 41)) 0 = m46 0 := rd_o (by decide)
  have T48 : TOK L (i + 1 + 1) (sto (sto m3 9 7 (m20 0 41)) 9 2 6) (sto m46 24 (6 * c + P c) (m20 0 41)) m5 := TOK_m T5 (fun j _ => by rw [s4]) (rd_o (by decide))
  by_cases hd : m46 0 40 = 5
  rotate_left
  · have nK : ¬ m5 10 2 = 5 := fun q => hd ((KT_w T5.2.2.1.1).2.2.2.2.mpr q)
    rw [taken_bad (by rw [s4]; exact p0) (by rw [s4]; exact hd), zb2_s]
    have FF : FLD i mx (m46 0 39) := FLD_t X12 (tk_fail (mf := m5) (k := 2) T5 (by decide) (by
      rw [T6t]
      unfold s_X4_takeSign
      rw [if_neg nK, b_id, fail_eq]))
    exact ex_w (dead_3 zx (DD_44 (DD_f (by rw [s4]; exact p0) (by decide) (by rw [s4]; exact FF)))) (fun r hr => Or.inr hr)
  have K5 : m5 10 2 = 5 := (KT_w T5.2.2.1.1).2.2.2.2.mp hd
  have tkE : s_X4_takeToken m5 = some (sto m5 9 2 7) := by
    rw [T6t]
    unfold s_X4_takeSign
    rw [if_pos K5]
    rfl
  obtain ⟨m51, e51, c51, j51, out3⟩ := tk_next (mn := sto (sto m46 24 (6 * c + P c) (m20 0 41)) 0 44 ((sto m46 24 (6 * c + P c) (m20 0 41)) 0 39)) T48 (by rw [s4, hd]; decide) tkE (by rw [rd_o (by omega)]) (by rw [rd_o (by omega)]) (by rw [rd_o (by omega)]) (by rw [rd_j (by decide), m59 8 (by decide) (by decide)]; exact h5) (by rw [rd_s]; decide) (fun j _ => by rw [rd_j (by omega)]) (by rw [rd_o (by decide)])
  rw [taken_ok (by rw [s4]; exact p0) (by rw [s4]; exact hd) e51, zb2_s]
  rcases out3 with ⟨p3, X3, m6, T6⟩ | ⟨p3, F3⟩
  rotate_left
  · exact ex_w (dead_3 zx ⟨p3, FLD_t X12 F3⟩) (fun r hr => Or.inr hr)
  have X13 := XS_t X12 X3
  have m6c := T6.2.1
  have m69 : ∀ j, j ≠ 2 → j ≠ 7 → m6 9 j = mx 9 j := fun j j2 j6 => by rw [m6c 9 (by decide), rd_j j2]; exact m59 j j2 j6
  have m697 : m6 9 7 = m20 0 41 := by rw [m6c 9 (by decide), rd_j (by decide)]; exact m597
  have m6b : ∀ a, a ≠ 9 → a ≠ 10 → m6 a = m8 a := fun a a9 a10 => by rw [m6c a a10, rd_o a9]; exact m5b a a9 a10
  have T7t := tt_7 (m := m6) (by rw [m6c 9 (by decide), rd_s])
  have m680 : m6 9 8 = 0 := by rw [m69 8 (by decide) (by decide)]; exact h5
  have w24 : m51 24 (6 * c + P c) = m20 0 41 := by rw [c51 24 (by decide), rd_o (by decide), rd_s]
  show ∃ r, tl3 (6 * c + P c) m51 = some r ∧ _
  unfold tl3
  rw [if_pos p3, w24]
  by_cases hq : m51 0 40 = 2
  rotate_left
  · have nK : ¬ m6 10 2 = 3 := fun q => hq ((KT_w T6.2.2.1.1).2.2.1.mpr q)
    rw [if_neg hq, taken_bad p3 hq, zb2_s]
    refine ex_ck zx (ex_n (ex_s (Or.inr (DD_c (DD_44 (DD_f p3 (by decide) (FLD_t X13 (tk_fail (mf := m6) (k := 2) T6 (by decide) ?_)))) (by decide)))))
    rw [T7t]
    unfold s_X4_takeLastNumber s_X4_isNumberFrom
    rw [if_neg nK, b_id, fail_eq, bind_s, if_neg (show ¬ (sto (sto m6 9 8 2) 9 9 (m6 10 3)) 9 8 = 0 by rw [rd_j (by decide), rd_s]; decide), zb2_s, if_pos rfl]
  have K6 : m6 10 2 = 3 := (KT_w T6.2.2.1.1).2.2.1.mp hq
  have nv6 : m6 10 4 = m51 0 41 := T6.2.2.1.2.1 (Or.inr hq)
  rw [if_pos hq]
  refine ex_ck zx ?_
  by_cases hle : m20 0 41 ≤ m51 0 41
  rotate_left
  · rw [if_neg hle, fails_eq, bind_s]
    have D : DD i mx (fl m51 3 (m51 0 39)) := DD_f p3 (by decide) (FLD_t X13 (tk_fail (mf := m6) (k := 3) T6 (by decide) (by
      rw [T7t]
      unfold s_X4_takeLastNumber s_X4_isNumberFrom
      rw [if_pos K6, nv6, m697, if_pos (Int32.not_le.mp hle), b_id, fail_eq, bind_s, if_neg (show ¬ (sto (sto m6 9 8 3) 9 9 (m6 10 3)) 9 8 = 0 by rw [rd_j (by decide), rd_s]; decide), zb2_s, if_pos rfl])))
    exact ex_w (dead_25 zx D) (fun r hr => Or.inr hr)
  rw [if_pos hle]
  have tkF : s_X4_takeToken m6 = some (sto (sto (sto (sto (sto m6 (b + 10) (6 * c + P c) 3) (b + 11) (6 * c + P c) (m20 0 41)) (b + 12) (6 * c + P c) (m51 0 41)) (b + 13) (6 * c + P c) 0) 9 2 8) := by
    rw [T7t]
    unfold s_X4_takeLastNumber s_X4_isNumberFrom
    rw [if_pos K6, nv6, m697, if_neg (Int32.not_lt.mpr hle), if_pos (Int32.le_iff_toInt_le.mpr (by have := (m51 0 41).toInt_lt; have e : (2147483647 : Int32).toInt = 2147483647 := by decide
                                                                                                   omega)), bind_s, if_pos m680, zb2_s, if_neg (by decide), m69 1 (by decide) (by decide), h9, zbk_i hb rfl, o_tell hb (by rw [m6b b (by omega) (by omega)]; exact l8) (by omega), bind_s, nv6, m697]
    rfl
  obtain ⟨m65, e65, c65, j65, out4⟩ := tk_next (mn := sto m51 0 44 (m51 0 39)) T6 (by rw [hq]; decide) tkF (by rw [rd_o (by omega), rd_o (by omega), rd_o (by omega), rd_o (by omega), rd_o (by omega)]) (by rw [rd_o (by omega), rd_o (by omega), rd_o (by omega), rd_o (by omega), rd_o (by omega)]) (by rw [rd_o (by omega), rd_o (by omega), rd_o (by omega), rd_o (by omega), rd_o (by omega)]) (by rw [rd_j (by decide), rd_o (by omega), rd_o (by omega), rd_o (by omega), rd_o (by omega)]; exact m680) (by rw [rd_s]; decide) (fun j _ => rd_j (by omega)) (rd_o (by decide))
  rw [taken_ok p3 hq e65, zb2_s]
  rcases out4 with ⟨p4, X4, m7, T7⟩ | ⟨p4, F4⟩
  rotate_left
  · exact ex_ck zx (ex_n (ex_s (Or.inr (DD_c ⟨p4, FLD_t X13 F4⟩ (by decide)))))
  refine ex_ck zx (ex_n (ex_s (Or.inl ⟨?_, _, _, m7, XS_t X13 X4, TOK_m T7 (fun j _ => by rw [rd_o (by decide)]) (by rw [rd_o (by decide)]), by omega, rd_s, ?_, ?_, ?_, PN _ _ (fun a a9 a10 hr => ?_) (fun a j a1 a2 hj => ?_) (fun a a0 hr => ?_) (fun a j a1 a2 hj => ?_) ?_ ?_ ?_ ?_ ?_ ?_⟩)))
  · rw [rd_o (by decide)]; exact p4
  · rw [rd_j (by decide), rd_o (by omega), rd_o (by omega), rd_o (by omega), rd_o (by omega), m69 1 (by decide) (by decide)]; exact h9
  · intro k k1 k2; rw [rd_j (by omega), rd_o (by omega), rd_o (by omega), rd_o (by omega), rd_o (by omega)]; exact m69 k (by omega) (by omega)
  · exact CB_o cb8 (by rw [rd_o (by omega), rd_o (by omega), rd_o (by omega), rd_o (by omega), rd_o (by omega), m6b b (by omega) (by omega)])
  · rw [rd_o a9, rd_o (by omega), rd_o (by omega), rd_o (by omega), rd_o (by omega)]; exact m6b a a9 a10
  · have e : ∀ (m : Mem) (q : Nat) (y : Int32), (sto m q (6 * c + P c) y) a j = m a j := fun m q y => by
      by_cases z : a = q
      · rw [z, rd_j hj]
      · rw [rd_o z]
    rw [rd_o (by omega), e, e, e, e, m6b a (by omega) (by omega)]
  · rw [rd_o (by omega), c65 a a0, rd_o a0, c51 a a0, rd_o a0, rd_o (by omega), c46 a a0, rd_o a0, rd_o (by omega), kc a (by omega) (by omega) (by omega) (by omega)]
  · have e : ∀ (m : Mem) (q : Nat) (y : Int32), (sto m q (6 * c + P c) y) a j = m a j := fun m q y => by
      by_cases z : a = q
      · rw [z, rd_j hj]
      · rw [rd_o z]
    rw [e, c65 a (by omega), rd_o (by omega), c51 a (by omega), rd_o (by omega), e, c46 a (by omega), rd_o (by omega), e]
    exact ki a j hj
  · rw [rd_o (by decide), c65 22 (by decide), rd_o (by decide), c51 22 (by decide), rd_o (by decide), rd_o (by decide), c46 22 (by decide), rd_o (by decide), rd_o (by decide)]; exact v22
  · rw [rd_o (by omega), rd_o (by omega), rd_o (by omega), rd_o (by omega), rd_s, rd_o (by decide), c65 23 (by decide), rd_o (by decide), c51 23 (by decide), rd_o (by decide), rd_o (by decide), c46 23 (by decide), rd_o (by decide), rd_s]
  · rw [rd_o (by omega), rd_o (by omega), rd_o (by omega), rd_s, rd_o (by decide), c65 24 (by decide), rd_o (by decide), w24]
  · rw [rd_o (by omega), rd_o (by omega), rd_s, rd_s]
  · rw [rd_o (by omega), rd_s, rd_o (by decide), c65 26 (by decide), rd_o (by decide), c51 26 (by decide), rd_o (by decide), rd_o (by decide), c46 26 (by decide), rd_o (by decide), rd_o (by decide), v26]
  · exact ⟨0, by omega, by rw [rd_o (by decide), c65 26 (by decide), rd_o (by decide), c51 26 (by decide), rd_o (by decide), rd_o (by decide), c46 26 (by decide), rd_o (by decide), rd_o (by decide), v26]; rfl⟩
