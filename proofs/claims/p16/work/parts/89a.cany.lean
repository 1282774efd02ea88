/-! both readers: what stands in one of each -/
theorem TOK_TA {L i : Nat} {mx mm m1 : Mem} (h : TOK L i mx mm m1) : TA mm L := by
  obtain ⟨h1, h2, h3, h4, h5, h6, ⟨h7, h8, h9, hL⟩, a, h10, h11, h12, h13⟩ := h
  exact ⟨hL, h8, by rw [h4]; decide, a, h11, by omega⟩
theorem count_dead {d : Mem} {k : Int32} (h : ¬ d 0 42 = 0) : s_X7_readCount d k = some d := by
  unfold s_X7_readCount
  rw [is_eq, bind_s, if_bb, if_neg (fun z => h z.1)]
theorem close_dead {d : Mem} {n : Nat} {y : Int32} (h : ¬ d 0 42 = 0) : l_X7_readAny_151 (n + 1) y d = some (y, d) := by
  unfold l_X7_readAny_151
  refine zlp_off ?_
  unfold t_X7_readAny_151
  rw [is_eq, bind_s, if_bb, if_neg (fun z => h z.1)]
theorem TOK_i {L i : Nat} {mx mm m1 : Mem} (h : TOK L i mx mm m1) : i ≤ 400 := by
  obtain ⟨h1, h2, h3, h4, h5, h6, ⟨h7, h8, h9, hL⟩, a, h10, h11, h12, h13, -⟩ := h
  omega
theorem SK_T {L i b : Nat} {mx mm m1 : Mem} (h : TOK L i mx mm m1) (hb : isb b) : SK b mx m1 := by
  have := isb_e hb
  exact ⟨by rw [h.2.1 b (by omega)], h.2.1 (b + 7) (by omega), h.2.1 (b + 8) (by omega)⟩
theorem GA_n {mx mx2 mm mm2 : Mem} {b c d t z l h i j p : Nat} {fs S0 : Nat → Nat} (g : GA mx mm b c d t z l h i p fs S0) (e4 : mx2 9 4 = mx 9 4) (e5 : mx2 9 5 = mx 9 5) (k : SK b mx mx2) (hj : i ≤ j) (hm : ∀ a, 27 ≤ a → a ≤ 35 → mm2 a = mm a) : GA mx2 mm2 b c d t z l h j p fs S0 := by
  obtain ⟨bh, ⟨i1, i2, i3, i4, i5, i6, i7⟩, gs⟩ := g
  refine ⟨fun l l1 l2 => by rw [e4, e5]; exact bh l l1 l2, ⟨i1, by rw [hm 28 (by decide) (by decide)]; exact i2, by rw [hm 29 (by decide) (by decide), hm 34 (by decide) (by decide)]; exact i3, by rw [hm 30 (by decide) (by decide)]; exact i4, by rw [hm 31 (by decide) (by decide)]; exact i5, i6, i7⟩, GS_w gs k hj (fun F T w => ?_)⟩
  obtain ⟨X, T0, e, w1, w2⟩ := w
  refine ⟨X, T0, e, LVL_c d t T0 (fun x jj x1 x2 _ => by rw [hm x (by omega) (by omega)]) (fun l _ => by rw [hm 34 (by decide) (by decide)]) (fun l _ _ => by rw [hm 35 (by decide) (by decide)]) (fun l _ => by rw [e4, e5]; exact ⟨rfl, rfl⟩) w1, ITM_c (tre_dk (fun x jj x1 x2 _ _ => by rw [hm x (by omega) (by omega)])) ?_ ?_ w2⟩
  · show mm2 32 _ = mm 32 _
    rw [hm 32 (by decide) (by decide)]
  · show mm2 28 _ = mm 28 _
    rw [hm 28 (by decide) (by decide)]
theorem GA_ec {mx mx2 mm mm2 : Mem} {b c d t z i j p : Nat} {fs S0 : Nat → Nat} (g : GA mx mm b c d t z 1 1 i p fs S0) (hi : i ≤ 400) (hc : c < 6) (hp : p ≤ 6) (e9 : ∀ k, 3 ≤ k → k ≤ 5 → mx2 9 k = mx 9 k) (e : EC mx mm mx2 mm2 i j b c t) : ∃ l h, GA mx2 mm2 b c d t z l h j p fs S0 := by
  rcases e with ⟨e1, e2, e3⟩ | ⟨l, h, e1, e2, e3, e4, e5, e6, e7⟩
  · exact ⟨1, 1, GA_n g (e9 4 (by decide) (by decide)) (e9 5 (by decide) (by decide)) e2 e1 e3⟩
  · exact ⟨l, h, GA_count g hi hc hp e1 e2 (e9 4 (by decide) (by decide)) (e9 5 (by decide) (by decide)) e4 e3 e5 e6 e7⟩
theorem c_close {L c b p z : Nat} {P fs S0 : Nat → Nat} (hb : isb b) (hc : c < 6) (hz : z ≤ 160) : ∀ (lev n i t vl vh : Nat) (mx mm m1 : Mem), lev < n → lev ≤ 6 → TOK L i mx mm m1 → AIS mx m1 → mx 9 1 = nI b → mx 9 3 = nI lev → CB mx b (c + 1) → PE mx mm b (c + 1) P → DC mm c p z → GA mx mm b c lev t z vl vh i p fs S0 → (∀ l, 1 ≤ l → l ≤ lev → ∃ u, u < z ∧ mm 35 l = nI (160 * c + u)) → ∃ q, l_X7_readAny_151 n (nI lev) mm = some q ∧ ((q.2 0 42 = 0 ∧ ∃ l j mx2 m3, q.1 = nI l ∧ l ≤ lev ∧ XS i mx j mx2 ∧ TOK L j mx2 q.2 m3 ∧ AIS mx2 m3 ∧ mx2 9 1 = nI b ∧ mx2 9 3 = nI l ∧ CB mx2 b (c + 1) ∧ PE mx2 q.2 b (c + 1) P ∧ (l = 0 ∨ ¬ m3 10 2 = 41) ∧ ∃ t vl vh, GA mx2 q.2 b c l t z vl vh j p fs S0) ∨ DD i mx q.2) := by
  have hb2 := isb_e hb
  intro lev
  induction lev with
  | zero =>
    intro n i t vl vh mx mm m1 hn _ h ha h9 h3 hC hE hD hG _
    obtain ⟨n, rfl⟩ : ∃ q, n = q + 1 := ⟨n - 1, by omega⟩
    refine ⟨(nI 0, mm), ?_, Or.inl ⟨h.2.2.2.1, 0, i, mx, m1, rfl, Nat.le_refl _, XS_r, h, ha, h9, h3, hC, hE, Or.inl rfl, t, vl, vh, hG⟩⟩
    unfold l_X7_readAny_151
    refine zlp_off ?_
    unfold t_X7_readAny_151
    rw [is_eq, bind_s, if_bb, if_pos (show nI 0 ≤ 0 by decide)]
    by_cases q : mm 0 42 = 0 ∧ mm 0 40 = 4 ∧ mm 0 41 = 41
    · rw [if_pos q]
    · rw [if_neg q]
  | succ d ih =>
    intro n i t vl vh mx mm m1 hn h6 h ha h9 h3 hC hE hD hG h35
    obtain ⟨n, rfl⟩ : ∃ q, n = q + 1 := ⟨n - 1, by omega⟩
    have q9 : m1 9 = mx 9 := h.2.1 9 (by decide)
    have h5 := h.2.2.2.2.1
    by_cases zc : mm 0 42 = 0 ∧ mm 0 40 = 4 ∧ mm 0 41 = 41
    rotate_left
    · refine ⟨(nI (d + 1), mm), ?_, Or.inl ⟨h.2.2.2.1, d + 1, i, mx, m1, rfl, Nat.le_refl _, XS_r, h, ha, h9, h3, hC, hE, Or.inr (fun q => zc ((TOK_is h (by unfold sgn; decide)).mpr q)), t, vl, vh, hG⟩⟩
      unfold l_X7_readAny_151
      refine zlp_off ?_
      unfold t_X7_readAny_151
      rw [is_eq, bind_s, if_bb, if_neg zc]
    have K := (TOK_is h (by unfold sgn; decide)).mp zc
    have cb1 : CB m1 b (c + 1) := CB_o hC (h.2.1 b (by omega))
    obtain ⟨m2, e2, t2, s2, d2, m4c, m6c, sc1, sc2, kc6, fc4, fc5⟩ := tb_close cb1 (by rw [q9]; exact h9) K (by rw [q9]; exact h3) (by omega)
    have tkA : s_X4_takeToken m1 = some m2 := (ai_tk ha q9).trans e2
    have m2b : ∀ a, a ≠ 9 → a ≠ 10 → a ≠ b → a ≠ b + 7 → a ≠ b + 8 → m2 a = mx a := fun a a9 a10 a0 a7 a8 => by rw [t2.1 a a9 a0 a7 a8]; exact h.2.1 a a10
    have m29 : ∀ j, j < 2 ∨ 5 < j → m2 9 j = mx 9 j := fun j hj => by rw [t2.2.1 j hj, q9]
    obtain ⟨m36, e36, c36, j36, out⟩ := tk_next (mn := mm) h (by rw [zc.2.1]; decide) tkA (t2.1 10 (by omega) (by omega) (by omega) (by omega)) (t2.1 7 (by omega) (by omega) (by omega) (by omega)) (t2.1 8 (by omega) (by omega) (by omega) (by omega)) (by rw [m29 8 (by omega)]; exact h5) (by rw [s2]; decide) (fun _ _ => rfl) rfl
    obtain ⟨u, hu, eu⟩ := h35 (d + 1) (by omega) (Nat.le_refl _)
    have step : ∀ m38, s_X7_readCount m36 (nI (160 * c + u)) = some m38 → l_X7_readAny_151 (n + 1) (nI (d + 1)) mm = l_X7_readAny_151 n (nI d) m38 := fun m38 e38 => by
      unfold l_X7_readAny_151
      refine zlp_on ?_
      unfold t_X7_readAny_151
      rw [is_eq, bind_s, if_bb, if_pos zc, if_neg (nn0 (by omega) (by omega)), ck_p (zin_nI (by omega) (by decide)), ix_nI (n := d + 1) (by omega), pk_m1]
      simp only [bn]
      rw [e36, bind_s, eu, e38, bind_s]
    rcases out with ⟨o0, X1, m3, T3⟩ | ⟨o0, F⟩
    rotate_left
    · obtain ⟨n, rfl⟩ : ∃ q, n = q + 1 := ⟨n - 1, by omega⟩
      exact ⟨_, (step m36 (count_dead o0)).trans (close_dead o0), Or.inr ⟨o0, F⟩⟩
    have E3 : PE m2 m36 b (c + 1) P := PE_k (fun a hr => m2b a (by omega) (by omega) (by omega) (by omega) (by omega)) (fun a a1 a2 => c36 a (by omega)) hE
    have D36 : DC m36 c p z := DC_c (fun a hr => c36 a (by omega)) hD
    have hi4 := TOK_i h
    have hp6 := hD.2.1
    have G1 := GA_n (mx2 := m1) (mm2 := mm) hG (by rw [q9]) (by rw [q9]) (SK_T h hb) (Nat.le_refl _) (fun _ _ _ => rfl)
    have G2 := GD_of (GC_of G1 hi4 hc hp6 (by omega) hz sc1) hi4 hc hp6 (by omega) sc2
    have G3 : GA m2 m36 b c d u z 1 1 (i + 1) p fs S0 := GA_close G2 hc (by omega) hz kc6 fc4 fc5 eu hu (fun a a1 a2 => c36 a (by omega)) (by omega)
    obtain ⟨m38, e38, out2⟩ := c_count (it := u) T3 s2 (by rw [m29 1 (by omega)]; exact h9) t2.2.2 E3 (by omega)
    obtain ⟨m38', e38', df, dc, -⟩ := readCount_eq (TOK_TA T3) hc hu hz (fun _ => D36)
    have e3 : m38' = m38 := Option.some.inj (e38'.symm.trans e38)
    rw [e3] at df dc
    rcases out2 with ⟨o3, j, mx2, m4, X2, T4, A4, x1, x3, xC, xE, xec⟩ | D
    · obtain ⟨l4, h4, G4⟩ := GA_ec G3 (TOK_i T3) hc hp6 x3 xec
      obtain ⟨q, e, r⟩ := ih n j u l4 h4 mx2 m38 m4 (by omega) (by omega) T4 A4 x1 (by rw [x3 3 (by decide) (by decide)]; exact d2) xC xE (dc o3) G4 (fun l l1 l2 => by
        obtain ⟨v, hv, ev⟩ := h35 l l1 (by omega)
        exact ⟨v, hv, by rw [df.2.2.2 35 (by decide) (by decide), c36 35 (by decide)]; exact ev⟩)
      refine ⟨q, (step m38 e38).trans e, ?_⟩
      rcases r with ⟨r0, l, j2, mx3, m5, r1, r2, r3, r4, r5⟩ | ⟨r0, r1⟩
      · exact Or.inl ⟨r0, l, j2, mx3, m5, r1, by omega, XS_t (XS_t X1 X2) r3, r4, r5⟩
      · exact Or.inr ⟨r0, FLD_t (XS_t X1 X2) r1⟩
    · obtain ⟨n, rfl⟩ : ∃ q, n = q + 1 := ⟨n - 1, by omega⟩
      exact ⟨_, (step m38 e38).trans (close_dead D.1), Or.inr ⟨D.1, FLD_t X1 D.2⟩⟩
def CJ (L c b i0 : Nat) (mx0 : Mem) (fs S0 : Nat → Nat) (i11 i12 : Int32) (mm : Mem) : Prop := DD i0 mx0 mm ∨ (mm 0 42 = 0 ∧ ∃ (lev j : Nat) (mx m1 : Mem) (P : Nat → Nat) (z : Nat), i11 = nI lev ∧ lev ≤ 6 ∧ XS i0 mx0 j mx ∧ TOK L j mx mm m1 ∧ mx 9 1 = nI b ∧ mx 9 3 = nI lev ∧ CB mx b (c + 1) ∧ PE mx mm b (c + 1) P ∧ (mm 27 c = nI z ∧ z ≤ 160) ∧ ((¬ i12 = 0 ∧ (mx 9 2 = 3 ∨ (mx 9 2 = 2 ∧ (m1 10 2 = 40 ∨ m1 10 2 = 3))) ∧ GB mx mm b c lev z j (P c) fs S0) ∨ (i12 = 0 ∧ lev = 0 ∧ AIS mx m1 ∧ ¬ m1 10 2 = 44 ∧ ¬ m1 10 2 = 124 ∧ ∃ t vl vh, GA mx mm b c 0 t z vl vh j (P c) fs S0)))
theorem one_tk {mx m1 : Mem} (h : mx 9 2 = 3 ∨ (mx 9 2 = 2 ∧ (m1 10 2 = 40 ∨ m1 10 2 = 3))) (e : m1 9 = mx 9) : s_X4_takeToken m1 = s_X4_takeOne m1 := by
  rcases h with h | ⟨h, k⟩
  · exact tt_3 (by rw [e]; exact h)
  · rw [tt_2 (by rw [e]; exact h)]
    unfold s_X4_takeBody
    rcases k with k | k
    · rw [if_pos k, b_id]
    · rw [k, if_neg (by decide), if_pos rfl, b_id]
theorem fl_dead {m : Mem} {x y : Int32} (h : ¬ m 0 42 = 0) : fl m x y = m := if_neg h
theorem c_any_step {L c b i0 : Nat} {fs S0 : Nat → Nat} {m0 mx0 m : Mem} {i11 i12 : Int32} (h21 : m0 0 21 = nI c) (hc : c < 6) (hb : isb b) (hI : AI c m0 L i11 m) (h0 : m 0 42 = 0) (hi : ¬ i12 = 0) (hJ : CJ L c b i0 mx0 fs S0 i11 i12 m) : ∃ a, t_X7_readAny_30 i11 i12 m = some (.inl a) ∧ CJ L c b i0 mx0 fs S0 a.1 a.2.1 a.2.2 := by
  have hb2 := isb_e hb
  obtain ⟨f, al⟩ := hI
  obtain ⟨lev, p, z, el, hA⟩ := al h0
  rcases hJ with D | ⟨-, lev', j, mx, m1, P, z9, el', hl6, X, T, h9, h3, hC, hE, ⟨hz27, hz160⟩, hs⟩
  · exact absurd h0 D.1
  have e1 : lev' = lev := by
    have := el.symm.trans el'
    exact ((nI_eq (by have := hA.1; omega) (by omega)).mp this).symm
  subst e1
  subst el
  have hst := (hs.resolve_right (fun q => hi q.1)).2.1
  have gb := (hs.resolve_right (fun q => hi q.1)).2.2
  clear hs
  have ez9 : z = z9 := (nI_eq (by have := hA.2.2.1.2.2.2.1; omega) (by omega)).mp (hA.2.2.1.2.2.1.symm.trans hz27)
  subst ez9
  have epP : P c = p := by
    have pe := hE c (Nat.lt_succ_self c)
    have h6 := pe.1
    have hp6 := hA.2.2.1.2.1
    exact (nI_eq (by omega) (by omega)).mp (pe.2.1.symm.trans hA.2.2.1.1)
  have hj4 := TOK_i T
  have q9 : m1 9 = mx 9 := T.2.1 9 (by decide)
  have h5 := T.2.2.2.2.1
  have tk := one_tk hst q9
  have cb1 : CB m1 b (c + 1) := CB_o hC (T.2.1 b (by omega))
  have z8 : zin (nI lev') 8 = true := zin_nI (by omega) (by decide)
  have bad : ∀ (x : Int32) (y1 y2 : Int32), 0 < x → FLD j mx (m 0 39) → CJ L c b i0 mx0 fs S0 (y1, y2, fl m x (m 0 39)).1 (y1, y2, fl m x (m 0 39)).2.1 (y1, y2, fl m x (m 0 39)).2.2 := fun x y1 y2 hx hF => Or.inl (DD_f h0 hx (FLD_t X hF))
  unfold t_X7_readAny_30
  rw [if_neg hi, if_pos h0, is_eq, bind_s, if_bb]
  by_cases zd : m 0 42 = 0 ∧ m 0 40 = 4 ∧ m 0 41 = 40
  · have K := (TOK_is T (by unfold sgn; decide)).mp zd
    rw [if_pos zd]
    by_cases h66 : lev' = 6
    · rw [if_pos (show nI lev' = 6 by rw [h66]; rfl), fails_eq, bind_s]
      refine ⟨_, rfl, bad 4 _ _ (by decide) (tk_fail (mf := m1) (k := 4) T (by decide) ?_)⟩
      rw [tk]
      unfold s_X4_takeOne
      rw [if_pos K, b_id]
      unfold s_X4_takeOpening
      rw [q9, h3, h66, if_neg (by decide), b_id, fail_eq]
    · have hl : lev' < 6 := by omega
      rw [if_neg (show ¬ nI lev' = 6 from fun q => h66 ((nI_eq (b := 6) (by omega) (by decide)).mp q)), ix_nI (n := lev') (by omega), ck_p z8]
      obtain ⟨a1, a2, a3, a4, a5⟩ := hA
      have p6 := a3.2.1
      obtain ⟨u, hu, eu, -⟩ := a4 lev' (Nat.le_refl _)
      have z88 : zin (nI (lev' + 1)) 8 = true := zin_nI (by omega) (by decide)
      rw [eu, comes_eq (FR_21 f h21) hc a3.2.2.1 (by omega), zb2_s, nI_s1]
      have f1 : FR c m L (cm m c z 2 (nI (160 * c + u))) := FR_D (cm_DF f.1)
      have d1 : DC (cm m c z 2 (nI (160 * c + u))) c p (z + 1) := cm_DC a3 (by omega) (Or.inr ⟨Or.inr rfl, u, hu, rfl⟩)
      have f2 := FR_t f1 (FR_c (c := c) (a := 35) (i := lev' + 1) (x := nI (160 * c + z)) f1.1 (by omega))
      have d2 : DC (sto (cm m c z 2 (nI (160 * c + u))) 35 (lev' + 1) (nI (160 * c + z))) c p (z + 1) := DC_u (by omega) d1
      have f3 := FR_t f2 (FR_D (cm_DF (c := c) (z := z + 1) (what := 0) (within := nI (160 * c + z)) f2.1))
      have d3 := cm_DC (what := 0) (within := nI (160 * c + z)) d2 (by omega) (Or.inl ⟨rfl, Or.inr ⟨z, by omega, rfl⟩⟩)
      simp only [bn]
      rw [ck_p z88, ix_nI (n := lev' + 1) (by omega), comes_eq (FR_21 (FR_t f f2) h21) hc d2.2.2.1 (by omega), zb2_s, comes_eq (FR_21 (FR_t f f3) h21) hc d3.2.2.1 (by omega), zb2_s, ck_p z88]
      have eo : ∀ a, a < 27 ∨ a = 33 → (sto (cm (cm (sto (cm m c z 2 (nI (160 * c + u))) 35 (lev' + 1) (nI (160 * c + z))) c (z + 1) 0 (nI (160 * c + z))) c (z + 1 + 1) 1 (nI (160 * c + (z + 1)))) 34 (lev' + 1) (nI (160 * c + (z + 1 + 1)))) a = m a := fun a ha => by
        rw [rd_o (by omega), cm_o (by omega), cm_o (by omega), rd_o (by omega), cm_o (by omega)]
      have en27 : (sto (cm (cm (sto (cm m c z 2 (nI (160 * c + u))) 35 (lev' + 1) (nI (160 * c + z))) c (z + 1) 0 (nI (160 * c + z))) c (z + 1 + 1) 1 (nI (160 * c + (z + 1)))) 34 (lev' + 1) (nI (160 * c + (z + 1 + 1)))) 27 c = nI (z + 3) := by
        rw [rd_o (by decide)]
        unfold cm
        rw [rd_s]
      generalize hmn : sto (cm (cm (sto (cm m c z 2 (nI (160 * c + u))) 35 (lev' + 1) (nI (160 * c + z))) c (z + 1) 0 (nI (160 * c + z))) c (z + 1 + 1) 1 (nI (160 * c + (z + 1)))) 34 (lev' + 1) (nI (160 * c + (z + 1 + 1))) = mn at eo en27 ⊢
      have tkA : s_X4_takeToken m1 = some (sto (sto m1 9 3 (nI (lev' + 1))) 9 2 3) := by
        rw [tk]
        unfold s_X4_takeOne
        rw [if_pos K, b_id]
        unfold s_X4_takeOpening
        rw [q9, h3, if_pos (show nI lev' < 6 from nI_lt (b := 6) hl (by decide)), nI_s1]
        rfl
      obtain ⟨m81, e81, c81, j81, out⟩ := tk_next (mn := mn) T (by rw [zd.2.1]; decide) tkA (by rw [rd_o (by decide), rd_o (by decide)]) (by rw [rd_o (by decide), rd_o (by decide)]) (by rw [rd_o (by decide), rd_o (by decide)]) (by rw [rd_j (by decide), rd_j (by decide), q9]; exact h5) (by rw [rd_s]; decide) (fun j _ => by rw [eo 0 (by omega)]) (eo 33 (by omega))
      rw [e81, bind_s]
      refine ⟨_, rfl, ?_⟩
      rcases out with ⟨o0, X1, m3, T3⟩ | ⟨o0, F⟩
      · exact Or.inr ⟨o0, lev' + 1, _, _, m3, P, z + 3, rfl, by omega, XS_t X X1, T3, by rw [rd_j (by decide), rd_j (by decide), q9]; exact h9, by rw [rd_j (by decide), rd_s], CB_o cb1 (by rw [rd_o (by omega), rd_o (by omega)]), PE_k (fun a ha => by rw [rd_o (by omega), rd_o (by omega)]; exact T.2.1 a (by omega)) (fun a a1 a2 => by dsimp only; rw [c81 a (by omega)]; exact eo a (by omega)) hE, ⟨by dsimp only; rw [c81 27 (by decide)]; exact en27, by omega⟩, Or.inl ⟨hi, Or.inl rd_s, GB_open gb hc (by omega) hl eu (SK_t (SK_T T hb) (SK_99 hb)) (by rw [rd_j (by decide), rd_j (by decide), q9]) (by rw [rd_j (by decide), rd_j (by decide), q9]) (by omega) (fun a a0 => by rw [hmn]; exact c81 a a0)⟩⟩
      · exact Or.inl ⟨o0, FLD_t X F⟩
  · rw [if_neg zd, if_pos h0]
    have nK40 : ¬ m1 10 2 = 40 := fun q => zd ((TOK_is T (by unfold sgn; decide)).mpr q)
    by_cases h2 : m 0 40 = 2
    rotate_left
    · have nK : ¬ m1 10 2 = 3 := fun q => h2 ((KT_w T.2.2.1.1).2.2.1.mpr q)
      rw [if_neg h2, fails_eq, bind_s]
      refine ⟨_, rfl, bad 2 _ _ (by decide) (tk_fail (mf := m1) (k := 2) T (by decide) ?_)⟩
      rw [tk]
      unfold s_X4_takeOne
      rw [if_neg nK40, if_neg nK, b_id, fail_eq]
    rw [if_pos h2]
    obtain ⟨a1, a2, a3, a4, a5⟩ := hA
    have p6 := a3.2.1
    obtain ⟨u, hu, eu, -⟩ := a4 lev' (Nat.le_refl _)
    rw [ix_nI (n := lev') (by omega), eu, comes_eq (FR_21 f h21) hc a3.2.2.1 (by omega), ck_p z8, zb2_s]
    have f1 : FR c m L (cm m c z 2 (nI (160 * c + u))) := FR_D (cm_DF f.1)
    have d1 : DC (cm m c z 2 (nI (160 * c + u))) c p (z + 1) := cm_DC a3 (by omega) (Or.inr ⟨Or.inr rfl, u, hu, rfl⟩)
    have o1 : ∀ l, l ≤ lev' → ∃ v, v < z ∧ (cm m c z 2 (nI (160 * c + u))) 34 l = nI (160 * c + v) ∧ (cm m c z 2 (nI (160 * c + u))) 28 (160 * c + v) = 1 := fun l hl => by
      obtain ⟨v, hv, ev, kv⟩ := a4 l hl
      exact ⟨v, hv, by rw [cm_o (by omega)]; exact ev, by rw [cm_j (by omega) (by omega)]; exact kv⟩
    have i1 : ∀ l, 1 ≤ l → l ≤ lev' → ∃ v, v < z ∧ (cm m c z 2 (nI (160 * c + u))) 35 l = nI (160 * c + v) := fun l h1 hl => by
      obtain ⟨v, hv, ev⟩ := a5 l h1 hl
      exact ⟨v, hv, by rw [cm_o (by omega)]; exact ev⟩
    have q1 : ∀ a, a < 27 ∨ a = 33 → (cm m c z 2 (nI (160 * c + u))) a = m a := fun a ha => cm_o (by omega)
    generalize hm23 : cm m c z 2 (nI (160 * c + u)) = m23 at f1 d1 o1 i1 q1 ⊢
    have T23 : TOK L j mx m23 m1 := TOK_m T (fun j _ => by rw [q1 0 (by omega)]) (q1 33 (by omega))
    have E23 : PE mx m23 b (c + 1) P := PE_k (fun _ _ => rfl) (fun a a1 a2 => q1 a (by omega)) hE
    obtain ⟨m25, e25, d25, lt25, c25, s25⟩ := readPart_eq f1.1 (FR_21 (FR_t f f1) h21) hc (by rw [q1 0 (by omega)]; exact h0) d1 (Nat.lt_succ_self z)
    obtain ⟨m25', e25', out⟩ := c_part (it := z) T23 (hst.elim Or.inl (fun q => Or.inr q.1)) (by rw [q1 0 (by omega)]; exact h2) h9 hC E23 (by rw [q1 0 (by omega)]; exact FR_21 f h21) (by omega)
    have e3 : m25' = m25 := Option.some.inj (e25'.symm.trans e25)
    rw [e3] at out
    rw [e25, bind_s]
    have dead : ∀ d, DD j mx d → ∃ a, ((zb2 (l_X7_readAny_151 FU (nI lev') d) fun y41 m42 => (s_X7_is m42 44).bind fun r44 => (if r44 = 0 then ((s_X7_is m42 124).bind fun r46 => (if r46 = 0 then ((if y41 ≤ 0 then (some (.inl (y41, 0, m42))) else ((s_X7_fails m42 2 (m42 0 39)).bind fun m48 => some (.inl (y41, 0, m48))))) else (ck (zin y41 8 = true) (ck (zin (m42 34 (Int32.toNatClampNeg y41)) 960 = true) (zb2 (s_X7_comes m42 1 (m42 29 (Int32.toNatClampNeg (m42 34 (Int32.toNatClampNeg y41))))) fun r53 m54 => ck (zin y41 8 = true) (bn (sto m54 34 (Int32.toNatClampNeg y41) r53) fun m56 => (s_X7_next m56).bind fun m58 => some (.inl (y41, i12, m58)))))))) else ((s_X7_next m42).bind fun m61 => some (.inl (y41, i12, m61))))) : Option ((Int32 × Int32 × Mem) ⊕ Mem)) = some (.inl a) ∧ CJ L c b i0 mx0 fs S0 a.1 a.2.1 a.2.2 := fun d D => by
      have n44 : ∀ s, s_X7_is d s = some 0 := fun s => by rw [is_eq, bb_f (fun q => D.1 q.1)]
      rw [show FU = 999999 + 1 from rfl, close_dead D.1, zb2_s, n44, bind_s, if_pos rfl, n44, bind_s, if_pos rfl]
      by_cases q : nI lev' ≤ 0
      · rw [if_pos q]
        exact ⟨_, rfl, Or.inl ⟨D.1, FLD_t X D.2⟩⟩
      · rw [if_neg q, fails_eq, bind_s, fl_dead D.1]
        exact ⟨_, rfl, Or.inl ⟨D.1, FLD_t X D.2⟩⟩
    rcases out with ⟨o0, j2, mx2, m3, X2, T3, lt2, s2, y1, y3, yC, yE, sw2, w32, wo⟩ | D
    rotate_left
    · rw [count_dead D.1, bind_s]
      exact dead _ D
    have d25p := c25 o0
    have G1 : GA mx2 m25 b c lev' z (z + 1) 1 1 j2 (P c + 1) fs S0 := GA_part gb hj4 hc (by have := d25p.2.1; omega) (by omega) eu (y3 4 (by decide) (by decide)) (y3 5 (by decide) (by decide)) sw2 lt2 (by rw [hm23]; exact w32) (fun a a1 a2 a3 => by rw [hm23]; exact wo a a1 a2 a3)
    obtain ⟨m27, e27, d27, c27, s27⟩ := readCount_eq d25.1 hc (Nat.lt_succ_self z) (by omega) c25
    obtain ⟨m27', e27', out2⟩ := c_count (it := z) T3 s2 y1 yC yE (by omega)
    have e4 : m27' = m27 := Option.some.inj (e27'.symm.trans e27)
    rw [e4] at out2
    rw [e27, bind_s]
    rcases out2 with ⟨o2, j3, mx3, m4, X3, T4, A4, w1, w3, wC, wE, wec⟩ | D
    rotate_left
    · exact dead _ ⟨D.1, FLD_t X2 D.2⟩
    have h35 : ∀ l, 1 ≤ l → l ≤ lev' → ∃ v, v < z + 1 ∧ m27 35 l = nI (160 * c + v) := fun l h1 hl => by
      obtain ⟨v, hv, ev⟩ := i1 l h1 hl
      exact ⟨v, by omega, by rw [d27.2.2.2 35 (by decide) (by decide), d25.2.2.2 35 (by decide) (by decide)]; exact ev⟩
    obtain ⟨gl, gh, G2⟩ := GA_ec G1 (TOK_i T3) hc (by have := d25p.2.1; omega) w3 wec
    rw [epP] at G2
    obtain ⟨q, e42, out3⟩ := c_close (P := up P c (P c + 1)) hb hc (show z + 1 ≤ 160 by omega) lev' FU j3 z gl gh mx3 m27 m4 (FU_lt (by omega)) a1 T4 A4 w1 (by rw [w3 3 (by decide) (by decide), y3 3 (by decide) (by decide)]; exact h3) wC wE (c27 o2) G2 h35
    obtain ⟨q2, e42', ⟨l', hl', el2⟩, d42, s42, c42⟩ := close_eq d27.1 hc (by omega) a1 c27 h35
    have e5 : q2 = q := Option.some.inj (e42'.symm.trans e42)
    rw [e5] at el2 d42 s42 c42
    obtain ⟨y41, m42⟩ := q
    dsimp only at el2 d42 s42 c42 out3
    have X23 := XS_t X (XS_t X2 X3)
    rcases out3 with ⟨o3, l, j4, mx4, m5, el3, hl, X4, T5, A5, v1, v3, vC, vE, hnc, t4, l4, h4, G4⟩ | D
    rotate_left
    · have n44 : ∀ s, s_X7_is m42 s = some 0 := fun s => by rw [is_eq, bb_f (fun q => D.1 q.1)]
      rw [e42, zb2_s, n44, bind_s, if_pos rfl, n44, bind_s, if_pos rfl]
      by_cases q : y41 ≤ 0
      · rw [if_pos q]
        exact ⟨_, rfl, Or.inl ⟨D.1, FLD_t X23 D.2⟩⟩
      · rw [if_neg q, fails_eq, bind_s, fl_dead D.1]
        exact ⟨_, rfl, Or.inl ⟨D.1, FLD_t X23 D.2⟩⟩
    rw [e42, zb2_s]
    subst el3
    have X34 := XS_t X23 X4
    have F2 : FR c m L m42 := FR_t f1 (FR_t (FR_D d25) (FR_t (FR_D d27) (FR_D d42)))
    have F : FR c m0 L m42 := FR_t f F2
    have e34 : m42 34 = m23 34 := by rw [d42.2.2.2 34 (by decide) (by decide), d27.2.2.2 34 (by decide) (by decide), d25.2.2.2 34 (by decide) (by decide)]
    have e28 : m42 28 = m23 28 := by rw [s42, s27, s25]
    have zl : zin (nI l) 8 = true := zin_nI (by omega) (by decide)
    have p9 : m5 9 = mx4 9 := T5.2.1 9 (by decide)
    have x5 := T5.2.2.2.2.1
    have cb5 : CB m5 b (c + 1) := CB_o vC (T5.2.1 b (by omega))
    have tk5 := ai_tk A5 p9
    have v1' : m5 9 1 = nI b := by rw [p9]; exact v1
    have v3' : m5 9 3 = nI l := by rw [p9]; exact v3
    have b42 := c42 o3
    have hp7 := b42.2.1
    have pu : up P c (P c + 1) c = p + 1 := by rw [up_s, epP]
    have G5 := GA_n (mx2 := m5) (mm2 := m42) G4 (by rw [p9]) (by rw [p9]) (SK_T T5 hb) (Nat.le_refl _) (fun _ _ _ => rfl)
    have hj5 := TOK_i T5
    have tbx : ∀ m6, TB b (c + 1) m5 m6 → (∀ a, a ≠ 9 → a ≠ 10 → a ≠ b → a ≠ b + 7 → a ≠ b + 8 → m6 a = mx4 a) ∧ m6 10 = m5 10 ∧ m6 7 = m5 7 ∧ m6 8 = m5 8 ∧ m6 9 8 = 0 ∧ m6 9 1 = nI b := fun m6 t => ⟨fun a a9 a10 a0 a7 a8 => by rw [t.1 a a9 a0 a7 a8]; exact T5.2.1 a a10, t.1 10 (by omega) (by omega) (by omega) (by omega), t.1 7 (by omega) (by omega) (by omega) (by omega), t.1 8 (by omega) (by omega) (by omega) (by omega), by rw [t.2.1 8 (by omega), p9]; exact x5, by rw [t.2.1 1 (by omega)]; exact v1'⟩
    rw [is_eq m42 44, bind_s, if_bb]
    by_cases zc : m42 0 42 = 0 ∧ m42 0 40 = 4 ∧ m42 0 41 = 44
    · rw [if_pos zc]
      obtain ⟨m6, e6, t6, s6, g6, m4c, sc1, kc6, bc4, bc5⟩ := tb_comma cb5 v1' v3' (by omega) ((TOK_is T5 (by unfold sgn; decide)).mp zc)
      obtain ⟨u1, u2, u3, u4, u5, u6⟩ := tbx m6 t6
      obtain ⟨m61, e61, c61, j61, out4⟩ := tk_next (mn := m42) T5 (by rw [zc.2.1]; decide) (tk5.trans e6) u2 u3 u4 u5 (by rw [s6]; decide) (fun _ _ => rfl) rfl
      rw [e61, bind_s]
      refine ⟨_, rfl, ?_⟩
      rcases out4 with ⟨o4, X5, m7, T7⟩ | ⟨o4, F4⟩
      · exact Or.inr ⟨o4, l, _, _, m7, _, z + 1, rfl, by omega, XS_t X34 X5, T7, u6, g6, t6.2.2, PE_k (fun a ha => u1 a (by omega) (by omega) (by omega) (by omega) (by omega)) (fun a a1 a2 => c61 a (by omega)) vE, ⟨by dsimp only; rw [c61 27 (by decide)]; exact b42.2.2.1, by omega⟩, Or.inl ⟨hi, Or.inl s6, by rw [pu]; exact GB_comma (GC_of G5 hj5 hc hp7 (by omega) (by omega) sc1) (by omega) kc6 bc4 bc5 (fun a a1 a2 => c61 a (by omega)) (by omega)⟩⟩
      · exact Or.inl ⟨o4, FLD_t X34 F4⟩
    rw [if_neg zc, is_eq m42 124, bind_s, if_bb]
    have n44 : ¬ m5 10 2 = 44 := fun q => zc ((TOK_is T5 (by unfold sgn; decide)).mpr q)
    by_cases zb : m42 0 42 = 0 ∧ m42 0 40 = 4 ∧ m42 0 41 = 124
    · rw [if_pos zb]
      have b3 := c42 o3
      obtain ⟨v, hv, ev, kv⟩ : ∃ v, v < z + 1 ∧ m42 34 l = nI (160 * c + v) ∧ m42 28 (160 * c + v) = 1 := by
        obtain ⟨v, hv, ev, kv⟩ := o1 l (by omega)
        exact ⟨v, by omega, by rw [e34]; exact ev, by rw [e28]; exact kv⟩
      have kd : KD (dk m42) c (p + 1) v := b3.2.2.2.2 v hv
      have kv2 : dk m42 14 (160 * c + v) = 1 := kv
      obtain ⟨w, hw, ew⟩ : ∃ w, w < v ∧ m42 29 (160 * c + v) = nI (160 * c + w) := by
        rcases kd with ⟨h1, -⟩ | ⟨-, w, hw, ew⟩ | ⟨h1, -⟩
        · rw [kv2] at h1; exact absurd h1 (by decide)
        · exact ⟨w, hw, ew⟩
        · rw [kv2] at h1; exact absurd h1 (by decide)
      rw [ix_nI (n := l) (by omega), ev, ix_nI (n := 160 * c + v) (by omega), ew, comes_eq (FR_21 F h21) hc b3.2.2.1 (by omega), ck_p zl, ck_p (zin_nI (by omega) (by decide)), zb2_s, ck_p zl]
      simp only [bn]
      have eo : ∀ a, a < 27 ∨ a = 33 → (sto (cm m42 c (z + 1) 1 (nI (160 * c + w))) 34 l (nI (160 * c + (z + 1)))) a = m42 a := fun a ha => by rw [rd_o (by omega), cm_o (by omega)]
      have en27 : (sto (cm m42 c (z + 1) 1 (nI (160 * c + w))) 34 l (nI (160 * c + (z + 1)))) 27 c = nI (z + 1 + 1) := by
        rw [rd_o (by decide)]
        unfold cm
        rw [rd_s]
      generalize hm56 : sto (cm m42 c (z + 1) 1 (nI (160 * c + w))) 34 l (nI (160 * c + (z + 1))) = m56 at eo en27 ⊢
      obtain ⟨m6, e6, t6, s6, g6, m4c, m6c, sc1, sc2, kc6, bc4, bc5⟩ := tb_bar cb5 v1' v3' (by omega) ((TOK_is T5 (by unfold sgn; decide)).mp zb)
      obtain ⟨u1, u2, u3, u4, u5, u6⟩ := tbx m6 t6
      obtain ⟨m58, e58, c58, j58, out4⟩ := tk_next (mn := m56) T5 (by rw [zb.2.1]; decide) (tk5.trans e6) u2 u3 u4 u5 (by rw [s6]; decide) (fun j _ => by rw [eo 0 (by omega)]) (eo 33 (by omega))
      rw [e58, bind_s]
      refine ⟨_, rfl, ?_⟩
      rcases out4 with ⟨o4, X5, m7, T7⟩ | ⟨o4, F4⟩
      · exact Or.inr ⟨o4, l, _, _, m7, _, z + 1 + 1, rfl, by omega, XS_t X34 X5, T7, u6, g6, t6.2.2, PE_k (fun a ha => u1 a (by omega) (by omega) (by omega) (by omega) (by omega)) (fun a a1 a2 => by dsimp only; rw [c58 a (by omega)]; exact eo a (by omega)) vE, ⟨by dsimp only; rw [c58 27 (by decide)]; exact en27, by omega⟩, Or.inl ⟨hi, Or.inl s6, by rw [pu]; exact GB_bar (v := v) (w := w) (GD_of (GC_of G5 hj5 hc hp7 (by omega) (by omega) sc1) hj5 hc hp7 (by omega) sc2) hc (by omega) (by omega) kc6 bc4 bc5 ev (by omega) (by omega) ew (fun a a0 => by rw [hm56]; exact c58 a a0) (by omega)⟩⟩
      · exact Or.inl ⟨o4, FLD_t X34 F4⟩
    rw [if_neg zb]
    have n124 : ¬ m5 10 2 = 124 := fun q => zb ((TOK_is T5 (by unfold sgn; decide)).mpr q)
    by_cases l0 : l = 0
    · rw [if_pos (show nI l ≤ 0 by rw [l0]; decide)]
      exact ⟨_, rfl, Or.inr ⟨o3, l, j4, mx4, m5, _, z + 1, rfl, by omega, X34, T5, v1, v3, vC, vE, ⟨b42.2.2.1, by omega⟩, Or.inr ⟨rfl, l0, A5, n44, n124, t4, l4, h4, by rw [pu, ← l0]; exact G4⟩⟩⟩
    · rw [if_neg (nn0 (by omega) (by omega)), fails_eq, bind_s]
      refine ⟨_, rfl, Or.inl (DD_f o3 (by decide) (FLD_t X34 (tk_fail (mf := m5) (k := 2) T5 (by decide) ?_)))⟩
      rw [tk5]
      exact tb_bad n44 n124 (Or.inr ⟨by rw [p9, v3]; exact nn0 (by omega) (by omega), hnc.resolve_left l0⟩)
theorem c_any_loop {L c b i0 : Nat} {fs S0 : Nat → Nat} {m0 mx0 m : Mem} {i : Int32} (h21 : m0 0 21 = nI c) (hc : c < 6) (hb : isb b) (hI : AI c m0 L i m) (hJ : CJ L c b i0 mx0 fs S0 i 1 m) : ∃ r, l_X7_readAny_30 FU i 1 m = some r ∧ (DD i0 mx0 r ∨ (r 0 42 = 0 ∧ ∃ (j : Nat) (mx m1 : Mem) (P : Nat → Nat), XS i0 mx0 j mx ∧ TOK L j mx r m1 ∧ mx 9 1 = nI b ∧ mx 9 3 = nI 0 ∧ CB mx b (c + 1) ∧ PE mx r b (c + 1) P ∧ AIS mx m1 ∧ ¬ m1 10 2 = 44 ∧ ¬ m1 10 2 = 124 ∧ ∃ z t vl vh, r 27 c = nI z ∧ z ≤ 160 ∧ GA mx r b c 0 t z vl vh j (P c) fs S0)) := by
  unfold l_X7_readAny_30
  refine zlp_run (fun (a : Int32 × Int32 × Mem) => AI c m0 L a.1 a.2.2 ∧ CJ L c b i0 mx0 fs S0 a.1 a.2.1 a.2.2) _ (fun (a : Int32 × Int32 × Mem) => mu a.2.2) (fun a ha => ?_) FU (i, 1, m) ⟨hI, hJ⟩ (FU_lt (by have := mu_le (m := m); dsimp only; omega))
  obtain ⟨ha1, ha2⟩ := ha
  by_cases h0 : a.2.2 0 42 = 0
  · by_cases hi : a.2.1 = 0
    · refine Or.inl ⟨a.2.2, ?_, ?_⟩
      · unfold t_X7_readAny_30
        rw [if_pos hi]
      · rcases ha2 with D | ⟨-, lev, j, mx, m1, P, z9, el, hl6, X, T, h9, h3, hC, hE, ⟨hz1, hz2⟩, hs⟩
        · exact Or.inl D
        · obtain ⟨-, l0, q1, q2, q3, gt, gl, gh, G9⟩ := hs.resolve_left (fun q => q.1 hi)
          rw [l0] at h3
          exact Or.inr ⟨h0, j, mx, m1, P, X, T, h9, h3, hC, hE, q1, q2, q3, z9, gt, gl, gh, hz1, hz2, G9⟩
    · obtain ⟨a2, e2, j2⟩ := c_any_step h21 hc hb ha1 h0 hi ha2
      rcases any_step (i12 := a.2.1) h21 hc ha1 with ⟨a3, e3, q1, q2⟩ | ⟨b3, e3, -⟩
      · have : a3 = a2 := by
          have := Option.some.inj (e3.symm.trans e2)
          exact Sum.inl.inj this
        rw [this] at q1 q2
        exact Or.inr ⟨a2, e2, ⟨q1, j2⟩, q2⟩
      · have := Option.some.inj (e3.symm.trans e2)
        cases this
  · refine Or.inl ⟨a.2.2, ?_, Or.inl (ha2.elim id (fun q => absurd q.1 h0))⟩
    unfold t_X7_readAny_30
    by_cases hi : a.2.1 = 0
    · rw [if_pos hi]
    · rw [if_neg hi, if_neg h0]
