/-! the reference's reading of a text: what stands in one of each, to its end -/
def AI (c : Nat) (m0 : Mem) (L : Nat) (i : Int32) (m : Mem) : Prop := FR c m0 L m ∧ (m 0 42 = 0 → ∃ lev p z, i = nI lev ∧ AL m c lev p z)
theorem any_step {m0 m : Mem} {c L : Nat} {i11 i12 : Int32} (h21 : m0 0 21 = nI c) (hc : c < 6) (hI : AI c m0 L i11 m) : (∃ a, t_X7_readAny_30 i11 i12 m = some (.inl a) ∧ AI c m0 L a.1 a.2.2 ∧ mu a.2.2 < mu m) ∨ ∃ b, t_X7_readAny_30 i11 i12 m = some (.inr b) ∧ FR c m0 L b ∧ (b 0 42 = 0 → ∃ p z, DC b c p z) := by
  obtain ⟨f, al⟩ := hI
  have out : FR c m0 L m ∧ (m 0 42 = 0 → ∃ p z, DC m c p z) := ⟨f, fun q => by
    obtain ⟨lev, p, z, -, h⟩ := al q
    exact ⟨p, z, h.2.2.1⟩⟩
  unfold t_X7_readAny_30
  refine st_if (fun _ => st_r out) (fun _ => ?_)
  by_cases h0 : m 0 42 = 0
  · obtain ⟨lev, p, z, el, hA⟩ := al h0
    subst el
    have mu1 := mu_1 h0
    have bad : ∀ (x y i1 i2 : Int32), 0 < x → AI c m0 L (i1, i2, fl m x y).1 (i1, i2, fl m x y).2.2 ∧ mu (i1, i2, fl m x y).2.2 < mu m := fun x y i1 i2 hx => ⟨⟨FR_t f (FR_TK (TK_fl f.1 hx)), fun q => absurd q (fl_b hx)⟩, by dsimp only; rw [mu_b (fl_b hx)]; omega⟩
    have z8 : zin (nI lev) 8 = true := zin_nI (by have := hA.1; omega) (by decide)
    rw [if_pos h0, is_eq, bind_s, if_bb]
    by_cases zd : m 0 42 = 0 ∧ m 0 40 = 4 ∧ m 0 41 = 40
    · rw [if_pos zd]
      refine st_if (fun _ => ?_) (fun hne => ?_)
      · rw [fails_eq, bind_s]
        exact st_l (bad _ _ _ _ (by decide))
      · have hl : lev < 6 := by
          have h6 := hA.1
          have : lev ≠ 6 := fun q => hne (by rw [q]; rfl)
          omega
        rw [ix_nI (n := lev) (by omega)]
        exact open_step f.1 (FR_21 f h21) hc h0 (by rw [zd.2.1]; decide) hA hl (fun r fr lt ar => st_l ⟨⟨FR_t f fr, fun q => ⟨lev + 1, p, z + 3, rfl, ar q⟩⟩, lt⟩)
    · rw [if_neg zd, if_pos h0]
      refine st_if (fun h2 => ?_) (fun _ => by rw [fails_eq, bind_s]; exact st_l (bad _ _ _ _ (by decide)))
      obtain ⟨a1, a2, a3, a4, a5⟩ := hA
      have p6 := a3.2.1
      obtain ⟨u, hu, eu, -⟩ := a4 lev (Nat.le_refl _)
      rw [ix_nI (n := lev) (by omega), eu, comes_eq (FR_21 f h21) hc a3.2.2.1 (by omega)]
      refine st_ck z8 ?_
      rw [zb2_s]
      have f1 : FR c m L (cm m c z 2 (nI (160 * c + u))) := FR_D (cm_DF f.1)
      have d1 : DC (cm m c z 2 (nI (160 * c + u))) c p (z + 1) := cm_DC a3 (by omega) (Or.inr ⟨Or.inr rfl, u, hu, rfl⟩)
      have o1 : ∀ l, l ≤ lev → ∃ v, v < z ∧ (cm m c z 2 (nI (160 * c + u))) 34 l = nI (160 * c + v) ∧ (cm m c z 2 (nI (160 * c + u))) 28 (160 * c + v) = 1 := fun l hl => by
        obtain ⟨v, hv, ev, kv⟩ := a4 l hl
        exact ⟨v, hv, by rw [cm_o (by omega)]; exact ev, by rw [cm_j (by omega) (by omega)]; exact kv⟩
      have i1 : ∀ l, 1 ≤ l → l ≤ lev → ∃ v, v < z ∧ (cm m c z 2 (nI (160 * c + u))) 35 l = nI (160 * c + v) := fun l h1 hl => by
        obtain ⟨v, hv, ev⟩ := a5 l h1 hl
        exact ⟨v, hv, by rw [cm_o (by omega)]; exact ev⟩
      have q1 : ∀ j, (cm m c z 2 (nI (160 * c + u))) 0 j = m 0 j := fun j => by rw [cm_o (by omega)]
      generalize cm m c z 2 (nI (160 * c + u)) = m23 at f1 d1 o1 i1 q1 ⊢
      obtain ⟨m25, e25, d25, lt25, c25, s25⟩ := readPart_eq f1.1 (FR_21 (FR_t f f1) h21) hc (by rw [q1]; exact h0) d1 (Nat.lt_succ_self z)
      obtain ⟨m27, e27, d27, c27, s27⟩ := readCount_eq d25.1 hc (Nat.lt_succ_self z) (by omega) c25
      rw [e25, bind_s, e27, bind_s]
      have h35 : ∀ l, 1 ≤ l → l ≤ lev → ∃ v, v < z + 1 ∧ m27 35 l = nI (160 * c + v) := fun l h1 hl => by
        obtain ⟨v, hv, ev⟩ := i1 l h1 hl
        exact ⟨v, by omega, by rw [d27.2.2.2 35 (by decide) (by decide), d25.2.2.2 35 (by decide) (by decide)]; exact ev⟩
      obtain ⟨⟨y41, m42⟩, e42, ⟨l, hl, el⟩, d42, s42, c42⟩ := close_eq d27.1 hc (by omega) a1 c27 h35
      rw [e42, zb2_s]
      dsimp only at el d42 s42 c42
      subst el
      have F2 : FR c m L m42 := FR_t f1 (FR_t (FR_D d25) (FR_t (FR_D d27) (FR_D d42)))
      have F : FR c m0 L m42 := FR_t f F2
      have lt : mu m42 < mu m := by
        have l1 := f1.2.2
        have l2 := d27.2.2.1
        have l3 := d42.2.2.1
        omega
      have e34 : m42 34 = m23 34 := by rw [d42.2.2.2 34 (by decide) (by decide), d27.2.2.2 34 (by decide) (by decide), d25.2.2.2 34 (by decide) (by decide)]
      have e35 : m42 35 = m23 35 := by rw [d42.2.2.2 35 (by decide) (by decide), d27.2.2.2 35 (by decide) (by decide), d25.2.2.2 35 (by decide) (by decide)]
      have e28 : m42 28 = m23 28 := by rw [s42, s27, s25]
      have AA : m42 0 42 = 0 → AL m42 c l (p + 1) (z + 1) := fun q => by
        refine ⟨by omega, by omega, c42 q, fun x hx => ?_, fun x x1 hx => ?_⟩
        · obtain ⟨v, hv, ev, kv⟩ := o1 x (by omega)
          exact ⟨v, by omega, by rw [e34]; exact ev, by rw [e28]; exact kv⟩
        · obtain ⟨v, hv, ev⟩ := i1 x x1 (by omega)
          exact ⟨v, by omega, by rw [e35]; exact ev⟩
      have zl : zin (nI l) 8 = true := zin_nI (by omega) (by decide)
      rw [is_eq m42 44, bind_s, if_bb]
      refine st_if (fun zc => ?_) (fun _ => ?_)
      · obtain ⟨m61, e61, k61, lt61⟩ := next_k F.1 zc.1 (by rw [zc.2.1]; decide)
        rw [e61, bind_s]
        exact st_l ⟨⟨FR_t F (FR_TK k61), fun _ => ⟨l, p + 1, z + 1, rfl, AL_tf k61.2.1 (AA zc.1)⟩⟩, by dsimp only; omega⟩
      · rw [is_eq m42 124, bind_s, if_bb]
        refine st_if (fun zb => ?_) (fun _ => ?_)
        · obtain ⟨b1, b2, b3, b4, b5⟩ := AA zb.1
          obtain ⟨v, hv, ev, kv⟩ := b4 l (Nat.le_refl _)
          have kd : KD (dk m42) c (p + 1) v := b3.2.2.2.2 v hv
          have kv2 : dk m42 14 (160 * c + v) = 1 := kv
          have ⟨w, hw, ew⟩ : ∃ w, w < v ∧ m42 29 (160 * c + v) = nI (160 * c + w) := by
            rcases kd with ⟨h1, -⟩ | ⟨-, w, hw, ew⟩ | ⟨h1, -⟩
            · rw [kv2] at h1; exact absurd h1 (by decide)
            · exact ⟨w, hw, ew⟩
            · rw [kv2] at h1; exact absurd h1 (by decide)
          rw [ix_nI (n := l) (by omega), ev, ix_nI (n := 160 * c + v) (by omega), ew, comes_eq (FR_21 F h21) hc b3.2.2.1 (by omega)]
          refine st_ck zl (st_ck (zin_nI (by omega) (by decide)) ?_)
          rw [zb2_s]
          refine st_ck zl (st_n ?_)
          have g1 : FR c m42 L (cm m42 c (z + 1) 1 (nI (160 * c + w))) := FR_D (cm_DF F.1)
          have g2 := FR_t g1 (FR_c (c := c) (a := 34) (i := l) (x := nI (160 * c + (z + 1))) g1.1 (by omega))
          have d2 := DC_u (a := 34) (i := l) (x := nI (160 * c + (z + 1))) (by omega) (cm_DC (what := 1) (within := nI (160 * c + w)) b3 (by omega) (Or.inr ⟨Or.inl rfl, w, by omega, rfl⟩))
          have r2 : ∀ j, (sto (cm m42 c (z + 1) 1 (nI (160 * c + w))) 34 l (nI (160 * c + (z + 1)))) 0 j = m42 0 j := fun j => by rw [rd_o (by decide), cm_o (by omega)]
          have A2 : AL (sto (cm m42 c (z + 1) 1 (nI (160 * c + w))) 34 l (nI (160 * c + (z + 1)))) c l (p + 1) (z + 1 + 1) := by
            refine ⟨b1, by omega, d2, fun x hx => ?_, fun x x1 hx => ?_⟩
            · by_cases e : x = l
              · refine ⟨z + 1, by omega, by rw [e, rd_s], ?_⟩
                rw [rd_o (by decide)]
                exact cm_s.1
              · obtain ⟨y, hy, ey, ky⟩ := b4 x hx
                refine ⟨y, by omega, by rw [rd_j e, cm_o (by omega)]; exact ey, ?_⟩
                rw [rd_o (by decide), cm_j (by omega) (by omega)]
                exact ky
            · obtain ⟨y, hy, ey⟩ := b5 x x1 hx
              refine ⟨y, by omega, ?_⟩
              rw [rd_o (by decide), cm_o (by omega)]
              exact ey
          generalize sto (cm m42 c (z + 1) 1 (nI (160 * c + w))) 34 l (nI (160 * c + (z + 1))) = m56 at g2 d2 r2 A2 ⊢
          obtain ⟨m58, e58, k58, lt58⟩ := next_k g2.1 (by rw [r2]; exact zb.1) (by rw [r2, zb.2.1]; decide)
          rw [e58, bind_s]
          exact st_l ⟨⟨FR_t F (FR_t g2 (FR_TK k58)), fun _ => ⟨l, p + 1, z + 1 + 1, rfl, AL_tf k58.2.1 A2⟩⟩, by have := g2.2.2; dsimp only; omega⟩
        · refine st_if (fun _ => st_l ⟨⟨F, fun q => ⟨l, p + 1, z + 1, rfl, AA q⟩⟩, lt⟩) (fun _ => ?_)
          rw [fails_eq, bind_s]
          exact st_l ⟨⟨FR_t F (FR_TK (TK_fl F.1 (by decide))), fun q => absurd q (fl_b (by decide))⟩, by dsimp only; rw [mu_b (fl_b (by decide))]; omega⟩
  · rw [if_neg h0]
    exact st_r out
theorem any_loop {m0 m : Mem} {c L : Nat} {i : Int32} (h21 : m0 0 21 = nI c) (hc : c < 6) (hI : AI c m0 L i m) : ∃ b, l_X7_readAny_30 FU i 1 m = some b ∧ FR c m0 L b ∧ (b 0 42 = 0 → ∃ p z, DC b c p z) := by
  unfold l_X7_readAny_30
  exact zlp_run (fun (a : Int32 × Int32 × Mem) => AI c m0 L a.1 a.2.2) _ (fun (a : Int32 × Int32 × Mem) => mu a.2.2) (fun a ha => Or.symm (any_step h21 hc ha)) FU (i, 1, m) hI (FU_lt (by have := mu_le (m := m); dsimp only; omega))
theorem readAny_eq {m : Mem} {c L : Nat} (h : TA m L) (h21 : m 0 21 = nI c) (hc : c < 6) (hD : DC m c 0 0) : ∃ m2, s_X7_readAny m = some m2 ∧ FR c m L m2 ∧ (m2 0 42 = 0 → ∃ p z, DC m2 c p z) := by
  have z8 : zin 0 8 = true := by decide
  unfold s_X7_readAny
  refine ex_ck z8 (ex_n ?_)
  rw [show Int32.toNatClampNeg 0 = 0 from rfl]
  have f1 : FR c m L (sto m 35 0 (-4)) := FR_c h (by omega)
  have d1 : DC (sto m 35 0 (-4)) c 0 0 := DC_u (by omega) hD
  rw [comes_eq (FR_21 f1 h21) hc d1.2.2.1 (by omega), zb2_s]
  have f2 := FR_t f1 (FR_D (cm_DF (c := c) (z := 0) (what := 0) (within := -4) f1.1))
  have d2 := cm_DC (what := 0) (within := -4) d1 (by omega) (Or.inl ⟨rfl, Or.inl rfl⟩)
  rw [comes_eq (FR_21 f2 h21) hc d2.2.2.1 (by omega), zb2_s]
  have f3 := FR_t f2 (FR_D (cm_DF (c := c) (z := 0 + 1) (what := 1) (within := nI (160 * c + 0)) f2.1))
  have d3 := cm_DC (what := 1) (within := nI (160 * c + 0)) d2 (by omega) (Or.inr ⟨Or.inl rfl, 0, by omega, rfl⟩)
  refine ex_ck z8 (ex_n ?_)
  have f4 := FR_t f3 (FR_c (c := c) (a := 34) (i := 0) (x := nI (160 * c + (0 + 1))) f3.1 (by omega))
  have d4 := DC_u (a := 34) (i := 0) (x := nI (160 * c + (0 + 1))) (by omega) d3
  refine ex_w (any_loop (i := 0) h21 hc ⟨f4, fun _ => ⟨0, 0, 0 + 1 + 1, rfl, by omega, by omega, d4, fun l hl => ?_, fun l l1 hl => by omega⟩⟩) (fun r hr => hr) |> fun hh => ex_b hh (fun r hr => ex_s hr)
  have e : l = 0 := by omega
  refine ⟨0 + 1, by omega, by rw [e, rd_s], ?_⟩
  rw [rd_o (by decide)]
  exact cm_s.1
