/-! the reference's reading of a text: what stands in one of each -/
theorem nn0 {l : Nat} (h : 0 < l) (h2 : l < 2 ^ 31) : ¬ nI l ≤ 0 := nI_ge (show 0 < l from h) h2
theorem close_eq {m : Mem} {c p z lev L : Nat} (h : TA m L) (hc : c < 6) (hz : z ≤ 160) (hlev : lev ≤ 6) (hD : m 0 42 = 0 → DC m c p z) (h35 : ∀ l, 1 ≤ l → l ≤ lev → ∃ u, u < z ∧ m 35 l = nI (160 * c + u)) : ∃ q, l_X7_readAny_151 FU (nI lev) m = some q ∧ (∃ l, l ≤ lev ∧ q.1 = nI l) ∧ DF c m L q.2 ∧ q.2 28 = m 28 ∧ (q.2 0 42 = 0 → DC q.2 c p z) := by
  unfold l_X7_readAny_151
  refine zlp_run (fun (a : Int32 × Mem) => (∃ l, l ≤ lev ∧ a.1 = nI l) ∧ DF c m L a.2 ∧ a.2 28 = m 28 ∧ (a.2 0 42 = 0 → DC a.2 c p z)) _ (fun (a : Int32 × Mem) => mu a.2) (fun a ha => ?_) FU (nI lev, m) ⟨⟨lev, Nat.le_refl _, rfl⟩, DF_r h, rfl, hD⟩ (FU_lt (by have := mu_le (m := m); dsimp only; omega))
  obtain ⟨⟨l, hl, el⟩, d, e28, dc⟩ := ha
  unfold t_X7_readAny_151
  rw [is_eq, bind_s, if_bb]
  by_cases zd : a.2 0 42 = 0 ∧ a.2 0 40 = 4 ∧ a.2 0 41 = 41
  · rw [if_pos zd, el]
    rcases Nat.eq_zero_or_pos l with q | q
    · rw [q, if_pos (by decide)]
      exact Or.inl ⟨_, rfl, ⟨0, Nat.zero_le _, rfl⟩, d, e28, dc⟩
    · rw [if_neg (nn0 q (by omega)), ck_p (zin_nI (by omega) (by decide)), ix_nI (n := l) (by omega), add_m1, sub1_nI q]
      obtain ⟨u, hu, eu⟩ := h35 l q hl
      obtain ⟨m36, e36, k36, lt36⟩ := next_k d.1 zd.1 (by rw [zd.2.1]; decide)
      obtain ⟨m38, e38, d38, c38, s38⟩ := readCount_eq k36.1 hc hu hz (fun _ => DC_tf k36.2.1 (dc zd.1))
      simp only [bn]
      rw [e36, bind_s, d.2.2.2 35 (by decide) (by decide), eu, e38, bind_s]
      refine Or.inr ⟨_, rfl, ⟨⟨l - 1, by omega, rfl⟩, DF_t d (DF_t (DF_TK k36) d38), by dsimp only; rw [s38, k36.2.1.1 28 (by decide)]; exact e28, c38⟩, ?_⟩
      have := d38.2.2.1
      dsimp only
      omega
  · rw [if_neg zd]
    exact Or.inl ⟨_, rfl, ⟨l, hl, el⟩, d, e28, dc⟩
def AL (m : Mem) (c lev p z : Nat) : Prop := lev ≤ 6 ∧ z ≤ 2 + 20 * p + 3 * lev ∧ DC m c p z ∧ (∀ l, l ≤ lev → ∃ u, u < z ∧ m 34 l = nI (160 * c + u) ∧ m 28 (160 * c + u) = 1) ∧ ∀ l, 1 ≤ l → l ≤ lev → ∃ u, u < z ∧ m 35 l = nI (160 * c + u)
theorem AL_tf {m m2 : Mem} {c lev p z : Nat} (g : tf m m2) (h : AL m c lev p z) : AL m2 c lev p z := by
  obtain ⟨h1, h2, h3, h4, h5⟩ := h
  exact ⟨h1, h2, DC_tf g h3, by rw [g.1 34 (by decide), g.1 28 (by decide)]; exact h4, by rw [g.1 35 (by decide)]; exact h5⟩
def FR (c : Nat) (m : Mem) (L : Nat) (m2 : Mem) : Prop := TA m2 L ∧ dfr c m m2 ∧ mu m2 ≤ mu m
theorem FR_t {c : Nat} {x y z : Mem} {L : Nat} (h : FR c x L y) (g : FR c y L z) : FR c x L z := ⟨g.1, dfr_t h.2.1 g.2.1, Nat.le_trans g.2.2 h.2.2⟩
theorem FR_D {c : Nat} {m m2 : Mem} {L : Nat} (h : DF c m L m2) : FR c m L m2 := ⟨h.1, h.2.1, h.2.2.1⟩
theorem FR_TK {c : Nat} {m m2 : Mem} {L : Nat} (h : TK m L m2) : FR c m L m2 := FR_D (DF_TK h)
theorem FR_r {c : Nat} {m : Mem} {L : Nat} (h : TA m L) : FR c m L m := FR_D (DF_r h)
theorem FR_c {c a i : Nat} {m : Mem} {L : Nat} {x : Int32} (h : TA m L) (ha : a = 34 ∨ a = 35) : FR c m L (sto m a i x) := by
  have e : (sto m a i x) 0 = m 0 := rd_o (by omega)
  refine ⟨?_, dfr_c (by omega), ?_⟩
  · unfold TA at *
    rw [e]; exact h
  · unfold mu
    rw [e]; exact Nat.le_refl _
theorem FR_21 {c c2 : Nat} {m m2 : Mem} {L : Nat} (h : FR c m L m2) (e : m 0 21 = nI c2) : m2 0 21 = nI c2 := by rw [h.2.1.2.1 21 (by decide)]; exact e
theorem open_step {m : Mem} {c lev p z L : Nat} (h : TA m L) (h21 : m 0 21 = nI c) (hc : c < 6) (h0 : m 0 42 = 0) (h1 : ¬ m 0 40 = 0) (hA : AL m c lev p z) (hl : lev < 6) {k : Int32 → Mem → Option (((Int32 × Int32 × Mem) ⊕ Mem))} {A : Int32 × Int32 × Mem → Prop} {B : Mem → Prop} (hk : ∀ r, FR c m L r → mu r < mu m → (r 0 42 = 0 → AL r c (lev + 1) p (z + 3)) → (∃ a, k (nI (lev + 1)) r = some (.inl a) ∧ A a) ∨ ∃ b, k (nI (lev + 1)) r = some (.inr b) ∧ B b) : (∃ a, (ck (zin (nI lev) 8 = true) (zb2 (s_X7_comes m 2 (m 34 lev)) fun r67 m68 => bn (nI lev + 1) fun x69 => ck (zin x69 8 = true) (bn (sto m68 35 (Int32.toNatClampNeg x69) r67) fun m71 => zb2 (s_X7_comes m71 0 r67) fun r73 m74 => zb2 (s_X7_comes m74 1 r73) fun r76 m77 => ck (zin x69 8 = true) (bn (sto m77 34 (Int32.toNatClampNeg x69) r76) fun m79 => (s_X7_next m79).bind fun m81 => k x69 m81)))) = some (.inl a) ∧ A a) ∨ ∃ b, (ck (zin (nI lev) 8 = true) (zb2 (s_X7_comes m 2 (m 34 lev)) fun r67 m68 => bn (nI lev + 1) fun x69 => ck (zin x69 8 = true) (bn (sto m68 35 (Int32.toNatClampNeg x69) r67) fun m71 => zb2 (s_X7_comes m71 0 r67) fun r73 m74 => zb2 (s_X7_comes m74 1 r73) fun r76 m77 => ck (zin x69 8 = true) (bn (sto m77 34 (Int32.toNatClampNeg x69) r76) fun m79 => (s_X7_next m79).bind fun m81 => k x69 m81)))) = some (.inr b) ∧ B b := by
  obtain ⟨a1, a2, a3, a4, a5⟩ := hA
  have p6 := a3.2.1
  obtain ⟨u, hu, eu, -⟩ := a4 lev (Nat.le_refl _)
  rw [eu, comes_eq h21 hc a3.2.2.1 (by omega), nI_s1]
  have f1 : FR c m L (cm m c z 2 (nI (160 * c + u))) := FR_D (cm_DF h)
  have d1 : DC (cm m c z 2 (nI (160 * c + u))) c p (z + 1) := cm_DC a3 (by omega) (Or.inr ⟨Or.inr rfl, u, hu, rfl⟩)
  have o1 : ∀ l, l ≤ lev → ∃ v, v < z ∧ (cm m c z 2 (nI (160 * c + u))) 34 l = nI (160 * c + v) ∧ (cm m c z 2 (nI (160 * c + u))) 28 (160 * c + v) = 1 := fun l hl => by
    obtain ⟨v, hv, ev, kv⟩ := a4 l hl
    exact ⟨v, hv, by rw [cm_o (by omega)]; exact ev, by rw [cm_j (by omega) (by omega)]; exact kv⟩
  have i1 : ∀ l, 1 ≤ l → l ≤ lev → ∃ v, v < z ∧ (cm m c z 2 (nI (160 * c + u))) 35 l = nI (160 * c + v) := fun l h1 hl => by
    obtain ⟨v, hv, ev⟩ := a5 l h1 hl
    exact ⟨v, hv, by rw [cm_o (by omega)]; exact ev⟩
  have q1 : ∀ j, (cm m c z 2 (nI (160 * c + u))) 0 j = m 0 j := fun j => by rw [cm_o (by omega)]
  generalize cm m c z 2 (nI (160 * c + u)) = m68 at f1 d1 o1 i1 q1 ⊢
  refine st_ck (zin_nI (by omega) (by decide)) ?_
  rw [zb2_s]
  have z8 : zin (nI (lev + 1)) 8 = true := zin_nI (by omega) (by decide)
  refine st_n (st_ck z8 (st_n ?_))
  rw [ix_nI (n := lev + 1) (by omega)]
  have f2 := FR_t f1 (FR_c (c := c) (a := 35) (i := lev + 1) (x := nI (160 * c + z)) f1.1 (by omega))
  have d2 : DC (sto m68 35 (lev + 1) (nI (160 * c + z))) c p (z + 1) := DC_u (by omega) d1
  rw [comes_eq (FR_21 f2 h21) hc d2.2.2.1 (by omega), zb2_s]
  have f3 := FR_t f2 (FR_D (cm_DF (c := c) (z := z + 1) (what := 0) (within := nI (160 * c + z)) f2.1))
  have d3 := cm_DC (what := 0) (within := nI (160 * c + z)) d2 (by omega) (Or.inl ⟨rfl, Or.inr ⟨z, by omega, rfl⟩⟩)
  rw [comes_eq (FR_21 f3 h21) hc d3.2.2.1 (by omega), zb2_s]
  have f4 := FR_t f3 (FR_D (cm_DF (c := c) (z := z + 1 + 1) (what := 1) (within := nI (160 * c + (z + 1))) f3.1))
  have d4 := cm_DC (what := 1) (within := nI (160 * c + (z + 1))) d3 (by omega) (Or.inr ⟨Or.inl rfl, z + 1, by omega, rfl⟩)
  refine st_ck z8 (st_n ?_)
  have f5 := FR_t f4 (FR_c (c := c) (a := 34) (i := lev + 1) (x := nI (160 * c + (z + 1 + 1))) f4.1 (by omega))
  have d5 := DC_u (a := 34) (i := lev + 1) (x := nI (160 * c + (z + 1 + 1))) (by omega) d4
  have e5 : ∀ j, (sto (cm (cm (sto m68 35 (lev + 1) (nI (160 * c + z))) c (z + 1) 0 (nI (160 * c + z))) c (z + 1 + 1) 1 (nI (160 * c + (z + 1)))) 34 (lev + 1) (nI (160 * c + (z + 1 + 1)))) 0 j = m 0 j := fun j => by
    rw [rd_o (by decide), cm_o (by omega), cm_o (by omega), rd_o (by decide)]; exact q1 j
  have A5 : AL (sto (cm (cm (sto m68 35 (lev + 1) (nI (160 * c + z))) c (z + 1) 0 (nI (160 * c + z))) c (z + 1 + 1) 1 (nI (160 * c + (z + 1)))) 34 (lev + 1) (nI (160 * c + (z + 1 + 1)))) c (lev + 1) p (z + 3) := by
    refine ⟨by omega, by omega, d5, fun l hl => ?_, fun l l1 hl => ?_⟩
    · by_cases e : l = lev + 1
      · refine ⟨z + 1 + 1, by omega, by rw [e, rd_s], ?_⟩
        rw [rd_o (by decide)]
        exact cm_s.1
      · obtain ⟨v, hv, ev, kv⟩ := o1 l (by omega)
        refine ⟨v, by omega, by rw [rd_j e, cm_o (by omega), cm_o (by omega), rd_o (by decide)]; exact ev, ?_⟩
        rw [rd_o (by decide), cm_j (by omega) (by omega), cm_j (by omega) (by omega), rd_o (by decide)]
        exact kv
    · by_cases e : l = lev + 1
      · refine ⟨z, by omega, ?_⟩
        rw [rd_o (by decide), cm_o (by omega), cm_o (by omega), e, rd_s]
      · obtain ⟨v, hv, ev⟩ := i1 l l1 (by omega)
        refine ⟨v, by omega, ?_⟩
        rw [rd_o (by decide), cm_o (by omega), cm_o (by omega), rd_j e]
        exact ev
  generalize sto (cm (cm (sto m68 35 (lev + 1) (nI (160 * c + z))) c (z + 1) 0 (nI (160 * c + z))) c (z + 1 + 1) 1 (nI (160 * c + (z + 1)))) 34 (lev + 1) (nI (160 * c + (z + 1 + 1))) = m79 at f5 d5 e5 A5 ⊢
  obtain ⟨m81, e81, k81, lt81⟩ := next_k f5.1 (by rw [e5]; exact h0) (by rw [e5]; exact h1)
  rw [e81, bind_s]
  exact hk m81 (FR_t f5 (FR_TK k81)) (by have := f5.2.2; omega) (fun _ => AL_tf k81.2.1 A5)
