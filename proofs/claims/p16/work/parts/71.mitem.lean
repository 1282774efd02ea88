/-! the reference's reading of a text: the rows of a shape -/
def dk (m : Mem) : Mem := fun a => m (a + 14)
def DC (m : Mem) (c p z : Nat) : Prop := m 21 c = nI p ∧ p ≤ 6 ∧ m 27 c = nI z ∧ z ≤ 160 ∧ ∀ j, j < z → KD (dk m) c p j
def dfr (c : Nat) (m m2 : Mem) : Prop := (∀ a, a ≠ 0 → a < 19 ∨ a = 33 ∨ 35 < a → m2 a = m a) ∧ (∀ j, j < 38 ∨ 44 < j → m2 0 j = m 0 j) ∧ (¬ m 0 42 = 0 → ¬ m2 0 42 = 0) ∧ ∀ s, s < c → m2 21 s = m 21 s ∧ m2 27 s = m 27 s ∧ ∀ a j, 28 ≤ a → a ≤ 32 → j < 160 → m2 a (160 * s + j) = m a (160 * s + j)
theorem dfr_r {c : Nat} {m : Mem} : dfr c m m := ⟨fun _ _ _ => rfl, fun _ _ => rfl, id, fun _ _ => ⟨rfl, rfl, fun _ _ _ _ _ => rfl⟩⟩
theorem dfr_t {c : Nat} {x y z : Mem} (h : dfr c x y) (g : dfr c y z) : dfr c x z := by
  obtain ⟨h1, h2, h3, h4⟩ := h
  obtain ⟨g1, g2, g3, g4⟩ := g
  exact ⟨fun a a0 a1 => (g1 a a0 a1).trans (h1 a a0 a1), fun j hj => (g2 j hj).trans (h2 j hj), fun q => g3 (h3 q), fun s hs => ⟨(g4 s hs).1.trans (h4 s hs).1, (g4 s hs).2.1.trans (h4 s hs).2.1, fun a j a1 a2 hj => ((g4 s hs).2.2 a j a1 a2 hj).trans ((h4 s hs).2.2 a j a1 a2 hj)⟩⟩
theorem dfr_tf {c : Nat} {m m2 : Mem} (h : tf m m2) : dfr c m m2 := ⟨fun a a0 _ => h.1 a a0, h.2.1, h.2.2, fun s _ => ⟨by rw [h.1 21 (by decide)], by rw [h.1 27 (by decide)], fun a j a1 _ _ => by rw [h.1 a (by omega)]⟩⟩
theorem dfr_c {c a i : Nat} {m : Mem} {x : Int32} (h : a = 19 ∨ a = 20 ∨ (22 ≤ a ∧ a ≤ 26) ∨ a = 34 ∨ a = 35 ∨ ((a = 21 ∨ a = 27) ∧ i = c) ∨ (28 ≤ a ∧ a ≤ 32 ∧ 160 * c ≤ i)) : dfr c m (sto m a i x) := by
  refine ⟨fun b b0 b1 => by rw [rd_o (by omega)], fun j _ => by rw [rd_o (by omega)], fun q => by rw [rd_o (by omega)]; exact q, fun s hs => ?_⟩
  have e : ∀ b j, (b ≠ a ∨ j ≠ i) → (sto m a i x) b j = m b j := fun b j hb => by
    by_cases q : b = a
    · subst q; rw [rd_j (by omega)]
    · rw [rd_o q]
  exact ⟨e 21 s (by omega), e 27 s (by omega), fun b j b1 b2 hj => e b (160 * s + j) (by omega)⟩
theorem KD_at {m m2 : Mem} {s p j : Nat} (e : ∀ a, 14 ≤ a → a ≤ 18 → m2 a (160 * s + j) = m a (160 * s + j)) (h : KD m s p j) : KD m2 s p j := by
  unfold KD at *
  rw [e 14 (by omega) (by omega), e 15 (by omega) (by omega), e 16 (by omega) (by omega), e 17 (by omega) (by omega), e 18 (by omega) (by omega)]
  exact h
theorem KD_p {m : Mem} {s p q j : Nat} (hq : p ≤ q) (h : KD m s p j) : KD m s q j := by
  rcases h with h | h | ⟨h1, h2, h3, h4⟩
  · exact Or.inl h
  · exact Or.inr (Or.inl h)
  · exact Or.inr (Or.inr ⟨h1, h2, h3.elim Or.inl (fun ⟨i, hi, e⟩ => Or.inr ⟨i, by omega, e⟩), h4⟩)
theorem DC_c {m m2 : Mem} {c p z : Nat} (e : ∀ a, a = 21 ∨ a = 27 ∨ (28 ≤ a ∧ a ≤ 32) → m2 a = m a) (h : DC m c p z) : DC m2 c p z := by
  obtain ⟨h1, h2, h3, h4, h5⟩ := h
  exact ⟨by rw [e 21 (by omega)]; exact h1, h2, by rw [e 27 (by omega)]; exact h3, h4, fun j hj => KD_at (fun a a1 a2 => by show m2 (a + 14) _ = m (a + 14) _; rw [e (a + 14) (by omega)]) (h5 j hj)⟩
def cm (m : Mem) (c z : Nat) (what within : Int32) : Mem := sto (sto (sto (sto (sto (sto m 28 (160 * c + z) what) 29 (160 * c + z) within) 30 (160 * c + z) 1) 31 (160 * c + z) 1) 32 (160 * c + z) (-4)) 27 c (nI (z + 1))
theorem comes_eq {m : Mem} {c z : Nat} {what within : Int32} (h21 : m 0 21 = nI c) (hc : c < 6) (hz : m 27 c = nI z) (h160 : z < 160) : s_X7_comes m what within = some (nI (160 * c + z), cm m c z what within) := by
  have z6 : zin (nI c) 6 = true := zin_nI hc (by decide)
  have zk : zin (nI (160 * c + z)) 960 = true := zin_nI (by omega) (by decide)
  unfold s_X7_comes cm
  rw [h21, ck_p z6, ix_nI (n := c) (by omega), hz, p160, nI_add]
  simp only [bn]
  rw [ck_p zk, ck_p zk, ck_p zk, ck_p zk, ck_p zk, ix_nI (n := 160 * c + z) (by omega)]
  rw [rd_o (show (0 : Nat) ≠ 32 by decide), rd_o (show (0 : Nat) ≠ 31 by decide), rd_o (show (0 : Nat) ≠ 30 by decide), rd_o (show (0 : Nat) ≠ 29 by decide), rd_o (show (0 : Nat) ≠ 28 by decide), h21, ck_p z6, ck_p z6, ix_nI (n := c) (by omega), rd_o (show (27 : Nat) ≠ 32 by decide), rd_o (show (27 : Nat) ≠ 31 by decide), rd_o (show (27 : Nat) ≠ 30 by decide), rd_o (show (27 : Nat) ≠ 29 by decide), rd_o (show (27 : Nat) ≠ 28 by decide), hz, nI_s1]
theorem cm_dfr {m : Mem} {c z : Nat} {what within : Int32} : dfr c m (cm m c z what within) := dfr_t (dfr_t (dfr_t (dfr_t (dfr_t (dfr_c (by omega)) (dfr_c (by omega))) (dfr_c (by omega))) (dfr_c (by omega))) (dfr_c (by omega))) (dfr_c (by omega))
theorem cm_o {m : Mem} {c z a : Nat} {what within : Int32} (h : a < 27 ∨ 32 < a) : (cm m c z what within) a = m a := by
  unfold cm
  rw [rd_o (by omega), rd_o (by omega), rd_o (by omega), rd_o (by omega), rd_o (by omega), rd_o (by omega)]
theorem cm_j {m : Mem} {c z a i : Nat} {what within : Int32} (h : 28 ≤ a ∧ a ≤ 32) (hi : i ≠ 160 * c + z) : (cm m c z what within) a i = m a i := by
  unfold cm
  rw [rd_o (by omega)]
  have e : ∀ (m : Mem) (b : Nat) (x : Int32), (sto m b (160 * c + z) x) a i = m a i := fun m b x => by
    by_cases q : a = b
    · subst q; rw [rd_j hi]
    · rw [rd_o q]
  rw [e, e, e, e, e]
theorem cm_s {m : Mem} {c z : Nat} {what within : Int32} : (cm m c z what within) 28 (160 * c + z) = what ∧ (cm m c z what within) 29 (160 * c + z) = within ∧ (cm m c z what within) 30 (160 * c + z) = 1 ∧ (cm m c z what within) 31 (160 * c + z) = 1 ∧ (cm m c z what within) 32 (160 * c + z) = -4 := by
  unfold cm
  refine ⟨?_, ?_, ?_, ?_, ?_⟩
  · rw [rd_o (by decide), rd_o (by decide), rd_o (by decide), rd_o (by decide), rd_o (by decide), rd_s]
  · rw [rd_o (by decide), rd_o (by decide), rd_o (by decide), rd_o (by decide), rd_s]
  · rw [rd_o (by decide), rd_o (by decide), rd_o (by decide), rd_s]
  · rw [rd_o (by decide), rd_o (by decide), rd_s]
  · rw [rd_o (by decide), rd_s]
theorem cm_DC {m : Mem} {c p z : Nat} {what within : Int32} (h : DC m c p z) (hz : z < 160) (hv : (what = 0 ∧ (within = -4 ∨ ∃ u, u < z ∧ within = nI (160 * c + u))) ∨ ((what = 1 ∨ what = 2) ∧ ∃ u, u < z ∧ within = nI (160 * c + u))) : DC (cm m c z what within) c p (z + 1) := by
  obtain ⟨h1, h2, h3, h4, h5⟩ := h
  refine ⟨by rw [cm_o (by omega)]; exact h1, h2, by unfold cm; rw [rd_s], by omega, fun j hj => ?_⟩
  rcases Nat.lt_or_ge j z with q | q
  · exact KD_at (fun a a1 a2 => cm_j (a := a + 14) (by omega) (by omega)) (h5 j q)
  · have : j = z := by omega
    subst this
    obtain ⟨s1, s2, s3, s4, s5⟩ := cm_s (m := m) (c := c) (z := j) (what := what) (within := within)
    unfold KD
    rw [show dk (cm m c j what within) 14 (160 * c + j) = what from s1, show dk (cm m c j what within) 15 (160 * c + j) = within from s2, show dk (cm m c j what within) 16 (160 * c + j) = 1 from s3, show dk (cm m c j what within) 17 (160 * c + j) = 1 from s4, show dk (cm m c j what within) 18 (160 * c + j) = -4 from s5]
    rcases hv with h | ⟨h | h, g⟩
    · exact Or.inl h
    · exact Or.inr (Or.inl ⟨h, g⟩)
    · exact Or.inr (Or.inr ⟨h, g, Or.inl rfl, ⟨1, by decide, rfl⟩, ⟨1, by decide, rfl⟩⟩)
def DF (c : Nat) (m : Mem) (L : Nat) (m2 : Mem) : Prop := TA m2 L ∧ dfr c m m2 ∧ mu m2 ≤ mu m ∧ (∀ a, 34 ≤ a → a ≤ 35 → m2 a = m a)
theorem DF_t {c : Nat} {x y z : Mem} {L : Nat} (h : DF c x L y) (g : DF c y L z) : DF c x L z := ⟨g.1, dfr_t h.2.1 g.2.1, Nat.le_trans g.2.2.1 h.2.2.1, fun a a1 a2 => (g.2.2.2 a a1 a2).trans (h.2.2.2 a a1 a2)⟩
theorem DF_TK {c : Nat} {m m2 : Mem} {L : Nat} (h : TK m L m2) : DF c m L m2 := ⟨h.1, dfr_tf h.2.1, h.2.2, fun a _ _ => h.2.1.1 a (by omega)⟩
theorem DF_r {c : Nat} {m : Mem} {L : Nat} (h : TA m L) : DF c m L m := DF_TK (TK_r h)
theorem DF_c {c a i : Nat} {m : Mem} {L : Nat} {x : Int32} (h : TA m L) (ha : a = 19 ∨ a = 20 ∨ (22 ≤ a ∧ a ≤ 26) ∨ ((a = 21 ∨ a = 27) ∧ i = c) ∨ (28 ≤ a ∧ a ≤ 32 ∧ 160 * c ≤ i)) : DF c m L (sto m a i x) := by
  have e : (sto m a i x) 0 = m 0 := rd_o (by omega)
  refine ⟨?_, dfr_c (by omega), ?_, fun b b1 b2 => rd_o (by omega)⟩
  · unfold TA at *
    rw [e]; exact h
  · unfold mu
    rw [e]; exact Nat.le_refl _
theorem cm_DF {m : Mem} {c z L : Nat} {what within : Int32} (h : TA m L) : DF c m L (cm m c z what within) := by
  have e : (cm m c z what within) 0 = m 0 := cm_o (by omega)
  refine ⟨?_, cm_dfr, ?_, fun b b1 b2 => cm_o (by omega)⟩
  · unfold TA at *
    rw [e]; exact h
  · unfold mu
    rw [e]; exact Nat.le_refl _
theorem DC_u {m : Mem} {c p z a i : Nat} {x : Int32} (ha : a ≠ 21 ∧ a ≠ 27 ∧ (a < 28 ∨ 32 < a)) (h : DC m c p z) : DC (sto m a i x) c p z := DC_c (fun b hb => rd_o (by omega)) h
theorem DC_tf {m m2 : Mem} {c p z : Nat} (g : tf m m2) (h : DC m c p z) : DC m2 c p z := DC_c (fun b hb => g.1 b (by omega)) h
