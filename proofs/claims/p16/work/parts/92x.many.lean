/-! tooMany and which: the same answers -/
theorem keep_loop {m : Mem} {n d : Nat} (hn : n < 10) (hd : d ≤ 5) : ∃ m13, l_X7_without_10 (nI n) (nI d) FU 0 m = some m13 ∧ ((∀ c, c ≠ 42 → c ≠ 43 → m13 c = m c) ∧ KP m n d m13) := by
  unfold l_X7_without_10
  refine forG d (fun i (b : Int32 × Mem) => b.1 = nI i ∧ (∀ c, c ≠ 42 → c ≠ 43 → b.2 c = m c) ∧ KP m n i b.2) _ (fun i b hi hb => ?_) (fun b hb => ?_) FU 0 (0, m) (Nat.zero_le _) ⟨rfl, fun _ _ _ => rfl, fun i hi => absurd hi (Nat.not_lt_zero i)⟩ (FU_lt (by omega))
  · obtain ⟨e1, hw, hk⟩ := hb
    unfold t_X7_without_10
    rw [e1, p5, ix_nI (n := i) (by omega), ix_nI (n := n * 5 + i) (by omega)]
    have zi : zin (nI i) 5 = true := zin_nI (by omega) (by decide)
    have zq : zin (nI (n * 5 + i)) 50 = true := zin_nI (by omega) (by decide)
    refine st_if (fun z => absurd z (nI_ge hi (by omega))) (fun _ => st_ck zq (st_ck zi (st_n (st_ck zq (st_ck zi (st_n (st_n (st_l ⟨nI_s1, fun c c2 c3 => ?_, fun j hj => ?_⟩))))))))
    · dsimp only
      rw [rd_o c3, rd_o c2]
      exact hw c c2 c3
    · dsimp only
      rw [rd_o (a2 := 42) (by decide), rd_o (a2 := 5) (by decide), hw 4 (by decide) (by decide), hw 5 (by decide) (by decide)]
      by_cases e : j = i
      · subst e
        rw [rd_s, rd_s]
        exact ⟨rfl, rfl⟩
      · rw [rd_j e, rd_j e, rd_o (by decide)]
        exact hk j (by omega)
  · obtain ⟨e1, hw, hk⟩ := hb
    unfold t_X7_without_10
    rw [e1]
    exact ⟨_, if_pos (nI_le (Nat.le_refl _) (by omega)), hw, hk⟩
theorem GM_0 {a : Mem} {k n : Nat} {d N T : Nat → Nat} (g : GG k d N T) (hn : n < k) (h : GM a k (up d n (dm (d n) 0)) (cutN d N n 0) (cutN d T n 0)) : GM a k d N T := by
  refine ⟨h.1, fun x hx => ?_⟩
  have d5 := (g.2 x hx).1
  obtain ⟨h1, h2⟩ := h.2 x hx
  by_cases e : x = n
  · subst e
    rw [up_s, dm_0] at h1 h2
    refine ⟨h1, fun i hi => ?_⟩
    have q := h2 i hi
    have ei := (eix_b (d x) (by omega) 0 (Nat.pow_pos (by decide)) i hi (Nat.zero_testBit i)).1
    rw [dm_0] at ei
    rw [cut_s (by omega), cut_s (by omega), ei] at q
    exact q
  · rw [up_o e] at h1 h2
    refine ⟨h1, fun i hi => ?_⟩
    have q := h2 i hi
    rw [cut_o (by omega) e, cut_o (by omega) e] at q
    exact q
theorem skip_0 {n s d : Nat} (h5 : d ≤ 5) : ∀ (r x : Nat) (a : Mem), x + r = 2 ^ d → 1 ≤ x → a 0 53 = -4 → ∀ v, r < v → zlp v (fun (q : Int32 × Mem) => t_X7_without_91 (nI n) (nI s) (nI d) 0 q.1 q.2) (nI x, a) = some a := by
  have t5 := two_5 h5
  intro r
  induction r with
  | zero =>
    intro x a hx h1 ha v hv
    obtain ⟨v, rfl⟩ : ∃ w, v = w + 1 := ⟨v - 1, by omega⟩
    refine zlp_off (f := fun (q : Int32 × Mem) => t_X7_without_91 (nI n) (nI s) (nI d) 0 q.1 q.2) (a := (nI x, a)) ?_
    show t_X7_without_91 (nI n) (nI s) (nI d) 0 (nI x) a = some (.inr a)
    unfold t_X7_without_91
    rw [shl_5 h5, if_pos (nI_le (by omega) (by omega))]
  | succ r ih =>
    intro x a hx h1 ha v hv
    obtain ⟨v, rfl⟩ : ∃ w, v = w + 1 := ⟨v - 1, by omega⟩
    have pp := pcb_pos x (by omega) (by omega)
    have pl := pcb_le x (by omega)
    have np : ¬ nI (pcb x 10) = (0 : Int32) := fun q => pp ((nI_eq (b := 0) (by omega) (by omega)).mp q)
    have e2 : t_X7_without_91 (nI n) (nI s) (nI d) 0 (nI x) a = some (.inl (nI (x + 1), a)) := by
      unfold t_X7_without_91
      rw [shl_5 h5, if_neg (nI_ge (by omega) (by omega)), if_pos ha, bits_eq (by omega), bind_s, if_neg np]
      simp only [bn]
      rw [nI_s1]
    exact (zlp_on (f := fun (q : Int32 × Mem) => t_X7_without_91 (nI n) (nI s) (nI d) 0 q.1 q.2) (a := (nI x, a)) (a2 := (nI (x + 1), a)) e2).trans (ih (x + 1) a (by omega) (by omega) ha v (by omega))
/-- nothing left out: the same as the reading that stands -/
theorem zero_step {mm m2 a : Mem} {k L c n s : Nat} {d N T P Z : Nat → Nat} {V W : Nat → Int32} (g : GG k d N T) (h : IM mm k d N T V W L c P Z) (hn : n < k) (hs : s < c) (cr : CR m2 mm c k d Z P) (hw : WFr mm n a) (hk : KP mm n (d n) a) : ∃ m42 m45, l_X7_without_128 (nI n) (nI (d n)) (nI 0) FU 0 (sto a 3 n 0) = some m42 ∧ s_X7_read (sto m42 0 6 0) = some m45 ∧ WFr mm n m45 ∧ KP mm n (d n) m45 ∧ (bt (m2 40 s) n = true ↔ ¬ m45 37 (10 * s + n) = 0) ∧ m45 0 53 = a 0 53 ∧ m45 0 54 = a 0 54 := by
  have hc6 := h.2.2.2.1.2.1
  have h10 := g.1
  have hv : 0 < 2 ^ d n := Nat.pow_pos (by decide)
  obtain ⟨m42, e42, k1, k2, k3, k4, k5⟩ := cut_loop g h hn hv hw hk
  have k1' := WFr_0 (j := 6) (x := 0) k1 (Or.inl rfl)
  have k2' := KP_0 (c := 0) (j := 6) (x := 0) k2 (by decide) (by decide)
  have k3' : (sto m42 0 6 0) 3 n = nI (dm (d n) 0) := by rw [rd_o (by decide)]; exact k3
  have k4' : ∀ i, i < d n → (0 : Nat).testBit i = false → (sto m42 0 6 0) 4 (n * 5 + dm i 0) = mm 4 (n * 5 + i) ∧ (sto m42 0 6 0) 5 (n * 5 + dm i 0) = mm 5 (n * 5 + i) := fun i hi hb => by rw [rd_o (by decide), rd_o (by decide)]; exact k4 i hi hb
  have e06 : (sto m42 0 6 0) 0 6 = 0 := rd_s
  have e53 : (sto m42 0 6 0) 0 53 = a 0 53 := by rw [rd_j (by decide), k5 0 (by decide) (by decide) (by decide)]
  have e54 : (sto m42 0 6 0) 0 54 = a 0 54 := by rw [rd_j (by decide), k5 0 (by decide) (by decide) (by decide)]
  generalize e43 : sto m42 0 6 0 = m43 at k1' k2' k3' k4' e06 e53 e54
  have i43c := IM_cut g h hn hv k1' k3' k4' e06
  have i43 : IM m43 k d N T V W L c P Z := ⟨GM_0 g hn i43c.1, i43c.2.1, i43c.2.2.1, i43c.2.2.2.1, i43c.2.2.2.2.1, i43c.2.2.2.2.2.1, Or.inl e06⟩
  obtain ⟨m45, e45, i45, f4, g4, -, -⟩ := m_readg g i43 (Or.inl e06)
  obtain ⟨w1, w2, w3, w4, w5⟩ := k1'
  have cx : CX m2 m43 c k d Z P := CX_m ⟨g, h.1, h.2.2.2.1⟩ ⟨g, i43.1, i43.2.2.2.1⟩ (fun q hq => by unfold SFK at hq; exact w1 q (by omega) (by omega) (by omega) (by omega) (by omega)) (Or.inr cr)
  have cr2 : CR m2 m43 c k d Z P := cx.resolve_left (fun z => cr.1 z.1)
  refine ⟨m42, m45, e42, by rw [e43]; exact e45, ⟨fun q q0 q3 q4 q5 q6 => ?_, fun j j6 j53 j54 => ?_, fun z hz => ?_, fun z i hz hi => ?_, i45.2.2.2.2.2.1⟩, ?_, ag_fits hc6 h10 f4 cr2.2.1 g4 s n hs hn, ?_, ?_⟩
  · rw [f4.1 q q0 (by omega) (by omega) (by omega) (by omega) (by omega)]; exact w1 q q0 q3 q4 q5 q6
  · rw [f4.2 j j6]; exact w2 j j6 j53 j54
  · rw [f4.1 3 (by decide) (by decide) (by decide) (by decide) (by decide) (by decide)]; exact w3 z hz
  · rw [f4.1 4 (by decide) (by decide) (by decide) (by decide) (by decide) (by decide), f4.1 5 (by decide) (by decide) (by decide) (by decide) (by decide) (by decide)]; exact w4 z i hz hi
  · unfold KP
    rw [f4.1 42 (by decide) (by decide) (by decide) (by decide) (by decide) (by decide), f4.1 43 (by decide) (by decide) (by decide) (by decide) (by decide) (by decide)]
    exact k2'
  · rw [f4.2 53 (by decide)]; exact e53
  · rw [f4.2 54 (by decide)]; exact e54
/-- the reference's inner loop, from its first mask -/
theorem ref_in {n s d κ : Nat} {a a2 : Mem} (h5 : d ≤ 5) (hκ : ¬ κ = 0) (hκ6 : κ < 6) (ha : a 0 53 = -4) (h : zlp 999999 (fun (q : Int32 × Mem) => t_X7_without_91 (nI n) (nI s) (nI d) (nI κ) q.1 q.2) (nI 1, a) = some a2) : l_X7_without_91 (nI n) (nI s) (nI d) (nI κ) FU 0 a = some a2 := by
  have t5 := two_5 h5
  have pp : 0 < 2 ^ d := Nat.pow_pos (by decide)
  have e2 : t_X7_without_91 (nI n) (nI s) (nI d) (nI κ) (nI 0) a = some (.inl (nI 1, a)) := by
    unfold t_X7_without_91
    rw [shl_5 h5, if_neg (nI_ge (by omega) (by omega)), if_pos ha, bits_eq (by omega), bind_s, if_neg (fun q => hκ (((nI_eq (show pcb 0 10 < 2 ^ 31 by decide) (by omega)).mp q).symm.trans (by decide)))]
    simp only [bn]
    rw [nI_s1]
  unfold l_X7_without_91
  exact (zlp_on (n := 999999) (f := fun (q : Int32 × Mem) => t_X7_without_91 (nI n) (nI s) (nI d) (nI κ) q.1 q.2) (a := (nI 0, a)) (a2 := (nI 1, a)) e2).trans h
