/-! a row with edges left out: the reference's -/
def eix : Nat → Nat → Nat → Nat
  | 0, _, _ => 0
  | i + 1, w, j => if w.testBit i = false ∧ dm i w = j then i else eix i w j
theorem eix_a : ∀ d, d < 6 → ∀ w, w < 2 ^ d → ∀ j, j < dm d w → eix d w j < d ∧ w.testBit (eix d w j) = false ∧ dm (eix d w j) w = j := by decide +kernel
theorem eix_m : ∀ d, d < 6 → ∀ w, w < 2 ^ d → ∀ j, j < dm d w → ∀ i, i < j → eix d w i < eix d w j := by decide +kernel
theorem eix_b : ∀ d, d < 6 → ∀ w, w < 2 ^ d → ∀ i, i < d → w.testBit i = false → eix d w (dm i w) = i ∧ dm i w < dm d w := by decide +kernel
theorem dm_i (w : Nat) : ∀ i, dm i w ≤ i
  | 0 => Nat.le_refl _
  | i + 1 => by
    have := dm_i w i
    show dm i w + (if w.testBit i = true then 0 else 1) ≤ i + 1
    by_cases h : w.testBit i = true
    · rw [if_pos h]; omega
    · rw [if_neg h]; omega
theorem dm_s {w i : Nat} (h : w.testBit i = false) : dm (i + 1) w = dm i w + 1 := by
  show dm i w + (if w.testBit i = true then 0 else 1) = dm i w + 1
  rw [h]
  rfl
theorem dm_k {w i : Nat} (h : w.testBit i = true) : dm (i + 1) w = dm i w := by
  show dm i w + (if w.testBit i = true then 0 else 1) = dm i w
  rw [if_pos h]
  rfl
theorem dm_mono {w i : Nat} : ∀ j, i ≤ j → dm i w ≤ dm j w
  | 0, h => by rw [show i = 0 by omega]; exact Nat.le_refl _
  | j + 1, h => by
    by_cases e : i = j + 1
    · rw [e]; exact Nat.le_refl _
    · have := dm_mono (w := w) (i := i) j (by omega)
      cases q : w.testBit j with
      | true => rw [dm_k q]; exact this
      | false => rw [dm_s q]; omega
theorem dm_lt {w i j : Nat} (h : i < j) (hw : w.testBit i = false) : dm i w < dm j w := by
  have := dm_mono (w := w) (i := i + 1) j h
  rw [dm_s hw] at this
  omega
theorem dm_0 : ∀ i, dm i 0 = i
  | 0 => rfl
  | i + 1 => by rw [dm_s (Nat.zero_testBit i), dm_0 i]
def cutN (d N : Nat → Nat) (n w : Nat) : Nat → Nat := fun q => if q / 5 = n then N (n * 5 + eix (d n) w (q % 5)) else N q
theorem cut_s {d N : Nat → Nat} {n w j : Nat} (hj : j < 5) : cutN d N n w (n * 5 + j) = N (n * 5 + eix (d n) w j) := by
  unfold cutN
  rw [if_pos (by omega), show (n * 5 + j) % 5 = j by omega]
theorem cut_o {d N : Nat → Nat} {n w x j : Nat} (hj : j < 5) (h : x ≠ n) : cutN d N n w (x * 5 + j) = N (x * 5 + j) := by
  unfold cutN
  rw [if_neg (by omega)]
theorem GG_cut {k n w : Nat} {d N T : Nat → Nat} (g : GG k d N T) (hn : n < k) (hw : w < 2 ^ d n) : GG k (up d n (dm (d n) w)) (cutN d N n w) (cutN d T n w) := by
  have d5 := (g.2 n hn).1
  have dl := dm_i w (d n)
  refine ⟨g.1, fun x hx => ?_⟩
  by_cases e : x = n
  · rw [e, up_s]
    refine ⟨by omega, fun i hi => ?_, fun i hi => ?_⟩
    · rw [cut_s (by omega), cut_s (by omega)]
      exact (g.2 n hn).2.1 _ (eix_a (d n) (by omega) w hw i hi).1
    · rw [cut_s (by omega), cut_s (by omega), cut_s (by omega), cut_s (by omega)]
      exact GG_lt g hn (eix_m (d n) (by omega) w hw (i + 1) hi i (Nat.lt_succ_self i)) (eix_a (d n) (by omega) w hw (i + 1) hi).1
  · obtain ⟨a1, a2, a3⟩ := g.2 x hx
    rw [up_o e]
    refine ⟨a1, fun i hi => ?_, fun i hi => ?_⟩
    · rw [cut_o (by omega) e, cut_o (by omega) e]
      exact a2 i hi
    · rw [cut_o (by omega) e, cut_o (by omega) e, cut_o (by omega) e, cut_o (by omega) e]
      exact a3 i hi
def wf (n w : Nat) : Nat → Nat := fun x => if x = n then w else 0
theorem CMP_cut {k n w : Nat} {d N T : Nat → Nat} (g : GG k d N T) (hn : n < k) (hw : w < 2 ^ d n) {x : Nat} (hx : x < k) : CMP (d x) (up d n (dm (d n) w) x) (fun j => cutN d N n w (x * 5 + j)) (fun j => cutN d T n w (x * 5 + j)) (fun j => N (x * 5 + j)) (fun j => T (x * 5 + j)) (wf n w x) := by
  have d5 := (g.2 x hx).1
  unfold wf
  by_cases e : x = n
  · rw [if_pos e]
    subst e
    refine ⟨hw, up_s, fun i hi hb => ?_⟩
    dsimp only
    have := dm_i w i
    rw [cut_s (by omega), cut_s (by omega), (eix_b (d x) (by omega) w hw i hi hb).1]
    exact ⟨rfl, rfl⟩
  · rw [if_neg e]
    refine ⟨Nat.pow_pos (by decide), by rw [up_o e, dm_0], fun i hi hb => ?_⟩
    dsimp only
    rw [dm_0, cut_o (by omega) e, cut_o (by omega) e]
    exact ⟨rfl, rfl⟩
/-- the loop that leaves them out -/
theorem cut_loop {m a : Mem} {k L c n w : Nat} {d N T P Z : Nat → Nat} {V W : Nat → Int32} (g : GG k d N T) (h : IM m k d N T V W L c P Z) (hn : n < k) (hv : w < 2 ^ d n) (hw : WFr m n a) (hk : KP m n (d n) a) : ∃ m42, l_X7_without_128 (nI n) (nI (d n)) (nI w) FU 0 (sto a 3 n 0) = some m42 ∧ (WFr m n m42 ∧ KP m n (d n) m42 ∧ m42 3 n = nI (dm (d n) w) ∧ (∀ i, i < d n → w.testBit i = false → m42 4 (n * 5 + dm i w) = m 4 (n * 5 + i) ∧ m42 5 (n * 5 + dm i w) = m 5 (n * 5 + i)) ∧ ∀ c, c ≠ 3 → c ≠ 4 → c ≠ 5 → m42 c = a c) := by
  have h10 := g.1
  have h5 := (g.2 n hn).1
  have hE := EG_of g h.1 hn
  have p5' := two_5 h5
  have s30 : (sto a 3 n 0) 3 n = nI 0 := rd_s
  unfold l_X7_without_128
  refine forG (d n) (fun i (b : Int32 × Mem) => b.1 = nI i ∧ WFr m n b.2 ∧ KP m n (d n) b.2 ∧ b.2 3 n = nI (dm i w) ∧ (∀ i', i' < i → w.testBit i' = false → b.2 4 (n * 5 + dm i' w) = m 4 (n * 5 + i') ∧ b.2 5 (n * 5 + dm i' w) = m 5 (n * 5 + i')) ∧ ∀ c, c ≠ 3 → c ≠ 4 → c ≠ 5 → b.2 c = a c) _ (fun i b hi hb => ?_) (fun b hb => ?_) FU 0 (0, sto a 3 n 0) (Nat.zero_le _) ⟨rfl, WFr_3 hw, KP_0 hk (by decide) (by decide), s30, fun i hi => absurd hi (Nat.not_lt_zero i), fun c c3 _ _ => rd_o c3⟩ (FU_lt (by omega))
  · obtain ⟨e1, hw2, hk2, e3, hr, hf⟩ := hb
    have q5 := dm_i w i
    unfold t_X7_without_128
    rw [e1, ix_nI (n := n) (by omega), e3, ix_nI (n := i) (by omega), p5, ix_nI (n := n * 5 + dm i w) (by omega)]
    have bw : bt (nI w) i = w.testBit i := bt_10 _ (by omega) i (by omega)
    refine st_if (fun z => absurd z (nI_ge hi (by omega))) (fun _ => st_if (fun z => ?_) (fun z => ?_))
    · have hb : w.testBit i = false := by rw [← bw]; exact (bit_0 (by omega)).mp z
      have zn : zin (nI n) 10 = true := zin_nI (by omega) (by decide)
      have zi : zin (nI i) 5 = true := zin_nI (by omega) (by decide)
      have zq : zin (nI (n * 5 + dm i w)) 50 = true := zin_nI (by omega) (by decide)
      refine st_ck zn (st_ck zi (st_ck zq (st_n ?_)))
      have r3 : (sto b.2 4 (n * 5 + dm i w) (b.2 42 i)) 3 n = nI (dm i w) := by rw [rd_o (by decide)]; exact e3
      rw [r3, p5, ix_nI (n := n * 5 + dm i w) (by omega)]
      refine st_ck zn (st_ck zi (st_ck zq (st_n ?_)))
      have r4 : (sto (sto b.2 4 (n * 5 + dm i w) (b.2 42 i)) 5 (n * 5 + dm i w) (sto b.2 4 (n * 5 + dm i w) (b.2 42 i) 43 i)) 3 n = nI (dm i w) := by rw [rd_o (by decide)]; exact r3
      rw [r4, nI_s1]
      refine st_ck zn (st_ck zn (st_n (st_n (st_l ⟨nI_s1, WFr_3 (WFr_5 (WFr_4 hw2 (by omega)) (by omega)), KP_0 (KP_0 (KP_0 hk2 (by decide) (by decide)) (by decide) (by decide)) (by decide) (by decide), ?_, fun i' hi' hb' => ?_, fun c c3 c4 c5 => ?_⟩))))
      · dsimp only
        rw [rd_s, dm_s hb]
      · dsimp only
        by_cases e : i' = i
        · rw [e]
          refine ⟨?_, ?_⟩
          · rw [rd_o (a2 := 4) (by decide), rd_o (a2 := 4) (by decide), rd_s]
            exact (hk2 i hi).1
          · rw [rd_o (a2 := 5) (by decide), rd_s, rd_o (a2 := 43) (by decide)]
            exact (hk2 i hi).2
        · have lt := dm_lt (show i' < i by omega) hb'
          refine ⟨?_, ?_⟩
          · rw [rd_o (a2 := 4) (by decide), rd_o (a2 := 4) (by decide), rd_j (by omega)]
            exact (hr i' (by omega) hb').1
          · rw [rd_o (a2 := 5) (by decide), rd_j (by omega), rd_o (a2 := 5) (by decide)]
            exact (hr i' (by omega) hb').2
      · dsimp only
        rw [rd_o c3, rd_o c5, rd_o c4]
        exact hf c c3 c4 c5
    · have hb : w.testBit i = true := by
        cases q : w.testBit i
        · exact absurd ((bit_0 (by omega)).mpr (bw.trans q)) z
        · rfl
      refine st_n (st_l ⟨nI_s1, hw2, hk2, by dsimp only; rw [dm_k hb]; exact e3, fun i' hi' hb' => ?_, hf⟩)
      by_cases e : i' = i
      · rw [e, hb] at hb'; cases hb'
      · exact hr i' (by omega) hb'
  · obtain ⟨e1, hw2, hk2, e3, hr, hf⟩ := hb
    unfold t_X7_without_128
    rw [e1]
    exact ⟨_, if_pos (nI_le (Nat.le_refl _) (by omega)), hw2, hk2, e3, hr, hf⟩
/-- the reference's memory without them -/
theorem IM_cut {m a : Mem} {k L c n w : Nat} {d N T P Z : Nat → Nat} {V W : Nat → Int32} (g : GG k d N T) (h : IM m k d N T V W L c P Z) (hn : n < k) (hv : w < 2 ^ d n) (hw : WFr m n a) (e3 : a 3 n = nI (dm (d n) w)) (hr : ∀ i, i < d n → w.testBit i = false → a 4 (n * 5 + dm i w) = m 4 (n * 5 + i) ∧ a 5 (n * 5 + dm i w) = m 5 (n * 5 + i)) (e06 : a 0 6 = 0) : IM a k (up d n (dm (d n) w)) (cutN d N n w) (cutN d T n w) V W L c P Z := by
  obtain ⟨w1, w2, w3, w4, w5⟩ := hw
  obtain ⟨h1, h2, h3, h4, h5, h6, h7⟩ := h
  have d5 := (g.2 n hn).1
  refine ⟨⟨by rw [w2 0 (by decide) (by decide) (by decide)]; exact h1.1, fun x hx => ?_⟩, by rw [w1 1 (by decide) (by decide) (by decide) (by decide) (by decide), w1 2 (by decide) (by decide) (by decide) (by decide) (by decide)]; exact h2, by rw [w2 37 (by decide) (by decide) (by decide)]; exact h3, SH_c (fun b b1 b2 => w1 b (by omega) (by omega) (by omega) (by omega) (by omega)) (w2 7 (by decide) (by decide) (by decide)) h4, AC_c (w1 10 (by decide) (by decide) (by decide) (by decide) (by decide)) (w1 11 (by decide) (by decide) (by decide) (by decide) (by decide)) h5, w5, Or.inl e06⟩
  by_cases e : x = n
  · rw [e, up_s]
    refine ⟨e3, fun j hj => ?_⟩
    have hd := dm_i w (d n)
    obtain ⟨u1, u2, u3⟩ := eix_a (d n) (by omega) w hv j hj
    obtain ⟨v1, v2⟩ := hr _ u1 u2
    rw [u3] at v1 v2
    rw [v1, v2, cut_s (by omega), cut_s (by omega)]
    exact (h1.2 n hn).2 _ u1
  · have x5 := (g.2 x hx).1
    rw [up_o e]
    refine ⟨by rw [w3 x e]; exact (h1.2 x hx).1, fun i hi => ?_⟩
    rw [(w4 x i e (by omega)).1, (w4 x i e (by omega)).2, cut_o (by omega) e, cut_o (by omega) e]
    exact (h1.2 x hx).2 i hi
