/-! binding one more edge to a part -/
theorem Spl_k {k : Nat} {P : Nat → Prop} {R : Int32} (h : ∀ x, x < 32 → bt R x = true → x.testBit k = false) : Spl k P R (fun _ => R) := by
  intro x hx hb
  have e := h x hx hb
  refine ⟨fun z => ?_, fun _ p _ => hb⟩
  rw [e] at z
  exact absurd z (by decide)
theorem tkV_39 {m m2 : Mem} (e : ∀ c, c ≠ 39 → c ≠ 40 → m2 c = m c) : tkV m2 = tkV m := by
  funext p j sv
  unfold tkV
  rw [e 4 (by decide) (by decide), e 9 (by decide) (by decide), e 10 (by decide) (by decide), e 37 (by decide) (by decide), e 11 (by decide) (by decide), e 5 (by decide) (by decide), e 38 (by decide) (by decide), e 1 (by decide) (by decide), e 2 (by decide) (by decide), e 12 (by decide) (by decide)]
theorem bt_if {b : Prop} [Decidable b] {z x : Nat} (hz : z < 32) (hx : x < 32) : bt (if b then (1 : Int32) <<< (nI z &&& 31) else 0) x = true ↔ b ∧ x = z := by
  by_cases h : b
  · rw [if_pos h, one_shl hz hx, decide_eq_true_iff]
    exact ⟨fun e => ⟨h, e⟩, fun e => e.2⟩
  · rw [if_neg h, b_0]
    exact ⟨fun e => absurd e (by decide), fun e => absurd e.1 h⟩
theorem two_lt {i : Nat} (h : i < 5) : 2 ^ i < 32 := by
  rcases (show i = 0 ∨ i = 1 ∨ i = 2 ∨ i = 3 ∨ i = 4 by omega) with rfl | rfl | rfl | rfl | rfl <;> decide
/-- edge k bound to part p of shape s -/
def bnd (m : Mem) (s k p : Nat) : Mem := sto m 39 k (nI (6 * s + p))
theorem bnd_o {m : Mem} {s k p c : Nat} (h : c ≠ 39) : bnd m s k p c = m c := rd_o h
theorem lfV_Spl {m : Mem} {s n k i0 q : Nat} {sv y : Int32} {Y : Nat → Int32} (hs : s < 6) (h6 : q ≤ 6) (hi : i0 < q) (hk : k < 5) (hk4 : m 39 k = -4) (hy : Spl k (fun p => p < q) y Y) : ∀ d, d ≤ 5 → Spl k (fun p => p < q) (lfV m (6 * s + i0) n sv y d) (fun p => lfV (bnd m s k p) (6 * s + i0) n sv (Y p) d)
  | 0, _ => hy
  | j + 1, hj => by
    unfold lfV
    refine Spl_or (lfV_Spl hs h6 hi hk hk4 hy j (by omega)) ?_
    rw [shl_5 (d := j) (by omega)]
    have tz := two_lt (i := j) (by omega)
    by_cases e : j = k
    · subst e
      intro x hx hb
      obtain ⟨⟨hb1, hb2⟩, rfl⟩ := (bt_if tz hx).mp hb
      have t2 : (2 ^ j).testBit j = true := by rw [Nat.testBit_two_pow]; exact decide_eq_true rfl
      refine ⟨fun _ => ⟨i0, hi, (bt_if tz hx).mpr ⟨⟨Or.inr ?_, ?_⟩, rfl⟩⟩, fun z => ?_⟩
      · exact rd_s
      · rw [tkV_39 (fun c c39 _ => bnd_o c39)]; exact hb2
      · rw [t2] at z; exact absurd z (by decide)
    · have ec : ∀ p, (if (bnd m s k p 39 j = -4 ∨ bnd m s k p 39 j = nI (6 * s + i0)) ∧ ¬ tkV (bnd m s k p) (6 * s + i0) (n * 5 + j) sv = 0 then (1 : Int32) <<< (nI (2 ^ j) &&& 31) else 0) = (if (m 39 j = -4 ∨ m 39 j = nI (6 * s + i0)) ∧ ¬ tkV m (6 * s + i0) (n * 5 + j) sv = 0 then (1 : Int32) <<< (nI (2 ^ j) &&& 31) else 0) := fun p => by
        rw [show bnd m s k p 39 j = m 39 j from rd_j e, tkV_39 (fun c c39 _ => bnd_o c39)]
      simp only [ec]
      refine Spl_k (fun x hx hb => ?_)
      obtain ⟨-, rfl⟩ := (bt_if tz hx).mp hb
      rw [Nat.testBit_two_pow]
      exact decide_eq_false e
theorem lfx_Spl {m : Mem} {s n k q d : Nat} {sv x y : Int32} {Y : Nat → Int32} (hs : s < 6) (h6 : q ≤ 6) (hx : x = -4 ∨ ∃ i, i < q ∧ x = nI (6 * s + i)) (hk : k < 5) (hd : d ≤ 5) (hk4 : m 39 k = -4) (hy : Spl k (fun p => p < q) y Y) : Spl k (fun p => p < q) (lfx m n sv d x y) (fun p => lfx (bnd m s k p) n sv d x (Y p)) := by
  unfold lfx
  rcases hx with rfl | ⟨i, hi, rfl⟩
  · simp only [if_true]; exact hy
  · simp only [if_neg (nn4 (show 6 * s + i < 2 ^ 31 by omega)), ix_n (show 6 * s + i < 2 ^ 31 by omega)]
    exact lfV_Spl hs h6 hi hk hk4 hy d hd
theorem upd_Spl {k : Nat} {P : Nat → Prop} {f : Nat → Int32} {F : Nat → Nat → Int32} {u : Nat} {x : Int32} {X : Nat → Int32} (hf : ∀ j, Spl k P (f j) (fun p => F p j)) (hx : Spl k P x X) : ∀ j, Spl k P (upd f u x j) (fun p => upd (F p) u (X p) j) := by
  intro j
  simp only [upd_if]
  by_cases e : j = u
  · simp only [if_pos e]; exact hx
  · simp only [if_neg e]; exact hf j
theorem drun_Spl {m : Mem} {s n k q d z : Nat} {sv : Int32} (hs : s < 6) (h6 : q ≤ 6) (hk : k < 5) (hd : d ≤ 5) (hk4 : m 39 k = -4) (hK : ∀ j, j < z → KD m s q j) : ∀ r, r ≤ z → ∀ (w : Int32) (f : Nat → Int32) (W : Nat → Int32) (F : Nat → Nat → Int32), Spl k (fun p => p < q) w W → (∀ j, Spl k (fun p => p < q) (f j) (fun p => F p j)) → Spl k (fun p => p < q) (drun m s n sv d r (w, f)).1 (fun p => (drun (bnd m s k p) s n sv d r (W p, F p)).1)
  | 0, _, w, f, W, F, hw, _ => hw
  | r + 1, hr, w, f, W, F, hw, hf => by
    unfold drun
    have e14 : ∀ p, bnd m s k p 14 = m 14 := fun p => bnd_o (by decide)
    have e15 : ∀ p, bnd m s k p 15 = m 15 := fun p => bnd_o (by decide)
    have e16 : ∀ p, bnd m s k p 16 = m 16 := fun p => bnd_o (by decide)
    have e17 : ∀ p, bnd m s k p 17 = m 17 := fun p => bnd_o (by decide)
    have e18 : ∀ p, bnd m s k p 18 = m 18 := fun p => bnd_o (by decide)
    have G := drun_Spl (n := n) (sv := sv) hs h6 hk hd hk4 hK r (by omega)
    have hKr := hK r (by omega)
    unfold dstep
    simp only [e14, e15, e16, e17, e18]
    by_cases c2 : m 14 (160 * s + r) = 2
    · simp only [if_pos c2]
      refine G _ _ _ _ hw (upd_Spl hf (Spl_J (hf _) (Spl_C (lfx_Spl hs h6 ?_ hk hd hk4 (hf r)) _ _)))
      rcases hKr with ⟨e, -⟩ | ⟨e, -⟩ | ⟨-, -, h18, -⟩
      · rw [e] at c2; exact absurd c2 (by decide)
      · rw [e] at c2; exact absurd c2 (by decide)
      · exact h18
    · simp only [if_neg c2]
      by_cases c1 : m 14 (160 * s + r) = 1
      · simp only [if_pos c1]
        exact G _ _ _ _ hw (upd_Spl hf (Spl_or (hf _) (hf r)))
      · simp only [if_neg c1]
        by_cases c4 : m 15 (160 * s + r) = -4
        · simp only [if_pos c4]
          exact G _ _ _ _ (hf r) hf
        · simp only [if_neg c4]
          exact G _ _ _ _ hw (upd_Spl hf (hf r))
theorem din_Spl {m : Mem} {s k : Nat} {P : Nat → Prop} : ∀ j, Spl k P (din m s j) (fun p => din (bnd m s k p) s j) := by
  intro j
  unfold din
  have e14 : ∀ p, bnd m s k p 14 = m 14 := fun p => bnd_o (by decide)
  simp only [e14]
  by_cases c : m 14 (160 * s + j) = 1
  · simp only [if_pos c]; exact Spl_1
  · simp only [if_neg c]; exact Spl_0
theorem WS_c {m m2 : Mem} (e : ∀ c, c ≠ 39 → c ≠ 40 → m2 c = m c) {s n : Nat} : WS m2 s n = WS m s n := by
  unfold WS s_X7_wantedSet l_X7_wantedSet_5
  have h : ∀ a b c d, t_X7_wantedSet_5 m2 a b c d = t_X7_wantedSet_5 m a b c d := fun a b c d => by
    unfold t_X7_wantedSet_5 s_X7_isWanted l_X7_isWanted_5
    have h2 : ∀ a b c d, t_X7_isWanted_5 m2 a b c d = t_X7_isWanted_5 m a b c d := fun a b c d => by
      unfold t_X7_isWanted_5
      rw [e 8 (by decide) (by decide), e 9 (by decide) (by decide)]
    simp only [h2, e 3 (by decide) (by decide), e 4 (by decide) (by decide)]
  simp only [h]
theorem dstep_c {m m2 : Mem} (e : ∀ c, c ≠ 40 → m2 c = m c) {s n d k : Nat} {sv : Int32} {a : Int32 × (Nat → Int32)} : dstep m2 s n sv d k a = dstep m s n sv d k a := by
  unfold dstep lfx
  simp only [lfV_c e, e 14 (by decide), e 15 (by decide), e 16 (by decide), e 17 (by decide), e 18 (by decide)]
theorem drun_c {m m2 : Mem} (e : ∀ c, c ≠ 40 → m2 c = m c) {s n d : Nat} {sv : Int32} : ∀ k a, drun m2 s n sv d k a = drun m s n sv d k a
  | 0, a => rfl
  | k + 1, a => by
    unfold drun
    rw [dstep_c e, drun_c e k]
theorem canP_c {m m2 : Mem} (e : ∀ c, c ≠ 40 → m2 c = m c) {s n d z : Nat} {sv : Int32} : canP m2 s n d z sv ↔ canP m s n d z sv := by
  unfold canP DV
  have ed : din m2 s = din m s := by funext j; unfold din; rw [e 14 (by decide)]
  rw [e 7 (by decide), WS_c (fun c _ c4 => e c c4), drun_c e, ed]
theorem canP_bnd {m : Mem} {c s n d k : Nat} {P Z : Nat → Nat} {sv : Int32} (hS : SH m c P Z) (hs : s < c) (hd : d ≤ 5) (hk : k < 5) (hk4 : m 39 k = -4) (hw : (WS m s n).testBit k = true) (hw3 : WS m s n < 32) (h : canP m s n d (Z s) sv) : ∃ p, p < P s ∧ canP (bnd m s k p) s n d (Z s) sv := by
  have hc6 := hS.2.1
  obtain ⟨⟨hP6, -, -⟩, hZ, -, hK⟩ := hS.2.2 s hs
  have hsp := drun_Spl (n := n) (d := d) (sv := sv) (s := s) (z := Z s) (by omega) hP6 hk hd hk4 hK (Z s) (Nat.le_refl _) 1 (din m s) (fun _ => 1) (fun p => din (bnd m s k p) s) Spl_1 din_Spl
  obtain ⟨p, hp, hb⟩ := (hsp (WS m s n) hw3 h.2).1 hw
  refine ⟨p, hp, ?_, ?_⟩
  · rw [WS_c (m2 := bnd m s k p) (fun c c39 _ => bnd_o c39), bnd_o (by decide)]
    exact h.1
  · rw [WS_c (m2 := bnd m s k p) (fun c c39 _ => bnd_o c39)]
    exact hb
theorem SH_c {m m2 : Mem} {c : Nat} {P Z : Nat → Nat} (e : ∀ a, 7 ≤ a → a < 19 → m2 a = m a) (e0 : m2 0 7 = m 0 7) (h : SH m c P Z) : SH m2 c P Z := by
  unfold SH KD
  rw [e 8 (by decide) (by decide), e 10 (by decide) (by decide), e 11 (by decide) (by decide), e 13 (by decide) (by decide), e 14 (by decide) (by decide), e 15 (by decide) (by decide), e 16 (by decide) (by decide), e 17 (by decide) (by decide), e 18 (by decide) (by decide), e0]
  exact h
theorem free_eq (m : Mem) : ∃ m2, s_X7_free m = some m2 ∧ (∀ i, i < 5 → m2 39 i = -4) ∧ ∀ c, c ≠ 39 → m2 c = m c := by
  unfold s_X7_free l_X7_free_2
  refine ex_b (Q := fun (m2 : Mem) => (∀ i, i < 5 → m2 39 i = -4) ∧ ∀ c, c ≠ 39 → m2 c = m c) ?_ (fun m7 h => ex_s h)
  refine forG 5 (fun j (a : Int32 × Mem) => a.1 = nI j ∧ (∀ i, i < j → a.2 39 i = -4) ∧ ∀ c, c ≠ 39 → a.2 c = m c) _ (fun j a hj ha => ?_) (fun a ha => ?_) FU 0 (0, m) (Nat.zero_le _) ⟨rfl, fun i hi => absurd hi (Nat.not_lt_zero i), fun _ _ => rfl⟩ (FU_lt (by omega))
  · obtain ⟨e1, hi, hc⟩ := ha
    unfold t_X7_free_2
    rw [e1, ix_nI (n := j) (by omega)]
    refine st_if (fun z => absurd z (nI_ge (b := 5) hj (by decide))) (fun _ => st_ck (zin_nI hj (by decide)) (st_n (st_n (st_l ⟨nI_s1, fun i hij => ?_, fun c c9 => ?_⟩))))
    · dsimp only
      by_cases e : i = j
      · subst e; exact rd_s
      · rw [rd_j e]; exact hi i (by omega)
    · dsimp only; rw [rd_o c9]; exact hc c c9
  · unfold t_X7_free_2
    rw [ha.1]
    exact ⟨_, if_pos (by decide), ha.2⟩
/-- the loop that looks for the least part -/
theorem dealt_in {m m0 : Mem} {c s n d k : Nat} {P Z : Nat → Nat} (hS : SH m0 c P Z) (hs : s < c) (hE : EG m0 n d) (hB : BL m0) (hk : k < 5) (h : ∃ p, p < P s ∧ canP (bnd m0 s k p) s n d (Z s) 0) (hm : ∀ a, a ≠ 40 → m a = bnd m0 s k 0 a) : ∃ m2, l_X7_dealt_114 (nI n) (nI s) (nI k) FU m = some m2 ∧ ∃ p, p < P s ∧ (∀ a, a ≠ 40 → m2 a = bnd m0 s k p a) ∧ canP (bnd m0 s k p) s n d (Z s) 0 ∧ ∀ q, q < p → ¬ canP (bnd m0 s k q) s n d (Z s) 0 := by
  have hc6 := hS.2.1
  obtain ⟨⟨hP6, -, -⟩, -⟩ := hS.2.2 s hs
  obtain ⟨t, ht, hct⟩ := h
  unfold l_X7_dealt_114
  have X : ∀ {a : Mem} {q : Nat}, (∀ c, c ≠ 40 → a c = bnd m0 s k q c) → SH a c P Z ∧ EG a n d ∧ BL a := fun {a q} ha => by
    have e : ∀ c, c ≠ 39 → c ≠ 40 → a c = m0 c := fun c c9 c4 => by rw [ha c c4, bnd_o c9]
    refine ⟨SH_c (fun b b1 b2 => e b (by omega) (by omega)) (by rw [e 0 (by decide) (by decide)]) hS, ?_, ?_⟩
    · unfold EG
      rw [e 3 (by decide) (by decide), e 5 (by decide) (by decide)]
      exact hE
    · unfold BL
      rw [e 37 (by decide) (by decide), e 38 (by decide) (by decide)]
      exact hB
  refine forG t (fun q (a : Mem) => q ≤ t ∧ (∀ c, c ≠ 40 → a c = bnd m0 s k q c) ∧ ∀ r, r < q → ¬ canP (bnd m0 s k r) s n d (Z s) 0) _ (fun q a hq ha => ?_) (fun a ha => ?_) FU 0 m (Nat.zero_le _) ⟨Nat.zero_le _, hm, fun r hr => absurd hr (Nat.not_lt_zero r)⟩ (FU_lt (by omega))
  · obtain ⟨-, ha, hr⟩ := ha
    obtain ⟨x1, x2, x3⟩ := X ha
    have zk : zin (nI k) 5 = true := zin_nI hk (by decide)
    unfold t_X7_dealt_114
    refine st_2 (can_eq x1 hs x2 x3) (fun r24 m25 hq4 => ?_)
    obtain ⟨-, h2, h3⟩ := hq4
    dsimp only at h2 h3
    rw [canP_c ha] at h2
    refine st_if (fun h0 => st_ck zk (st_ck zk (st_n (st_l ⟨by omega, fun c c4 => ?_, fun r hrq => ?_⟩)))) (fun h0 => st_r ⟨q, by omega, fun c c4 => by rw [h3 c c4]; exact ha c c4, h2.mp h0, hr⟩)
    · rw [ix_nI (n := k) (by omega), h3 39 (by decide), ha 39 (by decide)]
      have e1 : bnd m0 s k q 39 k = nI (6 * s + q) := rd_s
      rw [e1, nI_s1]
      by_cases c9 : c = 39
      · subst c9
        unfold bnd
        rw [sto_same, sto_same, h3 39 (by decide), ha 39 (by decide)]
        unfold bnd
        rw [sto_same]
        funext j
        rw [upd_if, upd_if, upd_if]
        by_cases e : j = k
        · rw [if_pos e, if_pos e]; rfl
        · rw [if_neg e, if_neg e, if_neg e]
      · rw [rd_o c9, h3 c c4, ha c c4, bnd_o c9, bnd_o c9]
    · by_cases e : r = q
      · subst e; exact fun z => (h2.mpr z) h0
      · exact hr r (by omega)
  · obtain ⟨-, ha, hr⟩ := ha
    obtain ⟨x1, x2, x3⟩ := X ha
    unfold t_X7_dealt_114
    obtain ⟨⟨r24, m25⟩, e, -, h2, h3⟩ := can_eq (sv := 0) x1 hs x2 x3
    dsimp only at h2 h3
    rw [canP_c ha] at h2
    rw [e]
    refine ⟨m25, ?_, t, ht, fun c c4 => by rw [h3 c c4]; exact ha c c4, hct, hr⟩
    show (if r24 = 0 then _ else _) = _
    rw [if_neg (h2.mpr hct)]
