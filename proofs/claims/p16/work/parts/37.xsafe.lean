/-! the first module's readings: each comes to its end, from any memory that is told as it should be -/
def GI (m : Mem) (k : Nat) : Prop := m 1 0 = nI k ∧ k ≤ 10 ∧ ∀ n, n < k → ∃ d, d ≤ 5 ∧ m 4 n = nI d ∧ ∀ i, i < d → (∃ t, t < k ∧ m 6 (n * 5 + i) = nI t) ∧ ∃ a, a < 10 ∧ m 5 (n * 5 + i) = nI a
def stok (x : Int32) : Prop := 0 ≤ x.toInt ∧ (x.toInt < 64 → x.toInt < 6)
def BI (m : Mem) (b c : Nat) : Prop := m b 0 = nI c ∧ c ≤ 6 ∧ (∀ s, s < c → ∃ p, p ≤ 6 ∧ m (b + 2) s = nI p) ∧ (∀ j, j < 146 → stok (m (b + 8) j)) ∧ (∀ s, s ≤ 6 → ∃ j, j ≤ 146 ∧ m (b + 7) s = nI j)
def JV (m : Mem) (b k c : Nat) : Prop := isb b ∧ m 39 1 = nI b ∧ GI m k ∧ BI m b c
def jf (m m2 : Mem) : Prop := (∀ c, c ≠ 39 → c ≠ 40 → c ≠ 41 → c ≠ 42 → c ≠ 43 → m2 c = m c) ∧ ∀ j, j ≠ 4 → j ≠ 5 → j ≠ 8 → j ≠ 9 → m2 39 j = m 39 j
theorem jf_r {m : Mem} : jf m m := ⟨fun _ _ _ _ _ _ => rfl, fun _ _ _ _ _ => rfl⟩
theorem jf_t {m1 m2 m3 : Mem} (h : jf m1 m2) (g : jf m2 m3) : jf m1 m3 := ⟨fun c h1 h2 h3 h4 h5 => (g.1 c h1 h2 h3 h4 h5).trans (h.1 c h1 h2 h3 h4 h5), fun j h1 h2 h3 h4 => (g.2 j h1 h2 h3 h4).trans (h.2 j h1 h2 h3 h4)⟩
theorem jf_c {m : Mem} {c j : Nat} {x : Int32} (h : c = 40 ∨ c = 41 ∨ c = 42 ∨ c = 43) : jf m (sto m c j x) := by
  refine ⟨fun a h1 h2 h3 h4 h5 => sto_other (by rintro rfl; omega), fun i _ _ _ _ => ?_⟩
  rw [sto_other (by rintro rfl; omega)]
theorem jf_39 {m : Mem} {j : Nat} {x : Int32} (h : j = 4 ∨ j = 5 ∨ j = 8 ∨ j = 9) : jf m (sto m 39 j x) := by
  refine ⟨fun a h1 h2 h3 h4 h5 => sto_other h1, fun i h1 h2 h3 h4 => ?_⟩
  rw [sto_same, pk_un (by rintro rfl; omega)]
theorem jf_fgt {m m2 : Mem} (h : s_X2_forget m = some m2) : jf m m2 := by
  rw [forget_eq] at h
  cases h
  exact jf_t (jf_39 (by omega)) (jf_39 (by omega))
theorem JV_j {m m2 : Mem} {b k c : Nat} (h : JV m b k c) (g : jf m m2) : JV m2 b k c := by
  obtain ⟨h1, h2, h3, h4⟩ := h
  have e : ∀ a, a < 39 → m2 a = m a := fun a ha => g.1 a (by omega) (by omega) (by omega) (by omega) (by omega)
  have hb : b + 13 < 39 := by rcases h1 with rfl | rfl <;> omega
  refine ⟨h1, by rw [g.2 1 (by omega) (by omega) (by omega) (by omega)]; exact h2, ?_, ?_⟩
  · unfold GI
    rw [e 1 (by omega), e 4 (by omega), e 5 (by omega), e 6 (by omega)]
    exact h3
  · unfold BI
    rw [e b (by omega), e (b + 2) (by omega), e (b + 7) (by omega), e (b + 8) (by omega)]
    exact h4
theorem isb_e {b : Nat} (h : isb b) : b = 11 ∨ b = 25 := h
theorem ix_nI {n : Nat} (h : n < 2 ^ 31) : Int32.toNatClampNeg (nI n) = n := nI_clamp h
theorem le_nI {a b : Nat} (ha : a < 2 ^ 31) (hb : b < 2 ^ 31) : nI a ≤ nI b ↔ a ≤ b := nI_leI ha hb
theorem nI_s1 {a : Nat} : nI a + 1 = nI (a + 1) := nI_1 a
theorem m5 (n i : Nat) : nI n * 5 + nI i = nI (n * 5 + i) := by rw [show (5 : Int32) = nI 5 from rfl, nI_mul, nI_add]
theorem m6 (n i : Nat) : nI n * 6 + nI i = nI (n * 6 + i) := by rw [show (6 : Int32) = nI 6 from rfl, nI_mul, nI_add]
theorem X_present {m : Mem} {n : Nat} (hn : n < 10) : ∃ r, s_X2_presentEdges m (nI n) = some r ∧ True := by
  unfold s_X2_presentEdges
  refine ex_ck (zin_nI hn (by decide)) (ex_n ?_)
  exact ex_if (fun _ => ex_s trivial) (fun _ => ex_s trivial)
theorem X_wanted {m : Mem} {b k c n s : Nat} (h : JV m b k c) (hn : n < k) (hs : s < 6) : ∃ r, s_X2_wantedEdges m (nI n) (nI s) = some r ∧ True := by
  obtain ⟨hb, hj, ⟨hk, hk10, hG⟩, hB⟩ := h
  obtain ⟨d, hd5, hd, hE⟩ := hG n hn
  unfold s_X2_wantedEdges l_X2_wantedEdges_5
  refine ex_b (Q := fun _ => True) ?_ (fun y _ => ?_)
  · refine forG d (fun j a => a.2 = nI j) (fun _ => True) (fun j a hjd ha => ?_) (fun a ha => ?_) FU 0 (0, 0) (Nat.zero_le _) rfl (FU_lt (by omega))
    · unfold t_X2_wantedEdges_5
      rw [ha, ix_nI (by omega), hd]
      refine st_ck (zin_nI (by omega) (by decide)) ?_
      refine st_if (fun z => absurd z (nI_ge hjd (by omega))) (fun _ => ?_)
      refine st_k hb hj ?_
      rw [m5]
      refine st_ck (zin_nI hs (by decide)) (st_ck (zin_nI (by omega) (by decide)) ?_)
      refine st_if (fun _ => ?_) (fun _ => ?_)
      · exact st_n (st_l nI_s1)
      · exact st_n (st_n (st_l nI_s1))
    · unfold t_X2_wantedEdges_5
      rw [ha, ix_nI (by omega), hd]
      exact ⟨a.1, by rw [ck_p (zin_nI (by omega) (by decide)), if_pos (nI_le (Nat.le_refl _) (by omega))], trivial⟩
  · refine ex_b (X_present (by omega)) (fun r _ => ex_s trivial)
theorem X_passes {m : Mem} {b k c t s tr : Nat} (h : JV m b k c) (ht : t < 10) (hs : s < 36) : ∃ r, s_X2_passes m (nI t) (nI s) tr = some r ∧ True := by
  obtain ⟨hb, hj, -, -⟩ := h
  unfold s_X2_passes
  have hz : zin (nI s) 36 = true := zin_nI hs (by decide)
  have ht : zin (nI t) 10 = true := zin_nI ht (by decide)
  refine ex_k hb hj (ex_ck hz (ex_n (ex_k hb hj (ex_ck hz ?_))))
  refine ex_if (fun _ => ex_s trivial) (fun _ => ?_)
  have hx : ∀ {x : Int32} {o : Option Int32}, ¬ x < 0 → ¬ 6 ≤ x → (∃ r, o = some r ∧ True) → ∃ r, ck (zin x 6 = true) o = some r ∧ True := fun {x o} h1 h2 h3 => by
    refine ex_ck (zin_i ?_ ?_) h3
    · have := le_i.mp (Int32.not_lt.mp h1); rwa [toInt_0] at this
    · have := lt_i.mp (Int32.not_le.mp h2)
      have h6 : (6 : Int32).toInt = 6 := rfl
      rw [h6] at this
      exact this
  refine ex_if (fun _ => ?_) (fun _ => ?_)
  · refine ex_if (fun _ => ex_s trivial) (fun h1 => ex_if (fun _ => ex_s trivial) (fun h2 => hx h1 h2 ?_))
    exact ex_if (fun _ => ex_s trivial) (fun _ => ex_s trivial)
  refine ex_if (fun _ => ?_) (fun _ => ?_)
  · refine ex_if (fun _ => ex_s trivial) (fun h1 => ex_if (fun _ => ex_s trivial) (fun h2 => hx h1 h2 ?_))
    exact ex_if (fun _ => ex_s trivial) (fun _ => ex_s trivial)
  refine ex_ck ht (ex_if (fun _ => ex_s trivial) (fun _ => ex_ck ht (ex_if (fun _ => ex_s trivial) (fun _ => ex_ck ht (ex_k hb hj (ex_ck hz ?_))))))
  exact ex_if (fun _ => ex_s trivial) (fun _ => ex_s trivial)
theorem X_taken {m : Mem} {b k c n s tr : Nat} (h : JV m b k c) (hn : n < k) (hs : s < 36) : ∃ r, s_X2_setsTaken m (nI n) (nI s) tr = some r ∧ True := by
  have h0 := h
  obtain ⟨hb, hj, ⟨hk, hk10, hG⟩, hB⟩ := h
  obtain ⟨d, hd5, hd, hE⟩ := hG n hn
  have hz : zin (nI s) 36 = true := zin_nI hs (by decide)
  unfold s_X2_setsTaken l_X2_setsTaken_21
  refine ex_b (X_present (by omega)) (fun r2 _ => ex_n (ex_b (Q := fun _ => True) ?_ (fun y _ => ex_s trivial)))
  refine forG d (fun j a => a.2 = nI j) (fun _ => True) (fun j a hjd ha => ?_) (fun a ha => ?_) FU 0 (0, 0) (Nat.zero_le _) rfl (FU_lt (by omega))
  · unfold t_X2_setsTaken_21
    rw [ha, ix_nI (by omega), hd]
    refine st_ck (zin_nI (by omega) (by decide)) ?_
    refine st_if (fun z => absurd z (nI_ge hjd (by omega))) (fun _ => st_n ?_)
    rw [m5]
    have h50 : zin (nI (n * 5 + j)) 50 = true := zin_nI (by omega) (by decide)
    obtain ⟨⟨t, ht, e6⟩, -⟩ := hE j hjd
    refine st_if (fun _ => st_n (st_l nI_s1)) (fun _ => st_ck (zin_nI (by omega) (by decide)) ?_)
    refine st_if (fun _ => st_n (st_l nI_s1)) (fun _ => st_ck h50 (st_k hb hj (st_ck hz ?_)))
    refine st_if (fun _ => ?_) (fun _ => st_n (st_l nI_s1))
    rw [ix_nI (n := n * 5 + j) (by omega), e6]
    refine st_ck h50 (st_b (X_passes h0 (by omega) hs) (fun r _ => ?_))
    exact st_if (fun _ => st_n (st_l nI_s1)) (fun _ => st_n (st_n (st_l nI_s1)))
  · unfold t_X2_setsTaken_21
    rw [ha, ix_nI (by omega), hd]
    exact ⟨a.1, by rw [ck_p (zin_nI (by omega) (by decide)), if_pos (nI_le (Nat.le_refl _) (by omega))], trivial⟩
theorem X_both (a b : Int32) : ∃ r, s_X2_both a b = some r ∧ True := by
  unfold s_X2_both l_X2_both_4
  refine ex_b (Q := fun _ => True) ?_ (fun y _ => ex_s trivial)
  refine forG 32 (fun j a => a.2 = nI j) (fun _ => True) (fun j a hjd ha => ?_) (fun a ha => ?_) FU 0 (0, 0) (Nat.zero_le _) rfl (FU_lt (by omega))
  · unfold t_X2_both_4
    rw [ha]
    refine st_if (fun _ => st_r trivial) (fun _ => st_if (fun _ => st_r trivial) (fun _ => st_if (fun _ => st_n (st_l nI_s1)) (fun _ => ?_)))
    exact st_ck (zin_nI hjd (by decide)) (st_n (st_n (st_l nI_s1)))
  · unfold t_X2_both_4
    rw [ha]
    exact ⟨a.1, if_pos (by decide), trivial⟩
theorem X_times {row : Int32} {q : Nat} (hq : q < 2 ^ 31) : ∃ r, s_X2_times row (nI q) = some r ∧ True := by
  have h8 : (8 : Int32) = nI 8 := rfl
  have hr : nI q - nI q / 8 * 8 = nI (q % 8) := by rw [h8]; exact pk_rem hq (by decide) (by decide)
  unfold s_X2_times l_X2_times_28
  rw [hr]
  refine ex_n (ex_n (ex_b (Q := fun _ => True) (ex_if (fun _ => ex_s trivial) (fun _ => ex_s trivial)) (fun y3 _ => ex_b (Q := fun _ => True) ?_ (fun y _ => ex_s trivial))))
  refine forG (q % 8) (fun j a => a.2.2 = nI (j + 1)) (fun _ => True) (fun j a hjd ha => ?_) (fun a ha => ?_) FU 0 (1, y3, 1) (Nat.zero_le _) rfl (FU_lt (by omega))
  · unfold t_X2_times_28
    rw [ha]
    refine st_if (fun z => absurd z (nI_nlt (by omega) (by omega))) (fun _ => st_b (X_both _ _) (fun r _ => ?_))
    exact st_if (fun _ => st_n (st_l nI_s1)) (fun _ => st_n (st_n (st_l nI_s1)))
  · unfold t_X2_times_28
    rw [ha]
    exact ⟨_, if_pos (nI_lt (by omega) (by omega)), trivial⟩
theorem X_dealt {m : Mem} {b k c n s tr : Nat} (h : JV m b k c) (hn : n < k) (hs : s < 6) : ∃ q, s_X2_setsDealt m (nI n) (nI s) tr = some q ∧ jf m q.2 := by
  have h0 := h
  obtain ⟨hb, hj, -, ⟨-, -, -, hst, hfs⟩⟩ := h
  obtain ⟨j0, hj0, e0⟩ := hfs s (by omega)
  unfold s_X2_setsDealt l_X2_setsDealt_14
  refine ex_k hb hj (ex_ck (zin_nI (by omega) (by decide)) (ex_n ?_))
  rw [ix_nI (by omega), e0]
  refine ex_2 (Q := fun q => jf m q.2) ?_ (fun y53 m54 hq => ex_if (fun _ => ex_s hq) (fun _ => ex_ck (by decide) (ex_s hq)))
  refine forG 146 (fun j a => a.2.1 = nI j ∧ (∃ g, g ≤ 6 ∧ a.1 = nI g) ∧ jf m a.2.2) (fun q : Int32 × Mem => jf m q.2) (fun j a hjd ha => ?_) (fun a ha => ?_) FU j0 (0, nI j0, m) hj0 ⟨rfl, ⟨0, by omega, rfl⟩, jf_r⟩ (FU_lt (by omega))
  · obtain ⟨e1, ⟨g, hg, e2⟩, hf⟩ := ha
    have hJ := JV_j h0 hf
    obtain ⟨-, hj2, -, ⟨-, -, -, hst2, hfs2⟩⟩ := hJ
    have hJ := JV_j h0 hf
    unfold t_X2_setsDealt_14
    rw [e1, e2, nI_s1]
    refine st_k hb hj2 (st_ck (zin_nI (by omega) (by decide)) ?_)
    refine st_if (fun _ => st_r hf) (fun _ => st_k hb hj2 (st_if (fun _ => st_r hf) (fun _ => st_k hb hj2 (st_ck (zin_nI hjd (by decide)) (st_n (st_n ?_))))))
    rw [ix_nI (n := j) (by omega)]
    obtain ⟨v0, vs⟩ := hst2 j hjd
    obtain ⟨v, hv, ev, et⟩ := int_nI v0
    rw [ev]
    rw [et] at vs
    have h64 : (64 : Int32) = nI 64 := rfl
    have hdiv : nI v / 64 = nI (v / 64) := by rw [h64]; exact pk_div hv (by decide) (by decide)
    have hrem : nI v - nI v / 64 * 64 = nI (v % 64) := by rw [h64]; exact pk_rem hv (by decide) (by decide)
    rw [hrem, hdiv]
    have nx : ∀ {x y : Int32} {m9 : Mem}, (∃ g, g ≤ 6 ∧ x = nI g) → jf m m9 → y = nI (j + 1) → (y = nI (j + 1) ∧ (∃ g, g ≤ 6 ∧ x = nI g) ∧ jf m m9) := fun h1 h2 h3 => ⟨h3, h1, h2⟩
    refine st_if (fun hz => ?_) (fun _ => ?_)
    · have hz : v / 64 = 0 := (nI_eq (a := v / 64) (b := 0) (by omega) (by decide)).mp hz
      have hv6 : v < 6 := by have := vs (by omega); omega
      have hm : v % 64 = v := Nat.mod_eq_of_lt (by omega)
      rw [hm]
      refine st_if (fun _ => st_n (st_l (nx ⟨g, hg, rfl⟩ hf nI_s1))) (fun hlt => ?_)
      have hg5 : g < 6 := by
        rcases Nat.lt_or_ge g 6 with h | h
        · exact h
        · exact absurd (nI_le h (by omega)) hlt
      rw [m6]
      refine st_b (X_taken hJ hn (by omega)) (fun r _ => st_ck (zin_nI hg5 (by decide)) (st_n (st_n (st_n (st_l (nx ⟨g + 1, by omega, nI_s1⟩ (jf_t hf (jf_c (by omega))) nI_s1))))))
    refine st_if (fun _ => ?_) (fun _ => ?_)
    · refine st_if (fun _ => st_n (st_l (nx ⟨g, hg, rfl⟩ hf nI_s1))) (fun hlt => ?_)
      have hg1 : 1 ≤ g := by
        rcases Nat.lt_or_ge g 1 with h | h
        · exact absurd (nI_lt h (by decide)) hlt
        · exact h
      have e3 : nI g - 1 = nI (g - 1) := by rw [show (1 : Int32) = nI 1 from rfl]; exact pk_sub hg1
      rw [e3]
      have hz : zin (nI (g - 1)) 6 = true := zin_nI (by omega) (by decide)
      refine st_ck hz (st_b (X_times (by omega)) (fun r _ => st_ck hz (st_n (st_n (st_l (nx ⟨g, hg, rfl⟩ (jf_t hf (jf_c (by omega))) nI_s1))))))
    have hm1 : ∀ {h2 : 2 ≤ g}, nI g + (-1) = nI (g - 1) ∧ nI (g - 1) - 1 = nI (g - 2) := fun {h2} => by
      refine ⟨?_, ?_⟩
      · obtain ⟨g2, rfl⟩ : ∃ g2, g = g2 + 1 := ⟨g - 1, by omega⟩
        rw [pk_m1]
        rfl
      · rw [show (1 : Int32) = nI 1 from rfl, pk_sub (by omega)]
        rfl
    refine st_if (fun _ => ?_) (fun _ => ?_)
    · refine st_if (fun _ => st_n (st_l (nx ⟨g, hg, rfl⟩ hf nI_s1))) (fun hlt => st_n ?_)
      have hg2 : 2 ≤ g := by
        rcases Nat.lt_or_ge g 2 with h | h
        · exact absurd (nI_lt h (by decide)) hlt
        · exact h
      rw [(hm1 (h2 := hg2)).1, (hm1 (h2 := hg2)).2]
      have hz : zin (nI (g - 2)) 6 = true := zin_nI (by omega) (by decide)
      refine st_ck hz (st_ck (zin_nI (by omega) (by decide)) (st_b (X_both _ _) (fun r _ => st_ck hz (st_n (st_n (st_l (nx ⟨g - 1, by omega, rfl⟩ (jf_t hf (jf_c (by omega))) nI_s1)))))))
    · refine st_if (fun _ => st_n (st_l (nx ⟨g, hg, rfl⟩ hf nI_s1))) (fun hlt => st_n ?_)
      have hg2 : 2 ≤ g := by
        rcases Nat.lt_or_ge g 2 with h | h
        · exact absurd (nI_lt h (by decide)) hlt
        · exact h
      rw [(hm1 (h2 := hg2)).1, (hm1 (h2 := hg2)).2]
      have hz : zin (nI (g - 2)) 6 = true := zin_nI (by omega) (by decide)
      refine st_ck hz (st_ck (zin_nI (by omega) (by decide)) (st_ck hz (st_n (st_n (st_l (nx ⟨g - 1, by omega, rfl⟩ (jf_t hf (jf_c (by omega))) nI_s1))))))
  · obtain ⟨e1, ⟨g, hg, e2⟩, hf⟩ := ha
    have hJ := JV_j h0 hf
    obtain ⟨-, hj2, -, -⟩ := hJ
    unfold t_X2_setsDealt_14
    rw [e1, e2, nI_s1, zbk_i hb hj2, ck_p (zin_nI (by omega) (by decide))]
    by_cases h1 : a.2.2 (b + 7) (Int32.toNatClampNeg (nI (s + 1))) ≤ nI 146
    · exact ⟨_, if_pos h1, hf⟩
    · rw [if_neg h1, zbk_i hb hj2]
      exact ⟨_, if_pos (by decide), hf⟩
theorem X_suits {m : Mem} {b k c n s tr : Nat} (h : JV m b k c) (hn : n < k) (hs : s < 6) : ∃ q, s_X2_suits m (nI n) (nI s) tr = some q ∧ jf m q.2 := by
  have h0 := h
  obtain ⟨hb, hj, ⟨-, hk10, -⟩, -⟩ := h
  unfold s_X2_suits
  refine ex_b (X_wanted h0 hn hs) (fun r2 _ => ex_k hb hj (ex_ck (zin_nI hs (by decide)) ?_))
  refine ex_if (fun _ => ex_2 (X_dealt h0 hn hs) (fun r m7 hq => ex_if (fun _ => ex_s hq) (fun _ => ex_s hq))) (fun _ => ?_)
  refine ex_b (X_present (by omega)) (fun r _ => ex_if (fun _ => ?_) (fun _ => ex_s jf_r))
  exact ex_2 (X_dealt h0 hn hs) (fun r m7 hq => ex_if (fun _ => ex_s hq) (fun _ => ex_s hq))
theorem X_dropUnfit {m : Mem} {b k c : Nat} {lv : Int32} (h : JV m b k c) : ∃ q, s_X2_dropUnfit m lv = some q ∧ jf m q.2 ∧ (q.1 = 0 ∨ q.1 = 1) := by
  have h0 := h
  obtain ⟨hb, hj, ⟨hk, hk10, -⟩, ⟨hc, hc6, -⟩⟩ := h
  unfold s_X2_dropUnfit l_X2_dropUnfit_4
  refine ex_2 (Q := fun q => jf m q.2 ∧ (q.1 = 0 ∨ q.1 = 1)) ?_ (fun y m2 hq => ex_ck hq.2 (ex_s hq))
  refine forG c (fun j a => a.2.1 = nI j ∧ jf m a.2.2 ∧ (a.1 = 0 ∨ a.1 = 1)) _ (fun j a hjc ha => ?_) (fun a ha => ?_) FU 0 (0, 0, m) (Nat.zero_le _) ⟨rfl, jf_r, Or.inl rfl⟩ (FU_lt (by omega))
  · obtain ⟨e1, hf, h01⟩ := ha
    have hJ := JV_j h0 hf
    obtain ⟨-, hj2, -, ⟨hc2, -⟩⟩ := hJ
    unfold t_X2_dropUnfit_4
    rw [e1]
    refine st_k hb hj2 ?_
    rw [hc2]
    refine st_if (fun z => absurd z (nI_ge hjc (by omega))) (fun _ => st_2 (Q := fun q => jf m q.2 ∧ (q.1 = 0 ∨ q.1 = 1)) ?_ (fun y m2 hq => st_n (st_l ⟨nI_s1, hq.1, hq.2⟩)))
    unfold l_X2_dropUnfit_18
    refine forG k (fun i a2 => a2.2.1 = nI i ∧ jf m a2.2.2 ∧ (a2.1 = 0 ∨ a2.1 = 1)) _ (fun i a2 hik ha2 => ?_) (fun a2 ha2 => ?_) FU 0 (a.1, 0, a.2.2) (Nat.zero_le _) ⟨rfl, hf, h01⟩ (FU_lt (by omega))
    · obtain ⟨f1, g1, g2⟩ := ha2
      have hJ3 := JV_j h0 g1
      have hJ4 := hJ3
      obtain ⟨-, hj3, ⟨hk3, -, -⟩, -⟩ := hJ3
      unfold t_X2_dropUnfit_18
      rw [f1, hk3]
      have hz : zin (nI j) 6 = true := zin_nI (by omega) (by decide)
      refine st_if (fun z => absurd z (nI_ge hik (by omega))) (fun _ => st_k hb hj3 (st_ck hz (st_if (fun _ => st_ck hz ?_) (fun _ => st_r ⟨g1, g2⟩))))
      refine st_if (fun _ => st_n (st_l ⟨nI_s1, g1, g2⟩)) (fun _ => st_2 (X_suits hJ4 hik (by omega)) (fun r m3 hq => ?_))
      refine st_if (fun _ => st_ck hz (st_ck hz (st_n (st_n (st_l ⟨nI_s1, jf_t g1 (jf_t hq (jf_c (by omega))), Or.inr rfl⟩))))) (fun _ => st_n (st_l ⟨nI_s1, jf_t g1 hq, g2⟩))
    · obtain ⟨f1, g1, g2⟩ := ha2
      obtain ⟨-, -, ⟨hk3, -, -⟩, -⟩ := JV_j h0 g1
      unfold t_X2_dropUnfit_18
      rw [f1, hk3]
      exact ⟨_, if_pos (nI_le (Nat.le_refl _) (by omega)), g1, g2⟩
  · obtain ⟨e1, hf, h01⟩ := ha
    obtain ⟨-, hj2, -, ⟨hc2, -⟩⟩ := JV_j h0 hf
    unfold t_X2_dropUnfit_4
    rw [e1, zbk_i hb hj2, hc2]
    exact ⟨_, if_pos (nI_le (Nat.le_refl _) (by omega)), hf, h01⟩
theorem X_readFits {m : Mem} {b k c : Nat} (h : JV m b k c) : ∃ m2, s_X2_readFits m = some m2 ∧ jf m m2 := by
  have h0 := h
  obtain ⟨hb, hj, -, ⟨hc, hc6, -⟩⟩ := h
  unfold s_X2_readFits l_X2_readFits_10 l_X2_readFits_56
  refine ex_if (fun _ => ?_) (fun _ => ex_s jf_r)
  refine ex_b (Q := fun m2 => jf m m2) ?_ (fun m14 h14 => ex_b (Q := fun m2 => jf m m2) ?_ (fun m29 h29 => ex_n (ex_s (jf_t h29 (jf_39 (by omega))))))
  · refine forG 6 (fun j a => a.1 = nI j ∧ jf m a.2) _ (fun j a hj6 ha => ?_) (fun a ha => ?_) FU 0 (0, m) (Nat.zero_le _) ⟨rfl, jf_r⟩ (FU_lt (by omega))
    · obtain ⟨e1, hf⟩ := ha
      obtain ⟨-, hj2, -, ⟨hc2, -⟩⟩ := JV_j h0 hf
      unfold t_X2_readFits_10
      rw [e1]
      have hz : zin (nI j) 6 = true := zin_nI hj6 (by decide)
      refine st_if (fun z => absurd z (nI_ge (b := 6) hj6 (by decide))) (fun _ => st_k hb hj2 ?_)
      rw [X0_hasShape_eq hc2 hc6]
      refine st_b (Q := fun _ => True) ⟨_, rfl, trivial⟩ (fun r _ => ?_)
      exact st_if (fun _ => st_ck hz (st_n (st_n (st_l ⟨nI_s1, jf_t hf (jf_c (by omega))⟩)))) (fun _ => st_ck hz (st_n (st_n (st_l ⟨nI_s1, jf_t hf (jf_c (by omega))⟩))))
    · unfold t_X2_readFits_10
      rw [ha.1]
      exact ⟨_, if_pos (by decide), ha.2⟩
  · refine forG 6 (fun j a => a.1 = nI j ∧ jf m a.2) _ (fun j a hj6 ha => ?_) (fun a ha => ?_) FU 0 (0, m14) (Nat.zero_le _) ⟨rfl, h14⟩ (FU_lt (by omega))
    · obtain ⟨e1, hf⟩ := ha
      unfold t_X2_readFits_56
      rw [e1]
      refine st_if (fun z => absurd z (nI_ge (b := 6) hj6 (by decide))) (fun _ => st_b (Q := fun m2 => jf m m2) ?_ (fun m2 hq => st_n (st_l ⟨nI_s1, hq⟩)))
      unfold l_X2_readFits_66
      refine forG 61 (fun i a2 => a2.2.1 = nI i ∧ jf m a2.2.2) _ (fun i a2 hik ha2 => ?_) (fun a2 ha2 => ?_) FU 0 (1, 0, a.2) (Nat.zero_le _) ⟨rfl, hf⟩ (FU_lt (by omega))
      · obtain ⟨f1, g1⟩ := ha2
        unfold t_X2_readFits_66
        rw [f1]
        exact st_if (fun _ => st_r g1) (fun _ => st_if (fun _ => st_r g1) (fun _ => st_2 (X_dropUnfit (JV_j h0 g1)) (fun r m3 hq => st_n (st_l ⟨nI_s1, jf_t g1 hq.1⟩))))
      · obtain ⟨f1, g1⟩ := ha2
        unfold t_X2_readFits_66
        rw [f1]
        by_cases h1 : a2.1 = 0
        · exact ⟨_, if_pos h1, g1⟩
        · rw [if_neg h1]
          exact ⟨_, if_pos (by decide), g1⟩
    · unfold t_X2_readFits_56
      rw [ha.1]
      exact ⟨_, if_pos (by decide), ha.2⟩
theorem X_addSuiting {m : Mem} {b k c : Nat} (h : JV m b k c) : ∃ q, s_X2_addSuiting m = some q ∧ jf m q.2 ∧ (q.1 = 0 ∨ q.1 = 1) := by
  have h0 := h
  obtain ⟨hb, hj, ⟨hk, hk10, -⟩, ⟨hc, hc6, -⟩⟩ := h
  unfold s_X2_addSuiting l_X2_addSuiting_4
  refine ex_2 (Q := fun q => jf m q.2 ∧ (q.1 = 0 ∨ q.1 = 1)) ?_ (fun y m2 hq => ex_ck hq.2 (ex_s hq))
  refine forG c (fun j a => a.2.1 = nI j ∧ jf m a.2.2 ∧ (a.1 = 0 ∨ a.1 = 1)) _ (fun j a hjc ha => ?_) (fun a ha => ?_) FU 0 (0, 0, m) (Nat.zero_le _) ⟨rfl, jf_r, Or.inl rfl⟩ (FU_lt (by omega))
  · obtain ⟨e1, hf, h01⟩ := ha
    have hJ := JV_j h0 hf
    obtain ⟨-, hj2, -, ⟨hc2, -⟩⟩ := hJ
    unfold t_X2_addSuiting_4
    rw [e1]
    refine st_k hb hj2 ?_
    rw [hc2]
    refine st_if (fun z => absurd z (nI_ge hjc (by omega))) (fun _ => st_2 (Q := fun q => jf m q.2 ∧ (q.1 = 0 ∨ q.1 = 1)) ?_ (fun y m2 hq => st_n (st_l ⟨nI_s1, hq.1, hq.2⟩)))
    unfold l_X2_addSuiting_17
    refine forG k (fun i a2 => a2.2.1 = nI i ∧ jf m a2.2.2 ∧ (a2.1 = 0 ∨ a2.1 = 1)) _ (fun i a2 hik ha2 => ?_) (fun a2 ha2 => ?_) FU 0 (a.1, 0, a.2.2) (Nat.zero_le _) ⟨rfl, hf, h01⟩ (FU_lt (by omega))
    · obtain ⟨f1, g1, g2⟩ := ha2
      have hJ3 := JV_j h0 g1
      have hJ4 := hJ3
      obtain ⟨-, hj3, ⟨hk3, -, -⟩, -⟩ := hJ3
      unfold t_X2_addSuiting_17
      rw [f1, hk3]
      have hz : zin (nI j) 6 = true := zin_nI (by omega) (by decide)
      refine st_if (fun z => absurd z (nI_ge hik (by omega))) (fun _ => st_ck hz (st_if (fun _ => ?_) (fun _ => st_n (st_l ⟨nI_s1, g1, g2⟩))))
      refine st_2 (X_suits hJ4 hik (by omega)) (fun r m3 hq => ?_)
      exact st_if (fun _ => st_n (st_l ⟨nI_s1, jf_t g1 hq, g2⟩)) (fun _ => st_ck hz (st_ck hz (st_n (st_n (st_l ⟨nI_s1, jf_t g1 (jf_t hq (jf_c (by omega))), Or.inr rfl⟩)))))
    · obtain ⟨f1, g1, g2⟩ := ha2
      obtain ⟨-, -, ⟨hk3, -, -⟩, -⟩ := JV_j h0 g1
      unfold t_X2_addSuiting_17
      rw [f1, hk3]
      exact ⟨_, if_pos (nI_le (Nat.le_refl _) (by omega)), g1, g2⟩
  · obtain ⟨e1, hf, h01⟩ := ha
    obtain ⟨-, hj2, -, ⟨hc2, -⟩⟩ := JV_j h0 hf
    unfold t_X2_addSuiting_4
    rw [e1, zbk_i hb hj2, hc2]
    exact ⟨_, if_pos (nI_le (Nat.le_refl _) (by omega)), hf, h01⟩
theorem X_readSure {m : Mem} {b k c : Nat} (h : JV m b k c) : ∃ m2, s_X2_readSure m = some m2 ∧ jf m m2 := by
  have h0 := h
  unfold s_X2_readSure l_X2_readSure_10 l_X2_readSure_33
  refine ex_if (fun _ => ?_) (fun _ => ex_s jf_r)
  refine ex_b (Q := fun m2 => jf m m2) ?_ (fun m14 h14 => ex_b (Q := fun m2 => jf m m2) ?_ (fun m29 h29 => ex_n (ex_s (jf_t h29 (jf_39 (by omega))))))
  · refine forG 6 (fun j a => a.1 = nI j ∧ jf m a.2) _ (fun j a hj6 ha => ?_) (fun a ha => ?_) FU 0 (0, m) (Nat.zero_le _) ⟨rfl, jf_r⟩ (FU_lt (by omega))
    · obtain ⟨e1, hf⟩ := ha
      unfold t_X2_readSure_10
      rw [e1]
      refine st_if (fun z => absurd z (nI_ge (b := 6) hj6 (by decide))) (fun _ => st_ck (zin_nI hj6 (by decide)) (st_n (st_n (st_l ⟨nI_s1, jf_t hf (jf_c (by omega))⟩))))
    · unfold t_X2_readSure_10
      rw [ha.1]
      exact ⟨_, if_pos (by decide), ha.2⟩
  · refine forG 61 (fun i a2 => a2.2.1 = nI i ∧ jf m a2.2.2) _ (fun i a2 hik ha2 => ?_) (fun a2 ha2 => ?_) FU 0 (1, 0, m14) (Nat.zero_le _) ⟨rfl, h14⟩ (FU_lt (by omega))
    · obtain ⟨f1, g1⟩ := ha2
      unfold t_X2_readSure_33
      rw [f1]
      exact st_if (fun _ => st_r g1) (fun _ => st_if (fun _ => st_r g1) (fun _ => st_2 (X_addSuiting (JV_j h0 g1)) (fun r m3 hq => st_n (st_l ⟨nI_s1, jf_t g1 hq.1⟩))))
    · obtain ⟨f1, g1⟩ := ha2
      unfold t_X2_readSure_33
      rw [f1]
      by_cases h1 : a2.1 = 0
      · exact ⟨_, if_pos h1, g1⟩
      · rw [if_neg h1]
        exact ⟨_, if_pos (by decide), g1⟩
theorem X_bind {m : Mem} {b k c n s i : Nat} (h : JV m b k c) (hn : n < k) (hs : s < c) (hi : i < 5) : ∃ q, s_X2_bindToLeastPart m (nI n) (nI s) (nI i) = some q ∧ jf m q.2 := by
  have h0 := h
  obtain ⟨hb, hj, -, ⟨hc, hc6, hp, -⟩⟩ := h
  obtain ⟨p, hp6, ep⟩ := hp s hs
  unfold s_X2_bindToLeastPart l_X2_bindToLeastPart_3
  refine forG p (fun j a => a.1 = nI j ∧ jf m a.2) _ (fun j a hjp ha => ?_) (fun a ha => ?_) FU 0 (0, m) (Nat.zero_le _) ⟨rfl, jf_r⟩ (FU_lt (by omega))
  · obtain ⟨e1, hf⟩ := ha
    have hJ := JV_j h0 hf
    have ep2 : a.2 (b + 2) s = nI p := by rw [hf.1 (b + 2) (by rcases hb with rfl | rfl <;> omega) (by rcases hb with rfl | rfl <;> omega) (by rcases hb with rfl | rfl <;> omega) (by rcases hb with rfl | rfl <;> omega) (by rcases hb with rfl | rfl <;> omega)]; exact ep
    unfold t_X2_bindToLeastPart_3
    rw [e1]
    refine st_k hb hJ.2.1 (st_ck (zin_nI (by omega) (by decide)) ?_)
    rw [ix_nI (by omega), ep2]
    refine st_if (fun z => absurd z (nI_ge hjp (by omega))) (fun _ => st_ck (zin_nI hi (by decide)) (st_n ?_))
    refine st_2 (X_suits (JV_j hJ (jf_c (c := 42) (by omega))) hn (by omega)) (fun r m3 hq => ?_)
    exact st_if (fun _ => st_n (st_l ⟨nI_s1, jf_t hf (jf_t (jf_c (by omega)) hq)⟩)) (fun _ => st_r (jf_t hf (jf_t (jf_c (by omega)) hq)))
  · obtain ⟨e1, hf⟩ := ha
    have hJ := JV_j h0 hf
    have ep2 : a.2 (b + 2) s = nI p := by rw [hf.1 (b + 2) (by rcases hb with rfl | rfl <;> omega) (by rcases hb with rfl | rfl <;> omega) (by rcases hb with rfl | rfl <;> omega) (by rcases hb with rfl | rfl <;> omega) (by rcases hb with rfl | rfl <;> omega)]; exact ep
    unfold t_X2_bindToLeastPart_3
    rw [e1, zbk_i hb hJ.2.1, ck_p (zin_nI (by omega) (by decide)), ix_nI (by omega), ep2]
    exact ⟨_, if_pos (nI_le (Nat.le_refl _) (by omega)), hf⟩
theorem X_leastPart {m : Mem} {b k c n s i : Nat} (h : JV m b k c) (hn : n < k) (hs : s < c) : ∃ q, s_X2_leastPartOf m (nI n) (nI s) (nI i) = some q ∧ jf m q.2 := by
  have h0 := h
  obtain ⟨-, -, -, ⟨-, hc6, -, -⟩⟩ := h
  unfold s_X2_leastPartOf l_X2_leastPartOf_15 l_X2_leastPartOf_56
  refine ex_b (X_wanted h0 hn (by omega)) (fun r2 _ => ex_2 (Q := fun q => jf m q.2) ?_ (fun y m15 h15 => ex_b (Q := fun m2 => jf m m2) ?_ (fun m22 h22 => ex_s h22)))
  · refine forG 5 (fun j a => a.2.1 = nI j ∧ jf m a.2.2) _ (fun j a hj5 ha => ?_) (fun a ha => ?_) FU 0 (-4, 0, m) (Nat.zero_le _) ⟨rfl, jf_r⟩ (FU_lt (by omega))
    · obtain ⟨e1, hf⟩ := ha
      unfold t_X2_leastPartOf_15
      rw [e1]
      refine st_if (fun _ => st_r hf) (fun _ => st_if (fun _ => st_r hf) (fun _ => st_if (fun _ => st_n (st_l ⟨nI_s1, hf⟩)) (fun _ => ?_)))
      exact st_2 (X_bind (JV_j h0 hf) hn hs hj5) (fun r m3 hq => st_n (st_l ⟨nI_s1, jf_t hf hq⟩))
    · unfold t_X2_leastPartOf_15
      rw [ha.1]
      by_cases h1 : nI i < nI 5
      · exact ⟨_, if_pos h1, ha.2⟩
      · rw [if_neg h1]
        exact ⟨_, if_pos (by decide), ha.2⟩
  · refine forG 5 (fun j a => a.1 = nI j ∧ jf m a.2) _ (fun j a hj6 ha => ?_) (fun a ha => ?_) FU 0 (0, m15) (Nat.zero_le _) ⟨rfl, h15⟩ (FU_lt (by omega))
    · obtain ⟨e1, hf⟩ := ha
      unfold t_X2_leastPartOf_56
      rw [e1]
      refine st_if (fun z => absurd z (nI_ge (b := 5) hj6 (by decide))) (fun _ => st_ck (zin_nI hj6 (by decide)) (st_n (st_n (st_l ⟨nI_s1, jf_t hf (jf_c (by omega))⟩))))
    · unfold t_X2_leastPartOf_56
      rw [ha.1]
      exact ⟨_, if_pos (by decide), ha.2⟩
theorem X_bits (x : Int32) : ∃ r, s_J6_bitCount_0f7a4 x = some r ∧ True := ⟨_, rfl, trivial⟩
theorem shl_5 {d : Nat} (h : d ≤ 5) : (1 : Int32) <<< (nI d &&& 31) = nI (2 ^ d) := by
  rcases (show d = 0 ∨ d = 1 ∨ d = 2 ∨ d = 3 ∨ d = 4 ∨ d = 5 by omega) with rfl | rfl | rfl | rfl | rfl | rfl <;> decide
theorem X_surplus {m : Mem} {b k c n s : Nat} (h : JV m b k c) (hn : n < k) (hs : s < c) : ∃ q, s_X2_surplusEdges m (nI n) (nI s) = some q ∧ jf m q.2 := by
  have h0 := h
  obtain ⟨-, -, ⟨-, hk10, hG⟩, ⟨-, hc6, -, -⟩⟩ := h
  obtain ⟨d, hd5, hd, -⟩ := hG n hn
  have h2d : 2 ^ d ≤ 32 := by
    rcases (show d = 0 ∨ d = 1 ∨ d = 2 ∨ d = 3 ∨ d = 4 ∨ d = 5 by omega) with rfl | rfl | rfl | rfl | rfl | rfl <;> decide
  have hz : zin (nI s) 6 = true := zin_nI (by omega) (by decide)
  unfold s_X2_surplusEdges l_X2_surplusEdges_43
  refine ex_b (X_readFits h0) (fun m2 hf2 => ex_ck hz (ex_if (fun _ => ex_ck (zin_nI (by omega) (by decide)) (ex_n (ex_n ?_))) (fun _ => ex_s hf2)))
  have hd2 : m2 4 (Int32.toNatClampNeg (nI n)) = nI d := by rw [ix_nI (by omega), hf2.1 4 (by omega) (by omega) (by omega) (by omega) (by omega)]; exact hd
  rw [hd2, shl_5 hd5]
  refine ex_2 (Q := fun q => jf m q.2) ?_ (fun y m34 h34 => ex_n (ex_b (Q := fun m5 => jf m m5) ⟨_, forget_eq _, ?_⟩ (fun m5 h5 => ex_s h5)))
  · refine forG 2 (fun j a => a.2.1 = nI (j + 1) ∧ jf m a.2.2) _ (fun j a hj2 ha => ?_) (fun a ha => ?_) FU 0 (-4, 1, sto m2 39 8 (nI n)) (Nat.zero_le _) ⟨rfl, jf_t hf2 (jf_39 (by omega))⟩ (FU_lt (by omega))
    · obtain ⟨e1, hf⟩ := ha
      unfold t_X2_surplusEdges_43
      rw [e1]
      refine st_if (fun _ => st_r hf) (fun _ => st_if (fun _ => ?_) (fun _ => st_r hf))
      refine st_2 (Q := fun q => jf m q.2) ?_ (fun y m3 h3 => st_n (st_l ⟨nI_s1, h3⟩))
      unfold l_X2_surplusEdges_58
      refine forG (2 ^ d) (fun i a2 => a2.2.1 = nI (i + 1) ∧ jf m a2.2.2) _ (fun i a2 hik ha2 => ?_) (fun a2 ha2 => ?_) FU 0 (a.1, 1, a.2.2) (Nat.zero_le _) ⟨rfl, hf⟩ (FU_lt (by omega))
      · obtain ⟨f1, g1⟩ := ha2
        unfold t_X2_surplusEdges_58
        rw [f1]
        refine st_if (fun _ => st_r g1) (fun _ => st_if (fun _ => st_b (X_bits _) (fun r _ => ?_)) (fun _ => st_r g1))
        refine st_if (fun _ => st_n ?_) (fun _ => st_n (st_l ⟨nI_s1, g1⟩))
        refine st_b (Q := fun m5 => jf m m5) ⟨_, forget_eq _, jf_t g1 (jf_t (jf_39 (j := 9) (by omega)) (jf_t (jf_39 (by omega)) (jf_39 (by omega))))⟩ (fun m5 h5 => ?_)
        refine st_b (Q := fun m6 => jf m m6) (ex_w (X_readFits (JV_j h0 h5)) (fun r hr => jf_t h5 hr)) (fun m6 h6 => st_ck hz ?_)
        exact st_if (fun _ => st_n (st_l ⟨nI_s1, h6⟩)) (fun _ => st_n (st_l ⟨nI_s1, h6⟩))
      · obtain ⟨f1, g1⟩ := ha2
        unfold t_X2_surplusEdges_58
        rw [f1]
        exact ⟨_, if_pos (nI_le (by omega) (by omega)), g1⟩
    · unfold t_X2_surplusEdges_43
      rw [ha.1]
      exact ⟨_, if_pos (by decide), ha.2⟩
  · exact jf_t h34 (jf_t (jf_39 (j := 9) (by omega)) (jf_t (jf_39 (by omega)) (jf_39 (by omega))))
