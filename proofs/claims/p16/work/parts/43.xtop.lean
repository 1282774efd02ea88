/-! the first module's calls, each from a memory as it should be -/
theorem GG_node {k : Nat} {d N T : Nat → Nat} (h : GG k d N T) (hk : k < 10) : GG (k + 1) (up d k 0) N T := by
  refine ⟨by omega, fun n hn => ?_⟩
  by_cases e : n = k
  · subst e
    rw [up_s]
    exact ⟨by omega, fun i hi => absurd hi (Nat.not_lt_zero i), fun i hi => absurd hi (Nat.not_lt_zero _)⟩
  · rw [up_o e]
    obtain ⟨h1, h2, h3⟩ := h.2 n (by omega)
    exact ⟨h1, fun i hi => ⟨(h2 i hi).1, by have := (h2 i hi).2; omega⟩, h3⟩
theorem GXf_node {f0 : Int32} {f4 f5 f6 : Nat → Int32} {k : Nat} {d N T : Nat → Nat} (x : GXf f0 f4 f5 f6 k d N T) : GXf (nI (k + 1)) (upd f4 k (nI 0)) f5 f6 (k + 1) (up d k 0) N T := by
  refine ⟨rfl, fun n hn => ?_⟩
  by_cases e : n = k
  · subst e
    rw [up_s]
    exact ⟨pk_us, fun i hi => absurd hi (Nat.not_lt_zero i)⟩
  · rw [up_o e, pk_un e]
    exact x.2 n (by omega)
theorem GG_0 {d N T : Nat → Nat} : GG 0 d N T := ⟨by omega, fun n hn => absurd hn (Nat.not_lt_zero n)⟩
theorem GXf_0 {f4 f5 f6 : Nat → Int32} {d N T : Nat → Nat} : GXf (nI 0) f4 f5 f6 0 d N T := ⟨rfl, fun n hn => absurd hn (Nat.not_lt_zero n)⟩
def GV (f2 f3 : Nat → Int32) (k : Nat) (V W : Nat → Int32) : Prop := ∀ n, n < k → f2 n = V n ∧ f3 n = W n ∧ (V n = 0 ∨ V n = 1)
theorem GV_node {f2 f3 V W : Nat → Int32} {k : Nat} {z v : Int32} (h : GV f2 f3 k V W) (hz : z = 0 ∨ z = 1) : GV (upd f2 k z) (upd f3 k v) (k + 1) (upd V k z) (upd W k v) := by
  intro n hn
  by_cases e : n = k
  · subst e; rw [pk_us, pk_us, pk_us, pk_us]; exact ⟨rfl, rfl, hz⟩
  · rw [pk_un e, pk_un e, pk_un e, pk_un e]; exact h n (by omega)
theorem GV_set {f2 f3 V W : Nat → Int32} {k j : Nat} {z v : Int32} (h : GV f2 f3 k V W) (hz : z = 0 ∨ z = 1) : GV (upd f2 j z) (upd f3 j v) k (upd V j z) (upd W j v) := by
  intro n hn
  by_cases e : n = j
  · subst e; rw [pk_us, pk_us, pk_us, pk_us]; exact ⟨rfl, rfl, hz⟩
  · rw [pk_un e, pk_un e, pk_un e, pk_un e]; exact h n hn
theorem nar_z {z : Int32} (h : z = 0 ∨ z = 1) : vp_nar .boolean z = z := by rcases h with rfl | rfl <;> decide
def IX (m : Mem) (k : Nat) (d N T : Nat → Nat) (V W : Nat → Int32) (L b : Nat) : Prop := GX m k d N T ∧ m 1 1 = nI (sumd d k) ∧ GV (m 2) (m 3) k V W ∧ m 7 1 = nI L ∧ isb b ∧ m 0 4 = nI b ∧ m 39 1 = nI b ∧ B0 m b ∧ ∃ b2, isb b2 ∧ b2 ≠ b ∧ m 0 5 = nI b2 ∧ B0 m b2
theorem B0_cells {m m2 : Mem} {b : Nat} (h : B0 m b) (e0 : m2 b = m b) (e2 : m2 (b + 2) = m (b + 2)) (e7 : m2 (b + 7) = m (b + 7)) (e8 : m2 (b + 8) = m (b + 8)) : B0 m2 b := by
  unfold B0 BI at *
  rw [e0, e2, e7, e8]
  exact h
theorem IX_JV {m : Mem} {k L b : Nat} {d N T : Nat → Nat} {V W : Nat → Int32} (g : GG k d N T) (h : IX m k d N T V W L b) : ∃ c, c ≤ 6 ∧ m b 0 = nI c ∧ JV m b k c := by
  obtain ⟨h1, h2, h3, h4, h5, h6, h7, ⟨⟨c, hB⟩, -⟩, -⟩ := h
  exact ⟨c, hB.2.1, hB.1, h5, h7, GI_of g h1, hB⟩
theorem IX_f {m m2 : Mem} {k L b : Nat} {d N T : Nat → Nat} {V W : Nat → Int32} (h : IX m k d N T V W L b) (e : ∀ c, c < 39 → m2 c = m c) (e1 : m2 39 1 = m 39 1) : IX m2 k d N T V W L b := by
  obtain ⟨h1, h2, h3, h4, h5, h6, h7, h8, b2, h9, hA, hB, hC⟩ := h
  have hb := isb_e h5
  have hb2 := isb_e h9
  unfold IX GX
  rw [e 1 (by omega), e 4 (by omega), e 5 (by omega), e 6 (by omega), e 2 (by omega), e 3 (by omega), e 7 (by omega), e 0 (by omega), e1]
  exact ⟨h1, h2, h3, h4, h5, h6, h7, B0_cells h8 (e _ (by omega)) (e _ (by omega)) (e _ (by omega)) (e _ (by omega)), b2, h9, hA, hB, B0_cells hC (e _ (by omega)) (e _ (by omega)) (e _ (by omega)) (e _ (by omega))⟩
theorem IX_j {m m2 : Mem} {k L b : Nat} {d N T : Nat → Nat} {V W : Nat → Int32} (h : IX m k d N T V W L b) (g : jf m m2) : IX m2 k d N T V W L b :=
  IX_f h (fun c hc => g.1 c (by omega) (by omega) (by omega) (by omega) (by omega)) (g.2 1 (by omega) (by omega) (by omega) (by omega))
theorem x_pair {m : Mem} {k L b : Nat} {d N T : Nat → Nat} {V W : Nat → Int32} (g : GG k d N T) (h : IX m k d N T V W L b) : ∃ c, c ≤ 6 ∧ m b 0 = nI c ∧ JV m b k c ∧ ∀ n s, s_X6_isPair m n s = some (bb ((0 ≤ n.toInt ∧ n.toInt < k) ∧ (0 ≤ s.toInt ∧ s.toInt < c))) := by
  obtain ⟨c, hc, ec, hJ⟩ := IX_JV g h
  exact ⟨c, hc, ec, hJ, fun n s => X6_isPair_eq h.1.1 g.1 h.2.2.2.2.1 h.2.2.2.2.2.1 ec hc⟩
theorem x_fits {m : Mem} {k L b : Nat} {d N T : Nat → Nat} {V W : Nat → Int32} (g : GG k d N T) (h : IX m k d N T V W L b) (n s : Int32) : ∃ q, s_X6_fits m n s = some q ∧ jf m q.2 := by
  obtain ⟨c, hc, ec, hJ, hp⟩ := x_pair g h
  unfold s_X6_fits
  rw [hp]
  simp only [bind_s, if_bb]
  exact ex_if (fun z => ex_b (X_readFits hJ) (fun m4 h4 => ex_ck (zin_i z.2.1 (by omega)) (ex_s h4))) (fun _ => ex_s jf_r)
theorem x_surely {m : Mem} {k L b : Nat} {d N T : Nat → Nat} {V W : Nat → Int32} (g : GG k d N T) (h : IX m k d N T V W L b) (n s : Int32) : ∃ q, s_X6_surely m n s = some q ∧ jf m q.2 := by
  obtain ⟨c, hc, ec, hJ, hp⟩ := x_pair g h
  unfold s_X6_surely
  rw [hp]
  simp only [bind_s, if_bb]
  exact ex_if (fun z => ex_b (X_readFits hJ) (fun m4 h4 => ex_b (X_readSure (JV_j hJ h4)) (fun m6 h6 => ex_ck (zin_i z.2.1 (by omega)) (ex_s (jf_t h4 h6))))) (fun _ => ex_s jf_r)
theorem x_all {m : Mem} {k L b : Nat} {d N T : Nat → Nat} {V W : Nat → Int32} (g : GG k d N T) (h : IX m k d N T V W L b) (s : Int32) : ∃ q, s_X6_all m s = some q ∧ jf m q.2 := by
  obtain ⟨c, hc, ec, hJ, hp⟩ := x_pair g h
  unfold s_X6_all
  refine ex_k h.2.2.2.2.1 h.2.2.2.2.2.1 ?_
  rw [X0_hasShape_eq ec hc]
  simp only [bind_s, if_bb]
  exact ex_if (fun z => ex_b (X_readFits hJ) (fun m4 h4 => ex_ck (zin_i z.1 (by omega)) (ex_s h4))) (fun _ => ex_s jf_r)
theorem x_wanted {m : Mem} {k L b : Nat} {d N T : Nat → Nat} {V W : Nat → Int32} (g : GG k d N T) (h : IX m k d N T V W L b) (n s : Int32) : ∃ q, s_X6_wanted m n s = some q ∧ True := by
  obtain ⟨c, hc, ec, hJ, hp⟩ := x_pair g h
  unfold s_X6_wanted
  rw [hp]
  simp only [bind_s, if_bb]
  refine ex_if (fun z => ?_) (fun _ => ex_s trivial)
  obtain ⟨a, ha, rfl, ea⟩ := int_nI z.1.1
  obtain ⟨t, ht, rfl, et⟩ := int_nI z.2.1
  exact ex_b (X_wanted hJ (by omega) (by omega)) (fun r4 _ => ex_b (X_bits r4) (fun r6 _ => ex_s trivial))
theorem x_dealt {m : Mem} {k L b : Nat} {d N T : Nat → Nat} {V W : Nat → Int32} (g : GG k d N T) (h : IX m k d N T V W L b) (n s i : Int32) : ∃ q, s_X6_dealt m n s i = some q ∧ jf m q.2 := by
  obtain ⟨c, hc, ec, hJ, hp⟩ := x_pair g h
  unfold s_X6_dealt
  rw [hp]
  simp only [bind_s, if_bb]
  refine ex_if (fun z => ?_) (fun _ => ex_s jf_r)
  have hk := g.1
  obtain ⟨a, ha, rfl, ea⟩ := int_nI z.1.1
  obtain ⟨t, ht, rfl, et⟩ := int_nI z.2.1
  refine ex_b (Q := fun r => ¬ r = 0 → 0 ≤ i.toInt) ?_ (fun r4 h4 => ex_if (fun _ => ex_s jf_r) (fun z4 => ?_))
  · unfold s_X1_hasEdge
    refine ex_if (fun _ => ex_s (fun z => absurd rfl z)) (fun hi => ex_ck (zin_i z.1.1 (by omega)) (ex_if (fun _ => ex_s (fun z => absurd rfl z)) (fun _ => ex_if (fun _ => ex_s (fun z => absurd rfl z)) (fun _ => ex_s (fun _ => ?_)))))
    have := le_i.mp (Int32.not_lt.mp hi)
    rwa [toInt_0] at this
  · obtain ⟨w, hw, rfl, ew⟩ := int_nI (h4 z4)
    refine ex_b (X_readFits hJ) (fun m6 h6 => ex_ck (zin_i z.2.1 (by omega)) (ex_if (fun _ => ex_s h6) (fun _ => ex_b (X_wanted (JV_j hJ h6) (by omega) (by omega)) (fun r9 _ => ex_if (fun _ => ex_s h6) (fun _ => ?_)))))
    exact ex_2 (X_leastPart (JV_j hJ h6) (by omega) (by omega)) (fun r m12 h12 => ex_s (jf_t h6 h12))
theorem x_tooMany {m : Mem} {k L b : Nat} {d N T : Nat → Nat} {V W : Nat → Int32} (g : GG k d N T) (h : IX m k d N T V W L b) (n s : Int32) : ∃ q, s_X6_tooMany m n s = some q ∧ jf m q.2 := by
  obtain ⟨c, hc, ec, hJ, hp⟩ := x_pair g h
  unfold s_X6_tooMany
  rw [hp]
  simp only [bind_s, if_bb]
  refine ex_if (fun z => ?_) (fun _ => ex_s jf_r)
  obtain ⟨a, ha, rfl, ea⟩ := int_nI z.1.1
  obtain ⟨t, ht, rfl, et⟩ := int_nI z.2.1
  exact ex_2 (X_surplus hJ (by omega) (by omega)) (fun r m5 h5 => ex_if (fun _ => ex_b (X_bits r) (fun r7 _ => ex_s h5)) (fun _ => ex_s h5))
theorem x_which {m : Mem} {k L b : Nat} {d N T : Nat → Nat} {V W : Nat → Int32} (g : GG k d N T) (h : IX m k d N T V W L b) (n s : Int32) : ∃ q, s_X6_which m n s = some q ∧ jf m q.2 := by
  obtain ⟨c, hc, ec, hJ, hp⟩ := x_pair g h
  unfold s_X6_which
  rw [hp]
  simp only [bind_s, if_bb]
  refine ex_if (fun z => ?_) (fun _ => ex_s jf_r)
  obtain ⟨a, ha, rfl, ea⟩ := int_nI z.1.1
  obtain ⟨t, ht, rfl, et⟩ := int_nI z.2.1
  exact ex_2 (X_surplus hJ (by omega) (by omega)) (fun r m5 h5 => ex_if (fun _ => ex_s h5) (fun _ => ex_s h5))
theorem x_depends {m : Mem} {k L b : Nat} {d N T : Nat → Nat} {V W : Nat → Int32} (g : GG k d N T) (h : IX m k d N T V W L b) (n s : Int32) : ∃ q, s_X6_depends m n s = some q ∧ True := by
  obtain ⟨c, hc, ec, hJ, hp⟩ := x_pair g h
  have hb := h.2.2.2.2.1
  have h4 := h.2.2.2.2.2.1
  unfold s_X6_depends
  refine ex_k hb h4 ?_
  rw [X0_hasShape_eq ec hc]
  simp only [bind_s, if_bb]
  refine ex_if (fun z => ex_k hb h4 ?_) (fun _ => ex_s trivial)
  rw [X0_hasShape_eq ec hc]
  simp only [bind_s, if_bb]
  exact ex_if (fun _ => ex_k hb h4 (ex_ck (zin_i z.1 (by omega)) (ex_s trivial))) (fun _ => ex_s trivial)
theorem m6i {a t : Int32} {x y : Nat} (ha : a = nI x) (ht : t = nI y) : a * 6 + t = nI (x * 6 + y) := by subst ha; subst ht; exact m6 x y
theorem x_part {m : Mem} {k L b : Nat} {d N T : Nat → Nat} {V W : Nat → Int32} (g : GG k d N T) (h : IX m k d N T V W L b) (n s w : Int32) : ∃ q, s_X6_part m n s w = some q ∧ True := by
  obtain ⟨c, hc, ec, hJ, hp⟩ := x_pair g h
  have hb := h.2.2.2.2.1
  have h4 := h.2.2.2.2.2.1
  unfold s_X6_part
  refine ex_k hb h4 (ex_b (Q := fun r => ¬ r = 0 → ∃ z, z < 36 ∧ n * 6 + s = nI z) ?_ (fun r hr => ex_if (fun _ => ex_s trivial) (fun z => ex_n ?_)))
  · unfold s_X0_hasPart
    rw [X0_hasShape_eq ec hc]
    simp only [bind_s, if_bb]
    refine ex_if (fun z => ex_if (fun _ => ex_s (fun z => absurd rfl z)) (fun h1 => ex_ck (zin_i z.1 (by omega)) (ex_if (fun _ => ex_s (fun z => absurd rfl z)) (fun _ => ex_if (fun _ => ex_s (fun z => absurd rfl z)) (fun h6 => ex_s (fun _ => ?_)))))) (fun _ => ex_s (fun z => absurd rfl z))
    obtain ⟨a, ha, e1, ea⟩ := int_nI z.1
    have h1 := le_i.mp (Int32.not_lt.mp h1)
    rw [toInt_0] at h1
    obtain ⟨t, ht, e2, et⟩ := int_nI h1
    have h6 := lt_i.mp (Int32.not_le.mp h6)
    rw [show (6 : Int32).toInt = 6 from rfl] at h6
    exact ⟨a * 6 + t, by omega, m6i e1 e2⟩
  · obtain ⟨y, hy, e⟩ := hr z
    rw [e]
    have zz : zin (nI y) 36 = true := zin_nI hy (by decide)
    exact ex_if (fun _ => ex_k hb h4 (ex_ck zz (ex_s trivial))) (fun _ => ex_if (fun _ => ex_k hb h4 (ex_ck zz (ex_s trivial))) (fun _ => ex_if (fun _ => ex_k hb h4 (ex_ck zz (ex_s trivial))) (fun _ => ex_if (fun _ => ex_k hb h4 (ex_ck zz (ex_s trivial))) (fun _ => ex_s trivial))))
theorem x_told {m : Mem} {k L b : Nat} {d N T : Nat → Nat} {V W : Nat → Int32} (g : GG k d N T) (h : IX m k d N T V W L b) (n s : Int32) : ∃ q, s_X6_told m n s = some q ∧ True := by
  obtain ⟨c, hc, ec, hJ, hp⟩ := x_pair g h
  have hb := h.2.2.2.2.1
  have h4 := h.2.2.2.2.2.1
  unfold s_X6_told
  refine ex_k hb h4 ?_
  rw [X0_hasShape_eq ec hc]
  simp only [bind_s, if_bb]
  refine ex_if (fun z => ?_) (fun _ => ex_s trivial)
  have zz : zin n 6 = true := zin_i z.1 (by omega)
  exact ex_if (fun _ => ex_k hb h4 (ex_ck zz (ex_s trivial))) (fun _ => ex_if (fun _ => ex_k hb h4 (ex_ck zz (ex_s trivial))) (fun _ => ex_if (fun _ => ex_k hb h4 (ex_ck zz (ex_if (fun _ => ex_s trivial) (fun _ => ex_s trivial)))) (fun _ => ex_s trivial)))
theorem X_pairsIn {m : Mem} {b c t : Nat} (hb : isb b) (h4 : m 0 4 = nI b) (ec : m b 0 = nI c) (hc : c ≤ 6) : ∃ r, s_X6_pairsIn m t = some r ∧ True := by
  unfold s_X6_pairsIn l_X6_pairsIn_4
  refine ex_b (Q := fun _ => True) ?_ (fun y _ => ex_s trivial)
  refine forG c (fun j a => a.2 = nI j) _ (fun j a hj ha => ?_) (fun a ha => ?_) FU 0 (0, 0) (Nat.zero_le _) rfl (FU_lt (by omega))
  · unfold t_X6_pairsIn_4
    rw [ha]
    refine st_k hb h4 ?_
    rw [ec]
    exact st_if (fun _ => st_r trivial) (fun _ => st_if (fun _ => st_r trivial) (fun _ => st_ck (zin_nI (by omega) (by decide)) (st_b (X_bits _) (fun r6 _ => st_n (st_n (st_l nI_s1))))))
  · unfold t_X6_pairsIn_4
    rw [ha, zbk_i hb h4, ec]
    exact ⟨_, if_pos (nI_le (Nat.le_refl _) (by omega)), trivial⟩
theorem x_count {m : Mem} {k L b : Nat} {d N T : Nat → Nat} {V W : Nat → Int32} (g : GG k d N T) (h : IX m k d N T V W L b) (v : Int32) : ∃ q, s_X6_count m v = some q ∧ jf m q.2 := by
  obtain ⟨c, hc, ec, hJ, hp⟩ := x_pair g h
  have hb := h.2.2.2.2.1
  have h4 := h.2.2.2.2.2.1
  have hbb := isb_e hb
  have P : ∀ {m2 : Mem} {t : Nat}, jf m m2 → ∃ r, s_X6_pairsIn m2 t = some r ∧ True := fun {m2 t} hf => X_pairsIn hb (by rw [hf.1 0 (by omega) (by omega) (by omega) (by omega) (by omega)]; exact h4) (by rw [hf.1 b (by omega) (by omega) (by omega) (by omega) (by omega)]; exact ec) hc
  unfold s_X6_count
  refine ex_if (fun _ => ex_s jf_r) (fun _ => ex_if (fun _ => ex_s jf_r) (fun _ => ex_if (fun _ => ex_k hb h4 (ex_s jf_r)) (fun _ => ex_if (fun _ => ex_s jf_r) (fun _ => ex_if (fun _ => ?_) (fun _ => ex_if (fun _ => ?_) (fun _ => ex_s jf_r))))))
  · exact ex_b (X_readFits hJ) (fun m8 h8 => ex_b (P h8) (fun r _ => ex_s h8))
  · exact ex_b (X_readFits hJ) (fun m8 h8 => ex_b (X_readSure (JV_j hJ h8)) (fun m9 h9 => ex_b (P (jf_t h8 h9)) (fun r _ => ex_s (jf_t h8 h9))))
/-! calls that change nodes and edges -/
theorem fg_e {m : Mem} {c : Nat} (h : c ≠ 39) : (sto (sto m 39 4 0) 39 5 0) c = m c := fgt_o h
theorem x_node {m : Mem} {k L b : Nat} {d N T : Nat → Nat} {V W : Nat → Int32} {z v : Int32} (g : GG k d N T) (h : IX m k d N T V W L b) (hz : z = 0 ∨ z = 1) : (k < 10 → ∃ m2, s_X6_node m z v = some (nI k, m2) ∧ IX m2 (k + 1) (up d k 0) N T (upd V k z) (upd W k v) L b) ∧ (k = 10 → s_X6_node m z v = some (-3, m)) := by
  have h10 := g.1
  obtain ⟨h1, h2, h3, h4, h5, h6, h7, h8, b2, h9, hA, hB, hC⟩ := h
  have hb := isb_e h5
  have hb2 := isb_e h9
  refine ⟨fun hk => ⟨_, (X6_node_eq (z := z) (v := v) h1.1 h10).1 hk, ?_⟩, fun hk => (X6_node_eq (z := z) (v := v) h1.1 h10).2 hk⟩
  rw [nar_z hz]
  have e : ∀ c, c ≠ 1 → c ≠ 2 → c ≠ 3 → c ≠ 4 → c ≠ 39 → (sto (sto (sto (sto (sto (sto m 39 4 0) 39 5 0) 1 0 (nI (k + 1))) 4 k 0) 2 k z) 3 k v) c = m c := fun c c1 c2 c3 c4 c5 => by rw [rd_o c3, rd_o c2, rd_o c4, rd_o c1, fg_e c5]
  refine ⟨?_, ?_, ?_, ?_, h5, ?_, ?_, B0_cells h8 (e _ (by omega) (by omega) (by omega) (by omega) (by omega)) (e _ (by omega) (by omega) (by omega) (by omega) (by omega)) (e _ (by omega) (by omega) (by omega) (by omega) (by omega)) (e _ (by omega) (by omega) (by omega) (by omega) (by omega)), b2, h9, hA, ?_, B0_cells hC (e _ (by omega) (by omega) (by omega) (by omega) (by omega)) (e _ (by omega) (by omega) (by omega) (by omega) (by omega)) (e _ (by omega) (by omega) (by omega) (by omega) (by omega)) (e _ (by omega) (by omega) (by omega) (by omega) (by omega))⟩
  · unfold GX
    rw [e 5 (by omega) (by omega) (by omega) (by omega) (by omega), e 6 (by omega) (by omega) (by omega) (by omega) (by omega)]
    rw [rd_o (a2 := 1) (by decide), rd_o (a2 := 1) (by decide), rd_o (a2 := 1) (by decide), rd_s, rd_o (a2 := 4) (by decide), rd_o (a2 := 4) (by decide), sto_same, rd_o (a2 := 4) (by decide), fg_e (by decide)]
    exact GXf_node h1
  · rw [rd_o (a2 := 1) (by decide), rd_o (a2 := 1) (by decide), rd_o (a2 := 1) (by decide), rd_j (by decide), fg_e (by decide), h2]
    show nI (sumd d k) = nI (sumd (up d k 0) k + up d k 0 k)
    rw [sumd_o (Nat.le_refl _), up_s]
    rfl
  · rw [rd_o (a2 := 2) (by decide), sto_same, rd_o (a2 := 2) (by decide), rd_o (a2 := 2) (by decide), fg_e (by decide), sto_same, rd_o (a2 := 3) (by decide), rd_o (a2 := 3) (by decide), rd_o (a2 := 3) (by decide), fg_e (by decide)]
    exact GV_node h3 hz
  · rw [e 7 (by omega) (by omega) (by omega) (by omega) (by omega)]; exact h4
  · rw [e 0 (by omega) (by omega) (by omega) (by omega) (by omega)]; exact h6
  · rw [rd_o (a2 := 39) (by decide), rd_o (a2 := 39) (by decide), rd_o (a2 := 39) (by decide), rd_o (a2 := 39) (by decide), rd_j (by decide), rd_j (by decide)]; exact h7
  · rw [e 0 (by omega) (by omega) (by omega) (by omega) (by omega)]; exact hB
theorem x_value {m : Mem} {k L b : Nat} {d N T : Nat → Nat} {V W : Nat → Int32} {n z v : Int32} (g : GG k d N T) (h : IX m k d N T V W L b) (hz : z = 0 ∨ z = 1) : (∀ a, a < k → n = nI a → ∃ m2, s_X6_value m n z v = some (1, m2) ∧ IX m2 k d N T (upd V a z) (upd W a v) L b) ∧ (¬ (0 ≤ n.toInt ∧ n.toInt < k) → s_X6_value m n z v = some (-1, m)) := by
  have h10 := g.1
  obtain ⟨h1, h2, h3, h4, h5, h6, h7, h8, b2, h9, hA, hB, hC⟩ := h
  have hb := isb_e h5
  have hb2 := isb_e h9
  refine ⟨fun a ha ea => ?_, fun hn => ?_⟩
  · subst ea
    unfold s_X6_value
    rw [X1_hasNode_eq h1.1 h10, forget_eq]
    have ei : (nI a).toInt = (a : Int) := nI_toInt (by omega)
    simp only [bind_s, if_bb]
    rw [if_pos ⟨by omega, by omega⟩]
    unfold s_X1_setValue
    have za : zin (nI a) 10 = true := zin_nI (by omega) (by decide)
    simp only [bn]
    rw [ck_p za, ck_p za, ix_nI (by omega), nar_z hz]
    have e : ∀ c, c ≠ 2 → c ≠ 3 → c ≠ 39 → (sto (sto (sto (sto m 39 4 0) 39 5 0) 2 a z) 3 a v) c = m c := fun c c2 c3 c5 => by rw [rd_o c3, rd_o c2, fg_e c5]
    refine ⟨_, rfl, ?_, ?_, ?_, ?_, h5, ?_, ?_, B0_cells h8 (e _ (by omega) (by omega) (by omega)) (e _ (by omega) (by omega) (by omega)) (e _ (by omega) (by omega) (by omega)) (e _ (by omega) (by omega) (by omega)), b2, h9, hA, ?_, B0_cells hC (e _ (by omega) (by omega) (by omega)) (e _ (by omega) (by omega) (by omega)) (e _ (by omega) (by omega) (by omega)) (e _ (by omega) (by omega) (by omega))⟩
    · unfold GX
      rw [e 1 (by omega) (by omega) (by omega), e 4 (by omega) (by omega) (by omega), e 5 (by omega) (by omega) (by omega), e 6 (by omega) (by omega) (by omega)]
      exact h1
    · rw [e 1 (by omega) (by omega) (by omega)]; exact h2
    · rw [rd_o (a2 := 2) (by decide), sto_same, fg_e (by decide), sto_same, rd_o (a2 := 3) (by decide), fg_e (by decide)]
      exact GV_set h3 hz
    · rw [e 7 (by omega) (by omega) (by omega)]; exact h4
    · rw [e 0 (by omega) (by omega) (by omega)]; exact h6
    · rw [rd_o (a2 := 39) (by decide), rd_o (a2 := 39) (by decide), rd_j (by decide), rd_j (by decide)]; exact h7
    · rw [e 0 (by omega) (by omega) (by omega)]; exact hB
  · unfold s_X6_value
    rw [X1_hasNode_eq h1.1 h10]
    simp only [bind_s, if_bb]
    rw [if_neg hn]
theorem bk_iff {x : Int32} {k : Nat} (hk : k < 2 ^ 31) : (0 ≤ x.toInt ∧ x.toInt < k) ↔ ∃ a, a < k ∧ x = nI a := by
  constructor
  · rintro ⟨h1, h2⟩
    obtain ⟨a, ha, e, et⟩ := int_nI h1
    exact ⟨a, by omega, e⟩
  · rintro ⟨a, ha, rfl⟩
    rw [nI_toInt (by omega)]
    omega
theorem X1_can_eq {m : Mem} {k : Nat} {x y z : Int32} (hk : m 1 0 = nI k) (h10 : k ≤ 10) : s_X1_canBeEdge m x y z = some (bb ((0 ≤ x.toInt ∧ x.toInt < k) ∧ (0 ≤ y.toInt ∧ y.toInt < (10 : Nat)) ∧ (0 ≤ z.toInt ∧ z.toInt < k))) := by
  unfold s_X1_canBeEdge
  rw [X1_hasNode_eq hk h10, X1_hasNode_eq hk h10]
  simp only [bind_s, if_bb]
  by_cases h1 : 0 ≤ x.toInt ∧ x.toInt < k
  · rw [if_pos h1]
    by_cases h2 : y < 0
    · have := lt_i.mp h2
      rw [toInt_0] at this
      rw [if_pos h2, bb_f (fun q => by omega)]
    · have h2' := le_i.mp (Int32.not_lt.mp h2)
      rw [toInt_0] at h2'
      rw [if_neg h2]
      by_cases h3 : 10 ≤ y
      · have := le_i.mp h3
        rw [show (10 : Int32).toInt = 10 from rfl] at this
        rw [if_pos h3, bb_f (fun q => by omega)]
      · have h3' := lt_i.mp (Int32.not_le.mp h3)
        rw [show (10 : Int32).toInt = 10 from rfl] at h3'
        rw [if_neg h3]
        by_cases h4 : 0 ≤ z.toInt ∧ z.toInt < k
        · rw [if_pos h4, bb_t ⟨h1, ⟨h2', by omega⟩, h4⟩]
        · rw [if_neg h4, bb_f (fun q => h4 q.2.2)]
  · rw [if_neg h1, bb_f (fun q => h1 q.1)]
theorem x_edge_bad {m : Mem} {k L b : Nat} {d N T : Nat → Nat} {V W : Nat → Int32} {x y z : Int32} (g : GG k d N T) (h : IX m k d N T V W L b) (hn : ¬ ((0 ≤ x.toInt ∧ x.toInt < k) ∧ (0 ≤ y.toInt ∧ y.toInt < (10 : Nat)) ∧ (0 ≤ z.toInt ∧ z.toInt < k))) : s_X6_edge m x y z = some (-1, m) ∧ s_X6_cut m x y z = some (-1, m) := by
  unfold s_X6_edge s_X6_cut
  rw [X1_can_eq h.1.1 g.1]
  simp only [bind_s, if_bb]
  exact ⟨if_neg hn, if_neg hn⟩
theorem x_can {m : Mem} {k L b n a t : Nat} {d N T : Nat → Nat} {V W : Nat → Int32} (g : GG k d N T) (h : IX m k d N T V W L b) (hn : n < k) (ha : a < 10) (ht : t < k) : s_X1_canBeEdge m (nI n) (nI a) (nI t) = some 1 := by
  have h10 := g.1
  rw [X1_can_eq h.1.1 g.1, bb_t]
  rw [nI_toInt (by omega), nI_toInt (by omega), nI_toInt (by omega)]
  omega
theorem m1_lt {i : Nat} (h : i < 2 ^ 31) : ¬ nI i < 0 := by
  intro z
  have := lt_i.mp z
  rw [toInt_0, nI_toInt h] at this
  omega
theorem x_edge_there {m : Mem} {k L b n a t i : Nat} {d N T : Nat → Nat} {V W : Nat → Int32} (g : GG k d N T) (h : IX m k d N T V W L b) (hn : n < k) (ha : a < 10) (ht : t < k) (hi : i < d n) (hN : N (n * 5 + i) = a) (hT : T (n * 5 + i) = t) : s_X6_edge m (nI n) (nI a) (nI t) = some (-2, m) := by
  have h10 := g.1
  have h5 := (g.2 n hn).1
  unfold s_X6_edge
  rw [x_can g h hn ha ht]
  simp only [bind_s]
  rw [if_neg (by decide)]
  obtain ⟨r, e, hr⟩ := X1_placeOf_eq g h.1 hn ha (show t < 10 by omega)
  rw [e]
  simp only [bind_s]
  rcases hr with ⟨j, hj, rfl, -⟩ | ⟨-, hno⟩
  · exact if_neg (m1_lt (by omega))
  · exact absurd ⟨hN, hT⟩ (hno i hi)
theorem x_edge_not {m : Mem} {k L b n a t : Nat} {d N T : Nat → Nat} {V W : Nat → Int32} (g : GG k d N T) (h : IX m k d N T V W L b) (hn : n < k) (ha : a < 10) (ht : t < k) (hno : ∀ i, i < d n → ¬ (N (n * 5 + i) = a ∧ T (n * 5 + i) = t)) : s_X1_placeOf m (nI n) (nI a) (nI t) = some (-1) := by
  have h10 := g.1
  obtain ⟨r, e, hr⟩ := X1_placeOf_eq g h.1 hn ha (show t < 10 by omega)
  rcases hr with ⟨j, hj, -, h1, h2⟩ | ⟨rfl, -⟩
  · exact absurd ⟨h1, h2⟩ (hno j hj)
  · exact e
theorem x_edge_full {m : Mem} {k L b n a t : Nat} {d N T : Nat → Nat} {V W : Nat → Int32} (g : GG k d N T) (h : IX m k d N T V W L b) (hn : n < k) (ha : a < 10) (ht : t < k) (hno : ∀ i, i < d n → ¬ (N (n * 5 + i) = a ∧ T (n * 5 + i) = t)) (hf : 40 ≤ sumd d k ∨ d n = 5) : s_X6_edge m (nI n) (nI a) (nI t) = some (-3, m) := by
  have h10 := g.1
  have h5 := (g.2 n hn).1
  have hs : sumd d k ≤ 50 := by have := sumd_le (fun n hn => (g.2 n hn).1); omega
  unfold s_X6_edge
  rw [x_can g h hn ha ht]
  simp only [bind_s]
  rw [if_neg (by decide), x_edge_not g h hn ha ht hno]
  simp only [bind_s]
  rw [if_pos (by decide), h.2.1]
  by_cases c : 40 ≤ sumd d k
  · exact if_pos (nI_le (a := 40) c (by omega))
  · rw [if_neg (show ¬ (40 : Int32) ≤ nI (sumd d k) from nI_ge (b := 40) (Nat.not_le.mp c) (by decide)), ix_nI (by omega), (h.1.2 n hn).1, ck_p (zin_nI (by omega) (by decide))]
    exact if_neg (nI_nlt (a := d n) (b := 5) (by omega) (by omega))
theorem IX_graph {m m2 : Mem} {k L b : Nat} {d N T d2 N2 T2 : Nat → Nat} {V W : Nat → Int32} (h : IX m k d N T V W L b) (hx : GX m2 k d2 N2 T2) (hs : m2 1 1 = nI (sumd d2 k)) (e : ∀ c, c ≠ 1 → c ≠ 4 → c ≠ 5 → c ≠ 6 → c ≠ 39 → m2 c = m c) (e9 : m2 39 1 = m 39 1) : IX m2 k d2 N2 T2 V W L b := by
  obtain ⟨h1, h2, h3, h4, h5, h6, h7, h8, b2, h9, hA, hB, hC⟩ := h
  have hb := isb_e h5
  have hb2 := isb_e h9
  have E : ∀ c, 6 < c → c < 39 → m2 c = m c := fun c c1 c2 => e c (by omega) (by omega) (by omega) (by omega) (by omega)
  refine ⟨hx, hs, ?_, ?_, h5, ?_, ?_, B0_cells h8 (E _ (by omega) (by omega)) (E _ (by omega) (by omega)) (E _ (by omega) (by omega)) (E _ (by omega) (by omega)), b2, h9, hA, ?_, B0_cells hC (E _ (by omega) (by omega)) (E _ (by omega) (by omega)) (E _ (by omega) (by omega)) (E _ (by omega) (by omega))⟩
  · rw [e 2 (by omega) (by omega) (by omega) (by omega) (by omega), e 3 (by omega) (by omega) (by omega) (by omega) (by omega)]; exact h3
  · rw [E 7 (by omega) (by omega)]; exact h4
  · rw [e 0 (by omega) (by omega) (by omega) (by omega) (by omega)]; exact h6
  · rw [e9]; exact h7
  · rw [e 0 (by omega) (by omega) (by omega) (by omega) (by omega)]; exact hB
theorem GX_fg {m : Mem} {k : Nat} {d N T : Nat → Nat} (h : GX m k d N T) : GX (sto (sto m 39 4 0) 39 5 0) k d N T := by
  unfold GX
  rw [fg_e (by decide), fg_e (by decide), fg_e (by decide), fg_e (by decide)]
  exact h
theorem x_edge_new {m : Mem} {k L b n a t : Nat} {d N T : Nat → Nat} {V W : Nat → Int32} (g : GG k d N T) (h : IX m k d N T V W L b) (hn : n < k) (ha : a < 10) (ht : t < k) (hno : ∀ i, i < d n → ¬ (N (n * 5 + i) = a ∧ T (n * 5 + i) = t)) (hf : sumd d k < 40) (hd : d n < 5) : ∃ m2, s_X6_edge m (nI n) (nI a) (nI t) = some (nI (sumd d k + 1), m2) ∧ ∃ p, p ≤ d n ∧ (∀ i, p ≤ i → i < d n → LTp a t (N (n * 5 + i)) (T (n * 5 + i))) ∧ (0 < p → ¬ LTp a t (N (n * 5 + (p - 1))) (T (n * 5 + (p - 1)))) ∧ IX m2 k (up d n (d n + 1)) (ins N n p (d n) a) (ins T n p (d n) t) V W L b := by
  have h10 := g.1
  unfold s_X6_edge
  rw [x_can g h hn ha ht]
  simp only [bind_s]
  rw [if_neg (by decide), x_edge_not g h hn ha ht hno]
  simp only [bind_s]
  rw [if_pos (by decide), h.2.1, if_neg (show ¬ (40 : Int32) ≤ nI (sumd d k) from nI_ge (b := 40) hf (by decide)), ix_nI (by omega), (h.1.2 n hn).1, ck_p (zin_nI (by omega) (by decide)), if_pos (show nI (d n) < 5 from nI_lt (b := 5) hd (by decide)), forget_eq]
  simp only [bind_s]
  obtain ⟨m2, e, p, hp, hl, hg, e5, e6, e4, e1, eo⟩ := X1_addEdge_eq g (GX_fg h.1) hn hd ha (show t < 10 by omega)
  rw [e]
  simp only [bind_s]
  rw [fg_e (by decide)] at e5 e6 e4
  rw [fg_e (by decide)] at e1
  have es : m2 1 1 = nI (sumd d k + 1) := by rw [e1, pk_us, h.2.1, nI_s1]
  have e0 : m2 1 0 = nI k := by rw [e1, pk_un (by decide)]; exact h.1.1
  refine ⟨m2, by rw [es], p, hp, hl, hg, IX_graph h ?_ ?_ (fun c c1 c4 c5 c6 c9 => by rw [eo c c1 c4 c5 c6, fg_e c9]) ?_⟩
  · unfold GX
    rw [e0, e4, e5, e6]
    have := GXf_ins (a := a) (t := t) (p := p) g h.1 hn hd hp
    rw [h.1.1] at this
    exact this
  · have := sumd_up (x := d n + 1) (d := d) hn
    rw [es]
    congr 1
    omega
  · rw [eo 39 (by decide) (by decide) (by decide) (by decide), rd_j (by decide), rd_j (by decide)]
theorem x_cut_not {m : Mem} {k L b n a t : Nat} {d N T : Nat → Nat} {V W : Nat → Int32} (g : GG k d N T) (h : IX m k d N T V W L b) (hn : n < k) (ha : a < 10) (ht : t < k) (hno : ∀ i, i < d n → ¬ (N (n * 5 + i) = a ∧ T (n * 5 + i) = t)) : s_X6_cut m (nI n) (nI a) (nI t) = some (-2, m) := by
  unfold s_X6_cut
  rw [x_can g h hn ha ht]
  simp only [bind_s]
  rw [if_neg (by decide), x_edge_not g h hn ha ht hno]
  simp only [bind_s]
  exact if_neg (by decide)
theorem LTp_i {a t : Nat} : ¬ LTp a t a t := by unfold LTp; omega
theorem GG_inj {k n i j : Nat} {d N T : Nat → Nat} (g : GG k d N T) (hn : n < k) (hi : i < d n) (hj : j < d n) (hN : N (n * 5 + i) = N (n * 5 + j)) (hT : T (n * 5 + i) = T (n * 5 + j)) : i = j := by
  rcases Nat.lt_trichotomy i j with h | h | h
  · have := GG_lt g hn h hj
    rw [hN, hT] at this
    exact absurd this LTp_i
  · exact h
  · have := GG_lt g hn h hi
    rw [hN, hT] at this
    exact absurd this LTp_i
theorem x_cut_is {m : Mem} {k L b n a t p : Nat} {d N T : Nat → Nat} {V W : Nat → Int32} (g : GG k d N T) (h : IX m k d N T V W L b) (hn : n < k) (ha : a < 10) (ht : t < k) (hp : p < d n) (hN : N (n * 5 + p) = a) (hT : T (n * 5 + p) = t) : ∃ m2, s_X6_cut m (nI n) (nI a) (nI t) = some (nI (sumd d k - 1), m2) ∧ IX m2 k (up d n (d n - 1)) (del N n p (d n)) (del T n p (d n)) V W L b := by
  have h10 := g.1
  have h5 := (g.2 n hn).1
  unfold s_X6_cut
  rw [x_can g h hn ha ht]
  simp only [bind_s]
  rw [if_neg (by decide)]
  obtain ⟨r, e, hr⟩ := X1_placeOf_eq g h.1 hn ha (show t < 10 by omega)
  rw [e]
  simp only [bind_s]
  rcases hr with ⟨j, hj, rfl, hN2, hT2⟩ | ⟨-, hno⟩
  · have ej : j = p := GG_inj g hn hj hp (hN2.trans hN.symm) (hT2.trans hT.symm)
    subst ej
    rw [if_pos (show (0 : Int32) ≤ nI j from nI_le (a := 0) (Nat.zero_le _) (by omega)), forget_eq]
    simp only [bind_s]
    obtain ⟨m2, e, e5, e6, e4, e1, eo⟩ := X1_removeEdge_eq g (GX_fg h.1) hn hj
    rw [e]
    simp only [bind_s]
    rw [fg_e (by decide)] at e5 e6 e4
    rw [fg_e (by decide)] at e1
    have hs := sumd_d (d := d) hn
    have es : m2 1 1 = nI (sumd d k - 1) := by rw [e1, pk_us, h.2.1, sub1_nI (by omega)]
    have e0 : m2 1 0 = nI k := by rw [e1, pk_un (by decide)]; exact h.1.1
    refine ⟨m2, by rw [es], IX_graph h ?_ ?_ (fun c c1 c4 c5 c6 c9 => by rw [eo c c1 c4 c5 c6, fg_e c9]) ?_⟩
    · unfold GX
      rw [e0, e4, e5, e6]
      have := GXf_del (p := j) g h.1 hn
      rw [h.1.1] at this
      exact this
    · have := sumd_up (x := d n - 1) (d := d) hn
      rw [es]
      congr 1
      omega
    · rw [eo 39 (by decide) (by decide) (by decide) (by decide), rd_j (by decide), rd_j (by decide)]
  · exact absurd ⟨hN, hT⟩ (hno p hp)
theorem IX_7 {m m2 : Mem} {k L L2 b : Nat} {d N T : Nat → Nat} {V W : Nat → Int32} (h : IX m k d N T V W L b) (e : ∀ c, c ≠ 7 → c ≠ 8 → m2 c = m c) (e7 : m2 7 1 = nI L2) : IX m2 k d N T V W L2 b := by
  obtain ⟨h1, h2, h3, h4, h5, h6, h7, h8, b2, h9, hA, hB, hC⟩ := h
  have hb := isb_e h5
  have hb2 := isb_e h9
  unfold IX GX
  rw [e 1 (by omega) (by omega), e 4 (by omega) (by omega), e 5 (by omega) (by omega), e 6 (by omega) (by omega), e 2 (by omega) (by omega), e 3 (by omega) (by omega), e 0 (by omega) (by omega), e 39 (by omega) (by omega)]
  exact ⟨h1, h2, h3, e7, h5, h6, h7, B0_cells h8 (e _ (by omega) (by omega)) (e _ (by omega) (by omega)) (e _ (by omega) (by omega)) (e _ (by omega) (by omega)), b2, h9, hA, hB, B0_cells hC (e _ (by omega) (by omega)) (e _ (by omega) (by omega)) (e _ (by omega) (by omega)) (e _ (by omega) (by omega))⟩
theorem x_feed {m : Mem} {k L b : Nat} {d N T : Nat → Nat} {V W : Nat → Int32} (h : IX m k d N T V W L b) (h4 : L ≤ 400) (x y z v w : Int32) : (L + 20 ≤ 400 → ∃ m2, s_X6_feed m x y z v w = some (nI (L + 20), m2) ∧ IX m2 k d N T V W (L + 20) b) ∧ (¬ L + 20 ≤ 400 → s_X6_feed m x y z v w = some (-3, m)) := by
  obtain ⟨f1, f2⟩ := X6_feed_eq (m := m) h.2.2.2.1 h4 x y z v w
  refine ⟨fun hl => ?_, f2⟩
  obtain ⟨m2, e, e7, eo⟩ := f1 hl
  exact ⟨m2, e, IX_7 h eo e7⟩
theorem x_end {m : Mem} {k L b : Nat} {d N T : Nat → Nat} {V W : Nat → Int32} (h : IX m k d N T V W L b) (h4 : L ≤ 400) (n : Int32) : (∀ q, q ≤ L → n = nI q → ∃ m2, s_X6_end m n = some (nI L, m2) ∧ IX m2 k d N T V W q b) ∧ (¬ (0 ≤ n ∧ n ≤ nI L) → s_X6_end m n = some (-1, m)) := by
  refine ⟨fun q hq e => ?_, fun hn => ?_⟩
  · subst e
    refine ⟨sto m 7 1 (nI q), ?_, IX_7 h (fun c c7 _ => rd_o c7) rd_s⟩
    unfold s_X6_end
    rw [if_neg (m1_lt (by omega)), h.2.2.2.1, if_pos (nI_le hq (by omega))]
    rfl
  · unfold s_X6_end
    rw [h.2.2.2.1]
    by_cases c : n < 0
    · rw [if_pos c]
    · rw [if_neg c, if_neg (fun z => hn ⟨Int32.not_lt.mp c, z⟩)]
theorem x_reset {m : Mem} {k L b : Nat} {d N T : Nat → Nat} {V W : Nat → Int32} (h : IX m k d N T V W L b) : ∃ m2, s_X6_reset m = some (nI k, m2) ∧ IX m2 0 d N T V W L b := by
  obtain ⟨h1, h2, h3, h4, h5, h6, h7, h8, b2, h9, hA, hB, hC⟩ := h
  have hb := isb_e h5
  have hb2 := isb_e h9
  refine ⟨sto (sto (sto (sto (sto m 1 0 0) 1 1 0) 39 4 0) 39 5 0) 0 6 0, by rw [← h1.1]; rfl, ?_⟩
  have e : ∀ c, c ≠ 0 → c ≠ 1 → c ≠ 39 → (sto (sto (sto (sto (sto m 1 0 0) 1 1 0) 39 4 0) 39 5 0) 0 6 0) c = m c := fun c c0 c1 c9 => by rw [rd_o c0, fg_e c9, rd_o c1, rd_o c1]
  have e0 : ∀ j, j ≠ 6 → (sto (sto (sto (sto (sto m 1 0 0) 1 1 0) 39 4 0) 39 5 0) 0 6 0) 0 j = m 0 j := fun j hj => by rw [rd_j hj, fg_e (by decide), rd_o (by decide), rd_o (by decide)]
  refine ⟨?_, ?_, fun n hn => absurd hn (Nat.not_lt_zero n), ?_, h5, ?_, ?_, B0_cells h8 (e _ (by omega) (by omega) (by omega)) (e _ (by omega) (by omega) (by omega)) (e _ (by omega) (by omega) (by omega)) (e _ (by omega) (by omega) (by omega)), b2, h9, hA, ?_, B0_cells hC (e _ (by omega) (by omega) (by omega)) (e _ (by omega) (by omega) (by omega)) (e _ (by omega) (by omega) (by omega)) (e _ (by omega) (by omega) (by omega))⟩
  · unfold GX
    rw [rd_o (a2 := 1) (by decide), fg_e (by decide), rd_j (by decide), rd_s]
    exact GXf_0
  · rw [rd_o (a2 := 1) (by decide), fg_e (by decide), rd_s]
    rfl
  · rw [e 7 (by omega) (by omega) (by omega)]; exact h4
  · rw [e0 4 (by decide)]; exact h6
  · rw [rd_o (a2 := 39) (by decide), rd_j (by decide), rd_j (by decide), rd_o (by decide), rd_o (by decide)]; exact h7
  · rw [e0 5 (by decide)]; exact hB
theorem RQ_B0 {m : Mem} {b L : Nat} (h : RQ m b L) : B0 m b := by
  obtain ⟨⟨c, p1, p2, p3, p4, p5⟩, -⟩ := h
  exact ⟨⟨c, p3⟩, p4, p5⟩
theorem x_shapes {m : Mem} {k L b : Nat} {d N T : Nat → Nat} {V W : Nat → Int32} (h : IX m k d N T V W L b) (h4 : L ≤ 400) : ∃ q, s_X6_shapes m = some q ∧ ∃ b3, IX q.2 k d N T V W 0 b3 := by
  obtain ⟨h1, h2, h3, h4', h5, h6, h7, h8, b2, h9, hA, hB, hC⟩ := h
  have hb := isb_e h5
  have hb2 := isb_e h9
  unfold s_X6_shapes
  refine ex_k h9 hB (ex_b (X_readText h9 hC h4' h4) (fun m3 h3' => ex_n (ex_n ?_)))
  obtain ⟨hR, hf⟩ := h3'
  have hB2 := RQ_B0 hR
  have e : ∀ a, a ≠ 9 → a ≠ 10 → ¬ (b2 ≤ a ∧ a < b2 + 14) → m3 a = m a := hf
  generalize hm5 : sto (sto m3 7 1 0) 0 6 ((sto m3 7 1 0) 9 8) = m5
  have e5 : ∀ a, a ≠ 0 → a ≠ 7 → a ≠ 9 → a ≠ 10 → ¬ (b2 ≤ a ∧ a < b2 + 14) → m5 a = m a := fun a c0 c7 c9 c10 cb => by rw [← hm5, rd_o c0, rd_o c7]; exact e a c9 c10 cb
  have e50 : ∀ j, j ≠ 6 → m5 0 j = m 0 j := fun j hj => by rw [← hm5, rd_j hj, rd_o (by decide), e 0 (by omega) (by omega) (by omega)]
  have e5b : ∀ a, b2 ≤ a → m5 a = m3 a := fun a ha => by rw [← hm5, rd_o (by omega), rd_o (by omega)]
  have hC5 : B0 m5 b2 := B0_cells hB2 (e5b _ (by omega)) (e5b _ (by omega)) (e5b _ (by omega)) (e5b _ (by omega))
  have h85 : B0 m5 b := B0_cells h8 (e5 _ (by omega) (by omega) (by omega) (by omega) (by omega)) (e5 _ (by omega) (by omega) (by omega) (by omega) (by omega)) (e5 _ (by omega) (by omega) (by omega) (by omega) (by omega)) (e5 _ (by omega) (by omega) (by omega) (by omega) (by omega))
  have e57 : m5 7 1 = nI 0 := by rw [← hm5, rd_o (by decide)]; exact rd_s
  have hG : GX m5 k d N T := by
    unfold GX
    rw [e5 1 (by omega) (by omega) (by omega) (by omega) (by omega), e5 4 (by omega) (by omega) (by omega) (by omega) (by omega), e5 5 (by omega) (by omega) (by omega) (by omega) (by omega), e5 6 (by omega) (by omega) (by omega) (by omega) (by omega)]
    exact h1
  have hS : m5 1 1 = nI (sumd d k) := by rw [e5 1 (by omega) (by omega) (by omega) (by omega) (by omega)]; exact h2
  have hV : GV (m5 2) (m5 3) k V W := by rw [e5 2 (by omega) (by omega) (by omega) (by omega) (by omega), e5 3 (by omega) (by omega) (by omega) (by omega) (by omega)]; exact h3
  have h39 : m5 39 = m 39 := e5 39 (by omega) (by omega) (by omega) (by omega) (by omega)
  have p4 : m5 0 4 = nI b := by rw [e50 4 (by decide)]; exact h6
  have p5 : m5 0 5 = nI b2 := by rw [e50 5 (by decide)]; exact hB
  have p7 : m5 39 1 = nI b := by rw [h39]; exact h7
  refine ex_if (fun _ => ex_k h5 p4 (ex_k h9 p5 (ex_n (ex_n ?_)))) (fun _ => ex_s ⟨b, hG, hS, hV, e57, h5, p4, p7, h85, b2, h9, hA, p5, hC5⟩)
  have r4 : (sto (sto m5 0 4 (nI b2)) 0 5 (nI b)) 0 4 = nI b2 := by rw [rd_j (by decide), rd_s]
  refine ex_k h9 r4 ?_
  unfold s_X2_follow
  refine ex_b (Q := fun m12 => m12 = sto (sto (sto (sto (sto m5 0 4 (nI b2)) 0 5 (nI b)) 39 1 (nI b2)) 39 4 0) 39 5 0) ⟨_, rfl, rfl⟩ (fun m12 h12 => ?_)
  subst h12
  have e12 : ∀ a, a ≠ 0 → a ≠ 39 → (sto (sto (sto (sto (sto m5 0 4 (nI b2)) 0 5 (nI b)) 39 1 (nI b2)) 39 4 0) 39 5 0) a = m5 a := fun a c0 c9 => by rw [fg_e c9, rd_o c9, rd_o c0, rd_o c0]
  have e120 : (sto (sto (sto (sto (sto m5 0 4 (nI b2)) 0 5 (nI b)) 39 1 (nI b2)) 39 4 0) 39 5 0) 0 = (sto (sto m5 0 4 (nI b2)) 0 5 (nI b)) 0 := by rw [fg_e (by decide), rd_o (by decide)]
  have q4 : (sto (sto (sto (sto (sto m5 0 4 (nI b2)) 0 5 (nI b)) 39 1 (nI b2)) 39 4 0) 39 5 0) 0 4 = nI b2 := by rw [e120]; exact r4
  have q5 : (sto (sto (sto (sto (sto m5 0 4 (nI b2)) 0 5 (nI b)) 39 1 (nI b2)) 39 4 0) 39 5 0) 0 5 = nI b := by rw [e120]; exact rd_s
  have q9 : (sto (sto (sto (sto (sto m5 0 4 (nI b2)) 0 5 (nI b)) 39 1 (nI b2)) 39 4 0) 39 5 0) 39 1 = nI b2 := by rw [rd_j (by decide), rd_j (by decide), rd_s]
  generalize sto (sto (sto (sto (sto m5 0 4 (nI b2)) 0 5 (nI b)) 39 1 (nI b2)) 39 4 0) 39 5 0 = m12 at e12 e120 q4 q5 q9 ⊢
  have hG2 : GX m12 k d N T := by
    unfold GX
    rw [e12 1 (by omega) (by omega), e12 4 (by omega) (by omega), e12 5 (by omega) (by omega), e12 6 (by omega) (by omega)]
    exact hG
  have hS2 : m12 1 1 = nI (sumd d k) := by rw [e12 1 (by omega) (by omega)]; exact hS
  have hV2 : GV (m12 2) (m12 3) k V W := by rw [e12 2 (by omega) (by omega), e12 3 (by omega) (by omega)]; exact hV
  have e77 : m12 7 1 = nI 0 := by rw [e12 7 (by omega) (by omega)]; exact e57
  exact ex_k h9 q4 (ex_s ⟨b2, hG2, hS2, hV2, e77, h9, q4, q9, B0_cells hC5 (e12 _ (by omega) (by omega)) (e12 _ (by omega) (by omega)) (e12 _ (by omega) (by omega)) (e12 _ (by omega) (by omega)), b, h5, fun z => hA z.symm, q5, B0_cells h85 (e12 _ (by omega) (by omega)) (e12 _ (by omega) (by omega)) (e12 _ (by omega) (by omega)) (e12 _ (by omega) (by omega))⟩)
