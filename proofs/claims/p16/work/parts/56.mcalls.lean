/-! the reference's calls that read -/
def IM (m : Mem) (k : Nat) (d N T : Nat → Nat) (V W : Nat → Int32) (L c : Nat) (P Z : Nat → Nat) : Prop := GM m k d N T ∧ GV (m 1) (m 2) k V W ∧ m 0 37 = nI L ∧ SH m c P Z ∧ AC m c P ∧ BL m ∧ RI m c k d Z
theorem EG_of {m : Mem} {k : Nat} {d N T : Nat → Nat} (g : GG k d N T) (x : GM m k d N T) {n : Nat} (hn : n < k) : EG m n (d n) := by
  have h10 := g.1
  obtain ⟨h5, hv, -⟩ := g.2 n hn
  obtain ⟨x4, xv⟩ := x.2 n hn
  refine ⟨by omega, h5, x4, fun i hi => ⟨T (n * 5 + i), ?_, (xv i hi).2⟩⟩
  have := (hv i hi).2
  omega
theorem AC_c {m m2 : Mem} {c : Nat} {P : Nat → Nat} (e10 : m2 10 = m 10) (e11 : m2 11 = m 11) (h : AC m c P) : AC m2 c P := by
  unfold AC Ed at *
  rw [e10, e11]
  exact h
theorem IM_rdf {m m2 : Mem} {k L c : Nat} {d N T P Z : Nat → Nat} {V W : Nat → Int32} (h : IM m k d N T V W L c P Z) (f : rdf m m2) (hB : BL m2) (hI : RI m2 c k d Z) : IM m2 k d N T V W L c P Z := by
  obtain ⟨h1, h2, h3, h4, h5, -, -⟩ := h
  have e : ∀ a, 0 < a → a < 37 → m2 a = m a := fun a a0 a1 => f.1 a (by omega) (by omega) (by omega) (by omega) (by omega) (by omega)
  refine ⟨?_, ?_, by rw [f.2 37 (by decide)]; exact h3, SH_c (fun a a1 a2 => e a (by omega) (by omega)) (f.2 7 (by decide)) h4, AC_c (e 10 (by omega) (by omega)) (e 11 (by omega) (by omega)) h5, hB, hI⟩
  · unfold GM
    rw [f.2 0 (by decide), e 3 (by omega) (by omega), e 4 (by omega) (by omega), e 5 (by omega) (by omega)]
    exact h1
  · rw [e 1 (by omega) (by omega), e 2 (by omega) (by omega)]; exact h2
theorem m_read {m : Mem} {k L c : Nat} {d N T P Z : Nat → Nat} {V W : Nat → Int32} (g : GG k d N T) (h : IM m k d N T V W L c P Z) : ∃ m2, s_X7_read m = some m2 ∧ IM m2 k d N T V W L c P Z ∧ FP m2 c k d Z ∧ (∀ i, i < 5 → m2 39 i = -4) ∧ rdf m m2 := by
  obtain ⟨m2, e, q1, q2, q3, q4⟩ := read_eq h.2.2.2.1 h.2.2.2.2.1 g.1 h.1.1 (fun n hn => EG_of g h.1 hn) h.2.2.2.2.2.1 h.2.2.2.2.2.2
  exact ⟨m2, e, IM_rdf h q4 q3 (Or.inr ⟨q1, q2⟩), q1, q2, q4⟩
theorem m_both {m : Mem} {k L c : Nat} {d N T P Z : Nat → Nat} {V W : Nat → Int32} (g : GG k d N T) (h : IM m k d N T V W L c P Z) (n s : Int32) : s_X7_areBoth m n s = some (bb ((0 ≤ n.toInt ∧ n.toInt < k) ∧ (0 ≤ s.toInt ∧ s.toInt < c))) := X7_areBoth_eq h.1.1 g.1 h.2.2.2.1.1 h.2.2.2.1.2.1
theorem m_fits {m : Mem} {k L c : Nat} {d N T P Z : Nat → Nat} {V W : Nat → Int32} (g : GG k d N T) (h : IM m k d N T V W L c P Z) (n s : Int32) : ∃ q, s_X7_fits m n s = some q ∧ IM q.2 k d N T V W L c P Z := by
  unfold s_X7_fits
  rw [m_both g h]
  simp only [bind_s, if_bb]
  have hc6 := h.2.2.2.1.2.1
  have h10 := g.1
  refine ex_if (fun z => ex_b (m_read g h) (fun m4 h4 => ?_)) (fun _ => ex_s h)
  obtain ⟨a, ha, rfl, ea⟩ := int_nI z.1.1
  obtain ⟨t, ht, rfl, et⟩ := int_nI z.2.1
  rw [p10]
  exact ex_ck (zin_nI (by omega) (by decide)) (ex_if (fun _ => ex_s h4.1) (fun _ => ex_s h4.1))
theorem m_surely {m : Mem} {k L c : Nat} {d N T P Z : Nat → Nat} {V W : Nat → Int32} (g : GG k d N T) (h : IM m k d N T V W L c P Z) (n s : Int32) : ∃ q, s_X7_surely m n s = some q ∧ IM q.2 k d N T V W L c P Z := by
  unfold s_X7_surely
  rw [m_both g h]
  simp only [bind_s, if_bb]
  have hc6 := h.2.2.2.1.2.1
  have h10 := g.1
  refine ex_if (fun z => ex_b (m_read g h) (fun m4 h4 => ?_)) (fun _ => ex_s h)
  obtain ⟨a, ha, rfl, ea⟩ := int_nI z.1.1
  obtain ⟨t, ht, rfl, et⟩ := int_nI z.2.1
  rw [p10]
  exact ex_ck (zin_nI (by omega) (by decide)) (ex_if (fun _ => ex_s h4.1) (fun _ => ex_s h4.1))
theorem m_all {m : Mem} {k L c : Nat} {d N T P Z : Nat → Nat} {V W : Nat → Int32} (g : GG k d N T) (h : IM m k d N T V W L c P Z) (s : Int32) : ∃ q, s_X7_all m s = some q ∧ IM q.2 k d N T V W L c P Z := by
  unfold s_X7_all
  rw [X7_isShape_eq h.2.2.2.1.1 h.2.2.2.1.2.1]
  simp only [bind_s, if_bb]
  have hc6 := h.2.2.2.1.2.1
  have h10 := g.1
  refine ex_if (fun z => ex_b (m_read g h) (fun m4 h4 => ?_)) (fun _ => ex_s h)
  obtain ⟨t, ht, rfl, et⟩ := int_nI z.1
  refine ex_b (Q := fun _ => True) ?_ (fun y _ => ex_s h4.1)
  unfold l_X7_all_18
  refine forG k (fun j (a : Int32 × Int32) => a.2 = nI j) _ (fun j a hj ha => ?_) (fun a ha => ?_) FU 0 (0, 0) (Nat.zero_le _) rfl (FU_lt (by omega))
  · unfold t_X7_all_18
    rw [ha, h4.1.1.1, p10]
    exact st_if (fun _ => st_r trivial) (fun _ => st_ck (zin_nI (by omega) (by decide)) (st_if (fun _ => st_n (st_n (st_l nI_s1))) (fun _ => st_n (st_n (st_l nI_s1)))))
  · unfold t_X7_all_18
    rw [ha, h4.1.1.1]
    exact ⟨_, if_pos (nI_le (Nat.le_refl _) (by omega)), trivial⟩
theorem edges_eq {m : Mem} {k : Nat} {d N T : Nat → Nat} (g : GG k d N T) (x : GM m k d N T) : s_X7_edges m = some (nI (sumd d k)) := by
  have h10 := g.1
  have E : ∃ r, s_X7_edges m = some r ∧ r = nI (sumd d k) := by
    unfold s_X7_edges l_X7_edges_4
    refine ex_b (Q := fun r => r = nI (sumd d k)) ?_ (fun y hy => ex_s hy)
    refine forG k (fun j (a : Int32 × Int32) => a.2 = nI j ∧ a.1 = nI (sumd d j)) _ (fun j a hj ha => ?_) (fun a ha => ?_) FU 0 (0, 0) (Nat.zero_le _) ⟨rfl, rfl⟩ (FU_lt (by omega))
    · unfold t_X7_edges_4
      rw [ha.1, ha.2, x.1, ix_nI (n := j) (by omega), (x.2 j hj).1, nI_add]
      exact st_if (fun z => absurd z (nI_ge hj (by omega))) (fun _ => st_ck (zin_nI (by omega) (by decide)) (st_n (st_n (st_l ⟨nI_s1, rfl⟩))))
    · unfold t_X7_edges_4
      rw [ha.1, x.1]
      exact ⟨_, if_pos (nI_le (Nat.le_refl _) (by omega)), ha.2⟩
  obtain ⟨r, h1, h2⟩ := E
  rw [h1, h2]
theorem m_count {m : Mem} {k L c : Nat} {d N T P Z : Nat → Nat} {V W : Nat → Int32} (g : GG k d N T) (h : IM m k d N T V W L c P Z) (v : Int32) : ∃ q, s_X7_count m v = some q ∧ IM q.2 k d N T V W L c P Z := by
  have hc6 := h.2.2.2.1.2.1
  have h10 := g.1
  unfold s_X7_count
  refine ex_b (m_read g h) (fun m2 h2 => ex_2 (Q := fun _ => True) ?_ (fun y24 y25 _ => ?_))
  · unfold l_X7_count_11
    refine forG c (fun s (a : Int32 × Int32 × Int32) => a.2.2 = nI s) _ (fun s a hs ha => ?_) (fun a ha => ?_) FU 0 (0, 0, 0) (Nat.zero_le _) rfl (FU_lt (by omega))
    · unfold t_X7_count_11
      rw [ha, h2.1.2.2.2.1.1]
      refine st_if (fun z => absurd z (nI_ge hs (by omega))) (fun _ => st_2 (Q := fun _ => True) ?_ (fun y20 y21 _ => st_n (st_l nI_s1)))
      unfold l_X7_count_23
      refine forG k (fun n (a : Int32 × Int32 × Int32) => a.2.2 = nI n) _ (fun n a hn ha => ?_) (fun a ha => ?_) FU 0 (a.1, a.2.1, 0) (Nat.zero_le _) rfl (FU_lt (by omega))
      · unfold t_X7_count_23
        rw [ha, h2.1.1.1, p10]
        have z60 : zin (nI (10 * s + n)) 60 = true := zin_nI (by omega) (by decide)
        exact st_if (fun z => absurd z (nI_ge hn (by omega))) (fun _ => st_ck z60 (st_b (Q := fun _ => True) (ex_if (fun _ => ex_s trivial) (fun _ => ex_s trivial)) (fun y10 _ => st_n (st_ck z60 (st_if (fun _ => st_n (st_n (st_l nI_s1))) (fun _ => st_n (st_n (st_l nI_s1))))))))
      · unfold t_X7_count_23
        rw [ha, h2.1.1.1]
        exact ⟨_, if_pos (nI_le (Nat.le_refl _) (by omega)), trivial⟩
    · unfold t_X7_count_11
      rw [ha, h2.1.2.2.2.1.1]
      exact ⟨_, if_pos (nI_le (Nat.le_refl _) (by omega)), trivial⟩
  · refine ex_if (fun _ => ex_s h2.1) (fun _ => ex_if (fun _ => ex_b (Q := fun _ => True) ⟨_, edges_eq g h2.1.1, trivial⟩ (fun r _ => ex_s h2.1)) (fun _ => ex_if (fun _ => ex_s h2.1) (fun _ => ex_if (fun _ => ex_s h2.1) (fun _ => ex_if (fun _ => ex_s h2.1) (fun _ => ex_if (fun _ => ex_s h2.1) (fun _ => ex_s h2.1))))))
theorem m_wanted {m : Mem} {k L c : Nat} {d N T P Z : Nat → Nat} {V W : Nat → Int32} (g : GG k d N T) (h : IM m k d N T V W L c P Z) (n s : Int32) : ∃ r, s_X7_wanted m n s = some r ∧ True := by
  unfold s_X7_wanted
  rw [m_both g h]
  simp only [bind_s, if_bb]
  have hc6 := h.2.2.2.1.2.1
  have h10 := g.1
  refine ex_if (fun z => ?_) (fun _ => ex_s trivial)
  obtain ⟨a, ha, rfl, ea⟩ := int_nI z.1.1
  obtain ⟨t, ht, rfl, et⟩ := int_nI z.2.1
  have hE := EG_of g h.1 (show a < k by omega)
  refine ex_b (Q := fun _ => True) ?_ (fun y _ => ex_s trivial)
  unfold l_X7_wanted_16
  refine forG (d a) (fun j (b : Int32 × Int32) => b.2 = nI j) _ (fun j b hj hb => ?_) (fun b hb => ?_) FU 0 (0, 0) (Nat.zero_le _) rfl (FU_lt (by have := hE.2.1; omega))
  · unfold t_X7_wanted_16
    have h5 := hE.2.1
    rw [hb, ix_nI (n := a) (by omega), hE.2.2.1, p5]
    exact st_ck (zin_nI (by omega) (by decide)) (st_if (fun _ => st_r trivial) (fun _ => st_ck (zin_nI (by omega) (by decide)) (st_b (isWanted_eq h.2.2.2.1 (show t < c by omega)) (fun r _ => st_if (fun _ => st_n (st_n (st_l nI_s1))) (fun _ => st_n (st_n (st_l nI_s1)))))))
  · unfold t_X7_wanted_16
    have h5 := hE.2.1
    rw [hb, ix_nI (n := a) (by omega), hE.2.2.1, ck_p (zin_nI (by omega) (by decide))]
    exact ⟨_, if_pos (nI_le (Nat.le_refl _) (by omega)), trivial⟩
/-! dealt -/
theorem lfV_9 {m m2 : Mem} (e : ∀ a, a ≠ 39 → a ≠ 40 → m2 a = m a) (e9 : ∀ i, i < 5 → m2 39 i = m 39 i) {p n : Nat} {sv y : Int32} : ∀ d, d ≤ 5 → lfV m2 p n sv y d = lfV m p n sv y d
  | 0, _ => rfl
  | d + 1, h => by
    unfold lfV
    rw [lfV_9 e e9 d (by omega), tkV_39 e, e9 d (by omega)]
theorem drun_9 {m m2 : Mem} (e : ∀ a, a ≠ 39 → a ≠ 40 → m2 a = m a) (e9 : ∀ i, i < 5 → m2 39 i = m 39 i) {s n d : Nat} {sv : Int32} (hd : d ≤ 5) : ∀ k a, drun m2 s n sv d k a = drun m s n sv d k a
  | 0, a => rfl
  | k + 1, a => by
    unfold drun
    have h : dstep m2 s n sv d k a = dstep m s n sv d k a := by
      unfold dstep lfx
      simp only [lfV_9 e e9 d hd, e 14 (by decide) (by decide), e 15 (by decide) (by decide), e 16 (by decide) (by decide), e 17 (by decide) (by decide), e 18 (by decide) (by decide)]
    rw [h, drun_9 e e9 hd k]
theorem canP_9 {m m2 : Mem} (e : ∀ a, a ≠ 39 → a ≠ 40 → m2 a = m a) (e9 : ∀ i, i < 5 → m2 39 i = m 39 i) {s n d z : Nat} {sv : Int32} (hd : d ≤ 5) : canP m2 s n d z sv ↔ canP m s n d z sv := by
  unfold canP DV
  have ed : din m2 s = din m s := by funext j; unfold din; rw [e 14 (by decide) (by decide)]
  rw [e 7 (by decide) (by decide), WS_c e, drun_9 e e9 hd, ed]
theorem dealt_out {m : Mem} {c s n d i : Nat} {P Z : Nat → Nat} (hS : SH m c P Z) (hs : s < c) (hE : EG m n d) (hB : BL m) (hi : i < d) (h4 : ∀ x, x < 5 → m 39 x = -4) (hc : canP m s n d (Z s) 0) (hw : IW m s (P s) (m 4 (n * 5 + i))) : ∃ m2, l_X7_dealt_78 (nI n) (nI s) (nI i) FU 0 m = some m2 ∧ (∀ a, a ≠ 39 → a ≠ 40 → m2 a = m a) ∧ ∃ p, p < P s ∧ m2 39 i = nI (6 * s + p) := by
  have hc6 := hS.2.1
  have hd := hE.2.1
  have hn := hE.1
  unfold l_X7_dealt_78
  refine forG (i + 1) (fun j (a : Int32 × Mem) => a.1 = nI j ∧ (∀ b, b ≠ 39 → b ≠ 40 → a.2 b = m b) ∧ (∀ x, j ≤ x → x < 5 → a.2 39 x = -4) ∧ canP a.2 s n d (Z s) 0 ∧ (i < j → ∃ p, p < P s ∧ a.2 39 i = nI (6 * s + p))) _ (fun j a hj ha => ?_) (fun a ha => ?_) FU 0 (0, m) (Nat.zero_le _) ⟨rfl, fun _ _ _ => rfl, fun x _ hx => h4 x hx, hc, fun z => absurd z (Nat.not_lt_zero _)⟩ (FU_lt (by omega))
  · obtain ⟨e1, ha, h9, hcan, hp⟩ := ha
    have hSa : SH a.2 c P Z := SH_c (fun b b1 b2 => ha b (by omega) (by omega)) (by rw [ha 0 (by decide) (by decide)]) hS
    have hEa : EG a.2 n d := by
      unfold EG at *
      rw [ha 3 (by decide) (by decide), ha 5 (by decide) (by decide)]
      exact hE
    have hBa : BL a.2 := by
      unfold BL at *
      rw [ha 37 (by decide) (by decide), ha 38 (by decide) (by decide)]
      exact hB
    unfold t_X7_dealt_78
    rw [e1, p5, ix_nI (n := n * 5 + j) (by omega), ix_nI (n := j) (by omega)]
    refine st_if (fun z => absurd z (nI_nlt (by omega) (by omega))) (fun _ => st_ck (zin_nI (by omega) (by decide)) (st_b (isWanted_eq hSa hs) (fun r18 hr => st_if (fun h0 => st_n (st_l ⟨nI_s1, ha, fun x hx h5 => h9 x (by omega) h5, hcan, fun hij => ?_⟩)) (fun h0 => st_ck (zin_nI (by omega) (by decide)) (st_n ?_)))))
    · by_cases e : i = j
      · subst e
        rw [ha 4 (by decide) (by decide)] at hr
        have hw2 : IW a.2 s (P s) (m 4 (n * 5 + i)) := by unfold IW at *; rw [ha 9 (by decide) (by decide)]; exact hw
        exact absurd h0 (hr.mpr hw2)
      · exact hp (by omega)
    · have hw2 := hr.mp h0
      obtain ⟨-, w2, w3, w4⟩ := WS_eq hSa hs hEa
      obtain hx := canP_bnd hSa hs hd (show j < 5 by omega) (h9 j (Nat.le_refl _) (by omega)) ((w4 j (by omega)).mpr hw2) w3 hcan
      have e6 : (6 : Int32) * nI s = nI (6 * s + 0) := by rw [show (6 : Int32) = nI 6 from rfl, nI_mul]; rfl
      rw [e6]
      refine st_b (dealt_in (k := j) (m := bnd a.2 s j 0) hSa hs hEa hBa (by omega) hx (fun _ _ => rfl)) (fun m30 h30 => st_n (st_l ⟨nI_s1, fun b b9 b4 => ?_, fun x hx h5 => ?_, ?_, fun hij => ?_⟩))
      · obtain ⟨p, hp, q1, q2, q3⟩ := h30
        dsimp only
        rw [q1 b b4, bnd_o b9]
        exact ha b b9 b4
      · obtain ⟨p, hp, q1, q2, q3⟩ := h30
        dsimp only
        rw [q1 39 (by decide), show bnd a.2 s j p 39 x = a.2 39 x from rd_j (by omega)]
        exact h9 x (by omega) h5
      · obtain ⟨p, hp, q1, q2, q3⟩ := h30
        dsimp only
        rw [canP_c q1]
        exact q2
      · obtain ⟨p, hpp, q1, q2, q3⟩ := h30
        dsimp only
        rw [q1 39 (by decide)]
        by_cases e : i = j
        · subst e
          exact ⟨p, hpp, rd_s⟩
        · rw [show bnd a.2 s j p 39 i = a.2 39 i from rd_j e]
          exact hp (by omega)
  · obtain ⟨e1, ha, h9, hcan, hp⟩ := ha
    unfold t_X7_dealt_78
    rw [e1]
    exact ⟨_, if_pos (nI_lt (by omega) (by omega)), ha, hp (by omega)⟩
theorem m_dealt {m : Mem} {k L c : Nat} {d N T P Z : Nat → Nat} {V W : Nat → Int32} (g : GG k d N T) (h : IM m k d N T V W L c P Z) (n s i : Int32) : ∃ q, s_X7_dealt m n s i = some q ∧ IM q.2 k d N T V W L c P Z := by
  unfold s_X7_dealt
  rw [m_both g h]
  simp only [bind_s, if_bb]
  have hc6 := h.2.2.2.1.2.1
  have h10 := g.1
  refine ex_if (fun z => ?_) (fun _ => ex_s h)
  obtain ⟨a, ha, rfl, ea⟩ := int_nI z.1.1
  obtain ⟨t, ht, rfl, et⟩ := int_nI z.2.1
  have hak : a < k := by omega
  have htc : t < c := by omega
  have hE := EG_of g h.1 hak
  have h5 := hE.2.1
  refine ex_ck (zin_nI (by omega) (by decide)) ?_
  rw [ix_nI (n := a) (by omega), hE.2.2.1, in_k (by omega)]
  simp only [bind_s, if_bb]
  refine ex_if (fun zi => ?_) (fun _ => ex_s h)
  obtain ⟨j, hj, rfl, ej⟩ := int_nI zi.1
  have hjd : j < d a := by omega
  refine ex_b (m_read g h) (fun m7 h7 => ?_)
  obtain ⟨hI7, hF, h4, -⟩ := h7
  have hE7 := EG_of g hI7.1 hak
  rw [p10, p5, ix_nI (n := 10 * t + a) (by omega), ix_nI (n := a * 5 + j) (by omega)]
  refine ex_ck (zin_nI (by omega) (by decide)) (ex_if (fun _ => ex_s hI7) (fun hf => ex_ck (zin_nI (by omega) (by decide)) (ex_b (isWanted_eq hI7.2.2.2.1 htc) (fun r11 hr => ex_if (fun _ => ex_s hI7) (fun h0 => ?_)))))
  have hcan := hF t a htc hak hf
  have hw := hr.mp h0
  refine ex_b (free_eq m7) (fun m13 h13 => ?_)
  obtain ⟨f1, f2⟩ := h13
  have e13 : ∀ b, b ≠ 39 → b ≠ 40 → m13 b = m7 b := fun b b9 _ => f2 b b9
  have hS13 : SH m13 c P Z := SH_c (fun b b1 b2 => f2 b (by omega)) (by rw [f2 0 (by decide)]) hI7.2.2.2.1
  have hE13 : EG m13 a (d a) := by
    unfold EG at *
    rw [f2 3 (by decide), f2 5 (by decide)]
    exact hE7
  have hB13 : BL m13 := by
    have := hI7.2.2.2.2.2.1
    unfold BL at *
    rw [f2 37 (by decide), f2 38 (by decide)]
    exact this
  have hc13 : canP m13 t a (d a) (Z t) 0 := (canP_9 e13 (fun i hi => by rw [f1 i hi, h4 i hi]) h5).mpr hcan
  have hw13 : IW m13 t (P t) (m13 4 (a * 5 + j)) := by unfold IW at *; rw [f2 9 (by decide), f2 4 (by decide)]; exact hw
  refine ex_b (dealt_out hS13 htc hE13 hB13 hjd f1 hc13 hw13) (fun m34 h34 => ex_ck (zin_nI (by omega) (by decide)) (ex_n (ex_b (free_eq m34) (fun m38 h38 => ex_s ?_))))
  obtain ⟨q1, -⟩ := h34
  obtain ⟨f3, f4⟩ := h38
  have e38 : ∀ b, b ≠ 39 → b ≠ 40 → m38 b = m7 b := fun b b9 b4 => by rw [f4 b b9, q1 b b9 b4, f2 b b9]
  refine IM_rdf hI7 ⟨fun b b0 b1 b2 b3 b4 b5 => e38 b b3 b4, fun x hx => by dsimp only; rw [e38 0 (by decide) (by decide)]⟩ ?_ (Or.inr ⟨fun s n hs hn hne => ?_, f3⟩)
  · have := hI7.2.2.2.2.2.1
    unfold BL at *
    dsimp only
    rw [e38 37 (by decide) (by decide), e38 38 (by decide) (by decide)]
    exact this
  · dsimp only at hne ⊢
    rw [e38 37 (by decide) (by decide)] at hne
    exact (canP_9 e38 (fun i hi => by rw [f3 i hi, h4 i hi]) (EG_of g hI7.1 hn).2.1).mpr (hF s n hs hn hne)
