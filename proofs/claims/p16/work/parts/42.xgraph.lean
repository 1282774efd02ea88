/-! the first module's nodes and edges -/
def GX (m : Mem) (k : Nat) (d N T : Nat → Nat) : Prop := GXf (m 1 0) (m 4) (m 5) (m 6) k d N T
theorem GI_of {m : Mem} {k : Nat} {d N T : Nat → Nat} (g : GG k d N T) (x : GX m k d N T) : GI m k := by
  refine ⟨x.1, g.1, fun n hn => ⟨d n, (g.2 n hn).1, (x.2 n hn).1, fun i hi => ?_⟩⟩
  obtain ⟨h1, h2⟩ := (g.2 n hn).2.1 i hi
  obtain ⟨h3, h4⟩ := (x.2 n hn).2 i hi
  exact ⟨⟨_, h2, h4⟩, _, h1, h3⟩
theorem n5 (n : Nat) : nI n * 5 = nI (n * 5) := by rw [show (5 : Int32) = nI 5 from rfl, nI_mul]
theorem X1_placeOf_eq {m : Mem} {k n a t : Nat} {d N T : Nat → Nat} (g : GG k d N T) (x : GX m k d N T) (hn : n < k) (ha : a < 10) (ht : t < 10) : ∃ r, s_X1_placeOf m (nI n) (nI a) (nI t) = some r ∧ ((∃ i, i < d n ∧ r = nI i ∧ N (n * 5 + i) = a ∧ T (n * 5 + i) = t) ∨ (r = -1 ∧ ∀ i, i < d n → ¬ (N (n * 5 + i) = a ∧ T (n * 5 + i) = t))) := by
  obtain ⟨h5, hv, -⟩ := g.2 n hn
  obtain ⟨x4, xv⟩ := x.2 n hn
  have h10 := g.1
  unfold s_X1_placeOf l_X1_placeOf_8
  rw [n5]
  refine ex_n ?_
  refine forG (d n) (fun j y => y = nI j ∧ ∀ i, i < j → ¬ (N (n * 5 + i) = a ∧ T (n * 5 + i) = t)) _ (fun j y hj hy => ?_) (fun y hy => ?_) FU 0 0 (Nat.zero_le _) ⟨rfl, fun i hi => absurd hi (Nat.not_lt_zero i)⟩ (FU_lt (by omega))
  · obtain ⟨e, hno⟩ := hy
    obtain ⟨v1, v2⟩ := hv j hj
    obtain ⟨x5, x6⟩ := xv j hj
    unfold t_X1_placeOf_8
    rw [e, nI_add, ix_nI (n := n) (by omega), ix_nI (n := n * 5 + j) (by omega), x4, x5, x6]
    have z50 : zin (nI (n * 5 + j)) 50 = true := zin_nI (by omega) (by decide)
    have nx : ¬ (N (n * 5 + j) = a ∧ T (n * 5 + j) = t) → ∀ i, i < j + 1 → ¬ (N (n * 5 + i) = a ∧ T (n * 5 + i) = t) := fun h i hi => by
      by_cases e2 : i = j
      · subst e2; exact h
      · exact hno i (by omega)
    refine st_ck (zin_nI (by omega) (by decide)) (st_if (fun z => absurd z (nI_ge hj (by omega))) (fun _ => st_ck z50 (st_if (fun e1 => st_ck z50 (st_if (fun e2 => ?_) (fun e2 => ?_))) (fun e1 => ?_))))
    · exact st_r (Or.inl ⟨j, hj, rfl, (nI_eq (by omega) (by omega)).mp e1, (nI_eq (by omega) (by omega)).mp e2⟩)
    · exact st_n (st_l ⟨nI_s1, nx (fun z => e2 (by rw [z.2]))⟩)
    · exact st_n (st_l ⟨nI_s1, nx (fun z => e1 (by rw [z.1]))⟩)
  · obtain ⟨e, hno⟩ := hy
    unfold t_X1_placeOf_8
    rw [e, ix_nI (n := n) (by omega), x4, ck_p (zin_nI (by omega) (by decide))]
    exact ⟨-1, if_pos (nI_le (Nat.le_refl _) (by omega)), Or.inr ⟨rfl, hno⟩⟩
theorem X1_isAhead_eq {m : Mem} {s a t b c : Nat} (hs : s < 50) (h5 : m 5 s = nI b) (h6 : m 6 s = nI c) (ha : a < 100) (ht : t < 100) (hb : b < 100) (hc : c < 100) : ∃ r, s_X1_isAhead m (nI a) (nI t) (nI s) = some r ∧ (¬ r = 0 ↔ LTp a t b c) := by
  have z50 : zin (nI s) 50 = true := zin_nI hs (by decide)
  unfold s_X1_isAhead LTp
  rw [ix_nI (by omega), h5, h6]
  refine ex_ck z50 (ex_if (fun h => ?_) (fun h => ex_ck z50 (ex_if (fun h2 => ex_ck z50 (ex_if (fun h3 => ?_) (fun h3 => ?_))) (fun h2 => ?_))))
  · have := (nI_ltI (by omega) (by omega)).mp h
    exact ex_s ⟨fun _ => by omega, fun _ => by decide⟩
  · have e := (nI_eq (by omega) (by omega)).mp h2
    have l := (nI_leI (by omega) (by omega)).mp h3
    exact ex_s ⟨fun z => absurd rfl z, fun z => by omega⟩
  · have e := (nI_eq (by omega) (by omega)).mp h2
    have l : ¬ c ≤ t := fun z => h3 (nI_le z (by omega))
    exact ex_s ⟨fun _ => by omega, fun _ => by decide⟩
  · have l : ¬ a < b := fun z => h (nI_lt z (by omega))
    have e : ¬ a = b := fun z => h2 (by rw [z])
    exact ex_s ⟨fun z => absurd rfl z, fun z => by omega⟩
theorem m1_nI (n : Nat) : nI (n + 1) - 1 = nI n := by rw [show (1 : Int32) = nI 1 from rfl, pk_sub (by omega)]; rfl
theorem X1_addEdge_eq {m : Mem} {k n a t : Nat} {d N T : Nat → Nat} (g : GG k d N T) (x : GX m k d N T) (hn : n < k) (hd : d n < 5) (ha : a < 10) (ht : t < 10) : ∃ m2, s_X1_addEdge m (nI n) (nI a) (nI t) = some m2 ∧ ∃ p, p ≤ d n ∧ (∀ i, p ≤ i → i < d n → LTp a t (N (n * 5 + i)) (T (n * 5 + i))) ∧ (0 < p → ¬ LTp a t (N (n * 5 + (p - 1))) (T (n * 5 + (p - 1)))) ∧ m2 5 = insI (m 5) n p (d n) (nI a) ∧ m2 6 = insI (m 6) n p (d n) (nI t) ∧ m2 4 = upd (m 4) n (nI (d n + 1)) ∧ m2 1 = upd (m 1) 1 (m 1 1 + 1) ∧ ∀ c, c ≠ 1 → c ≠ 4 → c ≠ 5 → c ≠ 6 → m2 c = m c := by
  obtain ⟨h5, hv, -⟩ := g.2 n hn
  obtain ⟨x4, xv⟩ := x.2 n hn
  have h10 := g.1
  have zn : zin (nI n) 10 = true := zin_nI (by omega) (by decide)
  unfold s_X1_addEdge
  rw [n5, ix_nI (n := n) (by omega), x4, nI_add]
  refine ex_ck zn (ex_n (ex_n (ex_2 (Q := fun y : Int32 × Mem => ∃ p, p ≤ d n ∧ (∀ i, p ≤ i → i < d n → LTp a t (N (n * 5 + i)) (T (n * 5 + i))) ∧ (0 < p → ¬ LTp a t (N (n * 5 + (p - 1))) (T (n * 5 + (p - 1)))) ∧ y.1 = nI (n * 5 + p) ∧ y.2 5 = shf (m 5) (n * 5 + p) (n * 5 + d n) ∧ y.2 6 = shf (m 6) (n * 5 + p) (n * 5 + d n) ∧ ∀ c, c ≠ 5 → c ≠ 6 → y.2 c = m c) ?_ (fun y1 y2 hy => ?_))))
  · unfold l_X1_addEdge_17
    refine forG (d n) (fun j (y : Int32 × Mem) => ∃ q, q + j = d n ∧ y.1 = nI (n * 5 + q) ∧ (∀ i, q ≤ i → i < d n → LTp a t (N (n * 5 + i)) (T (n * 5 + i))) ∧ y.2 5 = shf (m 5) (n * 5 + q) (n * 5 + d n) ∧ y.2 6 = shf (m 6) (n * 5 + q) (n * 5 + d n) ∧ ∀ c, c ≠ 5 → c ≠ 6 → y.2 c = m c) _ (fun j y hj hy => ?_) (fun y hy => ?_) FU 0 (nI (n * 5 + d n), m) (Nat.zero_le _) ⟨d n, rfl, rfl, fun i h1 h2 => by omega, shf_0.symm, shf_0.symm, fun c _ _ => rfl⟩ (FU_lt (by omega))
    · obtain ⟨q, hq, e1, hl, e5, e6, eo⟩ := hy
      obtain ⟨w, rfl⟩ : ∃ w, q = w + 1 := ⟨q - 1, by omega⟩
      obtain ⟨v1, v2⟩ := hv w (by omega)
      obtain ⟨x5, x6⟩ := xv w (by omega)
      unfold t_X1_addEdge_17
      rw [e1, show n * 5 + (w + 1) = n * 5 + w + 1 by omega, m1_nI]
      refine st_if (fun z => absurd z (nI_ge (by omega) (by omega))) (fun _ => ?_)
      refine st_b (X1_isAhead_eq (s := n * 5 + w) (by omega) (b := N (n * 5 + w)) (c := T (n * 5 + w)) ?_ ?_ (by omega) (by omega) (by omega) (by omega)) (fun r hr => st_if (fun h0 => ?_) (fun h0 => ?_))
      · rw [e5, shf_v (by omega)]; exact x5
      · rw [e6, shf_v (by omega)]; exact x6
      · refine st_r ⟨w + 1, by omega, hl, fun _ => ?_, by rw [show n * 5 + (w + 1) = n * 5 + w + 1 by omega], e5, e6, eo⟩
        exact fun z => (hr.mpr z) h0
      · have z1 : zin (nI (n * 5 + w)) 50 = true := zin_nI (by omega) (by decide)
        have z2 : zin (nI (n * 5 + w + 1)) 50 = true := zin_nI (by omega) (by decide)
        refine st_ck z1 (st_ck z2 (st_n (st_ck z1 (st_ck z2 (st_n (st_n (st_l ⟨w, by omega, ?_, ?_, ?_, ?_, ?_⟩)))))))
        · exact pk_m1 _
        · intro i h1 h2
          by_cases e : i = w
          · subst e; exact hr.mp h0
          · exact hl i (by omega) h2
        · dsimp only
          rw [ix_nI (n := n * 5 + w) (by omega), ix_nI (n := n * 5 + w + 1) (by omega), rd_o (by decide), sto_same, e5, shf_v (by omega)]
          exact shf_step (lo := n * 5 + w) (by omega)
        · dsimp only
          rw [ix_nI (n := n * 5 + w) (by omega), ix_nI (n := n * 5 + w + 1) (by omega), sto_same, rd_o (by decide), e6, shf_v (by omega)]
          exact shf_step (lo := n * 5 + w) (by omega)
        · intro c h5 h6
          dsimp only
          rw [rd_o h6, rd_o h5]
          exact eo c h5 h6
    · obtain ⟨q, hq, e1, hl, e5, e6, eo⟩ := hy
      have hq0 : q = 0 := by omega
      subst hq0
      unfold t_X1_addEdge_17
      rw [e1]
      exact ⟨_, if_pos (nI_le (by omega) (by omega)), 0, by omega, hl, fun z => absurd z (Nat.lt_irrefl _), rfl, e5, e6, eo⟩
  · obtain ⟨p, hp, hl, hg, e1, e5, e6, eo⟩ := hy
    have e1 : y1 = nI (n * 5 + p) := e1
    subst e1
    have z2 : zin (nI (n * 5 + p)) 50 = true := zin_nI (by omega) (by decide)
    refine ex_ck z2 (ex_n (ex_ck z2 (ex_n (ex_ck zn (ex_ck zn (ex_n (ex_n (ex_s ⟨p, hp, hl, hg, ?_⟩))))))))
    rw [ix_nI (n := n * 5 + p) (by omega)]
    have e5 : y2 5 = shf (m 5) (n * 5 + p) (n * 5 + d n) := e5
    have e6 : y2 6 = shf (m 6) (n * 5 + p) (n * 5 + d n) := e6
    have eo : ∀ c, c ≠ 5 → c ≠ 6 → y2 c = m c := eo
    refine ⟨?_, ?_, ?_, ?_, fun c h1 h4 h5 h6 => ?_⟩
    · rw [rd_o (by decide), rd_o (by decide), rd_o (by decide), sto_same, e5]; exact shf_ins hp
    · rw [rd_o (by decide), rd_o (by decide), sto_same, rd_o (by decide), e6]; exact shf_ins hp
    · rw [rd_o (by decide), sto_same, rd_o (by decide), rd_o (by decide), eo 4 (by decide) (by decide), x4, nI_s1]
    · rw [sto_same, rd_o (by decide), rd_o (by decide), rd_o (by decide), eo 1 (by decide) (by decide)]
    · rw [rd_o h1, rd_o h4, rd_o h6, rd_o h5]; exact eo c h5 h6
theorem X1_removeEdge_eq {m : Mem} {k n p : Nat} {d N T : Nat → Nat} (g : GG k d N T) (x : GX m k d N T) (hn : n < k) (hp : p < d n) : ∃ m2, s_X1_removeEdge m (nI n) (nI p) = some m2 ∧ m2 5 = delI (m 5) n p (d n) ∧ m2 6 = delI (m 6) n p (d n) ∧ m2 4 = upd (m 4) n (nI (d n - 1)) ∧ m2 1 = upd (m 1) 1 (m 1 1 - 1) ∧ ∀ c, c ≠ 1 → c ≠ 4 → c ≠ 5 → c ≠ 6 → m2 c = m c := by
  obtain ⟨h5, hv, -⟩ := g.2 n hn
  obtain ⟨x4, xv⟩ := x.2 n hn
  have h10 := g.1
  have zn : zin (nI n) 10 = true := zin_nI (by omega) (by decide)
  unfold s_X1_removeEdge
  rw [n5, nI_s1]
  refine ex_n (ex_n (ex_b (Q := fun m2 => m2 5 = delI (m 5) n p (d n) ∧ m2 6 = delI (m 6) n p (d n) ∧ ∀ c, c ≠ 5 → c ≠ 6 → m2 c = m c) ?_ (fun m14 h14 => ?_)))
  · unfold l_X1_removeEdge_9
    refine forG (d n) (fun j (y : Int32 × Mem) => y.1 = nI j ∧ p < j ∧ y.2 5 = delI (m 5) n p j ∧ y.2 6 = delI (m 6) n p j ∧ ∀ c, c ≠ 5 → c ≠ 6 → y.2 c = m c) _ (fun j y hj hy => ?_) (fun y hy => ?_) FU (p + 1) (nI (p + 1), m) (by omega) ⟨rfl, by omega, delI_0.symm, delI_0.symm, fun c _ _ => rfl⟩ (FU_lt (by omega))
    · obtain ⟨e1, hpj, e5, e6, eo⟩ := hy
      obtain ⟨w, rfl⟩ : ∃ w, j = w + 1 := ⟨j - 1, by omega⟩
      unfold t_X1_removeEdge_9
      rw [e1, nI_add, show n * 5 + (w + 1) = n * 5 + w + 1 by omega, m1_nI, ix_nI (n := n) (by omega), eo 4 (by decide) (by decide), x4]
      have z1 : zin (nI (n * 5 + w)) 50 = true := zin_nI (by omega) (by decide)
      have z2 : zin (nI (n * 5 + w + 1)) 50 = true := zin_nI (by omega) (by decide)
      refine st_ck zn (st_if (fun z => absurd z (nI_ge hj (by omega))) (fun _ => st_ck z2 (st_ck z1 (st_n (st_ck z2 (st_ck z1 (st_n (st_n (st_l ⟨nI_s1, by omega, ?_, ?_, ?_⟩)))))))))
      · dsimp only
        rw [ix_nI (n := n * 5 + w) (by omega), ix_nI (n := n * 5 + w + 1) (by omega), rd_o (by decide), sto_same, e5]
        have := delI_step (f := m 5) (n := n) (p := p) (q := w + 1) hpj
        rw [show n * 5 + (w + 1) - 1 = n * 5 + w by omega] at this
        rw [show n * 5 + w + 1 = n * 5 + (w + 1) by omega, delI_v]
        exact this
      · dsimp only
        rw [ix_nI (n := n * 5 + w) (by omega), ix_nI (n := n * 5 + w + 1) (by omega), sto_same, rd_o (by decide), e6]
        have := delI_step (f := m 6) (n := n) (p := p) (q := w + 1) hpj
        rw [show n * 5 + (w + 1) - 1 = n * 5 + w by omega] at this
        rw [show n * 5 + w + 1 = n * 5 + (w + 1) by omega, delI_v]
        exact this
      · intro c h5 h6
        dsimp only
        rw [rd_o h6, rd_o h5]
        exact eo c h5 h6
    · obtain ⟨e1, hpj, e5, e6, eo⟩ := hy
      unfold t_X1_removeEdge_9
      rw [e1, ix_nI (n := n) (by omega), eo 4 (by decide) (by decide), x4, ck_p zn]
      exact ⟨_, if_pos (nI_le (Nat.le_refl _) (by omega)), e5, e6, eo⟩
  · obtain ⟨e5, e6, eo⟩ := h14
    refine ex_ck zn (ex_ck zn (ex_n (ex_n (ex_s ?_))))
    rw [ix_nI (n := n) (by omega), eo 4 (by decide) (by decide), x4]
    have ed : nI (d n) - 1 = nI (d n - 1) := by rw [show (1 : Int32) = nI 1 from rfl, pk_sub (by omega)]
    refine ⟨?_, ?_, ?_, ?_, fun c h1 h4 h5 h6 => ?_⟩
    · rw [rd_o (by decide), rd_o (by decide)]; exact e5
    · rw [rd_o (by decide), rd_o (by decide)]; exact e6
    · rw [rd_o (by decide), sto_same, eo 4 (by decide) (by decide), ed]
    · rw [sto_same, rd_o (by decide), eo 1 (by decide) (by decide)]
    · rw [rd_o h1, rd_o h4]; exact eo c h5 h6
