/-! the reference's reading of a text: the words become shapes -/
theorem wordAt_eq {m : Mem} {c : Nat} {w : Int32} (h21 : m 0 21 = nI c) (hc : c ≤ 6) : ∃ r, s_X7_wordAt m w = some r ∧ (r = -4 ∨ ∃ t, t < c ∧ r = nI t) := by
  unfold s_X7_wordAt l_X7_wordAt_2
  refine forG c (fun j (a : Int32) => a = nI j) _ (fun j a hj ha => ?_) (fun a ha => ?_) FU 0 0 (Nat.zero_le _) rfl (FU_lt (by omega))
  · unfold t_X7_wordAt_2
    rw [ha, h21]
    exact st_if (fun z => absurd z (nI_ge hj (by omega))) (fun _ => st_ck (zin_nI (by omega) (by decide)) (st_if (fun _ => st_r (Or.inr ⟨j, hj, rfl⟩)) (fun _ => st_n (st_l nI_s1))))
  · unfold t_X7_wordAt_2
    rw [ha, h21]
    exact ⟨_, if_pos (nI_le (Nat.le_refl _) (by omega)), Or.inl rfl⟩
def KS (m m2 : Mem) : Prop := (∀ a, a ≠ 0 → a ≠ 24 → m2 a = m a) ∧ (∀ j, j ≠ 42 → j ≠ 43 → m2 0 j = m 0 j) ∧ 0 ≤ m2 0 42
theorem KS_24 {m m2 : Mem} {i : Nat} {x : Int32} (h : KS m m2) : KS m (sto m2 24 i x) := ⟨fun a a0 a1 => by rw [rd_o a1]; exact h.1 a a0 a1, fun j j0 j1 => by rw [rd_o (by decide)]; exact h.2.1 j j0 j1, by rw [rd_o (by decide)]; exact h.2.2⟩
theorem KS_fl {m m2 : Mem} {x y : Int32} (h : KS m m2) (hx : 0 < x) : KS m (fl m2 x y) := ⟨fun a a0 a1 => by rw [fl_c a0]; exact h.1 a a0 a1, fun j j0 j1 => by rw [fl_j j0 j1]; exact h.2.1 j j0 j1, fl_p hx h.2.2⟩
def RS (m : Mem) (c : Nat) (P : Nat → Nat) (D : Nat → Nat → Prop) : Prop := ∀ s i, D s i → s < c → i < P s → (m 23 (6 * s + i) = 1 ∨ m 23 (6 * s + i) = 2) → ∃ t, t < c ∧ m 24 (6 * s + i) = nI t
theorem settle_in {m0 m1 : Mem} {c s : Nat} {P : Nat → Nat} (h21 : m0 0 21 = nI c) (hc : c ≤ 6) (hP : ∀ s, s < c → P s ≤ 6 ∧ m0 21 s = nI (P s)) (hs : s < c) (hK : KS m0 m1) (hR : m1 0 42 = 0 → RS m1 c P (fun x _ => x < s)) : ∃ m2, l_X7_settleWords_19 (nI s) FU 0 m1 = some m2 ∧ KS m0 m2 ∧ (m2 0 42 = 0 → RS m2 c P (fun x _ => x < s + 1)) := by
  obtain ⟨h6, hp⟩ := hP s hs
  unfold l_X7_settleWords_19
  refine forG (P s) (fun j (a : Int32 × Mem) => a.1 = nI j ∧ KS m0 a.2 ∧ (a.2 0 42 = 0 → RS a.2 c P (fun x i => x < s ∨ (x = s ∧ i < j)))) _ (fun j st hj ha => ?_) (fun st ha => ?_) FU 0 (0, m1) (Nat.zero_le _) ⟨rfl, hK, fun q x i hx => hR q x i (hx.elim id (fun h => absurd h.2 (Nat.not_lt_zero _)))⟩ (FU_lt (by omega))
  · obtain ⟨e1, k, r⟩ := ha
    unfold t_X7_settleWords_19
    rw [e1, k.1 21 (by decide) (by decide), ix_nI (n := s) (by omega), hp]
    refine st_ck (zin_nI (by omega) (by decide)) (st_if (fun z => absurd z (nI_ge hj (by omega))) (fun _ => ?_))
    refine st_if (fun h0 => ?_) (fun hb => st_r ⟨k, fun q => absurd q hb⟩)
    have zx : zin (nI (6 * s + j)) 36 = true := zin_nI (by omega) (by decide)
    refine st_n ?_
    rw [p6, ix_nI (n := 6 * s + j) (by omega)]
    refine st_ck zx ?_
    have W : (∃ a, (ck (zin (nI (6 * s + j)) 36 = true) ((s_X7_wordAt st.2 (st.2 24 (6 * s + j))).bind fun r10 => (if r10 = (-4) then (ck (zin (nI (6 * s + j)) 36 = true) ((s_X7_fails st.2 6 (st.2 26 (6 * s + j))).bind fun m16 => ck (zin (nI (6 * s + j)) 36 = true) (bn (sto m16 24 (6 * s + j) r10) fun m18 => bn (nI j + 1) fun x19 => some (.inl (x19, m18))))) else (ck (zin (nI (6 * s + j)) 36 = true) (bn (sto st.2 24 (6 * s + j) r10) fun m12 => bn (nI j + 1) fun x13 => some (.inl (x13, m12)))))) : Option ((Int32 × Mem) ⊕ Mem)) = some (.inl a) ∧ a.1 = nI (j + 1) ∧ KS m0 a.2 ∧ (a.2 0 42 = 0 → RS a.2 c P (fun x i => x < s ∨ (x = s ∧ i < j + 1)))) ∨ ∃ b, (ck (zin (nI (6 * s + j)) 36 = true) ((s_X7_wordAt st.2 (st.2 24 (6 * s + j))).bind fun r10 => (if r10 = (-4) then (ck (zin (nI (6 * s + j)) 36 = true) ((s_X7_fails st.2 6 (st.2 26 (6 * s + j))).bind fun m16 => ck (zin (nI (6 * s + j)) 36 = true) (bn (sto m16 24 (6 * s + j) r10) fun m18 => bn (nI j + 1) fun x19 => some (.inl (x19, m18))))) else (ck (zin (nI (6 * s + j)) 36 = true) (bn (sto st.2 24 (6 * s + j) r10) fun m12 => bn (nI j + 1) fun x13 => some (.inl (x13, m12)))))) : Option ((Int32 × Mem) ⊕ Mem)) = some (.inr b) ∧ KS m0 b ∧ (b 0 42 = 0 → RS b c P (fun x _ => x < s + 1)) := by
      refine st_ck zx (st_b (wordAt_eq (by rw [k.2.1 21 (by decide) (by decide)]; exact h21) hc) (fun r10 q => st_if (fun e4 => st_ck zx ?_) (fun e4 => st_ck zx (st_n (st_n (st_l ⟨nI_s1, KS_24 k, fun q0 => ?_⟩))))))
      · rw [fails_eq, bind_s]
        refine st_ck zx (st_n (st_n (st_l ⟨nI_s1, KS_24 (KS_fl k (by decide)), fun q0 => ?_⟩)))
        dsimp only at q0
        rw [rd_o (by decide)] at q0
        exact absurd q0 (fl_b (by decide))
      · obtain ⟨t, ht, et⟩ := q.resolve_left e4
        intro x i hx hxc hi hn
        dsimp only at hn ⊢
        rw [rd_o (by decide)] at hn
        by_cases e : 6 * x + i = 6 * s + j
        · rw [e, rd_s]
          exact ⟨t, ht, et⟩
        · rw [rd_j e]
          refine r h0 x i ?_ hxc hi hn
          rcases hx with hx | ⟨hx, hx2⟩
          · exact Or.inl hx
          · refine Or.inr ⟨hx, ?_⟩
            rw [hx] at e
            omega
    refine st_if (fun _ => W) (fun n1 => st_ck zx (st_if (fun _ => W) (fun n2 => st_n (st_l ⟨nI_s1, k, fun q0 x i hx hxc hi hn => ?_⟩))))
    dsimp only at hn ⊢
    refine r h0 x i ?_ hxc hi hn
    rcases hx with hx | ⟨hx, hx2⟩
    · exact Or.inl hx
    · refine Or.inr ⟨hx, ?_⟩
      have : i ≠ j := fun e => by
        rw [hx, e] at hn
        exact hn.elim n1 n2
      omega
  · obtain ⟨e1, k, r⟩ := ha
    unfold t_X7_settleWords_19
    rw [e1, k.1 21 (by decide) (by decide), ix_nI (n := s) (by omega), hp, ck_p (zin_nI (show s < 6 by omega) (by decide)), if_pos (nI_le (Nat.le_refl _) (by omega))]
    refine ⟨_, rfl, k, fun q0 x i hx hxc hi hn => r q0 x i ?_ hxc hi hn⟩
    by_cases e : x = s
    · exact Or.inr ⟨e, by rw [e] at hi; exact hi⟩
    · exact Or.inl (by omega)
theorem settle_1 {m0 : Mem} {c : Nat} {P : Nat → Nat} (h21 : m0 0 21 = nI c) (hc : c ≤ 6) (hP : ∀ s, s < c → P s ≤ 6 ∧ m0 21 s = nI (P s)) (h42 : 0 ≤ m0 0 42) : ∃ m2, l_X7_settleWords_2 FU 0 m0 = some m2 ∧ KS m0 m2 ∧ (m2 0 42 = 0 → RS m2 c P (fun x _ => x < c)) := by
  unfold l_X7_settleWords_2
  refine forG c (fun s (a : Int32 × Mem) => a.1 = nI s ∧ KS m0 a.2 ∧ (a.2 0 42 = 0 → RS a.2 c P (fun x _ => x < s))) _ (fun s a hs ha => ?_) (fun a ha => ?_) FU 0 (0, m0) (Nat.zero_le _) ⟨rfl, ⟨fun _ _ _ => rfl, fun _ _ _ => rfl, h42⟩, fun _ x i hx => absurd hx (Nat.not_lt_zero _)⟩ (FU_lt (by omega))
  · obtain ⟨e1, k, r⟩ := ha
    unfold t_X7_settleWords_2
    rw [e1, k.2.1 21 (by decide) (by decide), h21]
    refine st_if (fun z => absurd z (nI_ge hs (by omega))) (fun _ => st_if (fun h0 => ?_) (fun hb => st_r ⟨k, fun q => absurd q hb⟩))
    exact st_b (settle_in h21 hc hP hs k r) (fun m40 q => st_n (st_l ⟨nI_s1, q.1, q.2⟩))
  · obtain ⟨e1, k, r⟩ := ha
    unfold t_X7_settleWords_2
    rw [e1, k.2.1 21 (by decide) (by decide), h21]
    exact ⟨_, if_pos (nI_le (Nat.le_refl _) (by omega)), k, r⟩
def KC (m m2 : Mem) : Prop := (∀ a, a ≠ 0 → m2 a = m a) ∧ (∀ j, j ≠ 42 → j ≠ 43 → m2 0 j = m 0 j) ∧ 0 ≤ m2 0 42
theorem KC_fl {m m2 : Mem} {x y : Int32} (h : KC m m2) (hx : 0 < x) : KC m (fl m2 x y) := ⟨fun a a0 => by rw [fl_c a0]; exact h.1 a a0, fun j j0 j1 => by rw [fl_j j0 j1]; exact h.2.1 j j0 j1, fl_p hx h.2.2⟩
def CK (m : Mem) (c : Nat) (P : Nat → Nat) (D : Nat → Nat → Prop) : Prop := ∀ s i t, D s i → s < c → i < P s → t < c → m 23 (6 * s + i) = 2 → m 24 (6 * s + i) = nI t → t ≠ s ∧ ¬ LD m t s
theorem check_in {m0 m1 : Mem} {c s : Nat} {P : Nat → Nat} (hc : c ≤ 6) (hP : ∀ s, s < c → P s ≤ 6 ∧ m0 21 s = nI (P s)) (hR : RS m0 c P (fun x _ => x < c)) (hs : s < c) (hK : KC m0 m1) (hC : m1 0 42 = 0 → CK m0 c P (fun x _ => x < s)) : ∃ m2, l_X7_settleWords_146 (nI s) FU 0 m1 = some m2 ∧ KC m0 m2 ∧ (m2 0 42 = 0 → CK m0 c P (fun x _ => x < s + 1)) := by
  obtain ⟨h6, hp⟩ := hP s hs
  unfold l_X7_settleWords_146
  refine forG (P s) (fun j (a : Int32 × Mem) => a.1 = nI j ∧ KC m0 a.2 ∧ (a.2 0 42 = 0 → CK m0 c P (fun x i => x < s ∨ (x = s ∧ i < j)))) _ (fun j st hj ha => ?_) (fun st ha => ?_) FU 0 (0, m1) (Nat.zero_le _) ⟨rfl, hK, fun q x i t hx => hC q x i t (hx.elim id (fun h => absurd h.2 (Nat.not_lt_zero _)))⟩ (FU_lt (by omega))
  · obtain ⟨e1, k, r⟩ := ha
    unfold t_X7_settleWords_146
    rw [e1, k.1 21 (by decide), k.1 23 (by decide), k.1 24 (by decide), k.1 36 (by decide), k.1 26 (by decide), ix_nI (n := s) (by omega), hp]
    refine st_ck (zin_nI (by omega) (by decide)) (st_if (fun z => absurd z (nI_ge hj (by omega))) (fun _ => ?_))
    refine st_if (fun h0 => ?_) (fun hb => st_r ⟨k, fun q => absurd q hb⟩)
    have zx : zin (nI (6 * s + j)) 36 = true := zin_nI (by omega) (by decide)
    refine st_n ?_
    rw [p6, ix_nI (n := 6 * s + j) (by omega)]
    have nx : (m0 23 (6 * s + j) = 2 → ∀ t, t < c → m0 24 (6 * s + j) = nI t → t ≠ s ∧ ¬ LD m0 t s) → CK m0 c P (fun x i => x < s ∨ (x = s ∧ i < j + 1)) := fun hx x i t hd hxc hi ht h2 h4 => by
      by_cases e : x = s ∧ i = j
      · obtain ⟨ex, ei⟩ := e
        rw [ex, ei] at h2 h4
        rw [ex]
        exact hx h2 t ht h4
      · refine r h0 x i t ?_ hxc hi ht h2 h4
        rcases hd with hd | ⟨hd, hd2⟩
        · exact Or.inl hd
        · refine Or.inr ⟨hd, ?_⟩
          have : i ≠ j := fun q => e ⟨hd, q⟩
          omega
    refine st_ck zx (st_if (fun h2 => st_ck zx ?_) (fun h2 => st_n (st_l ⟨nI_s1, k, fun _ => nx (fun q => absurd q h2)⟩)))
    obtain ⟨t, ht, et⟩ := hR s j hs hs hj (Or.inr h2)
    rw [et]
    have bad : ∀ y, (∃ a, (((s_X7_fails st.2 7 y).bind fun m58 => bn (nI j + 1) fun x59 => some (.inl (x59, m58))) : Option ((Int32 × Mem) ⊕ Mem)) = some (.inl a) ∧ a.1 = nI (j + 1) ∧ KC m0 a.2 ∧ (a.2 0 42 = 0 → CK m0 c P (fun x i => x < s ∨ (x = s ∧ i < j + 1)))) ∨ ∃ b, (((s_X7_fails st.2 7 y).bind fun m58 => bn (nI j + 1) fun x59 => some (.inl (x59, m58))) : Option ((Int32 × Mem) ⊕ Mem)) = some (.inr b) ∧ KC m0 b ∧ (b 0 42 = 0 → CK m0 c P (fun x _ => x < s + 1)) := fun y => by
      rw [fails_eq, bind_s]
      exact st_n (st_l ⟨nI_s1, KC_fl k (by decide), fun q => absurd q (fl_b (by decide))⟩)
    refine st_if (fun _ => st_ck zx (bad _)) (fun hne => ?_)
    rw [p6, ix_nI (n := 6 * t + s) (by omega)]
    refine st_ck zx (st_ck (zin_nI (by omega) (by decide)) (st_if (fun hl => st_n (st_l ⟨nI_s1, k, fun _ => nx (fun _ t2 ht2 et2 => ?_)⟩)) (fun _ => st_ck zx (bad _))))
    have e2 : t2 = t := by
      rw [et] at et2
      have := congrArg Int32.toInt et2
      rw [nI_toInt (by omega), nI_toInt (by omega)] at this
      omega
    rw [e2]
    exact ⟨fun q => hne (by rw [q]), fun q => q hl⟩
  · obtain ⟨e1, k, r⟩ := ha
    unfold t_X7_settleWords_146
    rw [e1, k.1 21 (by decide), ix_nI (n := s) (by omega), hp, ck_p (zin_nI (show s < 6 by omega) (by decide)), if_pos (nI_le (Nat.le_refl _) (by omega))]
    refine ⟨_, rfl, k, fun q0 x i t hx hxc hi => r q0 x i t ?_ hxc hi⟩
    by_cases e : x = s
    · exact Or.inr ⟨e, by rw [e] at hi; exact hi⟩
    · exact Or.inl (by omega)
theorem check_1 {m0 : Mem} {c : Nat} {P : Nat → Nat} (h21 : m0 0 21 = nI c) (hc : c ≤ 6) (hP : ∀ s, s < c → P s ≤ 6 ∧ m0 21 s = nI (P s)) (h42 : 0 ≤ m0 0 42) (hR : RS m0 c P (fun x _ => x < c)) : ∃ m2, l_X7_settleWords_129 FU 0 m0 = some m2 ∧ KC m0 m2 ∧ (m2 0 42 = 0 → CK m0 c P (fun x _ => x < c)) := by
  unfold l_X7_settleWords_129
  refine forG c (fun s (a : Int32 × Mem) => a.1 = nI s ∧ KC m0 a.2 ∧ (a.2 0 42 = 0 → CK m0 c P (fun x _ => x < s))) _ (fun s a hs ha => ?_) (fun a ha => ?_) FU 0 (0, m0) (Nat.zero_le _) ⟨rfl, ⟨fun _ _ => rfl, fun _ _ _ => rfl, h42⟩, fun _ x i t hx => absurd hx (Nat.not_lt_zero _)⟩ (FU_lt (by omega))
  · obtain ⟨e1, k, r⟩ := ha
    unfold t_X7_settleWords_129
    rw [e1, k.2.1 21 (by decide) (by decide), h21]
    refine st_if (fun z => absurd z (nI_ge hs (by omega))) (fun _ => st_if (fun h0 => ?_) (fun hb => st_r ⟨k, fun q => absurd q hb⟩))
    exact st_b (check_in hc hP hR hs k r) (fun m40 q => st_n (st_l ⟨nI_s1, q.1, q.2⟩))
  · obtain ⟨e1, k, r⟩ := ha
    unfold t_X7_settleWords_129
    rw [e1, k.2.1 21 (by decide) (by decide), h21]
    exact ⟨_, if_pos (nI_le (Nat.le_refl _) (by omega)), k, r⟩
theorem settle_eq {m : Mem} {c : Nat} {P : Nat → Nat} (h21 : m 0 21 = nI c) (hc : c ≤ 6) (hP : ∀ s, s < c → P s ≤ 6 ∧ m 21 s = nI (P s)) (h42 : 0 ≤ m 0 42) : ∃ m2, s_X7_settleWords m = some m2 ∧ (∀ a, a ≠ 0 → a ≠ 24 → a ≠ 36 → m2 a = m a) ∧ (∀ j, j ≠ 42 → j ≠ 43 → m2 0 j = m 0 j) ∧ 0 ≤ m2 0 42 ∧ (m2 0 42 = 0 → RS m2 c P (fun x _ => x < c) ∧ ∃ R : Nat → Nat → Prop, (∀ x y z, x < c → y < c → z < c → R x y → R y z → R x z) ∧ (∀ s i t, s < c → i < P s → t < c → (m2 23 (6 * s + i) = 1 ∨ m2 23 (6 * s + i) = 2) → m2 24 (6 * s + i) = nI t → R s t) ∧ ∀ s i t, s < c → i < P s → t < c → m2 23 (6 * s + i) = 2 → m2 24 (6 * s + i) = nI t → ¬ R t s) := by
  unfold s_X7_settleWords
  refine ex_b (settle_1 h21 hc hP h42) (fun m44 q => ?_)
  obtain ⟨k, r⟩ := q
  have e44 : m44 0 21 = nI c := by rw [k.2.1 21 (by decide) (by decide)]; exact h21
  have p44 : ∀ s, s < c → P s ≤ 6 ∧ m44 21 s = nI (P s) := fun s hs => by rw [k.1 21 (by decide) (by decide)]; exact hP s hs
  refine ex_if (fun z => ?_) (fun z => ex_s ⟨fun a a0 a1 _ => k.1 a a0 a1, k.2.1, k.2.2, fun q => absurd (by rw [q]; decide) z⟩)
  have f0 : m44 0 42 = 0 := Int32.le_antisymm z k.2.2
  have r0 := r f0
  obtain ⟨m46, e46, o46, l46, t46⟩ := findLeads_1 hc e44 (fun s hs => ⟨(p44 s hs).1, (p44 s hs).2, fun i hi hn => r0 s i hs hs hi hn⟩)
  rw [e46, bind_s]
  have r46 : RS m46 c P (fun x _ => x < c) := by
    unfold RS
    rw [o46 23 (by decide), o46 24 (by decide)]
    exact r0
  refine ex_b (check_1 (by rw [o46 0 (by decide)]; exact e44) hc (fun s hs => by rw [o46 21 (by decide)]; exact p44 s hs) (by rw [o46 0 (by decide)]; exact k.2.2) r46) (fun m76 q => ex_s ?_)
  obtain ⟨k2, c2⟩ := q
  refine ⟨fun a a0 a1 a2 => by rw [k2.1 a a0, o46 a a2]; exact k.1 a a0 a1, fun j j0 j1 => by rw [k2.2.1 j j0 j1, o46 0 (by decide)]; exact k.2.1 j j0 j1, k2.2.2, fun q => ⟨?_, LD m46, t46, ?_, ?_⟩⟩
  · unfold RS
    rw [k2.1 23 (by decide), k2.1 24 (by decide)]
    exact r46
  · rw [k2.1 23 (by decide), k2.1 24 (by decide), o46 23 (by decide), o46 24 (by decide)]
    exact l46
  · intro s i t hs hi ht h2 h4
    rw [k2.1 23 (by decide)] at h2
    rw [k2.1 24 (by decide)] at h4
    exact (c2 q s i t hs hs hi ht h2 h4).2
