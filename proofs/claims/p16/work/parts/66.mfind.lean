/-! all that leads to what -/
theorem findLeads_0 {m : Mem} {c : Nat} {P : Nat → Nat} (hc : c ≤ 6) (hN : m 0 7 = nI c) (hP : ∀ s, s < c → P s ≤ 6 ∧ m 8 s = nI (P s) ∧ ∀ i, i < P s → (m 10 (6 * s + i) = 1 ∨ m 10 (6 * s + i) = 2) → ∃ t, t < c ∧ m 11 (6 * s + i) = nI t) : ∃ m2, s_X7_findLeads m 0 = some m2 ∧ (∀ q, q ≠ 36 → m2 q = m q) ∧ (∀ s i t, s < c → i < P s → t < c → (m 10 (6 * s + i) = 1 ∨ m 10 (6 * s + i) = 2) → m 11 (6 * s + i) = nI t → LD m2 s t) ∧ ∀ p x q, p < c → x < c → q < c → LD m2 p x → LD m2 x q → LD m2 p q := by
  unfold s_X7_findLeads
  refine ex_b (Q := fun y => y = nI c) (ex_if (fun z => ex_s hN) (fun z => absurd rfl z)) (fun y1 hy1 => ?_)
  subst hy1
  refine ex_b (Q := fun (m2 : Mem) => ∀ q, q ≠ 36 → m2 q = m q) ?_ (fun m8 h8 => ?_)
  · unfold l_X7_findLeads_18
    refine forG 36 (fun j (a : Int32 × Mem) => a.1 = nI j ∧ ∀ q, q ≠ 36 → a.2 q = m q) _ (fun j a hj ha => ?_) (fun a ha => ?_) FU 0 (0, m) (Nat.zero_le _) ⟨rfl, fun _ _ => rfl⟩ (FU_lt (by omega))
    · unfold t_X7_findLeads_18
      rw [ha.1]
      exact st_if (fun z => absurd z (nI_ge (b := 36) hj (by decide))) (fun _ => st_ck (zin_nI hj (by decide)) (st_n (st_n (st_l ⟨nI_s1, fun q hq => by dsimp only; rw [rd_o hq]; exact ha.2 q hq⟩))))
    · unfold t_X7_findLeads_18
      rw [ha.1]
      exact ⟨_, if_pos (by decide), ha.2⟩
  · refine ex_b (Q := fun (m2 : Mem) => (∀ q, q ≠ 36 → m2 q = m q) ∧ ∀ s i t, s < c → i < P s → t < c → (m 10 (6 * s + i) = 1 ∨ m 10 (6 * s + i) = 2) → m 11 (6 * s + i) = nI t → LD m2 s t) ?_ (fun m47 h47 => ?_)
    · unfold l_X7_findLeads_39
      refine forG c (fun s (a : Int32 × Mem) => a.1 = nI s ∧ (∀ q, q ≠ 36 → a.2 q = m q) ∧ ∀ z i t, z < s → i < P z → t < c → (m 10 (6 * z + i) = 1 ∨ m 10 (6 * z + i) = 2) → m 11 (6 * z + i) = nI t → LD a.2 z t) _ (fun s a hs ha => ?_) (fun a ha => ?_) FU 0 (0, m8) (Nat.zero_le _) ⟨rfl, h8, fun z i t h => absurd h (Nat.not_lt_zero _)⟩ (FU_lt (by omega))
      · obtain ⟨e1, ho, hl⟩ := ha
        obtain ⟨hP6, eP, hR⟩ := hP s hs
        unfold t_X7_findLeads_39
        rw [e1]
        refine st_if (fun z => absurd z (nI_ge hs (by omega))) (fun _ => st_b (Q := fun (m2 : Mem) => (∀ q, q ≠ 36 → m2 q = m q) ∧ ∀ z i t, z < s + 1 → i < P z → t < c → (m 10 (6 * z + i) = 1 ∨ m 10 (6 * z + i) = 2) → m 11 (6 * z + i) = nI t → LD m2 z t) ?_ (fun m44 h => st_n (st_l ⟨nI_s1, h⟩)))
        unfold l_X7_findLeads_47
        refine forG (P s) (fun j (a : Int32 × Mem) => a.1 = nI j ∧ (∀ q, q ≠ 36 → a.2 q = m q) ∧ ∀ z i t, (z < s ∧ i < P z) ∨ (z = s ∧ i < j) → t < c → (m 10 (6 * z + i) = 1 ∨ m 10 (6 * z + i) = 2) → m 11 (6 * z + i) = nI t → LD a.2 z t) _ (fun j a hj ha => ?_) (fun a ha => ?_) FU 0 (0, a.2) (Nat.zero_le _) ⟨rfl, ho, fun z i t h => h.elim (fun h => hl z i t h.1 h.2) (fun h => absurd h.2 (Nat.not_lt_zero _))⟩ (FU_lt (by omega))
        · obtain ⟨e2, ho2, hl2⟩ := ha
          unfold t_X7_findLeads_47
          rw [e2, ho2 8 (by decide), ho2 10 (by decide), ho2 11 (by decide), ix_nI (n := s) (by omega), eP, p6]
          have zs : zin (nI s) 6 = true := zin_nI (by omega) (by decide)
          have zz : zin (nI (6 * s + j)) 36 = true := zin_nI (by omega) (by decide)
          have v1 : vp_nar .boolean 1 = 1 := by decide
          refine st_b (Q := fun y => y = nI (P s)) (ex_if (fun z => ex_ck zs (ex_s rfl)) (fun z => absurd rfl z)) (fun y13 h13 => ?_)
          subst h13
          refine st_if (fun z => absurd z (nI_ge hj (by omega))) (fun _ => st_n ?_)
          rw [ix_nI (n := 6 * s + j) (by omega)]
          refine (st_b (Q := fun y => y = m 10 (6 * s + j)) (ex_if (fun z => ex_ck zz (ex_s rfl)) (fun z => absurd rfl z)) (fun y15 h15 => ?_))
          subst h15
          have nx : ∀ {t : Nat}, t < c → m 11 (6 * s + j) = nI t → (∀ q, q ≠ 36 → (sto a.2 36 (6 * s + t) (vp_nar .boolean 1)) q = m q) ∧ ∀ z i t2, (z < s ∧ i < P z) ∨ (z = s ∧ i < j + 1) → t2 < c → (m 10 (6 * z + i) = 1 ∨ m 10 (6 * z + i) = 2) → m 11 (6 * z + i) = nI t2 → LD (sto a.2 36 (6 * s + t) (vp_nar .boolean 1)) z t2 := fun {t} ht et => by
            refine ⟨fun q hq => by rw [rd_o hq]; exact ho2 q hq, fun z i t2 hz ht2 h1 h2 => ?_⟩
            rw [v1, LD_set (by omega) (by omega)]
            by_cases e : z = s ∧ t2 = t
            · exact Or.inl ⟨e.1, e.2, by decide⟩
            · refine Or.inr ⟨e, ?_⟩
              refine hl2 z i t2 ?_ ht2 h1 h2
              rcases hz with hz | ⟨hz, hi⟩
              · exact Or.inl hz
              · by_cases ei : i = j
                · subst ei; subst hz
                  rw [et] at h2
                  exact absurd ⟨rfl, ((nI_eq (by omega) (by omega)).mp h2).symm⟩ e
                · exact Or.inr ⟨hz, by omega⟩
          have ST : (m 10 (6 * s + j) = 1 ∨ m 10 (6 * s + j) = 2) → ∃ t, t < c ∧ m 11 (6 * s + j) = nI t := hR j hj
          refine st_if (fun h1 => ?_) (fun h1 => st_if (fun h2 => ?_) (fun h2 => st_n (st_l ⟨nI_s1, ho2, fun z i t2 hz ht2 g1 g2 => ?_⟩)))
          · obtain ⟨t, ht, et⟩ := ST (Or.inl h1)
            rw [et, p6, ix_nI (n := 6 * s + t) (by omega)]
            exact st_if (fun z => st_ck zz (st_ck (zin_nI (by omega) (by decide)) (st_n (st_n (st_l ⟨nI_s1, nx ht et⟩))))) (fun z => absurd rfl z)
          · obtain ⟨t, ht, et⟩ := ST (Or.inr h2)
            rw [et, p6, ix_nI (n := 6 * s + t) (by omega)]
            exact st_if (fun z => st_ck zz (st_ck (zin_nI (by omega) (by decide)) (st_n (st_n (st_l ⟨nI_s1, nx ht et⟩))))) (fun z => absurd rfl z)
          · rcases hz with hz | ⟨hz, hi⟩
            · exact hl2 z i t2 (Or.inl hz) ht2 g1 g2
            · by_cases ei : i = j
              · subst ei; subst hz
                exact absurd g1 (fun z => z.elim h1 h2)
              · exact hl2 z i t2 (Or.inr ⟨hz, by omega⟩) ht2 g1 g2
        · obtain ⟨e2, ho2, hl2⟩ := ha
          have zs : zin (nI s) 6 = true := zin_nI (by omega) (by decide)
          unfold t_X7_findLeads_47
          rw [e2, ho2 8 (by decide), ix_nI (n := s) (by omega), eP]
          refine ⟨a.2, ?_, ho2, fun z i t hz hi ht g1 g2 => hl2 z i t ?_ ht g1 g2⟩
          · rw [if_pos rfl, ck_p zs]
            exact if_pos (nI_le (Nat.le_refl _) (by omega))
          · by_cases e : z = s
            · subst e; exact Or.inr ⟨rfl, hi⟩
            · exact Or.inl ⟨by omega, hi⟩
      · obtain ⟨e1, ho, hl⟩ := ha
        unfold t_X7_findLeads_39
        rw [e1]
        exact ⟨_, if_pos (nI_le (Nat.le_refl _) (by omega)), ho, hl⟩
    · obtain ⟨ho, hl⟩ := h47
      refine ex_b (leads_all hc) (fun m79 h79 => ex_s ⟨fun q hq => ?_, fun s i t hs hi ht g1 g2 => h79.2.1 s t hs ht (hl s i t hs hi ht g1 g2), h79.2.2⟩)
      rw [h79.1 q hq]
      exact ho q hq
theorem findLeads_1 {m : Mem} {c : Nat} {P : Nat → Nat} (hc : c ≤ 6) (hN : m 0 21 = nI c) (hP : ∀ s, s < c → P s ≤ 6 ∧ m 21 s = nI (P s) ∧ ∀ i, i < P s → (m 23 (6 * s + i) = 1 ∨ m 23 (6 * s + i) = 2) → ∃ t, t < c ∧ m 24 (6 * s + i) = nI t) : ∃ m2, s_X7_findLeads m 1 = some m2 ∧ (∀ q, q ≠ 36 → m2 q = m q) ∧ (∀ s i t, s < c → i < P s → t < c → (m 23 (6 * s + i) = 1 ∨ m 23 (6 * s + i) = 2) → m 24 (6 * s + i) = nI t → LD m2 s t) ∧ ∀ p x q, p < c → x < c → q < c → LD m2 p x → LD m2 x q → LD m2 p q := by
  unfold s_X7_findLeads
  refine ex_b (Q := fun y => y = nI c) (ex_if (fun z => absurd z (by decide)) (fun z => ex_s hN)) (fun y1 hy1 => ?_)
  subst hy1
  refine ex_b (Q := fun (m2 : Mem) => ∀ q, q ≠ 36 → m2 q = m q) ?_ (fun m8 h8 => ?_)
  · unfold l_X7_findLeads_18
    refine forG 36 (fun j (a : Int32 × Mem) => a.1 = nI j ∧ ∀ q, q ≠ 36 → a.2 q = m q) _ (fun j a hj ha => ?_) (fun a ha => ?_) FU 0 (0, m) (Nat.zero_le _) ⟨rfl, fun _ _ => rfl⟩ (FU_lt (by omega))
    · unfold t_X7_findLeads_18
      rw [ha.1]
      exact st_if (fun z => absurd z (nI_ge (b := 36) hj (by decide))) (fun _ => st_ck (zin_nI hj (by decide)) (st_n (st_n (st_l ⟨nI_s1, fun q hq => by dsimp only; rw [rd_o hq]; exact ha.2 q hq⟩))))
    · unfold t_X7_findLeads_18
      rw [ha.1]
      exact ⟨_, if_pos (by decide), ha.2⟩
  · refine ex_b (Q := fun (m2 : Mem) => (∀ q, q ≠ 36 → m2 q = m q) ∧ ∀ s i t, s < c → i < P s → t < c → (m 23 (6 * s + i) = 1 ∨ m 23 (6 * s + i) = 2) → m 24 (6 * s + i) = nI t → LD m2 s t) ?_ (fun m47 h47 => ?_)
    · unfold l_X7_findLeads_39
      refine forG c (fun s (a : Int32 × Mem) => a.1 = nI s ∧ (∀ q, q ≠ 36 → a.2 q = m q) ∧ ∀ z i t, z < s → i < P z → t < c → (m 23 (6 * z + i) = 1 ∨ m 23 (6 * z + i) = 2) → m 24 (6 * z + i) = nI t → LD a.2 z t) _ (fun s a hs ha => ?_) (fun a ha => ?_) FU 0 (0, m8) (Nat.zero_le _) ⟨rfl, h8, fun z i t h => absurd h (Nat.not_lt_zero _)⟩ (FU_lt (by omega))
      · obtain ⟨e1, ho, hl⟩ := ha
        obtain ⟨hP6, eP, hR⟩ := hP s hs
        unfold t_X7_findLeads_39
        rw [e1]
        refine st_if (fun z => absurd z (nI_ge hs (by omega))) (fun _ => st_b (Q := fun (m2 : Mem) => (∀ q, q ≠ 36 → m2 q = m q) ∧ ∀ z i t, z < s + 1 → i < P z → t < c → (m 23 (6 * z + i) = 1 ∨ m 23 (6 * z + i) = 2) → m 24 (6 * z + i) = nI t → LD m2 z t) ?_ (fun m44 h => st_n (st_l ⟨nI_s1, h⟩)))
        unfold l_X7_findLeads_47
        refine forG (P s) (fun j (a : Int32 × Mem) => a.1 = nI j ∧ (∀ q, q ≠ 36 → a.2 q = m q) ∧ ∀ z i t, (z < s ∧ i < P z) ∨ (z = s ∧ i < j) → t < c → (m 23 (6 * z + i) = 1 ∨ m 23 (6 * z + i) = 2) → m 24 (6 * z + i) = nI t → LD a.2 z t) _ (fun j a hj ha => ?_) (fun a ha => ?_) FU 0 (0, a.2) (Nat.zero_le _) ⟨rfl, ho, fun z i t h => h.elim (fun h => hl z i t h.1 h.2) (fun h => absurd h.2 (Nat.not_lt_zero _))⟩ (FU_lt (by omega))
        · obtain ⟨e2, ho2, hl2⟩ := ha
          unfold t_X7_findLeads_47
          rw [e2, ho2 21 (by decide), ho2 23 (by decide), ho2 24 (by decide), ix_nI (n := s) (by omega), eP, p6]
          have zs : zin (nI s) 6 = true := zin_nI (by omega) (by decide)
          have zz : zin (nI (6 * s + j)) 36 = true := zin_nI (by omega) (by decide)
          have v1 : vp_nar .boolean 1 = 1 := by decide
          refine st_b (Q := fun y => y = nI (P s)) (ex_if (fun z => absurd z (by decide)) (fun z => ex_ck zs (ex_s rfl))) (fun y13 h13 => ?_)
          subst h13
          refine st_if (fun z => absurd z (nI_ge hj (by omega))) (fun _ => st_n ?_)
          rw [ix_nI (n := 6 * s + j) (by omega)]
          refine (st_b (Q := fun y => y = m 23 (6 * s + j)) (ex_if (fun z => absurd z (by decide)) (fun z => ex_ck zz (ex_s rfl))) (fun y15 h15 => ?_))
          subst h15
          have nx : ∀ {t : Nat}, t < c → m 24 (6 * s + j) = nI t → (∀ q, q ≠ 36 → (sto a.2 36 (6 * s + t) (vp_nar .boolean 1)) q = m q) ∧ ∀ z i t2, (z < s ∧ i < P z) ∨ (z = s ∧ i < j + 1) → t2 < c → (m 23 (6 * z + i) = 1 ∨ m 23 (6 * z + i) = 2) → m 24 (6 * z + i) = nI t2 → LD (sto a.2 36 (6 * s + t) (vp_nar .boolean 1)) z t2 := fun {t} ht et => by
            refine ⟨fun q hq => by rw [rd_o hq]; exact ho2 q hq, fun z i t2 hz ht2 h1 h2 => ?_⟩
            rw [v1, LD_set (by omega) (by omega)]
            by_cases e : z = s ∧ t2 = t
            · exact Or.inl ⟨e.1, e.2, by decide⟩
            · refine Or.inr ⟨e, ?_⟩
              refine hl2 z i t2 ?_ ht2 h1 h2
              rcases hz with hz | ⟨hz, hi⟩
              · exact Or.inl hz
              · by_cases ei : i = j
                · subst ei; subst hz
                  rw [et] at h2
                  exact absurd ⟨rfl, ((nI_eq (by omega) (by omega)).mp h2).symm⟩ e
                · exact Or.inr ⟨hz, by omega⟩
          have ST : (m 23 (6 * s + j) = 1 ∨ m 23 (6 * s + j) = 2) → ∃ t, t < c ∧ m 24 (6 * s + j) = nI t := hR j hj
          refine st_if (fun h1 => ?_) (fun h1 => st_if (fun h2 => ?_) (fun h2 => st_n (st_l ⟨nI_s1, ho2, fun z i t2 hz ht2 g1 g2 => ?_⟩)))
          · obtain ⟨t, ht, et⟩ := ST (Or.inl h1)
            rw [et, p6, ix_nI (n := 6 * s + t) (by omega)]
            exact st_if (fun z => absurd z (by decide)) (fun z => st_ck zz (st_ck (zin_nI (by omega) (by decide)) (st_n (st_n (st_l ⟨nI_s1, nx ht et⟩)))))
          · obtain ⟨t, ht, et⟩ := ST (Or.inr h2)
            rw [et, p6, ix_nI (n := 6 * s + t) (by omega)]
            exact st_if (fun z => absurd z (by decide)) (fun z => st_ck zz (st_ck (zin_nI (by omega) (by decide)) (st_n (st_n (st_l ⟨nI_s1, nx ht et⟩)))))
          · rcases hz with hz | ⟨hz, hi⟩
            · exact hl2 z i t2 (Or.inl hz) ht2 g1 g2
            · by_cases ei : i = j
              · subst ei; subst hz
                exact absurd g1 (fun z => z.elim h1 h2)
              · exact hl2 z i t2 (Or.inr ⟨hz, by omega⟩) ht2 g1 g2
        · obtain ⟨e2, ho2, hl2⟩ := ha
          have zs : zin (nI s) 6 = true := zin_nI (by omega) (by decide)
          unfold t_X7_findLeads_47
          rw [e2, ho2 21 (by decide), ix_nI (n := s) (by omega), eP]
          refine ⟨a.2, ?_, ho2, fun z i t hz hi ht g1 g2 => hl2 z i t ?_ ht g1 g2⟩
          · rw [if_neg (by decide), ck_p zs]
            exact if_pos (nI_le (Nat.le_refl _) (by omega))
          · by_cases e : z = s
            · subst e; exact Or.inr ⟨rfl, hi⟩
            · exact Or.inl ⟨by omega, hi⟩
      · obtain ⟨e1, ho, hl⟩ := ha
        unfold t_X7_findLeads_39
        rw [e1]
        exact ⟨_, if_pos (nI_le (Nat.le_refl _) (by omega)), ho, hl⟩
    · obtain ⟨ho, hl⟩ := h47
      refine ex_b (leads_all hc) (fun m79 h79 => ex_s ⟨fun q hq => ?_, fun s i t hs hi ht g1 g2 => h79.2.1 s t hs ht (hl s i t hs hi ht g1 g2), h79.2.2⟩)
      rw [h79.1 q hq]
      exact ho q hq
