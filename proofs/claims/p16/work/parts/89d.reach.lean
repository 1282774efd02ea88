/-! what leads to what, just so; on both sides -/
def W1 (c x : Nat) (R : Nat → Nat → Prop) : Nat → Nat → Prop := fun p q => R p q ∨ (p < c ∧ q < c ∧ R p x ∧ R x q)
def Wn (c : Nat) (R : Nat → Nat → Prop) : Nat → Nat → Nat → Prop
  | 0 => R
  | j + 1 => W1 c j (Wn c R j)
theorem Wn_g {c n : Nat} {R S : Nat → Nat → Prop} (hc : c ≤ n) (h : ∀ p q, p < n → q < n → (R p q ↔ S p q)) : ∀ j, j ≤ c → ∀ p q, p < n → q < n → (Wn c R j p q ↔ Wn c S j p q) := by
  intro j
  induction j with
  | zero => intro _; exact h
  | succ j ih =>
    intro hj p q hp hq
    have a := ih (by omega)
    show W1 c j (Wn c R j) p q ↔ W1 c j (Wn c S j) p q
    unfold W1
    rw [a p q hp hq, a p j hp (by omega), a j q (by omega) hq]
theorem Wn_0 {c : Nat} {R : Nat → Nat → Prop} {p q : Nat} (h : R p q) : ∀ j, Wn c R j p q := by
  intro j
  induction j with
  | zero => exact h
  | succ j ih => exact Or.inl ih
theorem leads_ex {m0 : Mem} {c : Nat} (hc : c ≤ 6) : ∃ m2, l_X7_findLeads_161 (nI c) FU 0 m0 = some m2 ∧ (∀ q, q ≠ 36 → m2 q = m0 q) ∧ ∀ p q, p < 6 → q < 6 → (LD m2 p q ↔ Wn c (LD m0) c p q) := by
  unfold l_X7_findLeads_161
  refine forG c (fun x (y : Int32 × Mem) => y.1 = nI x ∧ (∀ q, q ≠ 36 → y.2 q = m0 q) ∧ ∀ p q, p < 6 → q < 6 → (LD y.2 p q ↔ Wn c (LD m0) x p q)) _ (fun x y hx hy => ?_) (fun y hy => ?_) FU 0 (0, m0) (Nat.zero_le _) ⟨rfl, fun _ _ => rfl, fun p q _ _ => Iff.rfl⟩ (FU_lt (by omega))
  · obtain ⟨e1, ho, hL⟩ := hy
    unfold t_X7_findLeads_161
    rw [e1]
    refine st_if (fun z => absurd z (nI_ge hx (by omega))) (fun _ => st_b (leads_mid hc hx) (fun m73 h => st_n (st_l ⟨nI_s1, fun q hq => by dsimp only; rw [h.1 q hq]; exact ho q hq, fun p q hp hq => ?_⟩)))
    dsimp only
    rw [h.2 p q hp hq, hL p q hp hq, hL p x hp (by omega), hL x q (by omega) hq]
    exact Iff.rfl
  · obtain ⟨e1, ho, hL⟩ := hy
    unfold t_X7_findLeads_161
    rw [e1]
    exact ⟨_, if_pos (nI_le (Nat.le_refl _) (by omega)), ho, hL⟩
def RF0 (f g : Nat → Int32) (P : Nat → Nat) (c : Nat) : Nat → Nat → Prop := fun s t => s < c ∧ ∃ i, i < P s ∧ (f (6 * s + i) = 1 ∨ f (6 * s + i) = 2) ∧ g (6 * s + i) = nI t
theorem leadsx_0 {m : Mem} {c : Nat} {P : Nat → Nat} (hc : c ≤ 6) (hN : m 0 7 = nI c) (hP : ∀ s, s < c → P s ≤ 6 ∧ m 8 s = nI (P s) ∧ ∀ i, i < P s → (m 10 (6 * s + i) = 1 ∨ m 10 (6 * s + i) = 2) → ∃ t, t < c ∧ m 11 (6 * s + i) = nI t) : ∃ m2, s_X7_findLeads m 0 = some m2 ∧ (∀ q, q ≠ 36 → m2 q = m q) ∧ ∀ s t, s < 6 → t < 6 → (LD m2 s t ↔ Wn c (RF0 (m 10) (m 11) P c) c s t) := by
  unfold s_X7_findLeads
  refine ex_b (Q := fun y => y = nI c) (ex_if (fun z => ex_s hN) (fun z => absurd rfl z)) (fun y1 hy1 => ?_)
  subst hy1
  have v0 : vp_nar .boolean 0 = 0 := by decide
  have v1 : vp_nar .boolean 1 = 1 := by decide
  refine ex_b (Q := fun (m2 : Mem) => (∀ q, q ≠ 36 → m2 q = m q) ∧ ∀ j, j < 36 → m2 36 j = 0) ?_ (fun m8 h8 => ?_)
  · unfold l_X7_findLeads_18
    refine forG 36 (fun j (a : Int32 × Mem) => a.1 = nI j ∧ (∀ q, q ≠ 36 → a.2 q = m q) ∧ ∀ i, i < j → a.2 36 i = 0) _ (fun j a hj ha => ?_) (fun a ha => ?_) FU 0 (0, m) (Nat.zero_le _) ⟨rfl, fun _ _ => rfl, fun i hi => absurd hi (Nat.not_lt_zero _)⟩ (FU_lt (by omega))
    · unfold t_X7_findLeads_18
      rw [ha.1, ix_nI (n := j) (by omega), v0]
      refine st_if (fun z => absurd z (nI_ge (b := 36) hj (by decide))) (fun _ => st_ck (zin_nI hj (by decide)) (st_n (st_n (st_l ⟨nI_s1, fun q hq => by dsimp only; rw [rd_o hq]; exact ha.2.1 q hq, fun i hi => ?_⟩))))
      dsimp only
      by_cases e : i = j
      · rw [e, rd_s]
      · rw [rd_j e]; exact ha.2.2 i (by omega)
    · unfold t_X7_findLeads_18
      rw [ha.1]
      exact ⟨_, if_pos (by decide), ha.2.1, ha.2.2⟩
  · refine ex_b (Q := fun (m2 : Mem) => (∀ q, q ≠ 36 → m2 q = m q) ∧ ∀ z t, z < 6 → t < 6 → (LD m2 z t ↔ RF0 (m 10) (m 11) P c z t)) ?_ (fun m47 h47 => ?_)
    · unfold l_X7_findLeads_39
      refine forG c (fun s (a : Int32 × Mem) => a.1 = nI s ∧ (∀ q, q ≠ 36 → a.2 q = m q) ∧ ∀ z t, z < 6 → t < 6 → (LD a.2 z t ↔ z < s ∧ ∃ i, i < P z ∧ (m 10 (6 * z + i) = 1 ∨ m 10 (6 * z + i) = 2) ∧ m 11 (6 * z + i) = nI t)) _ (fun s a hs ha => ?_) (fun a ha => ?_) FU 0 (0, m8) (Nat.zero_le _) ⟨rfl, h8.1, fun z t hz ht => ⟨fun w => absurd (h8.2 (6 * z + t) (by omega)) w, fun w => absurd w.1 (Nat.not_lt_zero _)⟩⟩ (FU_lt (by omega))
      · obtain ⟨e1, ho, hl⟩ := ha
        obtain ⟨hP6, eP, hR⟩ := hP s hs
        unfold t_X7_findLeads_39
        rw [e1]
        refine st_if (fun z => absurd z (nI_ge hs (by omega))) (fun _ => st_b (Q := fun (m2 : Mem) => (∀ q, q ≠ 36 → m2 q = m q) ∧ ∀ z t, z < 6 → t < 6 → (LD m2 z t ↔ z < s + 1 ∧ ∃ i, i < P z ∧ (m 10 (6 * z + i) = 1 ∨ m 10 (6 * z + i) = 2) ∧ m 11 (6 * z + i) = nI t)) ?_ (fun m44 h => st_n (st_l ⟨nI_s1, h⟩)))
        unfold l_X7_findLeads_47
        refine forG (P s) (fun j (a : Int32 × Mem) => a.1 = nI j ∧ (∀ q, q ≠ 36 → a.2 q = m q) ∧ ∀ z t, z < 6 → t < 6 → (LD a.2 z t ↔ ∃ i, ((z < s ∧ i < P z) ∨ (z = s ∧ i < j)) ∧ (m 10 (6 * z + i) = 1 ∨ m 10 (6 * z + i) = 2) ∧ m 11 (6 * z + i) = nI t)) _ (fun j a hj ha => ?_) (fun a ha => ?_) FU 0 (0, a.2) (Nat.zero_le _) ⟨rfl, ho, fun z t hz ht => (hl z t hz ht).trans ⟨fun ⟨w, i, hi, g⟩ => ⟨i, Or.inl ⟨w, hi⟩, g⟩, fun ⟨i, w, g⟩ => w.elim (fun w => ⟨w.1, i, w.2, g⟩) (fun w => absurd w.2 (Nat.not_lt_zero _))⟩⟩ (FU_lt (by omega))
        · obtain ⟨e2, ho2, hl2⟩ := ha
          unfold t_X7_findLeads_47
          rw [e2, ho2 8 (by decide), ho2 10 (by decide), ho2 11 (by decide), ix_nI (n := s) (by omega), eP, p6]
          have zs : zin (nI s) 6 = true := zin_nI (by omega) (by decide)
          have zz : zin (nI (6 * s + j)) 36 = true := zin_nI (by omega) (by decide)
          refine st_b (Q := fun y => y = nI (P s)) (ex_if (fun z => ex_ck zs (ex_s rfl)) (fun z => absurd rfl z)) (fun y13 h13 => ?_)
          subst h13
          refine st_if (fun z => absurd z (nI_ge hj (by omega))) (fun _ => st_n ?_)
          rw [ix_nI (n := 6 * s + j) (by omega)]
          refine (st_b (Q := fun y => y = m 10 (6 * s + j)) (ex_if (fun z => ex_ck zz (ex_s rfl)) (fun z => absurd rfl z)) (fun y15 h15 => ?_))
          subst h15
          have nx : (m 10 (6 * s + j) = 1 ∨ m 10 (6 * s + j) = 2) → ∀ {t : Nat}, t < c → m 11 (6 * s + j) = nI t → (∀ q, q ≠ 36 → (sto a.2 36 (6 * s + t) (vp_nar .boolean 1)) q = m q) ∧ ∀ z t2, z < 6 → t2 < 6 → (LD (sto a.2 36 (6 * s + t) (vp_nar .boolean 1)) z t2 ↔ ∃ i, ((z < s ∧ i < P z) ∨ (z = s ∧ i < j + 1)) ∧ (m 10 (6 * z + i) = 1 ∨ m 10 (6 * z + i) = 2) ∧ m 11 (6 * z + i) = nI t2) := fun hn {t} ht et => by
            refine ⟨fun q hq => by rw [rd_o hq]; exact ho2 q hq, fun z t2 hz ht2 => ?_⟩
            rw [v1, LD_set (by omega) ht2, hl2 z t2 hz ht2]
            constructor
            · rintro (⟨rfl, rfl, -⟩ | ⟨-, i, w, g⟩)
              · exact ⟨j, Or.inr ⟨rfl, by omega⟩, hn, et⟩
              · exact ⟨i, w.elim Or.inl (fun w => Or.inr ⟨w.1, by omega⟩), g⟩
            · rintro ⟨i, w, g1, g2⟩
              by_cases e : z = s ∧ t2 = t
              · exact Or.inl ⟨e.1, e.2, by decide⟩
              · refine Or.inr ⟨e, i, ?_, g1, g2⟩
                rcases w with w | ⟨w, wi⟩
                · exact Or.inl w
                · refine Or.inr ⟨w, ?_⟩
                  have : i ≠ j := fun q => by
                    rw [q, w, et] at g2
                    exact e ⟨w, ((nI_eq (by omega) (by omega)).mp g2).symm⟩
                  omega
          have no : ¬ (m 10 (6 * s + j) = 1 ∨ m 10 (6 * s + j) = 2) → (∀ q, q ≠ 36 → a.2 q = m q) ∧ ∀ z t2, z < 6 → t2 < 6 → (LD a.2 z t2 ↔ ∃ i, ((z < s ∧ i < P z) ∨ (z = s ∧ i < j + 1)) ∧ (m 10 (6 * z + i) = 1 ∨ m 10 (6 * z + i) = 2) ∧ m 11 (6 * z + i) = nI t2) := fun hn => by
            refine ⟨ho2, fun z t2 hz ht2 => ?_⟩
            rw [hl2 z t2 hz ht2]
            constructor
            · rintro ⟨i, w, g⟩
              exact ⟨i, w.elim Or.inl (fun w => Or.inr ⟨w.1, by omega⟩), g⟩
            · rintro ⟨i, w, g1, g2⟩
              refine ⟨i, ?_, g1, g2⟩
              rcases w with w | ⟨w, wi⟩
              · exact Or.inl w
              · refine Or.inr ⟨w, ?_⟩
                have : i ≠ j := fun q => hn (by rw [q, w] at g1; exact g1)
                omega
          refine st_if (fun h1 => ?_) (fun h1 => st_if (fun h2 => ?_) (fun h2 => st_n (st_l ⟨nI_s1, no (fun z => z.elim h1 h2)⟩)))
          · obtain ⟨t, ht, et⟩ := hR j hj (Or.inl h1)
            rw [et, p6, ix_nI (n := 6 * s + t) (by omega)]
            exact st_if (fun z => st_ck zz (st_ck (zin_nI (by omega) (by decide)) (st_n (st_n (st_l ⟨nI_s1, nx (Or.inl h1) ht et⟩))))) (fun z => absurd rfl z)
          · obtain ⟨t, ht, et⟩ := hR j hj (Or.inr h2)
            rw [et, p6, ix_nI (n := 6 * s + t) (by omega)]
            exact st_if (fun z => st_ck zz (st_ck (zin_nI (by omega) (by decide)) (st_n (st_n (st_l ⟨nI_s1, nx (Or.inr h2) ht et⟩))))) (fun z => absurd rfl z)
        · obtain ⟨e2, ho2, hl2⟩ := ha
          have zs : zin (nI s) 6 = true := zin_nI (by omega) (by decide)
          unfold t_X7_findLeads_47
          rw [e2, ho2 8 (by decide), ix_nI (n := s) (by omega), eP]
          refine ⟨a.2, ?_, ho2, fun z t hz ht => (hl2 z t hz ht).trans ⟨fun ⟨i, w, g⟩ => w.elim (fun w => ⟨by omega, i, w.2, g⟩) (fun w => ⟨by omega, i, by rw [w.1]; exact w.2, g⟩), fun ⟨w, i, hi, g⟩ => ⟨i, ?_, g⟩⟩⟩
          · rw [if_pos rfl, ck_p zs]
            exact if_pos (nI_le (Nat.le_refl _) (by omega))
          · by_cases e : z = s
            · exact Or.inr ⟨e, by rw [e] at hi; exact hi⟩
            · exact Or.inl ⟨by omega, hi⟩
      · obtain ⟨e1, ho, hl⟩ := ha
        unfold t_X7_findLeads_39
        rw [e1]
        exact ⟨_, if_pos (nI_le (Nat.le_refl _) (by omega)), ho, hl⟩
    · obtain ⟨ho, hl⟩ := h47
      refine ex_b (leads_ex hc) (fun m79 h79 => ex_s ⟨fun q hq => ?_, fun s t hs ht => ?_⟩)
      · rw [h79.1 q hq]
        exact ho q hq
      · rw [h79.2 s t hs ht]
        exact Wn_g hc hl c (Nat.le_refl _) s t hs ht
theorem leadsx_1 {m : Mem} {c : Nat} {P : Nat → Nat} (hc : c ≤ 6) (hN : m 0 21 = nI c) (hP : ∀ s, s < c → P s ≤ 6 ∧ m 21 s = nI (P s) ∧ ∀ i, i < P s → (m 23 (6 * s + i) = 1 ∨ m 23 (6 * s + i) = 2) → ∃ t, t < c ∧ m 24 (6 * s + i) = nI t) : ∃ m2, s_X7_findLeads m 1 = some m2 ∧ (∀ q, q ≠ 36 → m2 q = m q) ∧ ∀ s t, s < 6 → t < 6 → (LD m2 s t ↔ Wn c (RF0 (m 23) (m 24) P c) c s t) := by
  unfold s_X7_findLeads
  refine ex_b (Q := fun y => y = nI c) (ex_if (fun z => absurd z (by decide)) (fun z => ex_s hN)) (fun y1 hy1 => ?_)
  subst hy1
  have v0 : vp_nar .boolean 0 = 0 := by decide
  have v1 : vp_nar .boolean 1 = 1 := by decide
  refine ex_b (Q := fun (m2 : Mem) => (∀ q, q ≠ 36 → m2 q = m q) ∧ ∀ j, j < 36 → m2 36 j = 0) ?_ (fun m8 h8 => ?_)
  · unfold l_X7_findLeads_18
    refine forG 36 (fun j (a : Int32 × Mem) => a.1 = nI j ∧ (∀ q, q ≠ 36 → a.2 q = m q) ∧ ∀ i, i < j → a.2 36 i = 0) _ (fun j a hj ha => ?_) (fun a ha => ?_) FU 0 (0, m) (Nat.zero_le _) ⟨rfl, fun _ _ => rfl, fun i hi => absurd hi (Nat.not_lt_zero _)⟩ (FU_lt (by omega))
    · unfold t_X7_findLeads_18
      rw [ha.1, ix_nI (n := j) (by omega), v0]
      refine st_if (fun z => absurd z (nI_ge (b := 36) hj (by decide))) (fun _ => st_ck (zin_nI hj (by decide)) (st_n (st_n (st_l ⟨nI_s1, fun q hq => by dsimp only; rw [rd_o hq]; exact ha.2.1 q hq, fun i hi => ?_⟩))))
      dsimp only
      by_cases e : i = j
      · rw [e, rd_s]
      · rw [rd_j e]; exact ha.2.2 i (by omega)
    · unfold t_X7_findLeads_18
      rw [ha.1]
      exact ⟨_, if_pos (by decide), ha.2.1, ha.2.2⟩
  · refine ex_b (Q := fun (m2 : Mem) => (∀ q, q ≠ 36 → m2 q = m q) ∧ ∀ z t, z < 6 → t < 6 → (LD m2 z t ↔ RF0 (m 23) (m 24) P c z t)) ?_ (fun m47 h47 => ?_)
    · unfold l_X7_findLeads_39
      refine forG c (fun s (a : Int32 × Mem) => a.1 = nI s ∧ (∀ q, q ≠ 36 → a.2 q = m q) ∧ ∀ z t, z < 6 → t < 6 → (LD a.2 z t ↔ z < s ∧ ∃ i, i < P z ∧ (m 23 (6 * z + i) = 1 ∨ m 23 (6 * z + i) = 2) ∧ m 24 (6 * z + i) = nI t)) _ (fun s a hs ha => ?_) (fun a ha => ?_) FU 0 (0, m8) (Nat.zero_le _) ⟨rfl, h8.1, fun z t hz ht => ⟨fun w => absurd (h8.2 (6 * z + t) (by omega)) w, fun w => absurd w.1 (Nat.not_lt_zero _)⟩⟩ (FU_lt (by omega))
      · obtain ⟨e1, ho, hl⟩ := ha
        obtain ⟨hP6, eP, hR⟩ := hP s hs
        unfold t_X7_findLeads_39
        rw [e1]
        refine st_if (fun z => absurd z (nI_ge hs (by omega))) (fun _ => st_b (Q := fun (m2 : Mem) => (∀ q, q ≠ 36 → m2 q = m q) ∧ ∀ z t, z < 6 → t < 6 → (LD m2 z t ↔ z < s + 1 ∧ ∃ i, i < P z ∧ (m 23 (6 * z + i) = 1 ∨ m 23 (6 * z + i) = 2) ∧ m 24 (6 * z + i) = nI t)) ?_ (fun m44 h => st_n (st_l ⟨nI_s1, h⟩)))
        unfold l_X7_findLeads_47
        refine forG (P s) (fun j (a : Int32 × Mem) => a.1 = nI j ∧ (∀ q, q ≠ 36 → a.2 q = m q) ∧ ∀ z t, z < 6 → t < 6 → (LD a.2 z t ↔ ∃ i, ((z < s ∧ i < P z) ∨ (z = s ∧ i < j)) ∧ (m 23 (6 * z + i) = 1 ∨ m 23 (6 * z + i) = 2) ∧ m 24 (6 * z + i) = nI t)) _ (fun j a hj ha => ?_) (fun a ha => ?_) FU 0 (0, a.2) (Nat.zero_le _) ⟨rfl, ho, fun z t hz ht => (hl z t hz ht).trans ⟨fun ⟨w, i, hi, g⟩ => ⟨i, Or.inl ⟨w, hi⟩, g⟩, fun ⟨i, w, g⟩ => w.elim (fun w => ⟨w.1, i, w.2, g⟩) (fun w => absurd w.2 (Nat.not_lt_zero _))⟩⟩ (FU_lt (by omega))
        · obtain ⟨e2, ho2, hl2⟩ := ha
          unfold t_X7_findLeads_47
          rw [e2, ho2 21 (by decide), ho2 23 (by decide), ho2 24 (by decide), ix_nI (n := s) (by omega), eP, p6]
          have zs : zin (nI s) 6 = true := zin_nI (by omega) (by decide)
          have zz : zin (nI (6 * s + j)) 36 = true := zin_nI (by omega) (by decide)
          refine st_b (Q := fun y => y = nI (P s)) (ex_if (fun z => absurd z (by decide)) (fun z => ex_ck zs (ex_s rfl))) (fun y13 h13 => ?_)
          subst h13
          refine st_if (fun z => absurd z (nI_ge hj (by omega))) (fun _ => st_n ?_)
          rw [ix_nI (n := 6 * s + j) (by omega)]
          refine (st_b (Q := fun y => y = m 23 (6 * s + j)) (ex_if (fun z => absurd z (by decide)) (fun z => ex_ck zz (ex_s rfl))) (fun y15 h15 => ?_))
          subst h15
          have nx : (m 23 (6 * s + j) = 1 ∨ m 23 (6 * s + j) = 2) → ∀ {t : Nat}, t < c → m 24 (6 * s + j) = nI t → (∀ q, q ≠ 36 → (sto a.2 36 (6 * s + t) (vp_nar .boolean 1)) q = m q) ∧ ∀ z t2, z < 6 → t2 < 6 → (LD (sto a.2 36 (6 * s + t) (vp_nar .boolean 1)) z t2 ↔ ∃ i, ((z < s ∧ i < P z) ∨ (z = s ∧ i < j + 1)) ∧ (m 23 (6 * z + i) = 1 ∨ m 23 (6 * z + i) = 2) ∧ m 24 (6 * z + i) = nI t2) := fun hn {t} ht et => by
            refine ⟨fun q hq => by rw [rd_o hq]; exact ho2 q hq, fun z t2 hz ht2 => ?_⟩
            rw [v1, LD_set (by omega) ht2, hl2 z t2 hz ht2]
            constructor
            · rintro (⟨rfl, rfl, -⟩ | ⟨-, i, w, g⟩)
              · exact ⟨j, Or.inr ⟨rfl, by omega⟩, hn, et⟩
              · exact ⟨i, w.elim Or.inl (fun w => Or.inr ⟨w.1, by omega⟩), g⟩
            · rintro ⟨i, w, g1, g2⟩
              by_cases e : z = s ∧ t2 = t
              · exact Or.inl ⟨e.1, e.2, by decide⟩
              · refine Or.inr ⟨e, i, ?_, g1, g2⟩
                rcases w with w | ⟨w, wi⟩
                · exact Or.inl w
                · refine Or.inr ⟨w, ?_⟩
                  have : i ≠ j := fun q => by
                    rw [q, w, et] at g2
                    exact e ⟨w, ((nI_eq (by omega) (by omega)).mp g2).symm⟩
                  omega
          have no : ¬ (m 23 (6 * s + j) = 1 ∨ m 23 (6 * s + j) = 2) → (∀ q, q ≠ 36 → a.2 q = m q) ∧ ∀ z t2, z < 6 → t2 < 6 → (LD a.2 z t2 ↔ ∃ i, ((z < s ∧ i < P z) ∨ (z = s ∧ i < j + 1)) ∧ (m 23 (6 * z + i) = 1 ∨ m 23 (6 * z + i) = 2) ∧ m 24 (6 * z + i) = nI t2) := fun hn => by
            refine ⟨ho2, fun z t2 hz ht2 => ?_⟩
            rw [hl2 z t2 hz ht2]
            constructor
            · rintro ⟨i, w, g⟩
              exact ⟨i, w.elim Or.inl (fun w => Or.inr ⟨w.1, by omega⟩), g⟩
            · rintro ⟨i, w, g1, g2⟩
              refine ⟨i, ?_, g1, g2⟩
              rcases w with w | ⟨w, wi⟩
              · exact Or.inl w
              · refine Or.inr ⟨w, ?_⟩
                have : i ≠ j := fun q => hn (by rw [q, w] at g1; exact g1)
                omega
          refine st_if (fun h1 => ?_) (fun h1 => st_if (fun h2 => ?_) (fun h2 => st_n (st_l ⟨nI_s1, no (fun z => z.elim h1 h2)⟩)))
          · obtain ⟨t, ht, et⟩ := hR j hj (Or.inl h1)
            rw [et, p6, ix_nI (n := 6 * s + t) (by omega)]
            exact st_if (fun z => absurd z (by decide)) (fun z => st_ck zz (st_ck (zin_nI (by omega) (by decide)) (st_n (st_n (st_l ⟨nI_s1, nx (Or.inl h1) ht et⟩)))))
          · obtain ⟨t, ht, et⟩ := hR j hj (Or.inr h2)
            rw [et, p6, ix_nI (n := 6 * s + t) (by omega)]
            exact st_if (fun z => absurd z (by decide)) (fun z => st_ck zz (st_ck (zin_nI (by omega) (by decide)) (st_n (st_n (st_l ⟨nI_s1, nx (Or.inr h2) ht et⟩)))))
        · obtain ⟨e2, ho2, hl2⟩ := ha
          have zs : zin (nI s) 6 = true := zin_nI (by omega) (by decide)
          unfold t_X7_findLeads_47
          rw [e2, ho2 21 (by decide), ix_nI (n := s) (by omega), eP]
          refine ⟨a.2, ?_, ho2, fun z t hz ht => (hl2 z t hz ht).trans ⟨fun ⟨i, w, g⟩ => w.elim (fun w => ⟨by omega, i, w.2, g⟩) (fun w => ⟨by omega, i, by rw [w.1]; exact w.2, g⟩), fun ⟨w, i, hi, g⟩ => ⟨i, ?_, g⟩⟩⟩
          · rw [if_neg (by decide), ck_p zs]
            exact if_pos (nI_le (Nat.le_refl _) (by omega))
          · by_cases e : z = s
            · exact Or.inr ⟨e, by rw [e] at hi; exact hi⟩
            · exact Or.inl ⟨by omega, hi⟩
      · obtain ⟨e1, ho, hl⟩ := ha
        unfold t_X7_findLeads_39
        rw [e1]
        exact ⟨_, if_pos (nI_le (Nat.le_refl _) (by omega)), ho, hl⟩
    · obtain ⟨ho, hl⟩ := h47
      refine ex_b (leads_ex hc) (fun m79 h79 => ex_s ⟨fun q hq => ?_, fun s t hs ht => ?_⟩)
      · rw [h79.1 q hq]
        exact ho q hq
      · rw [h79.2 s t hs ht]
        exact Wn_g hc hl c (Nat.le_refl _) s t hs ht
theorem reach_mid {m : Mem} {b c x : Nat} (hb : isb b) (h0 : m b 0 = nI c) (hc : c ≤ 6) (hx : x < c) : ∃ m2, l_X0_findReach_12 b (nI x) FU 0 m = some m2 ∧ (∀ a, a ≠ b + 5 → m2 a = m a) ∧ ∀ s t, s < c → t < c → (bt (m2 (b + 5) s) t = true ↔ bt (m (b + 5) s) t = true ∨ (s < c ∧ t < c ∧ bt (m (b + 5) s) x = true ∧ bt (m (b + 5) x) t = true)) := by
  have hb2 := isb_e hb
  unfold l_X0_findReach_12
  refine forG c (fun j (a : Int32 × Mem) => a.1 = nI j ∧ (∀ q, q ≠ b + 5 → a.2 q = m q) ∧ ∀ s t, s < c → t < c → (bt (a.2 (b + 5) s) t = true ↔ bt (m (b + 5) s) t = true ∨ (s < j ∧ t < c ∧ bt (m (b + 5) s) x = true ∧ bt (m (b + 5) x) t = true))) _ (fun j a hj ha => ?_) (fun a ha => ?_) FU 0 (0, m) (Nat.zero_le _) ⟨rfl, fun _ _ => rfl, fun s t _ _ => ⟨Or.inl, fun h => h.elim id (fun h => absurd h.1 (Nat.not_lt_zero _))⟩⟩ (FU_lt (by omega))
  · obtain ⟨e1, ho, hl⟩ := ha
    have rx : ∀ t, t < c → (bt (a.2 (b + 5) x) t = true ↔ bt (m (b + 5) x) t = true) := fun t ht => by
      rw [hl x t hx ht]
      exact ⟨fun h => h.elim id (fun h => h.2.2.2), Or.inl⟩
    have rj : bt (a.2 (b + 5) j) x = true ↔ bt (m (b + 5) j) x = true := by
      rw [hl j x hj hx]
      exact ⟨fun h => h.elim id (fun h => absurd h.1 (Nat.lt_irrefl _)), Or.inl⟩
    have zj : zin (nI j) 6 = true := zin_nI (by omega) (by decide)
    have zx : zin (nI x) 6 = true := zin_nI (by omega) (by decide)
    unfold t_X0_findReach_12
    rw [e1, ho b (by omega), h0, ix_nI (n := j) (by omega), ix_nI (n := x) (by omega)]
    refine st_if (fun z => absurd z (nI_ge hj (by omega))) (fun _ => st_ck zj (st_if (fun z => ?_) (fun z => ?_)))
    · have hf := (bit_0 (by omega)).mp z
      refine st_n (st_l ⟨nI_s1, ho, fun s t hs ht => ?_⟩)
      dsimp only
      rw [hl s t hs ht]
      constructor
      · rintro (h | ⟨h1, h2⟩)
        · exact Or.inl h
        · exact Or.inr ⟨by omega, h2⟩
      · rintro (h | ⟨h1, h2, h3, h4⟩)
        · exact Or.inl h
        · refine Or.inr ⟨?_, h2, h3, h4⟩
          have : s ≠ j := fun q => by
            rw [q] at h3
            rw [rj.mpr h3] at hf
            cases hf
          omega
    · have hf : bt (a.2 (b + 5) j) x = true := by
        cases q : bt (a.2 (b + 5) j) x with
        | true => rfl
        | false => exact absurd ((bit_0 (by omega)).mpr q) z
      refine st_ck zj (st_ck zx (st_ck zj (st_n (st_n (st_l ⟨nI_s1, fun q hq => by dsimp only; rw [rd_o hq]; exact ho q hq, fun s t hs ht => ?_⟩)))))
      dsimp only
      by_cases e : s = j
      · rw [e, rd_s, b_or, Bool.or_eq_true, rx t ht, hl j t hj ht]
        constructor
        · rintro ((h | h) | h)
          · exact Or.inl h
          · exact absurd h.1 (Nat.lt_irrefl _)
          · exact Or.inr ⟨by omega, ht, rj.mp hf, h⟩
        · rintro (h | h)
          · exact Or.inl (Or.inl h)
          · exact Or.inr h.2.2.2
      · rw [rd_j e, hl s t hs ht]
        constructor
        · rintro (h | ⟨h1, h2⟩)
          · exact Or.inl h
          · exact Or.inr ⟨by omega, h2⟩
        · rintro (h | ⟨h1, h2⟩)
          · exact Or.inl h
          · exact Or.inr ⟨by omega, h2⟩
  · obtain ⟨e1, ho, hl⟩ := ha
    unfold t_X0_findReach_12
    rw [e1, ho b (by omega), h0]
    exact ⟨_, if_pos (nI_le (Nat.le_refl _) (by omega)), ho, hl⟩
theorem reach_all {m : Mem} {b c : Nat} (hb : isb b) (h0 : m b 0 = nI c) (hc : c ≤ 6) : ∃ m2, s_X0_findReach m b = some m2 ∧ (∀ a, a ≠ b + 5 → m2 a = m a) ∧ ∀ s t, s < c → t < c → (bt (m2 (b + 5) s) t = true ↔ Wn c (fun p q => bt (m (b + 5) p) q = true) c s t) := by
  have hb2 := isb_e hb
  unfold s_X0_findReach l_X0_findReach_2
  refine ex_b (Q := fun (m2 : Mem) => (∀ a, a ≠ b + 5 → m2 a = m a) ∧ ∀ s t, s < c → t < c → (bt (m2 (b + 5) s) t = true ↔ Wn c (fun p q => bt (m (b + 5) p) q = true) c s t)) ?_ (fun r hr => ex_s hr)
  refine forG c (fun x (a : Int32 × Mem) => a.1 = nI x ∧ (∀ q, q ≠ b + 5 → a.2 q = m q) ∧ ∀ s t, s < c → t < c → (bt (a.2 (b + 5) s) t = true ↔ Wn c (fun p q => bt (m (b + 5) p) q = true) x s t)) _ (fun x a hx ha => ?_) (fun a ha => ?_) FU 0 (0, m) (Nat.zero_le _) ⟨rfl, fun _ _ => rfl, fun s t _ _ => Iff.rfl⟩ (FU_lt (by omega))
  · obtain ⟨e1, ho, hl⟩ := ha
    unfold t_X0_findReach_2
    rw [e1, ho b (by omega), h0]
    refine st_if (fun z => absurd z (nI_ge hx (by omega))) (fun _ => st_b (reach_mid hb (by rw [ho b (by omega)]; exact h0) hc hx) (fun m14 h => st_n (st_l ⟨nI_s1, fun q hq => by dsimp only; rw [h.1 q hq]; exact ho q hq, fun s t hs ht => ?_⟩)))
    dsimp only
    rw [h.2 s t hs ht, hl s t hs ht, hl s x hs hx, hl x t hx ht]
    exact Iff.rfl
  · obtain ⟨e1, ho, hl⟩ := ha
    unfold t_X0_findReach_2
    rw [e1, ho b (by omega), h0]
    exact ⟨_, if_pos (nI_le (Nat.le_refl _) (by omega)), ho, hl⟩
