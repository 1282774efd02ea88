/-! the class's levels are the reference's ranks -/
def vw (b : Nat) (m : Mem) : Mem := fun a => m (b + a)
theorem jst_c {m m2 : Mem} {r : Nat → Nat} {s : Nat} : ∀ p, (∀ i, i < p → m2 10 (6 * s + i) = m 10 (6 * s + i) ∧ m2 11 (6 * s + i) = m 11 (6 * s + i)) → jst m2 r s p = jst m r s p
  | 0, _ => rfl
  | p + 1, h => by
    unfold jst
    rw [jst_c p (fun i hi => h i (by omega)), (h p (Nat.lt_succ_self p)).1, (h p (Nat.lt_succ_self p)).2]
theorem jst_r {m : Mem} {r r2 : Nat → Nat} {c s : Nat} (hs : s < c) (hr : ∀ t, t < c → r2 t = r t) (hc : c ≤ 6) : ∀ p, (∀ i, i < p → (m 10 (6 * s + i) = 1 ∨ m 10 (6 * s + i) = 2) → ∃ t, t < c ∧ m 11 (6 * s + i) = nI t) → jst m r2 s p = jst m r s p
  | 0, _ => hr s hs
  | p + 1, h => by
    unfold jst
    rw [jst_r hs hr hc p (fun i hi => h i (by omega))]
    by_cases c1 : m 10 (6 * s + p) = 1
    · obtain ⟨t, ht, e⟩ := h p (Nat.lt_succ_self p) (Or.inl c1)
      rw [if_pos c1, if_pos c1, e, ix_n (by omega), hr t ht]
    · rw [if_neg c1, if_neg c1]
      by_cases c2 : m 10 (6 * s + p) = 2
      · obtain ⟨t, ht, e⟩ := h p (Nat.lt_succ_self p) (Or.inr c2)
        rw [if_pos c2, if_pos c2, e, ix_n (by omega), hr t ht]
      · rw [if_neg c2, if_neg c2]
theorem Jrx_c {m m2 : Mem} {P P2 : Nat → Nat} {c : Nat} (hR : RF m c P) (hP : ∀ s, s < c → P2 s = P s) (h : ∀ s i, s < c → i < P s → m2 10 (6 * s + i) = m 10 (6 * s + i) ∧ m2 11 (6 * s + i) = m 11 (6 * s + i)) : ∀ j s, s < c → Jr m2 P2 j s = Jr m P j s
  | 0, _, _ => rfl
  | j + 1, s, hs => by
    show jst m2 (Jr m2 P2 j) s (P2 s) = jst m (Jr m P j) s (P s)
    rw [hP s hs, jst_c (P s) (fun i hi => h s i hs hi), jst_r hs (fun t ht => Jrx_c hR hP h j t ht) hR.1 (P s) (fun i hi => hR.2 s hs i hi)]
theorem RFx_c {m m2 : Mem} {P P2 : Nat → Nat} {c : Nat} (hR : RF m c P) (hP : ∀ s, s < c → P2 s = P s) (h : ∀ s i, s < c → i < P s → m2 10 (6 * s + i) = m 10 (6 * s + i) ∧ m2 11 (6 * s + i) = m 11 (6 * s + i)) : RF m2 c P2 := ⟨hR.1, fun s hs i hi => by
  rw [hP s hs] at hi
  rw [(h s i hs hi).1, (h s i hs hi).2]
  exact hR.2 s hs i hi⟩
theorem ACx_c {m m2 : Mem} {P P2 : Nat → Nat} {c : Nat} (hA : AC m c P) (hP : ∀ s, s < c → P2 s = P s) (h : ∀ s i, s < c → i < P s → m2 10 (6 * s + i) = m 10 (6 * s + i) ∧ m2 11 (6 * s + i) = m 11 (6 * s + i)) : AC m2 c P2 := by
  obtain ⟨R, r1, r2, r3⟩ := hA
  have ed : ∀ s t w, s < c → Ed m2 P2 s t w → Ed m P s t w := fun s t w hs e => by
    obtain ⟨i, hi, e1, e2⟩ := e
    rw [hP s hs] at hi
    rw [(h s i hs hi).2] at e1
    rw [(h s i hs hi).1] at e2
    exact ⟨i, hi, e1, e2⟩
  exact ⟨R, r1, fun s t w hs ht e => r2 s t w hs ht (ed s t w hs e), fun s t hs ht e => r3 s t hs ht (ed s t 1 hs e)⟩
theorem o_levels2 {m : Mem} {b c : Nat} {P : Nat → Nat} (hb : isb b) (h0 : m b 0 = nI c) (hc : c ≤ 6) (hP : ∀ s, s < c → P s ≤ 6 ∧ m (b + 2) s = nI (P s)) (hR : RF (vw b m) c P) (hA : AC (vw b m) c P) (h6 : ∀ s, s < c → m (b + 6) s = 0) : ∃ m2, s_X0_findLevels m b = some m2 ∧ (∀ a, a ≠ b + 6 → m2 a = m a) ∧ ∀ s, s < c → m2 (b + 6) s = nI (Jr (vw b m) P 6 s) := by
  have hb2 := isb_e hb
  have hle : ∀ s, s < c → Jr (vw b m) P 6 s ≤ 6 := fun s hs => Jr_le hR 6 s hs
  unfold s_X0_findLevels l_X0_findLevels_2
  refine ex_b (Q := fun (m2 : Mem) => (∀ a, a ≠ b + 6 → m2 a = m a) ∧ ∀ s, s < c → m2 (b + 6) s = nI (Jr (vw b m) P 6 s)) ?_ (fun r hr => ex_s hr)
  refine forG 6 (fun j (a : Int32 × Mem) => a.1 = nI j ∧ (∀ q, q ≠ b + 6 → a.2 q = m q) ∧ ∃ r : Nat → Nat, ∀ s, s < c → a.2 (b + 6) s = nI (r s) ∧ Jr (vw b m) P j s ≤ r s ∧ r s ≤ Jr (vw b m) P 6 s) _ (fun j a hj ha => ?_) (fun a ha => ?_) FU 0 (0, m) (Nat.zero_le _) ⟨rfl, fun _ _ => rfl, fun _ => 0, fun s hs => ⟨by show m (b + 6) s = nI 0; rw [h6 s hs]; rfl, Nat.le_refl _, Nat.zero_le _⟩⟩ (FU_lt (by omega))
  · obtain ⟨e1, ho, r, hr⟩ := ha
    unfold t_X0_findLevels_2
    rw [e1]
    refine st_if (fun z => absurd z (nI_ge (b := 6) hj (by decide))) (fun _ => st_b (Q := fun (m2 : Mem) => (∀ q, q ≠ b + 6 → m2 q = m q) ∧ ∃ r : Nat → Nat, ∀ s, s < c → m2 (b + 6) s = nI (r s) ∧ Jr (vw b m) P (j + 1) s ≤ r s ∧ r s ≤ Jr (vw b m) P 6 s) ?_ (fun m9 h => st_n (st_l ⟨nI_s1, h⟩)))
    unfold l_X0_findLevels_10
    refine forG c (fun s (y : Int32 × Mem) => y.1 = nI s ∧ (∀ q, q ≠ b + 6 → y.2 q = m q) ∧ ∃ r : Nat → Nat, ∀ x, x < c → y.2 (b + 6) x = nI (r x) ∧ Jr (vw b m) P j x ≤ r x ∧ (x < s → Jr (vw b m) P (j + 1) x ≤ r x) ∧ r x ≤ Jr (vw b m) P 6 x) _ (fun s y hs hy => ?_) (fun y hy => ?_) FU 0 (0, a.2) (Nat.zero_le _) ⟨rfl, ho, r, fun x hx => ⟨(hr x hx).1, (hr x hx).2.1, fun z => absurd z (Nat.not_lt_zero _), (hr x hx).2.2⟩⟩ (FU_lt (by omega))
    · obtain ⟨e2, ho2, r2, hr2⟩ := hy
      unfold t_X0_findLevels_10
      rw [e2, ho2 b (by omega), h0]
      refine st_if (fun z => absurd z (nI_ge hs (by omega))) (fun _ => st_b (Q := fun (m2 : Mem) => (∀ q, q ≠ b + 6 → m2 q = m q) ∧ ∃ r : Nat → Nat, ∀ x, x < c → m2 (b + 6) x = nI (r x) ∧ Jr (vw b m) P j x ≤ r x ∧ (x < s + 1 → Jr (vw b m) P (j + 1) x ≤ r x) ∧ r x ≤ Jr (vw b m) P 6 x) ?_ (fun m6 h => st_n (st_l ⟨nI_s1, h⟩)))
      obtain ⟨p6, hp⟩ := hP s hs
      have hRs := hR.2 s hs
      have zs : zin (nI s) 6 = true := zin_nI (by omega) (by decide)
      unfold s_X0_raiseLevel l_X0_raiseLevel_2
      refine ex_b (Q := fun (m2 : Mem) => (∀ q, q ≠ b + 6 → m2 q = m q) ∧ ∃ r : Nat → Nat, ∀ x, x < c → m2 (b + 6) x = nI (r x) ∧ Jr (vw b m) P j x ≤ r x ∧ (x < s + 1 → Jr (vw b m) P (j + 1) x ≤ r x) ∧ r x ≤ Jr (vw b m) P 6 x) ?_ (fun r hr => ex_s hr)
      refine forG (P s) (fun i (a : Int32 × Mem) => a.1 = nI i ∧ (∀ q, q ≠ b + 6 → a.2 q = m q) ∧ ∃ r : Nat → Nat, jst (vw b m) (Jr (vw b m) P j) s i ≤ r s ∧ ∀ x, x < c → a.2 (b + 6) x = nI (r x) ∧ Jr (vw b m) P j x ≤ r x ∧ (x < s → Jr (vw b m) P (j + 1) x ≤ r x) ∧ r x ≤ Jr (vw b m) P 6 x) _ (fun i a hi ha => ?_) (fun a ha => ?_) FU 0 (0, y.2) (Nat.zero_le _) ⟨rfl, ho2, r2, (hr2 s hs).2.1, hr2⟩ (FU_lt (by omega))
      · obtain ⟨e3, hc3, r3, hj3, hr3⟩ := ha
        have zx : zin (nI (6 * s + i)) 36 = true := zin_nI (by omega) (by decide)
        unfold t_X0_raiseLevel_2
        rw [e3, hc3 (b + 2) (by omega), hc3 (b + 10) (by omega), hc3 (b + 11) (by omega), ix_nI (n := s) (by omega), hp, m6, show s * 6 + i = 6 * s + i by omega]
        refine st_ck zs (st_if (fun z => absurd z (nI_ge hi (by omega))) (fun _ => st_n ?_))
        rw [refers_eq (by omega), hc3 (b + 10) (by omega), bind_s, if_bb, ix_nI (n := 6 * s + i) (by omega), (hr3 s hs).1]
        have step : ∀ (t w : Nat), t < c → m (b + 11) (6 * s + i) = nI t → ((m (b + 10) (6 * s + i) = 1 ∧ w = 0) ∨ (m (b + 10) (6 * s + i) = 2 ∧ w = 1)) → r3 t + w ≤ Jr (vw b m) P 6 s ∧ jst (vw b m) (Jr (vw b m) P j) s (i + 1) ≤ max (r3 s) (r3 t + w) := fun t w ht h11 hw => by
          have f := Jr_fix hR hA hs ht ⟨i, hi, h11, hw⟩
          have h1 := (hr3 t ht).2.2.2
          have h2 := (hr3 t ht).2.1
          refine ⟨by omega, ?_⟩
          unfold jst
          rw [show vw b m 11 (6 * s + i) = nI t from h11, ix_n (by omega)]
          rcases hw with ⟨h4, rfl⟩ | ⟨h4, rfl⟩
          · rw [if_pos (show vw b m 10 (6 * s + i) = 1 from h4)]; omega
          · rw [if_neg (show ¬ vw b m 10 (6 * s + i) = 1 by show ¬ m (b + 10) (6 * s + i) = 1; rw [h4]; decide), if_pos (show vw b m 10 (6 * s + i) = 2 from h4)]; omega
        have keep : ∀ {x : Int32} (v : Nat), x = nI v → r3 s ≤ v → v ≤ Jr (vw b m) P 6 s → jst (vw b m) (Jr (vw b m) P j) s (i + 1) ≤ v → (∀ q, q ≠ b + 6 → (sto a.2 (b + 6) s x) q = m q) ∧ ∃ r : Nat → Nat, jst (vw b m) (Jr (vw b m) P j) s (i + 1) ≤ r s ∧ ∀ y, y < c → (sto a.2 (b + 6) s x) (b + 6) y = nI (r y) ∧ Jr (vw b m) P j y ≤ r y ∧ (y < s → Jr (vw b m) P (j + 1) y ≤ r y) ∧ r y ≤ Jr (vw b m) P 6 y := fun {x} v hx h1 h2 h3 => by
          refine ⟨fun q hq => by rw [rd_o hq]; exact hc3 q hq, up r3 s v, by rw [up_s]; exact h3, fun y hy => ?_⟩
          obtain ⟨q1, q2, q3, q4⟩ := hr3 y hy
          by_cases e : y = s
          · subst e
            rw [up_s, rd_s]
            exact ⟨hx, by omega, fun z => absurd z (Nat.lt_irrefl _), h2⟩
          · rw [up_o e, rd_j e]
            exact ⟨q1, q2, q3, q4⟩
        have rs6 := (hr3 s hs).2.2.2
        have l6 := hle s hs
        have mx : ∀ (w : Nat), w ≤ 6 → (if nI (r3 s) < nI w then nI w else nI (r3 s)) = nI (max (r3 s) w) := fun w hw => by
          by_cases q : r3 s < w
          · rw [if_pos (nI_lt q (by omega)), Nat.max_eq_right (by omega)]
          · rw [if_neg (nI_nlt (by omega) (by omega)), Nat.max_eq_left (by omega)]
        refine st_if (fun href => st_ck zx ?_) (fun href => st_n (st_l ⟨nI_s1, hc3, r3, ?_, hr3⟩))
        · obtain ⟨t, ht, et⟩ := hRs i hi href
          have et : m (b + 11) (6 * s + i) = nI t := et
          have zt : zin (nI t) 6 = true := zin_nI (by omega) (by decide)
          rw [et, X0_hasShape_eq (by rw [hc3 b (by omega)]; exact h0) hc, bind_s, if_bb, if_pos (by rw [nI_toInt (by omega)]; omega), ix_nI (n := t) (by omega), (hr3 t ht).1]
          refine st_ck zx (st_ck zt (st_n (st_ck zs (st_ck zx ?_))))
          by_cases h2 : m (b + 10) (6 * s + i) = 2
          · obtain ⟨g1, g2⟩ := step t 1 ht et (Or.inr ⟨h2, rfl⟩)
            rw [if_pos h2, nI_s1, mx _ (by omega)]
            exact st_ck zs (st_n (st_n (st_l ⟨nI_s1, keep _ rfl (by omega) (by omega) g2⟩)))
          · obtain ⟨g1, g2⟩ := step t 0 ht et (Or.inl ⟨href.resolve_right h2, rfl⟩)
            rw [if_neg h2, mx _ (by omega)]
            exact st_ck zs (st_n (st_n (st_l ⟨nI_s1, keep _ rfl (by omega) (by omega) g2⟩)))
        · unfold jst
          rw [if_neg (show ¬ vw b m 10 (6 * s + i) = 1 from fun q => href (Or.inl q)), if_neg (show ¬ vw b m 10 (6 * s + i) = 2 from fun q => href (Or.inr q))]
          exact hj3
      · obtain ⟨e3, hc3, r3, hj3, hr3⟩ := ha
        unfold t_X0_raiseLevel_2
        rw [e3, hc3 (b + 2) (by omega), ix_nI (n := s) (by omega), hp, ck_p zs]
        refine ⟨_, if_pos (nI_le (Nat.le_refl _) (by omega)), hc3, r3, fun x hx => ?_⟩
        obtain ⟨q1, q2, q3, q4⟩ := hr3 x hx
        refine ⟨q1, q2, fun hx1 => ?_, q4⟩
        by_cases e : x = s
        · subst e; exact hj3
        · exact q3 (by omega)
    · obtain ⟨e2, ho2, r2, hr2⟩ := hy
      unfold t_X0_findLevels_10
      rw [e2, ho2 b (by omega), h0]
      exact ⟨_, if_pos (nI_le (Nat.le_refl _) (by omega)), ho2, r2, fun x hx => ⟨(hr2 x hx).1, (hr2 x hx).2.2.1 hx, (hr2 x hx).2.2.2⟩⟩
  · obtain ⟨e1, ho, r, hr⟩ := ha
    unfold t_X0_findLevels_2
    rw [e1]
    refine ⟨_, if_pos (by decide), ho, fun s hs => ?_⟩
    obtain ⟨q1, q2, q3⟩ := hr s hs
    rw [q1]
    congr 1
    omega
