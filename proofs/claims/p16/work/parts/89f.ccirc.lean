/-! both: no circle through a not -/
theorem dep_eq {m : Mem} {b c t s : Nat} (h0 : m b 0 = nI c) (hc : c ≤ 6) (ht : t < c) (hs : s < 32) : s_X0_dependsOn m b (nI t) (nI s) = some (bb (bt (m (b + 5) t) s = true)) := by
  unfold s_X0_dependsOn
  rw [X0_hasShape_eq h0 hc, bind_s, if_bb, if_pos (by rw [nI_toInt (by omega)]; omega), ck_p (zin_nI (by omega) (by decide)), ix_nI (by omega)]
  by_cases h : bt (m (b + 5) t) s = true
  · rw [if_neg (fun z => by have := (bit_0 hs).mp z; rw [h] at this; cases this), bb_t h]
  · rw [if_pos ((bit_0 hs).mpr (by cases q : bt (m (b + 5) t) s with
      | true => exact absurd q h
      | false => rfl)), bb_f h]
def CRC (mx mm : Mem) (b c : Nat) (P : Nat → Nat) : Prop := ∀ s, s < c → P s ≤ 6 ∧ mm 21 s = nI (P s) ∧ mx (b + 2) s = nI (P s) ∧ ∀ i, i < P s → mx (b + 10) (6 * s + i) = mm 23 (6 * s + i) ∧ mx (b + 11) (6 * s + i) = mm 24 (6 * s + i) ∧ mx (b + 13) (6 * s + i) = mm 26 (6 * s + i) ∧ (∃ q, q < 1000 ∧ mm 26 (6 * s + i) = nI q) ∧ (mm 23 (6 * s + i) = 2 → ∃ t, t < c ∧ mm 24 (6 * s + i) = nI t ∧ (bt (mx (b + 5) t) s = true ↔ (t = s ∨ LD mm t s)))
theorem c_circ_in {b c s : Nat} {P : Nat → Nat} (hb : isb b) (hc : c ≤ 6) (hs : s < c) {mx mm : Mem} (h0 : mx b 0 = nI c) (h42 : mm 0 42 = 0) (hL : CRC mx mm b c P) : ∀ (k j n : Nat), P s = j + k → k + 1 < n → (∃ pl mm2, l_X0_placeOfCircle_12 mx b (nI s) n (nI j) = some (.inl pl) ∧ l_X7_settleWords_146 (nI s) n (nI j) mm = some mm2 ∧ ¬ mm2 0 42 = 0 ∧ mm2 0 43 = pl ∧ ∃ q, q < 1000 ∧ pl = nI q) ∨ (l_X0_placeOfCircle_12 mx b (nI s) n (nI j) = some (.inr ()) ∧ l_X7_settleWords_146 (nI s) n (nI j) mm = some mm) := by
  have hb2 := isb_e hb
  intro k
  induction k with
  | zero =>
    intro j n hP hn
    obtain ⟨n, rfl⟩ : ∃ q, n = q + 1 := ⟨n - 1, by omega⟩
    obtain ⟨g1, g2, g3, -⟩ := hL s hs
    have zs : zin (nI s) 6 = true := zin_nI (by omega) (by decide)
    refine Or.inr ⟨?_, ?_⟩
    · unfold l_X0_placeOfCircle_12
      refine zlp_off ?_
      show t_X0_placeOfCircle_12 mx b (nI s) (nI j) = _
      unfold t_X0_placeOfCircle_12
      rw [ck_p zs, ix_nI (by omega), g3, if_pos (nI_le (by omega) (by omega))]
    · unfold l_X7_settleWords_146
      refine zlp_off ?_
      show t_X7_settleWords_146 (nI s) (nI j) mm = _
      unfold t_X7_settleWords_146
      rw [ck_p zs, ix_nI (by omega), g2, if_pos (nI_le (by omega) (by omega))]
  | succ k ih =>
    intro j n hP hn
    obtain ⟨n, rfl⟩ : ∃ q, n = q + 1 := ⟨n - 1, by omega⟩
    obtain ⟨g1, g2, g3, g8⟩ := hL s hs
    have hj : j < P s := by omega
    obtain ⟨w2, w3, w5, ⟨q0, hq0, eq0⟩, wt⟩ := g8 j hj
    have zs : zin (nI s) 6 = true := zin_nI (by omega) (by decide)
    have zx : zin (nI (6 * s + j)) 36 = true := zin_nI (by omega) (by decide)
    have nle : ¬ nI (P s) ≤ nI j := nI_ge hj (by omega)
    have go : ∀ {m : Mem}, t_X0_placeOfCircle_12 mx b (nI s) (nI j) = some (.inl (nI (j + 1))) → t_X7_settleWords_146 (nI s) (nI j) mm = some (.inl (nI (j + 1), mm)) → (∃ pl mm2, l_X0_placeOfCircle_12 mx b (nI s) (n + 1) (nI j) = some (.inl pl) ∧ l_X7_settleWords_146 (nI s) (n + 1) (nI j) mm = some mm2 ∧ ¬ mm2 0 42 = 0 ∧ mm2 0 43 = pl ∧ ∃ q, q < 1000 ∧ pl = nI q) ∨ (l_X0_placeOfCircle_12 mx b (nI s) (n + 1) (nI j) = some (.inr ()) ∧ l_X7_settleWords_146 (nI s) (n + 1) (nI j) mm = some mm) := fun {m} sx sm => by
      have e1 : l_X0_placeOfCircle_12 mx b (nI s) (n + 1) (nI j) = l_X0_placeOfCircle_12 mx b (nI s) n (nI (j + 1)) := by
        unfold l_X0_placeOfCircle_12
        exact zlp_on sx
      have e2 : l_X7_settleWords_146 (nI s) (n + 1) (nI j) mm = l_X7_settleWords_146 (nI s) n (nI (j + 1)) mm := by
        unfold l_X7_settleWords_146
        exact zlp_on sm
      rw [e1, e2]
      exact ih (j + 1) n (by omega) (by omega)
    by_cases h2 : mm 23 (6 * s + j) = 2
    rotate_left
    · refine go (m := mm) ?_ ?_
      · unfold t_X0_placeOfCircle_12
        rw [ck_p zs, ix_nI (n := s) (by omega), g3, if_neg nle, m6, show s * 6 + j = 6 * s + j by omega]
        show ck _ _ = _
        rw [ck_p zx, ix_nI (n := 6 * s + j) (by omega), w2, if_neg h2]
        show some (Sum.inl (nI j + 1)) = _
        rw [nI_s1]
      · unfold t_X7_settleWords_146
        rw [ck_p zs, ix_nI (n := s) (by omega), g2, if_neg nle, if_pos h42, p6]
        show ck _ _ = _
        rw [ck_p zx, ix_nI (n := 6 * s + j) (by omega), if_neg h2]
        show some (Sum.inl (nI j + 1, mm)) = _
        rw [nI_s1]
    obtain ⟨t, ht, et, hbt⟩ := wt h2
    by_cases hcir : t = s ∨ LD mm t s
    rotate_left
    · refine go (m := mm) ?_ ?_
      · unfold t_X0_placeOfCircle_12
        rw [ck_p zs, ix_nI (n := s) (by omega), g3, if_neg nle, m6, show s * 6 + j = 6 * s + j by omega]
        show ck _ _ = _
        rw [ck_p zx, ix_nI (n := 6 * s + j) (by omega), w2, if_pos h2, ck_p zx, w3, et, dep_eq h0 hc ht (by omega), bind_s, if_bb, if_neg (fun z => hcir (hbt.mp z))]
        show some (Sum.inl (nI j + 1)) = _
        rw [nI_s1]
      · have hld : mm 36 (6 * t + s) = 0 := by
          by_cases q : mm 36 (6 * t + s) = 0
          · exact q
          · exact absurd (Or.inr q) hcir
        unfold t_X7_settleWords_146
        rw [ck_p zs, ix_nI (n := s) (by omega), g2, if_neg nle, if_pos h42, p6]
        show ck _ _ = _
        rw [ck_p zx, ix_nI (n := 6 * s + j) (by omega), if_pos h2, ck_p zx, et, if_neg (fun z => hcir (Or.inl ((nI_eq (by omega) (by omega)).mp z))), ck_p zx, p6, ck_p (zin_nI (by omega) (by decide)), ix_nI (n := 6 * t + s) (by omega), if_pos hld]
        show some (Sum.inl (nI j + 1, mm)) = _
        rw [nI_s1]
    have sx : t_X0_placeOfCircle_12 mx b (nI s) (nI j) = some (.inr (.inl (nI q0))) := by
      unfold t_X0_placeOfCircle_12
      rw [ck_p zs, ix_nI (n := s) (by omega), g3, if_neg nle, m6, show s * 6 + j = 6 * s + j by omega]
      show ck _ _ = _
      rw [ck_p zx, ix_nI (n := 6 * s + j) (by omega), w2, if_pos h2, ck_p zx, w3, et, dep_eq h0 hc ht (by omega), bind_s, if_bb, if_pos (hbt.mpr hcir), ck_p zx, w5, eq0]
    have sm : t_X7_settleWords_146 (nI s) (nI j) mm = some (.inl (nI (j + 1), fl mm 7 (mm 26 (6 * s + j)))) := by
      unfold t_X7_settleWords_146
      rw [ck_p zs, ix_nI (n := s) (by omega), g2, if_neg nle, if_pos h42, p6]
      show ck _ _ = _
      rw [ck_p zx, ix_nI (n := 6 * s + j) (by omega), if_pos h2, ck_p zx, et]
      by_cases q : t = s
      · rw [if_pos (by rw [q]), ck_p zx, fails_eq, bind_s]
        show some (Sum.inl (nI j + 1, _)) = _
        rw [nI_s1]
      · rw [if_neg (fun z => q ((nI_eq (by omega) (by omega)).mp z)), ck_p zx, p6, ck_p (zin_nI (by omega) (by decide)), ix_nI (n := 6 * t + s) (by omega), if_neg (hcir.resolve_left q), ck_p zx, fails_eq, bind_s]
        show some (Sum.inl (nI j + 1, _)) = _
        rw [nI_s1]
    obtain ⟨n, rfl⟩ : ∃ q, n = q + 1 := ⟨n - 1, by omega⟩
    have fb : ¬ (fl mm 7 (mm 26 (6 * s + j))) 0 42 = 0 := fl_b (by decide)
    refine Or.inl ⟨nI q0, fl mm 7 (mm 26 (6 * s + j)), ?_, ?_, fb, by rw [fl_v h42]; exact eq0, q0, hq0, rfl⟩
    · unfold l_X0_placeOfCircle_12
      exact zlp_off sx
    · unfold l_X7_settleWords_146
      rw [zlp_on sm]
      refine zlp_off ?_
      show t_X7_settleWords_146 (nI s) (nI (j + 1)) (fl mm 7 (mm 26 (6 * s + j))) = _
      unfold t_X7_settleWords_146
      rw [ck_p zs]
      by_cases q : (fl mm 7 (mm 26 (6 * s + j))) 21 (Int32.toNatClampNeg (nI s)) ≤ nI (j + 1)
      · exact if_pos q
      · exact (if_neg q).trans (if_neg fb)
theorem check_dead {n : Nat} {i : Int32} {d : Mem} (h : ¬ d 0 42 = 0) : l_X7_settleWords_129 (n + 1) i d = some d := by
  unfold l_X7_settleWords_129
  refine zlp_off ?_
  show t_X7_settleWords_129 i d = _
  unfold t_X7_settleWords_129
  by_cases q : d 0 21 ≤ i
  · rw [if_pos q]
  · rw [if_neg q, if_neg h]
theorem c_circ {b c : Nat} {P : Nat → Nat} (hb : isb b) (hc : c ≤ 6) {mx mm : Mem} (h0 : mx b 0 = nI c) (h21 : mm 0 21 = nI c) (h42 : mm 0 42 = 0) (hL : CRC mx mm b c P) : ∀ (k s n : Nat), c = s + k → k + 1 < n → (∃ pl mm2, l_X0_placeOfCircle_2 mx b n (nI s) = some pl ∧ l_X7_settleWords_129 n (nI s) mm = some mm2 ∧ ¬ mm2 0 42 = 0 ∧ mm2 0 43 = pl ∧ ∃ q, q < 1000 ∧ pl = nI q) ∨ (l_X0_placeOfCircle_2 mx b n (nI s) = some (-1) ∧ l_X7_settleWords_129 n (nI s) mm = some mm) := by
  intro k
  induction k with
  | zero =>
    intro s n hs hn
    obtain ⟨n, rfl⟩ : ∃ q, n = q + 1 := ⟨n - 1, by omega⟩
    refine Or.inr ⟨?_, ?_⟩
    · unfold l_X0_placeOfCircle_2
      refine zlp_off ?_
      show t_X0_placeOfCircle_2 mx b (nI s) = _
      unfold t_X0_placeOfCircle_2
      rw [h0, if_pos (nI_le (by omega) (by omega))]
    · unfold l_X7_settleWords_129
      refine zlp_off ?_
      show t_X7_settleWords_129 (nI s) mm = _
      unfold t_X7_settleWords_129
      rw [h21, if_pos (nI_le (by omega) (by omega))]
  | succ k ih =>
    intro s n hs hn
    obtain ⟨n, rfl⟩ : ∃ q, n = q + 1 := ⟨n - 1, by omega⟩
    have hsc : s < c := by omega
    have p6 := (hL s hsc).1
    rcases c_circ_in (P := P) hb hc hsc h0 h42 hL (P s) 0 FU (by omega) (FU_lt (by omega)) with ⟨pl, mm2, r1, r2, r3, r4, r5⟩ | ⟨r1, r2⟩
    · obtain ⟨n, rfl⟩ : ∃ q, n = q + 1 := ⟨n - 1, by omega⟩
      refine Or.inl ⟨pl, mm2, ?_, ?_, r3, r4, r5⟩
      · unfold l_X0_placeOfCircle_2
        refine zlp_off ?_
        show t_X0_placeOfCircle_2 mx b (nI s) = _
        unfold t_X0_placeOfCircle_2
        rw [h0, if_neg (nI_ge hsc (by omega))]
        show zbS (l_X0_placeOfCircle_12 mx b (nI s) FU (nI 0)) _ _ = _
        rw [r1, zbS_l]
      · have st : t_X7_settleWords_129 (nI s) mm = some (.inl (nI (s + 1), mm2)) := by
          unfold t_X7_settleWords_129
          rw [h21, if_neg (nI_ge hsc (by omega)), if_pos h42]
          show (l_X7_settleWords_146 (nI s) FU (nI 0) mm).bind _ = _
          rw [r2, bind_s]
          show some (Sum.inl (nI s + 1, mm2)) = _
          rw [nI_s1]
        have := check_dead (n := n) (i := nI (s + 1)) r3
        unfold l_X7_settleWords_129 at this ⊢
        rw [zlp_on st]
        exact this
    · have sx : t_X0_placeOfCircle_2 mx b (nI s) = some (.inl (nI (s + 1))) := by
        unfold t_X0_placeOfCircle_2
        rw [h0, if_neg (nI_ge hsc (by omega))]
        show zbS (l_X0_placeOfCircle_12 mx b (nI s) FU (nI 0)) _ _ = _
        rw [r1, zbS_r]
        show some (Sum.inl (nI s + 1)) = _
        rw [nI_s1]
      have st : t_X7_settleWords_129 (nI s) mm = some (.inl (nI (s + 1), mm)) := by
        unfold t_X7_settleWords_129
        rw [h21, if_neg (nI_ge hsc (by omega)), if_pos h42]
        show (l_X7_settleWords_146 (nI s) FU (nI 0) mm).bind _ = _
        rw [r2, bind_s]
        show some (Sum.inl (nI s + 1, mm)) = _
        rw [nI_s1]
      have e1 : l_X0_placeOfCircle_2 mx b (n + 1) (nI s) = l_X0_placeOfCircle_2 mx b n (nI (s + 1)) := by
        unfold l_X0_placeOfCircle_2
        exact zlp_on sx
      have e2 : l_X7_settleWords_129 (n + 1) (nI s) mm = l_X7_settleWords_129 n (nI (s + 1)) mm := by
        unfold l_X7_settleWords_129
        exact zlp_on st
      rw [e1, e2]
      exact ih (s + 1) n (by omega) (by omega)
theorem o_levels {m : Mem} {b c : Nat} {P : Nat → Nat} (hb : isb b) (h0 : m b 0 = nI c) (hc : c ≤ 6) (hP : ∀ s, s < c → P s ≤ 6 ∧ m (b + 2) s = nI (P s)) : ∃ m2, s_X0_findLevels m b = some m2 ∧ ∀ a, a ≠ b + 6 → m2 a = m a := by
  have hb2 := isb_e hb
  have RL : ∀ (s : Nat) (m1 : Mem), s < c → (∀ a, a ≠ b + 6 → m1 a = m a) → ∃ m2, s_X0_raiseLevel m1 b (nI s) = some m2 ∧ ∀ a, a ≠ b + 6 → m2 a = m a := fun s m1 hs ho1 => by
    obtain ⟨p6, hp⟩ := hP s hs
    have zs : zin (nI s) 6 = true := zin_nI (by omega) (by decide)
    unfold s_X0_raiseLevel l_X0_raiseLevel_2
    refine ex_b (Q := fun (m2 : Mem) => ∀ a, a ≠ b + 6 → m2 a = m a) ?_ (fun r hr => ex_s hr)
    refine forG (P s) (fun j (a : Int32 × Mem) => a.1 = nI j ∧ ∀ q, q ≠ b + 6 → a.2 q = m q) _ (fun j a hj ha => ?_) (fun a ha => ?_) FU 0 (0, m1) (Nat.zero_le _) ⟨rfl, ho1⟩ (FU_lt (by omega))
    · obtain ⟨e1, ho⟩ := ha
      have zx : zin (nI (6 * s + j)) 36 = true := zin_nI (by omega) (by decide)
      unfold t_X0_raiseLevel_2
      rw [e1, ho (b + 2) (by omega), ix_nI (n := s) (by omega), hp, m6, show s * 6 + j = 6 * s + j by omega]
      refine st_ck zs (st_if (fun z => absurd z (nI_ge hj (by omega))) (fun _ => st_n ?_))
      rw [refers_eq (by omega), bind_s, if_bb]
      refine st_if (fun _ => st_ck zx ?_) (fun _ => st_n (st_l ⟨nI_s1, ho⟩))
      rw [X0_hasShape_eq (by rw [ho b (by omega)]; exact h0) hc, bind_s, if_bb]
      refine st_if (fun w => ?_) (fun _ => st_n (st_l ⟨nI_s1, ho⟩))
      have zf : zin (a.2 (b + 11) (Int32.toNatClampNeg (nI (6 * s + j)))) 6 = true := zin_i w.1 (by omega)
      exact st_ck zx (st_ck zf (st_n (st_ck zs (st_ck zx (st_if (fun _ => st_ck zs (st_n (st_n (st_l ⟨nI_s1, fun q hq => by dsimp only; rw [rd_o hq]; exact ho q hq⟩)))) (fun _ => st_ck zs (st_n (st_n (st_l ⟨nI_s1, fun q hq => by dsimp only; rw [rd_o hq]; exact ho q hq⟩)))))))))
    · obtain ⟨e1, ho⟩ := ha
      unfold t_X0_raiseLevel_2
      rw [e1, ho (b + 2) (by omega), ix_nI (n := s) (by omega), hp, ck_p zs]
      exact ⟨_, if_pos (nI_le (Nat.le_refl _) (by omega)), ho⟩
  unfold s_X0_findLevels l_X0_findLevels_2
  refine ex_b (Q := fun (m2 : Mem) => ∀ a, a ≠ b + 6 → m2 a = m a) ?_ (fun r hr => ex_s hr)
  refine forG 6 (fun j (a : Int32 × Mem) => a.1 = nI j ∧ ∀ q, q ≠ b + 6 → a.2 q = m q) _ (fun j a hj ha => ?_) (fun a ha => ?_) FU 0 (0, m) (Nat.zero_le _) ⟨rfl, fun _ _ => rfl⟩ (FU_lt (by omega))
  · obtain ⟨e1, ho⟩ := ha
    unfold t_X0_findLevels_2
    rw [e1]
    refine st_if (fun z => absurd z (nI_ge (b := 6) hj (by decide))) (fun _ => st_b (Q := fun (m2 : Mem) => ∀ a, a ≠ b + 6 → m2 a = m a) ?_ (fun m9 h => st_n (st_l ⟨nI_s1, h⟩)))
    unfold l_X0_findLevels_10
    refine forG c (fun s (y : Int32 × Mem) => y.1 = nI s ∧ ∀ q, q ≠ b + 6 → y.2 q = m q) _ (fun s y hs hy => ?_) (fun y hy => ?_) FU 0 (0, a.2) (Nat.zero_le _) ⟨rfl, ho⟩ (FU_lt (by omega))
    · obtain ⟨e2, ho2⟩ := hy
      unfold t_X0_findLevels_10
      rw [e2, ho2 b (by omega), h0]
      exact st_if (fun z => absurd z (nI_ge hs (by omega))) (fun _ => st_b (RL s y.2 hs ho2) (fun m6 h => st_n (st_l ⟨nI_s1, h⟩)))
    · obtain ⟨e2, ho2⟩ := hy
      unfold t_X0_findLevels_10
      rw [e2, ho2 b (by omega), h0]
      exact ⟨_, if_pos (nI_le (Nat.le_refl _) (by omega)), ho2⟩
  · obtain ⟨e1, ho⟩ := ha
    unfold t_X0_findLevels_2
    rw [e1]
    exact ⟨_, if_pos (by decide), ho⟩
