/-! the reference's dealing: the whole of it -/
theorem EG_c {m m2 : Mem} (e : ∀ c, c ≠ 40 → m2 c = m c) {n d : Nat} (h : EG m n d) : EG m2 n d := by
  unfold EG
  rw [e 3 (by decide), e 5 (by decide)]
  exact h
theorem BL_c {m m2 : Mem} (e : ∀ c, c ≠ 40 → m2 c = m c) (h : BL m) : BL m2 := by
  unfold BL
  rw [e 37 (by decide), e 38 (by decide)]
  exact h
theorem leaf_x {m m2 : Mem} {c s w n d : Nat} {P Z : Nat → Nat} {sv y : Int32} (e : ∀ c, c ≠ 40 → m2 c = m c) (hS : SH m c P Z) (hs : s < c) (hE : EG m n d) (hB : BL m) (h18 : m 18 (160 * s + w) = -4 ∨ ∃ i, i < P s ∧ m 18 (160 * s + w) = nI (6 * s + i)) : l_X7_dealtTo_144 (nI n) sv m2 (m 18 (160 * s + w)) FU y 0 = some (lfx m n sv d (m 18 (160 * s + w)) y) := by
  have hc6 := hS.2.1
  obtain ⟨⟨hP6, -, hR⟩, -⟩ := hS.2.2 s hs
  unfold lfx
  rcases h18 with h | ⟨i, hi, h⟩
  · rw [if_pos h, h]
    exact leaf_none (EG_c e hE)
  · rw [h, if_neg (nn4 (by omega)), ix_n (by omega), leaf_eq (by omega) (EG_c e hE) ?_ (BL_c e hB), lfV_c e]
    rw [e 10 (by decide), e 11 (by decide)]
    intro z
    obtain ⟨t, ht, et⟩ := hR i hi z
    exact ⟨t, by omega, et⟩
theorem add_m1 (x : Int32) : x + (-1) = x - 1 := by rw [Int32.sub_eq_add_neg]
theorem dealtTo_eq {m : Mem} {c s n d : Nat} {P Z : Nat → Nat} {sv : Int32} (hS : SH m c P Z) (hs : s < c) (hE : EG m n d) (hB : BL m) : ∃ q, s_X7_dealtTo m (nI s) (nI n) sv = some q ∧ q.1 = DV m s n sv d (Z s) ∧ ∀ c, c ≠ 40 → q.2 c = m c := by
  have hc6 := hS.2.1
  obtain ⟨⟨hP6, -, hR⟩, hZ, e13, hK⟩ := hS.2.2 s hs
  have z6 : zin (nI s) 6 = true := zin_nI (by omega) (by decide)
  unfold s_X7_dealtTo
  rw [p160]
  refine ex_n (ex_b (Q := fun (m14 : Mem) => (∀ c, c ≠ 40 → m14 c = m c) ∧ ∀ i, i < Z s → m14 40 i = din m s i) ?_ (fun m14 h14 => ex_ck z6 (ex_n ?_)))
  · unfold l_X7_dealtTo_10
    refine forG (Z s) (fun j (a : Int32 × Mem) => a.1 = nI j ∧ (∀ c, c ≠ 40 → a.2 c = m c) ∧ ∀ i, i < j → a.2 40 i = din m s i) _ (fun j a hj ha => ?_) (fun a ha => ?_) FU 0 (0, m) (Nat.zero_le _) ⟨rfl, fun _ _ => rfl, fun i hi => absurd hi (Nat.not_lt_zero i)⟩ (FU_lt (by omega))
    · obtain ⟨e1, hc, hi⟩ := ha
      unfold t_X7_dealtTo_10
      rw [e1, hc 13 (by decide), ix_nI (n := s) (by omega), e13, nI_add, hc 14 (by decide), ix_nI (n := 160 * s + j) (by omega), ix_nI (n := j) (by omega)]
      have z1 : zin (nI j) 160 = true := zin_nI (by omega) (by decide)
      have nx : ∀ {x : Int32}, x = din m s j → (nI j + 1, sto a.2 40 j x).1 = nI (j + 1) ∧ (∀ c, c ≠ 40 → (nI j + 1, sto a.2 40 j x).2 c = m c) ∧ ∀ i, i < j + 1 → (nI j + 1, sto a.2 40 j x).2 40 i = din m s i := fun {x} h => by
        refine ⟨nI_s1, fun c c4 => ?_, fun i hij => ?_⟩
        · dsimp only; rw [rd_o c4]; exact hc c c4
        · dsimp only
          by_cases e : i = j
          · subst e; rw [rd_s]; exact h
          · rw [rd_j e]; exact hi i (by omega)
      refine st_ck z6 (st_if (fun z => absurd z (nI_ge hj (by omega))) (fun _ => st_ck (zin_nI (by omega) (by decide)) (st_if (fun h => st_ck z1 (st_n (st_n (st_l (nx ?_))))) (fun h => st_ck z1 (st_n (st_n (st_l (nx ?_))))))))
      · unfold din; rw [if_pos h]
      · unfold din; rw [if_neg h]
    · obtain ⟨e1, hc, hi⟩ := ha
      unfold t_X7_dealtTo_10
      rw [e1, hc 13 (by decide), ix_nI (n := s) (by omega), e13, ck_p z6]
      exact ⟨_, if_pos (nI_le (Nat.le_refl _) (by omega)), hc, hi⟩
  · obtain ⟨hc14, hi14⟩ := h14
    rw [hc14 13 (by decide), ix_nI (n := s) (by omega), e13]
    refine ex_2 (Q := fun (q : Int32 × Mem) => q.1 = DV m s n sv d (Z s) ∧ ∀ c, c ≠ 40 → q.2 c = m c) ?_ (fun y77 m78 h => ex_s h)
    unfold l_X7_dealtTo_66
    refine forG (Z s) (fun j (a : Int32 × Int32 × Mem) => ∃ q, q + j = Z s ∧ a.2.1 = nI q - 1 ∧ (∀ c, c ≠ 40 → a.2.2 c = m c) ∧ ∃ f, (∀ i, i < Z s → a.2.2 40 i = f i) ∧ (drun m s n sv d q (a.1, f)).1 = DV m s n sv d (Z s)) _ (fun j a hj ha => ?_) (fun a ha => ?_) FU 0 (1, nI (Z s) - 1, m14) (Nat.zero_le _) ⟨Z s, rfl, rfl, hc14, din m s, hi14, rfl⟩ (FU_lt (by omega))
    · obtain ⟨q, hq, e1, hc, f, hf, hd⟩ := ha
      obtain ⟨w, rfl⟩ : ∃ w, q = w + 1 := ⟨q - 1, by omega⟩
      have hw : w < Z s := by omega
      have fw := hf w hw
      have hKw := hK w hw
      rw [m1_nI] at e1
      unfold t_X7_dealtTo_66
      rw [e1, nI_add, hc 15 (by decide), hc 14 (by decide), hc 18 (by decide), hc 16 (by decide), hc 17 (by decide), ix_nI (n := 160 * s + w) (by omega), ix_nI (n := w) (by omega), fw]
      have z9 : zin (nI (160 * s + w)) 960 = true := zin_nI (by omega) (by decide)
      have zw : zin (nI w) 160 = true := zin_nI (by omega) (by decide)
      have hd : (drun m s n sv d w (dstep m s n sv d w (a.1, f))).1 = DV m s n sv d (Z s) := hd
      refine st_if (fun z => absurd z (m1_lt (by omega))) (fun _ => st_ck z9 (st_b (Q := fun y => (m 15 (160 * s + w) = -4 ∧ y = -4) ∨ (¬ m 15 (160 * s + w) = -4 ∧ ∃ u, u < w ∧ y = nI u ∧ ix (m 15 (160 * s + w)) - 160 * s = u)) (ex_if (fun h => ex_s (Or.inl ⟨h, rfl⟩)) (fun h => ex_ck z9 (ex_s (Or.inr ⟨h, ?_⟩)))) (fun y21 hy => st_ck z9 ?_)))
      · obtain ⟨u, hu, e15, eu⟩ := dstep_u hKw hw (by omega) h hZ
        refine ⟨u, hu, ?_, eu⟩
        rw [e15, pk_sub (by omega)]
        congr 1
        omega
      · have nx : ∀ {u : Nat} {x x2 : Int32}, x = x2 → dstep m s n sv d w (a.1, f) = (a.1, upd f u x2) → ∃ q, q + (j + 1) = Z s ∧ (a.1, nI w + (-1), sto a.2.2 40 u x).2.1 = nI q - 1 ∧ (∀ c, c ≠ 40 → (a.1, nI w + (-1), sto a.2.2 40 u x).2.2 c = m c) ∧ ∃ f, (∀ i, i < Z s → (a.1, nI w + (-1), sto a.2.2 40 u x).2.2 40 i = f i) ∧ (drun m s n sv d q ((a.1, nI w + (-1), sto a.2.2 40 u x).1, f)).1 = DV m s n sv d (Z s) := fun {u x x2} hx hds => by
          subst hx
          refine ⟨w, by omega, ?_, fun c c4 => ?_, upd f u x, fun i hi => ?_, ?_⟩
          · exact add_m1 _
          · dsimp only; rw [rd_o c4]; exact hc c c4
          · dsimp only
            rw [sto_same, upd_if, upd_if]
            by_cases e : i = u
            · rw [if_pos e, if_pos e]
            · rw [if_neg e, if_neg e]; exact hf i hi
          · rw [hds] at hd; exact hd
        refine st_if (fun h2 => st_ck z9 (st_n (st_ck zw (st_n ?_)))) (fun h2 => st_ck z9 (st_if (fun h1 => ?_) (fun h1 => st_if (fun h4 => st_ck zw (st_n (st_n (st_l ?_)))) (fun h4 => ?_))))
        · rcases hKw with ⟨e, -⟩ | ⟨e, -⟩ | ⟨-, ⟨u0, hu0, e0⟩, h18, ⟨l, hl, e16⟩, h, hh, e17⟩
          · rw [e] at h2; exact absurd h2 (by decide)
          · rw [e] at h2; exact absurd h2 (by decide)
          · rcases hy with ⟨e, -⟩ | ⟨h4, u, hu, rfl, eu⟩
            · rw [e] at e0; exact absurd e0.symm (nn4 (by omega))
            · have zu : zin (nI u) 160 = true := zin_nI (by omega) (by decide)
              rw [leaf_x hc hS hs hE hB h18, e16, e17, ix_nI (n := u) (by omega), hf u (by omega)]
              refine st_b (Q := fun r => r = lfx m n sv d (m 18 (160 * s + w)) (f w)) ⟨_, rfl, rfl⟩ (fun y62 h62 => ?_)
              subst h62
              rw [counted_eq (by omega) (by omega)]
              refine st_ck zu (st_ck z9 (st_ck z9 (st_b (Q := fun r => r = Cn (lfx m n sv d (m 18 (160 * s + w)) (f w)) l h) ⟨_, rfl, rfl⟩ (fun r67 h67 => ?_))))
              subst h67
              refine st_b (Q := fun r => r = Jn (f u) (Cn (lfx m n sv d (m 18 (160 * s + w)) (f w)) l h)) ⟨_, Jn_eq _ _, rfl⟩ (fun r69 h69 => st_ck zu (st_n (st_n (st_l (nx h69 ?_)))))
              unfold dstep
              rw [if_pos h2, eu, e16, e17, ix_n (by omega), ix_n (by omega)]
        · rcases hy with ⟨e, -⟩ | ⟨h4, u, hu, rfl, eu⟩
          · rcases hKw with ⟨e2, -⟩ | ⟨-, u0, hu0, e0⟩ | ⟨e2, -⟩
            · rw [e2] at h1; exact absurd h1 (by decide)
            · rw [e] at e0; exact absurd e0.symm (nn4 (by omega))
            · rw [e2] at h1; exact absurd h1 (by decide)
          · have zu : zin (nI u) 160 = true := zin_nI (by omega) (by decide)
            rw [ix_nI (n := u) (by omega), hf u (by omega)]
            refine st_ck zu (st_ck zw (st_ck zu (st_n (st_n (st_l (nx (x2 := f u ||| f w) rfl ?_))))))
            unfold dstep
            rw [if_neg h2, if_pos h1, eu]
        · rcases hy with ⟨e, -⟩ | ⟨-, u, hu, rfl, eu⟩
          · refine ⟨w, by omega, add_m1 _, hc, f, hf, ?_⟩
            unfold dstep at hd
            rw [if_neg h2, if_neg h1, if_pos e] at hd
            exact hd
          · exact absurd h4 (nn4 (by omega))
        · rcases hy with ⟨-, e⟩ | ⟨h5, u, hu, rfl, eu⟩
          · exact absurd e h4
          · have zu : zin (nI u) 160 = true := zin_nI (by omega) (by decide)
            rw [ix_nI (n := u) (by omega)]
            refine st_ck zw (st_ck zu (st_n (st_n (st_l (nx (x2 := f w) rfl ?_)))))
            unfold dstep
            rw [if_neg h2, if_neg h1, if_neg h5, eu]
    · obtain ⟨q, hq, e1, hc, f, hf, hd⟩ := ha
      have hq0 : q = 0 := by omega
      subst hq0
      unfold t_X7_dealtTo_66
      rw [e1]
      exact ⟨_, if_pos (by decide), hd, hc⟩
/-! what is wanted -/
def IW (m : Mem) (s p : Nat) (x : Int32) : Prop := ∃ i, i < p ∧ m 9 (6 * s + i) = x
theorem isWanted_eq {m : Mem} {c s : Nat} {P Z : Nat → Nat} {x : Int32} (hS : SH m c P Z) (hs : s < c) : ∃ r, s_X7_isWanted m (nI s) x = some r ∧ (¬ r = 0 ↔ IW m s (P s) x) := by
  have hc6 := hS.2.1
  obtain ⟨⟨hP6, e8, -⟩, -⟩ := hS.2.2 s hs
  have z6 : zin (nI s) 6 = true := zin_nI (by omega) (by decide)
  unfold s_X7_isWanted l_X7_isWanted_5
  refine ex_b (Q := fun y => (y = 0 ∨ y = 1) ∧ (¬ y = 0 ↔ IW m s (P s) x)) ?_ (fun y hy => ex_ck hy.1 (ex_s hy.2))
  refine forG (P s) (fun j (a : Int32 × Int32) => a.2 = nI j ∧ (a.1 = 0 ∨ a.1 = 1) ∧ (¬ a.1 = 0 ↔ IW m s j x)) _ (fun j a hj ha => ?_) (fun a ha => ?_) FU 0 (0, 0) (Nat.zero_le _) ⟨rfl, Or.inl rfl, fun z => absurd rfl z, fun z => by obtain ⟨i, hi, -⟩ := z; exact absurd hi (Nat.not_lt_zero i)⟩ (FU_lt (by omega))
  · obtain ⟨e2, h01, hi⟩ := ha
    unfold t_X7_isWanted_5
    rw [e2, ix_nI (n := s) (by omega), e8, p6, ix_nI (n := 6 * s + j) (by omega)]
    refine st_ck z6 (st_if (fun z => absurd z (nI_ge hj (by omega))) (fun _ => st_if (fun h0 => st_ck (zin_nI (by omega) (by decide)) (st_if (fun h => st_n (st_l ⟨nI_s1, Or.inr rfl, ?_⟩)) (fun h => st_n (st_l ⟨nI_s1, Or.inl rfl, ?_⟩)))) (fun h0 => st_n (st_l ⟨nI_s1, Or.inr rfl, ?_⟩))))
    · exact ⟨fun _ => ⟨j, by omega, h⟩, fun _ => show ¬ (1 : Int32) = 0 by decide⟩
    · refine ⟨fun z => absurd rfl z, fun z => ?_⟩
      obtain ⟨i, hi2, e⟩ := z
      by_cases ej : i = j
      · subst ej; exact absurd e h
      · exact absurd h0 (hi.mpr ⟨i, by omega, e⟩)
    · refine ⟨fun _ => ?_, fun _ => show ¬ (1 : Int32) = 0 by decide⟩
      obtain ⟨i, hi2, e⟩ := hi.mp h0
      exact ⟨i, by omega, e⟩
  · obtain ⟨e2, h01, hi⟩ := ha
    unfold t_X7_isWanted_5
    rw [e2, ix_nI (n := s) (by omega), e8, ck_p z6]
    exact ⟨_, if_pos (nI_le (Nat.le_refl _) (by omega)), h01, hi⟩
theorem two_5 {j : Nat} (h : j ≤ 5) : 2 ^ j ≤ 32 := by
  rcases (show j = 0 ∨ j = 1 ∨ j = 2 ∨ j = 3 ∨ j = 4 ∨ j = 5 by omega) with rfl | rfl | rfl | rfl | rfl | rfl <;> decide
theorem tb_lt {w j i : Nat} (h : w < 2 ^ j) (hi : j ≤ i) : w.testBit i = false := Nat.testBit_lt_two_pow (Nat.lt_of_lt_of_le h (Nat.pow_le_pow_right (by decide) hi))
theorem wantedSet_eq {m : Mem} {c s n d : Nat} {P Z : Nat → Nat} (hS : SH m c P Z) (hs : s < c) (hE : EG m n d) : ∃ r, s_X7_wantedSet m (nI s) (nI n) = some r ∧ ∃ w, w < 2 ^ d ∧ r = nI w ∧ ∀ i, i < d → (w.testBit i = true ↔ IW m s (P s) (m 4 (n * 5 + i))) := by
  have hc6 := hS.2.1
  obtain ⟨hn, hd, ed, ht⟩ := hE
  have zn : zin (nI n) 10 = true := zin_nI hn (by decide)
  unfold s_X7_wantedSet l_X7_wantedSet_5
  refine ex_b (Q := fun r => ∃ w, w < 2 ^ d ∧ r = nI w ∧ ∀ i, i < d → (w.testBit i = true ↔ IW m s (P s) (m 4 (n * 5 + i)))) ?_ (fun y hy => ex_s hy)
  refine forG d (fun j (a : Int32 × Int32) => a.2 = nI j ∧ ∃ w, w < 2 ^ j ∧ a.1 = nI w ∧ ∀ i, i < j → (w.testBit i = true ↔ IW m s (P s) (m 4 (n * 5 + i)))) _ (fun j a hj ha => ?_) (fun a ha => ?_) FU 0 (0, 0) (Nat.zero_le _) ⟨rfl, 0, by decide, rfl, fun i hi => absurd hi (Nat.not_lt_zero i)⟩ (FU_lt (by omega))
  · obtain ⟨e2, w, hw, e1, hi⟩ := ha
    unfold t_X7_wantedSet_5
    rw [e1, e2, ix_nI (n := n) (by omega), ed, p5, ix_nI (n := n * 5 + j) (by omega)]
    have pj := Nat.pow_lt_pow_right (a := 2) (by decide) (show j < j + 1 by omega)
    refine st_ck zn (st_if (fun z => absurd z (nI_ge hj (by omega))) (fun _ => st_ck (zin_nI (by omega) (by decide)) (st_b (isWanted_eq hS hs) (fun r hr => st_if (fun h => st_n (st_n (st_l ⟨nI_s1, w, by omega, or_z _, fun i hij => ?_⟩))) (fun h => st_n (st_n (st_l ⟨nI_s1, w ||| 2 ^ j, ?_, ?_, fun i hij => ?_⟩)))))))
    · by_cases e : i = j
      · subst e
        rw [tb_lt hw (Nat.le_refl _)]
        exact ⟨fun z => absurd z (by decide), fun z => absurd h (hr.mpr z)⟩
      · exact hi i (by omega)
    · exact Nat.or_lt_two_pow (by omega) pj
    · dsimp only
      rw [shl_5 (by omega), nx_or]
    · rw [Nat.testBit_or, Nat.testBit_two_pow]
      by_cases e : i = j
      · subst e
        simp only [decide_true, Bool.or_true]
        exact ⟨fun _ => hr.mp h, fun _ => trivial⟩
      · rw [decide_eq_false (fun z => e z.symm), Bool.or_false]
        exact hi i (by omega)
  · obtain ⟨e2, w, hw, e1, hi⟩ := ha
    unfold t_X7_wantedSet_5
    rw [e2, ix_nI (n := n) (by omega), ed, ck_p zn]
    exact ⟨_, if_pos (nI_le (Nat.le_refl _) (by omega)), w, hw, e1, hi⟩
def WS (m : Mem) (s n : Nat) : Nat := ix ((s_X7_wantedSet m (nI s) (nI n)).getD 0)
theorem WS_eq {m : Mem} {c s n d : Nat} {P Z : Nat → Nat} (hS : SH m c P Z) (hs : s < c) (hE : EG m n d) : s_X7_wantedSet m (nI s) (nI n) = some (nI (WS m s n)) ∧ WS m s n < 2 ^ d ∧ WS m s n < 32 ∧ ∀ i, i < d → ((WS m s n).testBit i = true ↔ IW m s (P s) (m 4 (n * 5 + i))) := by
  obtain ⟨r, h1, w, hw, rfl, h2⟩ := wantedSet_eq hS hs hE
  have h32 := two_5 hE.2.1
  have e : WS m s n = w := by
    unfold WS
    rw [h1]
    exact ix_n (by omega)
  rw [e]
  exact ⟨h1, hw, by omega, h2⟩
def canP (m : Mem) (s n d z : Nat) (sv : Int32) : Prop := (m 7 s = 0 ∨ WS m s n = 2 ^ d - 1) ∧ bt (DV m s n sv d z) (WS m s n) = true
theorem can_eq {m : Mem} {c s n d : Nat} {P Z : Nat → Nat} {sv : Int32} (hS : SH m c P Z) (hs : s < c) (hE : EG m n d) (hB : BL m) : ∃ q, s_X7_can m (nI s) (nI n) sv = some q ∧ (q.1 = 0 ∨ q.1 = 1) ∧ (¬ q.1 = 0 ↔ canP m s n d (Z s) sv) ∧ ∀ c, c ≠ 40 → q.2 c = m c := by
  have hc6 := hS.2.1
  obtain ⟨h1, h2, h3, -⟩ := WS_eq hS hs hE
  have h5 := hE.2.1
  have p5 := two_5 h5
  have pp : 0 < 2 ^ d := Nat.pow_pos (by decide)
  unfold s_X7_can
  rw [h1]
  refine ex_b (Q := fun r => r = nI (WS m s n)) ⟨_, rfl, rfl⟩ (fun r2 hr => ex_ck (zin_nI (by omega) (by decide)) ?_)
  subst hr
  rw [ix_nI (n := s) (by omega), ix_nI (n := n) (by have := hE.1; omega), hE.2.2.1, shl_5 h5, sub1_nI pp]
  have F : (m 7 s = 0 ∨ WS m s n = 2 ^ d - 1) → ∃ q : Int32 × Mem, (zb2 (s_X7_dealtTo m (nI s) (nI n) sv) fun r5 m6 => (if ((r5 >>> ((nI (WS m s n)) &&& 31)) &&& 1) = 1 then (some (1, m6)) else (some (0, m6)))) = some q ∧ (q.1 = 0 ∨ q.1 = 1) ∧ (¬ q.1 = 0 ↔ canP m s n d (Z s) sv) ∧ ∀ c, c ≠ 40 → q.2 c = m c := fun hx => by
    refine ex_2 (dealtTo_eq hS hs hE hB) (fun r5 m6 h => ?_)
    obtain ⟨h7, h8⟩ := h
    have h7 : r5 = DV m s n sv d (Z s) := h7
    subst h7
    refine ex_if (fun z => ex_s ⟨Or.inr rfl, ?_, h8⟩) (fun z => ex_s ⟨Or.inl rfl, ?_, h8⟩)
    · exact ⟨fun _ => ⟨hx, (bit_1 h3).mp z⟩, fun _ => by dsimp only; decide⟩
    · exact ⟨fun y => absurd rfl y, fun y => absurd ((bit_1 h3).mpr y.2) z⟩
  refine ex_if (fun h => F (Or.inl h)) (fun h => ex_ck (zin_nI hE.1 (by decide)) (ex_if (fun h9 => F (Or.inr ?_)) (fun h9 => ex_s ⟨Or.inl rfl, ?_, fun _ _ => rfl⟩)))
  · exact (nI_eq (by omega) (by omega)).mp h9
  · refine ⟨fun y => absurd rfl y, fun y => ?_⟩
    rcases y.1 with y | y
    · exact absurd y h
    · exact absurd (by rw [y]) h9
