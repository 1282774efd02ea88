/-! ranks -/
theorem php : ∀ (n : Nat) (f : Nat → Nat), (∀ i, i ≤ n → f i < n) → ∃ a b, a < b ∧ b ≤ n ∧ f a = f b
  | 0, f, h => absurd (h 0 (Nat.le_refl _)) (Nat.not_lt_zero _)
  | n + 1, f, h => by
    by_cases c : ∃ i, i ≤ n ∧ f i = f (n + 1)
    · obtain ⟨i, hi, e⟩ := c
      exact ⟨i, n + 1, by omega, Nat.le_refl _, e⟩
    · have hn : ∀ i, i ≤ n → f i ≠ f (n + 1) := fun i hi e => c ⟨i, hi, e⟩
      obtain ⟨a, b, hab, hb, e⟩ := php n (fun i => if f i = n then f (n + 1) else f i) (fun i hi => by
        have h1 := h i (by omega)
        have h2 := h (n + 1) (Nat.le_refl _)
        have h3 := hn i hi
        by_cases e : f i = n
        · rw [if_pos e]; omega
        · rw [if_neg e]; omega)
      refine ⟨a, b, hab, by omega, ?_⟩
      have ha := hn a (by omega)
      have hb2 := hn b (by omega)
      by_cases e1 : f a = n
      · by_cases e2 : f b = n
        · rw [e1, e2]
        · rw [if_pos e1, if_neg e2] at e
          exact absurd e.symm hb2
      · by_cases e2 : f b = n
        · rw [if_neg e1, if_pos e2] at e
          exact absurd e ha
        · rw [if_neg e1, if_neg e2] at e
          exact e
/-- what shape s tells of shape t: w is 1 behind a not -/
def Ed (m : Mem) (P : Nat → Nat) (s t w : Nat) : Prop := ∃ i, i < P s ∧ m 11 (6 * s + i) = nI t ∧ ((m 10 (6 * s + i) = 1 ∧ w = 0) ∨ (m 10 (6 * s + i) = 2 ∧ w = 1))
def AC (m : Mem) (c : Nat) (P : Nat → Nat) : Prop := ∃ R : Nat → Nat → Prop, (∀ x y z, x < c → y < c → z < c → R x y → R y z → R x z) ∧ (∀ s t w, s < c → t < c → Ed m P s t w → R s t) ∧ ∀ s t, s < c → t < c → Ed m P s t 1 → ¬ R t s
def jst (m : Mem) (r : Nat → Nat) (s : Nat) : Nat → Nat
  | 0 => r s
  | i + 1 => if m 10 (6 * s + i) = 1 then max (jst m r s i) (r (ix (m 11 (6 * s + i)))) else if m 10 (6 * s + i) = 2 then max (jst m r s i) (r (ix (m 11 (6 * s + i))) + 1) else jst m r s i
def Jr (m : Mem) (P : Nat → Nat) : Nat → Nat → Nat
  | 0 => fun _ => 0
  | j + 1 => fun s => jst m (Jr m P j) s (P s)
theorem jst_ge {m : Mem} {r : Nat → Nat} {s : Nat} : ∀ p, r s ≤ jst m r s p
  | 0 => Nat.le_refl _
  | p + 1 => by
    have h := jst_ge (m := m) (r := r) (s := s) p
    unfold jst
    by_cases c1 : m 10 (6 * s + p) = 1
    · rw [if_pos c1]; omega
    · rw [if_neg c1]
      by_cases c2 : m 10 (6 * s + p) = 2
      · rw [if_pos c2]; omega
      · rw [if_neg c2]; exact h
theorem jst_ed {m : Mem} {r : Nat → Nat} {s t w i : Nat} (ht : t < 6) (h11 : m 11 (6 * s + i) = nI t) (hw : (m 10 (6 * s + i) = 1 ∧ w = 0) ∨ (m 10 (6 * s + i) = 2 ∧ w = 1)) : ∀ p, i < p → r t + w ≤ jst m r s p
  | 0, h => absurd h (Nat.not_lt_zero _)
  | p + 1, h => by
    unfold jst
    by_cases e : i = p
    · subst e
      rw [h11, ix_n (by omega)]
      rcases hw with ⟨h1, rfl⟩ | ⟨h1, rfl⟩
      · rw [if_pos h1]; omega
      · rw [if_neg (by rw [h1]; decide), if_pos h1]; omega
    · have := jst_ed (r := r) ht h11 hw p (by omega)
      by_cases c1 : m 10 (6 * s + p) = 1
      · rw [if_pos c1]; omega
      · rw [if_neg c1]
        by_cases c2 : m 10 (6 * s + p) = 2
        · rw [if_pos c2]; omega
        · rw [if_neg c2]; exact this
theorem jst_is {m : Mem} {r : Nat → Nat} {s q : Nat} {c : Nat} (hR : ∀ i, i < q → (m 10 (6 * s + i) = 1 ∨ m 10 (6 * s + i) = 2) → ∃ t, t < c ∧ m 11 (6 * s + i) = nI t) (hc : c ≤ 6) : ∀ p, p ≤ q → jst m r s p = r s ∨ ∃ t w, t < c ∧ (∃ i, i < p ∧ m 11 (6 * s + i) = nI t ∧ ((m 10 (6 * s + i) = 1 ∧ w = 0) ∨ (m 10 (6 * s + i) = 2 ∧ w = 1))) ∧ jst m r s p = r t + w
  | 0, _ => Or.inl rfl
  | p + 1, hp => by
    have ih := jst_is (r := r) hR hc p (by omega)
    have up : (jst m r s p = r s ∨ ∃ t w, t < c ∧ (∃ i, i < p ∧ m 11 (6 * s + i) = nI t ∧ ((m 10 (6 * s + i) = 1 ∧ w = 0) ∨ (m 10 (6 * s + i) = 2 ∧ w = 1))) ∧ jst m r s p = r t + w) → (jst m r s p = r s ∨ ∃ t w, t < c ∧ (∃ i, i < p + 1 ∧ m 11 (6 * s + i) = nI t ∧ ((m 10 (6 * s + i) = 1 ∧ w = 0) ∨ (m 10 (6 * s + i) = 2 ∧ w = 1))) ∧ jst m r s p = r t + w) := fun h => by
      rcases h with h | ⟨t, w, ht, ⟨i, hi, h1⟩, h2⟩
      · exact Or.inl h
      · exact Or.inr ⟨t, w, ht, ⟨i, by omega, h1⟩, h2⟩
    unfold jst
    by_cases c1 : m 10 (6 * s + p) = 1
    · rw [if_pos c1]
      obtain ⟨t, ht, e⟩ := hR p (by omega) (Or.inl c1)
      rcases Nat.le_total (r (ix (m 11 (6 * s + p)))) (jst m r s p) with h | h
      · rw [Nat.max_eq_left h]; exact up ih
      · rw [Nat.max_eq_right h, e, ix_n (by omega)]
        exact Or.inr ⟨t, 0, ht, ⟨p, by omega, e, Or.inl ⟨c1, rfl⟩⟩, rfl⟩
    · rw [if_neg c1]
      by_cases c2 : m 10 (6 * s + p) = 2
      · rw [if_pos c2]
        obtain ⟨t, ht, e⟩ := hR p (by omega) (Or.inr c2)
        rcases Nat.le_total (r (ix (m 11 (6 * s + p))) + 1) (jst m r s p) with h | h
        · rw [Nat.max_eq_left h]; exact up ih
        · rw [Nat.max_eq_right h, e, ix_n (by omega)]
          exact Or.inr ⟨t, 1, ht, ⟨p, by omega, e, Or.inr ⟨c2, rfl⟩⟩, rfl⟩
      · rw [if_neg c2]; exact up ih
theorem Jr_mono {m : Mem} {P : Nat → Nat} {s : Nat} : ∀ {a b : Nat}, a ≤ b → Jr m P a s ≤ Jr m P b s := by
  intro a b h
  induction b with
  | zero => rw [Nat.le_zero.mp h]; exact Nat.le_refl _
  | succ b ih =>
    by_cases e : a = b + 1
    · rw [e]; exact Nat.le_refl _
    · exact Nat.le_trans (ih (by omega)) (jst_ge (P s))
def RF (m : Mem) (c : Nat) (P : Nat → Nat) : Prop := c ≤ 6 ∧ ∀ s, s < c → ∀ i, i < P s → (m 10 (6 * s + i) = 1 ∨ m 10 (6 * s + i) = 2) → ∃ t, t < c ∧ m 11 (6 * s + i) = nI t
theorem Jr_chain {m : Mem} {c : Nat} {P : Nat → Nat} (hR : RF m c P) : ∀ j s, s < c → Jr m P j s < Jr m P (j + 1) s → ∃ f : Nat → Nat, f j = s ∧ (∀ i, i ≤ j → f i < c ∧ Jr m P i (f i) < Jr m P (i + 1) (f i)) ∧ ∀ i, i < j → ∃ w, Ed m P (f (i + 1)) (f i) w ∧ Jr m P (i + 2) (f (i + 1)) = Jr m P (i + 1) (f i) + w
  | 0, s, hs, h => ⟨fun _ => s, rfl, fun i hi => by have : i = 0 := by omega
                                                    subst this; exact ⟨hs, h⟩, fun i hi => absurd hi (Nat.not_lt_zero i)⟩
  | j + 1, s, hs, h => by
    rcases jst_is (r := Jr m P (j + 1)) (hR.2 s hs) hR.1 (P s) (Nat.le_refl _) with e | ⟨t, w, ht, ⟨i, hi, h11, hw⟩, e⟩
    · have : Jr m P (j + 1 + 1) s = Jr m P (j + 1) s := e
      omega
    · have e2 : Jr m P (j + 1 + 1) s = Jr m P (j + 1) t + w := e
      have h3 : Jr m P j t + w ≤ Jr m P (j + 1) s := jst_ed (r := Jr m P j) (by have := hR.1; omega) h11 hw (P s) hi
      obtain ⟨f, f1, f2, f3⟩ := Jr_chain hR j t ht (by omega)
      refine ⟨fun i => if i = j + 1 then s else f i, if_pos rfl, fun i hi => ?_, fun i hi2 => ?_⟩
      · dsimp only
        by_cases e : i = j + 1
        · rw [if_pos e]; subst e; exact ⟨hs, h⟩
        · rw [if_neg e]; exact f2 i (by omega)
      · dsimp only
        by_cases e : i = j
        · subst e
          rw [if_pos rfl, if_neg (by omega), f1]
          exact ⟨w, ⟨_, hi, h11, hw⟩, e2⟩
        · rw [if_neg (by omega), if_neg (by omega)]
          exact f3 i (by omega)
theorem Jr_stop {m : Mem} {c : Nat} {P : Nat → Nat} (hR : RF m c P) (hA : AC m c P) {s : Nat} (hs : s < c) : Jr m P 7 s = Jr m P 6 s := by
  rcases Nat.lt_or_ge (Jr m P 6 s) (Jr m P 7 s) with h | h
  · obtain ⟨f, -, f2, f3⟩ := Jr_chain hR 6 s hs h
    obtain ⟨R, r1, r2, r3⟩ := hA
    have hc := hR.1
    obtain ⟨a, b, hab, hb, e⟩ := php 6 f (fun i hi => by have := (f2 i hi).1; omega)
    -- from a later one to an earlier one
    have down : ∀ j i, i < j → j ≤ 6 → R (f j) (f i) := by
      intro j
      induction j with
      | zero => intro i hi; omega
      | succ j ih =>
        intro i hi hj
        obtain ⟨w, hw, -⟩ := f3 j (by omega)
        have h1 := r2 _ _ _ (f2 (j + 1) hj).1 (f2 j (by omega)).1 hw
        by_cases e : i = j
        · subst e; exact h1
        · exact r1 _ _ _ (f2 (j + 1) hj).1 (f2 j (by omega)).1 (f2 i (by omega)).1 h1 (ih i (by omega) (by omega))
    have same : ∀ i, a ≤ i → i ≤ b → Jr m P (i + 1) (f i) = Jr m P (a + 1) (f a) := by
      intro i
      induction i with
      | zero => intro h1 h2; have : a = 0 := by omega
                subst this; rfl
      | succ i ih =>
        intro h1 h2
        by_cases e1 : a = i + 1
        · subst e1; rfl
        · obtain ⟨w, hw, ew⟩ := f3 i (by omega)
          have back : R (f i) (f (i + 1)) := by
            have fa := (f2 a (by omega)).1
            have fi := (f2 i (by omega)).1
            have fi1 := (f2 (i + 1) (by omega)).1
            by_cases e2 : i = a
            · subst e2
              by_cases e3 : i + 1 = b
              · rw [e3, e]
                have := down b i (by omega) hb
                rw [e] at this
                exact this
              · rw [e]; exact down b (i + 1) (by omega) hb
            · have q1 := down i a (by omega) (by omega)
              by_cases e3 : i + 1 = b
              · rw [e3, ← e]; exact q1
              · have q2 := down b (i + 1) (by omega) hb
                rw [← e] at q2
                exact r1 _ _ _ fi fa fi1 q1 q2
          have w0 : w = 0 := by
            obtain ⟨x, hx, hx1, hx2⟩ := hw
            rcases hx2 with ⟨-, h⟩ | ⟨h4, h5⟩
            · exact h
            · subst h5
              exact absurd back (r3 _ _ (f2 (i + 1) (by omega)).1 (f2 i (by omega)).1 ⟨x, hx, hx1, Or.inr ⟨h4, rfl⟩⟩)
          rw [ew, w0]
          exact ih (by omega) (by omega)
    have h1 := same b (by omega) (Nat.le_refl _)
    have h2 := (f2 b hb).2
    have h3 : Jr m P (a + 1) (f b) ≤ Jr m P b (f b) := Jr_mono (by omega)
    rw [e] at h1
    omega
  · have : Jr m P 6 s ≤ Jr m P 7 s := Jr_mono (by omega)
    omega
theorem Jr_le {m : Mem} {c : Nat} {P : Nat → Nat} (hR : RF m c P) : ∀ j s, s < c → Jr m P j s ≤ j
  | 0, s, _ => Nat.le_refl _
  | j + 1, s, hs => by
    rcases jst_is (r := Jr m P j) (hR.2 s hs) hR.1 (P s) (Nat.le_refl _) with e | ⟨t, w, ht, ⟨i, hi, h11, hw⟩, e⟩
    · have e : Jr m P (j + 1) s = Jr m P j s := e
      have := Jr_le hR j s hs
      omega
    · have e : Jr m P (j + 1) s = Jr m P j t + w := e
      have := Jr_le hR j t ht
      rcases hw with ⟨-, h⟩ | ⟨-, h⟩ <;> omega
theorem Jr_fix {m : Mem} {c : Nat} {P : Nat → Nat} (hR : RF m c P) (hA : AC m c P) {s t w : Nat} (hs : s < c) (ht : t < c) (h : Ed m P s t w) : Jr m P 6 t + w ≤ Jr m P 6 s := by
  obtain ⟨i, hi, h11, hw⟩ := h
  have := jst_ed (r := Jr m P 6) (by have := hR.1; omega) h11 hw (P s) hi
  have e : Jr m P 7 s = jst m (Jr m P 6) s (P s) := rfl
  rw [← e, Jr_stop hR hA hs] at this
  exact this
theorem SH_RF {m : Mem} {c : Nat} {P Z : Nat → Nat} (h : SH m c P Z) : RF m c P := ⟨h.2.1, fun s hs => (h.2.2 s hs).1.2.2⟩
/-- the reference's ranks -/
theorem findRanks_eq {m : Mem} {c : Nat} {P Z : Nat → Nat} (hS : SH m c P Z) (hA : AC m c P) : ∃ m2, s_X7_findRanks m = some m2 ∧ (∀ s, s < c → m2 41 s = nI (Jr m P 6 s)) ∧ ∀ a, a ≠ 41 → m2 a = m a := by
  have hR := SH_RF hS
  have hc6 := hS.2.1
  have hst : ∀ s, s < c → Jr m P 7 s = Jr m P 6 s := fun s hs => Jr_stop hR hA hs
  have hle : ∀ s, s < c → Jr m P 6 s ≤ 6 := fun s hs => Jr_le hR 6 s hs
  unfold s_X7_findRanks
  refine ex_b (Q := fun (m2 : Mem) => (∀ s, s < c → m2 41 s = nI 0) ∧ ∀ a, a ≠ 41 → m2 a = m a) ?_ (fun m7 h7 => ?_)
  · unfold l_X7_findRanks_2
    refine forG c (fun j (a : Int32 × Mem) => a.1 = nI j ∧ (∀ s, s < j → a.2 41 s = nI 0) ∧ ∀ b, b ≠ 41 → a.2 b = m b) _ (fun j a hj ha => ?_) (fun a ha => ?_) FU 0 (0, m) (Nat.zero_le _) ⟨rfl, fun i hi => absurd hi (Nat.not_lt_zero i), fun _ _ => rfl⟩ (FU_lt (by omega))
    · obtain ⟨e1, hi, hc⟩ := ha
      unfold t_X7_findRanks_2
      rw [e1, hc 0 (by decide), hS.1, ix_nI (n := j) (by omega)]
      refine st_if (fun z => absurd z (nI_ge hj (by omega))) (fun _ => st_ck (zin_nI (by omega) (by decide)) (st_n (st_n (st_l ⟨nI_s1, fun i hij => ?_, fun b hb => ?_⟩))))
      · dsimp only
        by_cases e : i = j
        · subst e; exact rd_s
        · rw [rd_j e]; exact hi i (by omega)
      · dsimp only; rw [rd_o hb]; exact hc b hb
    · unfold t_X7_findRanks_2
      rw [ha.1, ha.2.2 0 (by decide), hS.1]
      exact ⟨_, if_pos (nI_le (Nat.le_refl _) (by omega)), ha.2⟩
  · obtain ⟨h0, hc7⟩ := h7
    refine ex_b (Q := fun (m2 : Mem) => (∀ s, s < c → m2 41 s = nI (Jr m P 6 s)) ∧ ∀ a, a ≠ 41 → m2 a = m a) ?_ (fun m58 h => ex_s h)
    unfold l_X7_findRanks_25
    -- between: the values are told by r
    refine forG 7 (fun j (a : Int32 × Mem) => a.1 = nI j ∧ (∀ b, b ≠ 41 → a.2 b = m b) ∧ ∃ r : Nat → Nat, ∀ s, s < c → a.2 41 s = nI (r s) ∧ Jr m P j s ≤ r s ∧ r s ≤ Jr m P 6 s) _ (fun j a hj ha => ?_) (fun a ha => ?_) FU 0 (0, m7) (Nat.zero_le _) ⟨rfl, hc7, fun _ => 0, fun s hs => ⟨h0 s hs, Nat.le_refl _, Nat.zero_le _⟩⟩ (FU_lt (by omega))
    · obtain ⟨e1, hc, r, hr⟩ := ha
      unfold t_X7_findRanks_25
      rw [e1]
      refine st_if (fun z => absurd z (nI_ge (b := 7) hj (by decide))) (fun _ => st_b (Q := fun (m2 : Mem) => (∀ b, b ≠ 41 → m2 b = m b) ∧ ∃ r : Nat → Nat, ∀ s, s < c → m2 41 s = nI (r s) ∧ Jr m P (j + 1) s ≤ r s ∧ r s ≤ Jr m P 6 s) ?_ (fun m55 h55 => st_n (st_l ⟨nI_s1, h55⟩)))
      unfold l_X7_findRanks_33
      refine forG c (fun s (a : Int32 × Mem) => a.1 = nI s ∧ (∀ b, b ≠ 41 → a.2 b = m b) ∧ ∃ r : Nat → Nat, ∀ x, x < c → a.2 41 x = nI (r x) ∧ Jr m P j x ≤ r x ∧ (x < s → Jr m P (j + 1) x ≤ r x) ∧ r x ≤ Jr m P 6 x) _ (fun s a hs ha => ?_) (fun a ha => ?_) FU 0 (0, a.2) (Nat.zero_le _) ⟨rfl, hc, r, fun x hx => ⟨(hr x hx).1, (hr x hx).2.1, fun z => absurd z (Nat.not_lt_zero _), (hr x hx).2.2⟩⟩ (FU_lt (by omega))
      · obtain ⟨e2, hc2, r2, hr2⟩ := ha
        unfold t_X7_findRanks_33
        rw [e2, hc2 0 (by decide), hS.1]
        refine st_if (fun z => absurd z (nI_ge hs (by omega))) (fun _ => st_b (Q := fun (m2 : Mem) => (∀ b, b ≠ 41 → m2 b = m b) ∧ ∃ r : Nat → Nat, ∀ x, x < c → m2 41 x = nI (r x) ∧ Jr m P j x ≤ r x ∧ (x < s + 1 → Jr m P (j + 1) x ≤ r x) ∧ r x ≤ Jr m P 6 x) ?_ (fun m52 h52 => st_n (st_l ⟨nI_s1, h52⟩)))
        obtain ⟨⟨hP6, e8, hRs⟩, -⟩ := hS.2.2 s hs
        have zs : zin (nI s) 6 = true := zin_nI (by omega) (by decide)
        unfold l_X7_findRanks_43
        refine forG (P s) (fun i (a : Int32 × Mem) => a.1 = nI i ∧ (∀ b, b ≠ 41 → a.2 b = m b) ∧ ∃ r : Nat → Nat, jst m (Jr m P j) s i ≤ r s ∧ ∀ x, x < c → a.2 41 x = nI (r x) ∧ Jr m P j x ≤ r x ∧ (x < s → Jr m P (j + 1) x ≤ r x) ∧ r x ≤ Jr m P 6 x) _ (fun i a hi ha => ?_) (fun a ha => ?_) FU 0 (0, a.2) (Nat.zero_le _) ⟨rfl, hc2, r2, (hr2 s hs).2.1, hr2⟩ (FU_lt (by omega))
        · obtain ⟨e3, hc3, r3, hj3, hr3⟩ := ha
          have z36 : zin (nI (6 * s + i)) 36 = true := zin_nI (by omega) (by decide)
          unfold t_X7_findRanks_43
          rw [e3, hc3 8 (by decide), hc3 10 (by decide), hc3 11 (by decide), ix_nI (n := s) (by omega), e8, p6]
          refine st_ck zs (st_if (fun z => absurd z (nI_ge hi (by omega))) (fun _ => st_n (st_ck z36 ?_)))
          rw [ix_nI (n := 6 * s + i) (by omega), (hr3 s hs).1]
          -- a step that raises
          have step : ∀ (t w : Nat), t < c → m 11 (6 * s + i) = nI t → ((m 10 (6 * s + i) = 1 ∧ w = 0) ∨ (m 10 (6 * s + i) = 2 ∧ w = 1)) → r3 t + w ≤ Jr m P 6 s ∧ jst m (Jr m P j) s (i + 1) ≤ max (r3 s) (r3 t + w) := fun t w ht h11 hw => by
            have f := Jr_fix hR hA hs ht ⟨i, hi, h11, hw⟩
            have h1 := (hr3 t ht).2.2.2
            have h2 := (hr3 t ht).2.1
            refine ⟨by omega, ?_⟩
            unfold jst
            rw [h11, ix_n (by omega)]
            rcases hw with ⟨h4, rfl⟩ | ⟨h4, rfl⟩
            · rw [if_pos h4]; omega
            · rw [if_neg (by rw [h4]; decide), if_pos h4]; omega
          have keep : ∀ {w t : Nat} {x : Int32} (v : Nat), x = nI v → r3 s ≤ v → v ≤ Jr m P 6 s → jst m (Jr m P j) s (i + 1) ≤ v → (∀ b, b ≠ 41 → (sto a.2 41 s x) b = m b) ∧ ∃ r : Nat → Nat, jst m (Jr m P j) s (i + 1) ≤ r s ∧ ∀ y, y < c → (sto a.2 41 s x) 41 y = nI (r y) ∧ Jr m P j y ≤ r y ∧ (y < s → Jr m P (j + 1) y ≤ r y) ∧ r y ≤ Jr m P 6 y := fun {w t x} v hx h1 h2 h3 => by
            refine ⟨fun b hb => by rw [rd_o hb]; exact hc3 b hb, up r3 s v, by rw [up_s]; exact h3, fun y hy => ?_⟩
            obtain ⟨q1, q2, q3, q4⟩ := hr3 y hy
            by_cases e : y = s
            · subst e
              rw [up_s, rd_s]
              exact ⟨hx, by omega, fun z => absurd z (Nat.lt_irrefl _), h2⟩
            · rw [up_o e, rd_j e]
              exact ⟨q1, q2, q3, q4⟩
          have rs6 := (hr3 s hs).2.2.2
          have l6 := hle s hs
          refine st_if (fun h1 => ?_) (fun h1 => st_ck z36 (st_if (fun h2 => ?_) (fun h2 => ?_)))
          · obtain ⟨t, ht, et⟩ := hRs i hi (Or.inl h1)
            obtain ⟨g1, g2⟩ := step t 0 ht et (Or.inl ⟨h1, rfl⟩)
            rw [et, ix_nI (n := t) (by omega), (hr3 t ht).1]
            refine st_ck z36 (st_ck (zin_nI (by omega) (by decide)) (st_ck z36 (st_b (Q := fun y => y = nI 0) (ex_if (fun z => absurd (h1.symm.trans z) (by decide)) (fun _ => ex_s rfl)) (fun y hy => st_n (st_ck zs ?_)))))
            subst hy
            rw [nI_add]
            refine st_if (fun z => st_ck zs (st_ck zs (st_n (st_n (st_l ⟨nI_s1, keep (w := 0) (t := t) (r3 s) rfl (Nat.le_refl _) rs6 ?_⟩))))) (fun z => st_ck zs (st_n (st_n (st_l ⟨nI_s1, keep (w := 0) (t := t) (r3 t + 0) rfl ?_ g1 ?_⟩))))
            · have := (nI_leI (by omega) (by omega)).mp z; omega
            · rcases Nat.lt_or_ge (r3 s) (r3 t + 0) with h | h
              · omega
              · exact absurd (nI_le h (by omega)) z
            · rcases Nat.lt_or_ge (r3 s) (r3 t + 0) with h | h
              · omega
              · exact absurd (nI_le h (by omega)) z
          · obtain ⟨t, ht, et⟩ := hRs i hi (Or.inr h2)
            obtain ⟨g1, g2⟩ := step t 1 ht et (Or.inr ⟨h2, rfl⟩)
            rw [et, ix_nI (n := t) (by omega), (hr3 t ht).1]
            refine st_ck z36 (st_ck (zin_nI (by omega) (by decide)) (st_ck z36 (st_b (Q := fun y => y = nI 1) (ex_if (fun _ => ex_s rfl) (fun z => absurd h2 z)) (fun y hy => st_n (st_ck zs ?_)))))
            subst hy
            rw [nI_add]
            refine st_if (fun z => st_ck zs (st_ck zs (st_n (st_n (st_l ⟨nI_s1, keep (w := 1) (t := t) (r3 s) rfl (Nat.le_refl _) rs6 ?_⟩))))) (fun z => st_ck zs (st_n (st_n (st_l ⟨nI_s1, keep (w := 1) (t := t) (r3 t + 1) rfl ?_ g1 ?_⟩))))
            · have := (nI_leI (by omega) (by omega)).mp z; omega
            · rcases Nat.lt_or_ge (r3 s) (r3 t + 1) with h | h
              · omega
              · exact absurd (nI_le h (by omega)) z
            · rcases Nat.lt_or_ge (r3 s) (r3 t + 1) with h | h
              · omega
              · exact absurd (nI_le h (by omega)) z
          · refine st_n (st_l ⟨nI_s1, hc3, r3, ?_, hr3⟩)
            unfold jst
            rw [if_neg h1, if_neg h2]
            exact hj3
        · obtain ⟨e3, hc3, r3, hj3, hr3⟩ := ha
          unfold t_X7_findRanks_43
          rw [e3, hc3 8 (by decide), ix_nI (n := s) (by omega), e8, ck_p zs]
          refine ⟨_, if_pos (nI_le (Nat.le_refl _) (by omega)), hc3, r3, fun x hx => ?_⟩
          obtain ⟨q1, q2, q3, q4⟩ := hr3 x hx
          refine ⟨q1, q2, fun hx1 => ?_, q4⟩
          by_cases e : x = s
          · subst e; exact hj3
          · exact q3 (by omega)
      · obtain ⟨e2, hc2, r2, hr2⟩ := ha
        unfold t_X7_findRanks_33
        rw [e2, hc2 0 (by decide), hS.1]
        exact ⟨_, if_pos (nI_le (Nat.le_refl _) (by omega)), hc2, r2, fun x hx => ⟨(hr2 x hx).1, (hr2 x hx).2.2.1 hx, (hr2 x hx).2.2.2⟩⟩
    · obtain ⟨e1, hc, r, hr⟩ := ha
      unfold t_X7_findRanks_25
      rw [e1]
      refine ⟨_, if_pos (by decide), fun s hs => ?_, hc⟩
      obtain ⟨q1, q2, q3⟩ := hr s hs
      rw [hst s hs] at q2
      rw [q1]
      congr 1
      omega
