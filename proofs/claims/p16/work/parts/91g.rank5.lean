/-! no rank is above the fifth -/
theorem Jr_down {m : Mem} {c : Nat} {P : Nat → Nat} (hR : RF m c P) (hA : AC m c P) : ∀ j s, s < c → Jr m P j s = Jr m P 6 s → j ≤ 6 → 0 < Jr m P 6 s → ∃ t, t < c ∧ Jr m P 6 t + 1 = Jr m P 6 s
  | 0, s, hs, e, _, h => by
    have e : 0 = Jr m P 6 s := e
    omega
  | j + 1, s, hs, e, hj, h => by
    rcases jst_is (r := Jr m P j) (hR.2 s hs) hR.1 (P s) (Nat.le_refl _) with q | ⟨t, w, ht, hed, q⟩
    · have q : Jr m P (j + 1) s = Jr m P j s := q
      exact Jr_down hR hA j s hs (by omega) (by omega) h
    · have q : Jr m P (j + 1) s = Jr m P j t + w := q
      have f := Jr_fix hR hA hs ht hed
      have mo : Jr m P j t ≤ Jr m P 6 t := Jr_mono (by omega)
      obtain ⟨i, hi, h11, hw⟩ := hed
      rcases hw with ⟨-, hw⟩ | ⟨-, hw⟩
      · have et : Jr m P 6 t = Jr m P 6 s := by omega
        obtain ⟨t2, ht2, e2⟩ := Jr_down hR hA j t ht (by omega) (by omega) (by omega)
        exact ⟨t2, ht2, by omega⟩
      · exact ⟨t, ht, by omega⟩
theorem Jr_5 {m : Mem} {c : Nat} {P : Nat → Nat} (hR : RF m c P) (hA : AC m c P) {s : Nat} (hs : s < c) : Jr m P 6 s ≤ 5 := by
  rcases Nat.lt_or_ge (Jr m P 6 s) 6 with h | h
  · omega
  · have h6 : Jr m P 6 s = 6 := by have := Jr_le hR 6 s hs; omega
    have dn : ∀ i, i ≤ 6 → ∃ t, t < c ∧ Jr m P 6 t = 6 - i := by
      intro i
      induction i with
      | zero => intro _; exact ⟨s, hs, h6⟩
      | succ i ih =>
        intro hi
        obtain ⟨t, ht, et⟩ := ih (by omega)
        obtain ⟨t2, ht2, e2⟩ := Jr_down hR hA 6 t ht rfl (Nat.le_refl _) (by omega)
        exact ⟨t2, ht2, by omega⟩
    have ch : ∀ i, ∃ t, i ≤ 6 → t < c ∧ Jr m P 6 t = 6 - i := fun i => by
      by_cases q : i ≤ 6
      · obtain ⟨t, ht⟩ := dn i q
        exact ⟨t, fun _ => ht⟩
      · exact ⟨0, fun z => absurd z q⟩
    have hc := hR.1
    obtain ⟨a, b, hab, hb, e⟩ := php 6 (fun i => Classical.choose (ch i)) (fun i hi => by
      have := (Classical.choose_spec (ch i) hi).1
      omega)
    have e1 := (Classical.choose_spec (ch a) (by omega)).2
    have e2 := (Classical.choose_spec (ch b) hb).2
    rw [e] at e1
    omega
