/-! the law's loop, over any script: as it is owed -/
theorem st_42 : ∀ i, i < 5 → sgX 42 i = 63 := by decide +kernel
theorem st_45 : sgX 39 4 = 0 ∧ sgX 39 5 = 0 ∧ sgM 0 6 = 0 := by decide +kernel
theorem st_JC : JC sgX sgM := ⟨st_JW, st_42, fun _ _ _ _ _ _ _ _ => ⟨Or.inl ⟨st_45.1, st_45.2.1⟩, Or.inl st_45.2.2⟩⟩
theorem hall_okC {mx mm : Mem} (h : JC mx mm) : Hall JC mx mm := ⟨jc_node _ h, jc_value _ h, jc_edge _ h, jc_cut _ h, jc_feed _ h, jc_end _ h, jc_shapes _ h, jc_fault h, jc_fits _ h, jc_surely _ h, jc_all _ h, jc_wanted _ h, jc_deals _ h, jc_tooManyE _ h, jc_whichE _ h, jc_depends _ h, jc_part _ h, jc_told _ h, jc_from _ h, jc_reset _ h, jc_count _ h⟩
theorem sub6C {k : Nat} (h : k ≤ 10000) : (nI k - 6).toInt = (k : Int) - 6 := by
  have := pk_sub_toInt (a := k) (b := 6) (by omega) (by decide)
  exact this
theorem loop_okC {xs : Nat → Int32} {L : Nat} (hL : L ≤ 10000) : ∀ (n j : Nat) (mx mm : Mem), JC mx mm → 6 * j ≤ L + 6 → L < 6 * j + 6 * (n + 1) → l_law xs L (n + 1) (nI (6 * j)) mx mm = some 1 := by
  intro n
  induction n with
  | zero =>
    intro j mx mm _ hj h
    refine lw_exit ?_
    rw [lt_i, sub6C hL, nI_toInt (by omega)]
    omega
  | succ n ih =>
    intro j mx mm hJ hj h
    by_cases hx : nI L - 6 < nI (6 * j)
    · exact lw_exit hx
    · have h6 : 6 * j + 6 ≤ L := by
        have h2 : ¬ (nI L - 6).toInt < (nI (6 * j)).toInt := fun z => hx (lt_i.mpr z)
        rw [sub6C hL, nI_toInt (by omega)] at h2
        omega
      have z : ∀ (q : Nat) (y : Int32), q < 6 → y = nI q → zin (nI (6 * j) + y) L = true := fun q y hq hy => by
        rw [hy, nI_add]
        exact zin_nI (by omega) (by omega)
      obtain ⟨mx2, mm2, e, hJ2⟩ := lw_step (I := JC) (xs := xs) (L := L) (i := nI (6 * j)) (mx := mx) (mm := mm) hx (zin_nI (by omega) (by omega)) (z 1 1 (by omega) rfl) (z 2 2 (by omega) rfl) (z 3 3 (by omega) rfl) (z 4 4 (by omega) rfl) (z 5 5 (by omega) rfl) (hall_okC hJ) hJ
      rw [lw_on e, show nI (6 * j) + 6 = nI (6 * (j + 1)) from by rw [show (6 : Int32) = nI 6 from rfl, nI_add]; rfl]
      exact ih (j + 1) mx2 mm2 hJ2 (by omega) (by omega)
theorem pure_ok : lw_pure := by
  intro L xs hL
  have e : FU = 999999 + 1 := rfl
  rw [e]
  exact loop_okC (by omega) 999999 0 sgX sgM st_JC (by omega) (by omega)
