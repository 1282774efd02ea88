/-! the law's loop, over any script -/
theorem hall_ok {mx mm : Mem} (h : JJ mx mm) : Hall JJ mx mm := ⟨j_node _ h, j_value _ h, j_edge _ h, j_cut _ h, j_feed _ h, j_end _ h, j_shapes h, j_fault h, j_fits h, j_surely h, j_all h, j_wanted h, j_dealt h, j_tooMany h, j_which h, j_depends h, j_part h, j_told h, j_from _ h, j_reset _ h, j_count h⟩
theorem sub6_toInt {k : Nat} (h : k ≤ 10000) : (nI k - 6).toInt = (k : Int) - 6 := by
  have := pk_sub_toInt (a := k) (b := 6) (by omega) (by decide)
  exact this
theorem loop_ok {xs : Nat → Int32} {L : Nat} (hL : L ≤ 10000) : ∀ (n j : Nat) (mx mm : Mem), JJ mx mm → 6 * j ≤ L + 6 → L < 6 * j + 6 * (n + 1) → l_law xs L (n + 1) (nI (6 * j)) mx mm = some 1 := by
  intro n
  induction n with
  | zero =>
    intro j mx mm _ hj h
    refine lw_exit ?_
    rw [lt_i, sub6_toInt hL, nI_toInt (by omega)]
    omega
  | succ n ih =>
    intro j mx mm hJ hj h
    by_cases hx : nI L - 6 < nI (6 * j)
    · exact lw_exit hx
    · have h6 : 6 * j + 6 ≤ L := by
        have h2 : ¬ (nI L - 6).toInt < (nI (6 * j)).toInt := fun z => hx (lt_i.mpr z)
        rw [sub6_toInt hL, nI_toInt (by omega)] at h2
        omega
      have z : ∀ (q : Nat) (y : Int32), q < 6 → y = nI q → zin (nI (6 * j) + y) L = true := fun q y hq hy => by
        rw [hy, nI_add]
        exact zin_nI (by omega) (by omega)
      obtain ⟨mx2, mm2, e, hJ2⟩ := lw_step (I := JJ) (xs := xs) (L := L) (i := nI (6 * j)) (mx := mx) (mm := mm) hx (zin_nI (by omega) (by omega)) (z 1 1 (by omega) rfl) (z 2 2 (by omega) rfl) (z 3 3 (by omega) rfl) (z 4 4 (by omega) rfl) (z 5 5 (by omega) rfl) (hall_ok hJ) hJ
      rw [lw_on e, show nI (6 * j) + 6 = nI (6 * (j + 1)) from by rw [show (6 : Int32) = nI 6 from rfl, nI_add]; rfl]
      exact ih (j + 1) mx2 mm2 hJ2 (by omega) (by omega)
theorem pure_ok : lw_pure := by
  intro L xs hL
  have e : FU = 999999 + 1 := rfl
  rw [e]
  exact loop_ok (by omega) 999999 0 sgX sgM st_JJ (by omega) (by omega)
