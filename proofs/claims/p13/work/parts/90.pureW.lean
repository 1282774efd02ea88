/-! the law's loop, over any script -/
theorem hall_okW {mx mm : Mem} (h : JW mx mm) : Hall JW mx mm := ⟨w_node _ h, w_value _ h, w_edge _ h, w_cut _ h, w_feed _ h, w_end _ h, w_shapes _ h, w_fault h, w_fits h, w_surely h, w_all h, w_wanted _ h, w_dealt h, w_tooMany h, w_which h, w_depends _ h, w_part _ h, w_told _ h, w_from _ h, w_reset _ h, w_count h⟩
theorem sub6W {k : Nat} (h : k ≤ 10000) : (nI k - 6).toInt = (k : Int) - 6 := by
  have := pk_sub_toInt (a := k) (b := 6) (by omega) (by decide)
  exact this
theorem loop_okW {xs : Nat → Int32} {L : Nat} (hL : L ≤ 10000) : ∀ (n j : Nat) (mx mm : Mem), JW mx mm → 6 * j ≤ L + 6 → L < 6 * j + 6 * (n + 1) → l_law xs L (n + 1) (nI (6 * j)) mx mm = some 1 := by
  intro n
  induction n with
  | zero =>
    intro j mx mm _ hj h
    refine lw_exit ?_
    rw [lt_i, sub6W hL, nI_toInt (by omega)]
    omega
  | succ n ih =>
    intro j mx mm hJ hj h
    by_cases hx : nI L - 6 < nI (6 * j)
    · exact lw_exit hx
    · have h6 : 6 * j + 6 ≤ L := by
        have h2 : ¬ (nI L - 6).toInt < (nI (6 * j)).toInt := fun z => hx (lt_i.mpr z)
        rw [sub6W hL, nI_toInt (by omega)] at h2
        omega
      have z : ∀ (q : Nat) (y : Int32), q < 6 → y = nI q → zin (nI (6 * j) + y) L = true := fun q y hq hy => by
        rw [hy, nI_add]
        exact zin_nI (by omega) (by omega)
      obtain ⟨mx2, mm2, e, hJ2⟩ := lw_step (I := JW) (xs := xs) (L := L) (i := nI (6 * j)) (mx := mx) (mm := mm) hx (zin_nI (by omega) (by omega)) (z 1 1 (by omega) rfl) (z 2 2 (by omega) rfl) (z 3 3 (by omega) rfl) (z 4 4 (by omega) rfl) (z 5 5 (by omega) rfl) (hall_okW hJ) hJ
      rw [lw_on e, show nI (6 * j) + 6 = nI (6 * (j + 1)) from by rw [show (6 : Int32) = nI 6 from rfl, nI_add]; rfl]
      exact ih (j + 1) mx2 mm2 hJ2 (by omega) (by omega)
theorem pureW_ok : lw_pure := by
  intro L xs hL
  have e : FU = 999999 + 1 := rfl
  rw [e]
  exact loop_okW (by omega) 999999 0 sgX sgM st_JW (by omega) (by omega)
