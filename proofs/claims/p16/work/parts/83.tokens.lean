/-! the next token, on both sides: the same -/
theorem digits_n {m : Mem} {L a n : Nat} {x : Int32} (hn : 1000 ≤ n) (hL : L ≤ 400) (h37 : m 0 37 = nI L) (h38 : m 0 38 = nI a) (ha : a ≤ L + 6) : ∃ m2, l_X7_next_147 x n m = some m2 ∧ (∀ c, c ≠ 0 → m2 c = m c) ∧ (∀ j, j ≠ 38 → j ≠ 41 → m2 0 j = m 0 j) ∧ ∃ b, m2 0 38 = nI b ∧ a ≤ b ∧ b ≤ L + 6 := by
  unfold l_X7_next_147
  refine zlp_run (fun (m2 : Mem) => (∀ c, c ≠ 0 → m2 c = m c) ∧ (∀ j, j ≠ 38 → j ≠ 41 → m2 0 j = m 0 j) ∧ ∃ b, m2 0 38 = nI b ∧ a ≤ b ∧ b ≤ L + 6) _ (fun (m2 : Mem) => 410 - ix (m2 0 38)) (fun m2 h => ?_) n m ⟨fun _ _ => rfl, fun _ _ _ => rfl, a, h38, Nat.le_refl _, ha⟩ (by omega)
  obtain ⟨h1, h2, b, h3, h4, h5⟩ := h
  unfold t_X7_next_147
  rw [h3]
  obtain ⟨r, er, hr⟩ := look_eq (m := m2) (L := L) (p := b) hL (by rw [h2 37 (by decide) (by decide)]; exact h37) (by omega)
  rw [er, bind_s]
  have nx : ∀ {v : Int32}, b < L → ((∀ c, c ≠ 0 → (sto (sto m2 0 41 v) 0 38 (((sto m2 0 41 v) 0 38) + 1)) c = m c) ∧ (∀ j, j ≠ 38 → j ≠ 41 → (sto (sto m2 0 41 v) 0 38 (((sto m2 0 41 v) 0 38) + 1)) 0 j = m 0 j) ∧ ∃ b, (sto (sto m2 0 41 v) 0 38 (((sto m2 0 41 v) 0 38) + 1)) 0 38 = nI b ∧ a ≤ b ∧ b ≤ L + 6) ∧ 410 - ix ((sto (sto m2 0 41 v) 0 38 (((sto m2 0 41 v) 0 38) + 1)) 0 38) < 410 - ix (nI b) := fun {v} hb => by
    have e : ((sto m2 0 41 v) 0 38) + 1 = nI (b + 1) := by rw [rd_j (by decide), h3, nI_s1]
    rw [e]
    refine ⟨⟨fun c hc => by rw [rd_o hc, rd_o hc]; exact h1 c hc, fun j hj hj2 => by rw [rd_j hj, rd_j hj2]; exact h2 j hj hj2, b + 1, rd_s, by omega, by omega⟩, ?_⟩
    rw [rd_s, ix_n (by omega), ix_n (by omega)]
    omega
  rcases hr with rfl | hb
  · rw [in_m1, bind_s, if_pos rfl]
    exact Or.inl ⟨_, rfl, h1, h2, b, h3, h4, h5⟩
  · obtain ⟨r2, e2⟩ : ∃ r2, s_X7_in r.toInt64 48 57 = some r2 := ⟨_, in_spec _ _ _⟩
    rw [e2, bind_s]
    by_cases e : r2 = 0
    · rw [if_pos e]
      exact Or.inl ⟨_, rfl, h1, h2, b, h3, h4, h5⟩
    · rw [if_neg e]
      by_cases e4 : 4 ≤ nI b - x
      · rw [if_pos e4]
        exact Or.inr ⟨_, rfl, nx hb⟩
      · rw [if_neg e4, bind_s]
        exact Or.inr ⟨_, rfl, nx hb⟩
/-- what a token leaves in the reference's reader -/
def MF (mm : Mem) (b e : Nat) (S v : Int32) (m2 : Mem) : Prop := (∀ c, c ≠ 0 → m2 c = mm c) ∧ (∀ j, j < 38 ∨ 43 < j → m2 0 j = mm 0 j) ∧ m2 0 42 = 0 ∧ m2 0 39 = nI b ∧ m2 0 38 = nI (b + e) ∧ m2 0 40 = S ∧ m2 0 41 = v
def MB (mm : Mem) (b : Nat) (m2 : Mem) : Prop := (∀ c, c ≠ 0 → m2 c = mm c) ∧ (∀ j, j < 38 ∨ 43 < j → m2 0 j = mm 0 j) ∧ m2 0 42 = 1 ∧ m2 0 43 = nI b
def M7 (mm : Mem) (b : Nat) (m7 : Mem) : Prop := (∀ c, c ≠ 0 → m7 c = mm c) ∧ (∀ j, j < 38 ∨ 43 < j → m7 0 j = mm 0 j) ∧ m7 0 42 = 0 ∧ m7 0 39 = nI b
theorem M7_4 {mm m7 : Mem} {b j : Nat} {x : Int32} (h : M7 mm b m7) (hj : j = 38 ∨ j = 40 ∨ j = 41) : M7 mm b (sto m7 0 j x) := ⟨fun c hc => by rw [rd_o hc]; exact h.1 c hc, fun i hi => by rw [rd_j (by omega)]; exact h.2.1 i hi, by rw [rd_j (by omega)]; exact h.2.2.1, by rw [rd_j (by omega)]; exact h.2.2.2⟩
theorem M7_b {mm m7 : Mem} {b : Nat} (h : M7 mm b m7) : ∃ r, ((s_X7_fails m7 1 (m7 0 39)).bind fun q => some q) = some r ∧ MB mm b r := by
  rw [fails_eq, bind_s]
  refine ⟨_, rfl, ?_⟩
  unfold fl
  rw [if_pos h.2.2.1, h.2.2.2]
  exact ⟨fun c hc => by rw [rd_o hc, rd_o hc]; exact h.1 c hc, fun i hi => by rw [rd_j (by omega), rd_j (by omega)]; exact h.2.1 i hi, by rw [rd_j (by decide), rd_s], rd_s⟩
theorem numX {m mx mm : Mem} {L b e j : Nat} {r : Int32} (hL : L ≤ 400) (h7 : m 7 1 = nI L) (hT : TPE m mm) (hb : b ≤ 800) (hc : ∀ c, c ≠ 10 → m c = mx c) (h3 : m 10 3 = nI b) (hr : BY mm L b = r) (he : (r = 45 ∧ e = 1) ∨ (¬ r = 45 ∧ e = 0)) (hj : j ≤ 5) (h1 : ∀ i, i < j → fg (BY mm L (b + e + i))) (h2 : j = 5 ∨ ¬ fg (BY mm L (b + e + j))) : ∃ m2, ((s_X5_readNumber m).bind fun q => some q) = some m2 ∧ XF mx b (e + j) (if 1 ≤ j ∧ j ≤ 4 then 3 else 1) (if r = 45 then - dv (BY mm L) (b + e) j else dv (BY mm L) (b + e) j) m2 := by
  unfold s_X5_readNumber
  rw [h3, byteAt_eq hL h7 hT (by omega), bind_s, hr]
  have e1 : ((if r = 45 then (some 1) else (some 0)) : Option Int32) = some (nI e) := by
    rcases he with ⟨q, rfl⟩ | ⟨q, rfl⟩
    · rw [if_pos q]; rfl
    · rw [if_neg q]; rfl
  have e2 : ((if nI e = 0 then (some (nI b)) else (some (nI b + 1))) : Option Int32) = some (nI (b + e)) := by
    rcases he with ⟨q, rfl⟩ | ⟨q, rfl⟩
    · rw [if_neg (by decide), nI_s1]
    · rw [if_pos (by decide)]; rfl
  have lp : l_X5_readNumber_45 m (nI (b + e)) FU 0 0 = some (nI j, dv (BY mm L) (b + e) j) := by
    have : ∃ n, FU = (n + 1) + j := ⟨FU - 1 - j, by have : FU = 1000000 := rfl; omega⟩
    obtain ⟨n, en⟩ := this
    rw [en, figs_x hL h7 hT (by omega) j (n + 1) hj h1]
    exact figs_x_end hL h7 hT (by omega) hj h2
  rw [e1, bind_s, e2, bind_s, lp, zb2_s]
  have e3 : ∀ (v : Int32), ((if nI e = 0 then (some v) else (some (-v))) : Option Int32) = some (if r = 45 then - v else v) := fun v => by
    rcases he with ⟨q, rfl⟩ | ⟨q, rfl⟩
    · rw [if_neg (by decide), if_pos q]
    · rw [if_pos (by decide), if_neg q]
  rw [e3, bind_s]
  have w : nI (b + e) - nI b + nI j = nI (e + j) := by rw [pk_sub (by omega), nI_add]; congr 1; omega
  have g3 : (sto m 10 4 (if r = 45 then - dv (BY mm L) (b + e) j else dv (BY mm L) (b + e) j)) 10 3 = nI b := by rw [rd_j (by decide)]; exact h3
  have gc : ∀ c, c ≠ 10 → (sto m 10 4 (if r = 45 then - dv (BY mm L) (b + e) j else dv (BY mm L) (b + e) j)) c = mx c := fun c q => by rw [rd_o q]; exact hc c q
  have g4 : (sto m 10 4 (if r = 45 then - dv (BY mm L) (b + e) j else dv (BY mm L) (b + e) j)) 10 4 = (if r = 45 then - dv (BY mm L) (b + e) j else dv (BY mm L) (b + e) j) := rd_s
  have BE : ∀ K, ∃ m2, ((s_X5_become (sto m 10 4 (if r = 45 then - dv (BY mm L) (b + e) j else dv (BY mm L) (b + e) j)) K ((nI (b + e) - ((sto m 10 4 (if r = 45 then - dv (BY mm L) (b + e) j else dv (BY mm L) (b + e) j)) 10 3)) + nI j)).bind fun q => some q) = some m2 ∧ XF mx b (e + j) K (if r = 45 then - dv (BY mm L) (b + e) j else dv (BY mm L) (b + e) j) m2 := fun K => by
    have := bec (K := K) gc g3 (w := (nI (b + e) - ((sto m 10 4 (if r = 45 then - dv (BY mm L) (b + e) j else dv (BY mm L) (b + e) j)) 10 3)) + nI j) (by rw [g3]; exact w)
    rw [g4] at this
    exact this
  have fin : ∃ m2, (bn (sto m 10 4 (if r = 45 then - dv (BY mm L) (b + e) j else dv (BY mm L) (b + e) j)) fun m20 => (if nI j < 1 then ((s_X5_become m20 1 ((nI (b + e) - (m20 10 3)) + nI j)).bind fun m22 => some m22) else ((if 4 < nI j then ((s_X5_become m20 1 ((nI (b + e) - (m20 10 3)) + nI j)).bind fun m24 => some m24) else ((s_X5_become m20 3 ((nI (b + e) - (m20 10 3)) + nI j)).bind fun m26 => some m26))))) = some m2 ∧ XF mx b (e + j) (if 1 ≤ j ∧ j ≤ 4 then 3 else 1) (if r = 45 then - dv (BY mm L) (b + e) j else dv (BY mm L) (b + e) j) m2 := by
    refine ex_n ?_
    by_cases j0 : j = 0
    · rw [if_pos (show nI j < 1 by rw [j0]; decide), if_neg (show ¬ (1 ≤ j ∧ j ≤ 4) by omega)]
      exact BE 1
    · rw [if_neg (show ¬ nI j < 1 from nI_nlt (b := 1) (by omega) (by omega))]
      by_cases j5 : j = 5
      · rw [if_pos (show (4 : Int32) < nI j by rw [j5]; decide), if_neg (show ¬ (1 ≤ j ∧ j ≤ 4) by omega)]
        exact BE 1
      · rw [if_neg (show ¬ (4 : Int32) < nI j from nI_nlt (a := 4) (by omega) (by decide)), if_pos (show 1 ≤ j ∧ j ≤ 4 by omega)]
        exact BE 3
  obtain ⟨m2, q1, q2⟩ := fin
  exact ⟨m2, by rw [q1]; rfl, q2⟩
theorem numM {m7 mm : Mem} {L b e j : Nat} {r : Int32} (hL : L ≤ 400) (h37 : mm 0 37 = nI L) (h : M7 mm b m7) (h38 : m7 0 38 = nI b) (hb : b + 1 ≤ L) (he : (r = 45 ∧ e = 1) ∨ (¬ r = 45 ∧ e = 0)) (hj : j ≤ 5) (h1 : ∀ i, i < j → fg (BY mm L (b + e + i))) (h2 : j = 5 ∨ ¬ fg (BY mm L (b + e + j))) : ∃ m2, numT m7 r = some m2 ∧ (1 ≤ j ∧ j ≤ 4 → MF mm b (e + j) 2 (if r = 45 then - dv (BY mm L) (b + e) j else dv (BY mm L) (b + e) j) m2) ∧ (¬ (1 ≤ j ∧ j ≤ 4) → MB mm b m2) := by
  have e1 : ((if r = 45 then (some 1) else (some 0)) : Option Int32) = some (nI e) := by
    rcases he with ⟨q, rfl⟩ | ⟨q, rfl⟩
    · rw [if_pos q]; rfl
    · rw [if_neg q]; rfl
  unfold numT
  refine ex_n ?_
  rw [e1, bind_s]
  refine ex_n (ex_n (ex_n ?_))
  have p38 : (sto (sto m7 0 40 2) 0 38 ((sto m7 0 40 2) 0 38 + nI e)) 0 38 = nI (b + e) := by rw [rd_s, rd_j (by decide), h38, nI_add]
  have g1 : M7 mm b (sto (sto (sto m7 0 40 2) 0 38 ((sto m7 0 40 2) 0 38 + nI e)) 0 41 0) := M7_4 (M7_4 (M7_4 h (by omega)) (by omega)) (by omega)
  have s40 : (sto (sto (sto m7 0 40 2) 0 38 ((sto m7 0 40 2) 0 38 + nI e)) 0 41 0) 0 40 = 2 := by rw [rd_j (by decide), rd_j (by decide), rd_s]
  have s38 : (sto (sto (sto m7 0 40 2) 0 38 ((sto m7 0 40 2) 0 38 + nI e)) 0 41 0) 0 38 = nI (b + e) := by rw [rd_j (by decide)]; exact p38
  have s41 : (sto (sto (sto m7 0 40 2) 0 38 ((sto m7 0 40 2) 0 38 + nI e)) 0 41 0) 0 41 = 0 := rd_s
  rw [p38]
  generalize sto (sto (sto m7 0 40 2) 0 38 ((sto m7 0 40 2) 0 38 + nI e)) 0 41 0 = m16 at g1 s40 s38 s41 ⊢
  have q37 : m16 0 37 = nI L := by rw [g1.2.1 37 (by omega)]; exact h37
  have q33 : m16 33 = mm 33 := g1.1 33 (by decide)
  have tl : ∀ (m30 : Mem), M7 mm b m30 → m30 0 40 = 2 → ∃ r2, ((((if r = 45 then (some (-(m30 0 41))) else (some (m30 0 41))) : Option (Int32)).bind fun y31 => bn (sto m30 0 41 y31) fun m32 => (if (m32 0 38) = nI (b + e) then ((s_X7_fails m32 1 (m32 0 39)).bind fun m34 => some m34) else ((if ((m32 0 38) - nI (b + e)) ≤ 4 then (some m32) else ((s_X7_fails m32 1 (m32 0 39)).bind fun m36 => some m36)))))) = some r2 ∧ ((∃ k, 1 ≤ k ∧ k ≤ 4 ∧ m30 0 38 = nI (b + e + k)) → MF mm b (ix (m30 0 38) - b) 2 (if r = 45 then - (m30 0 41) else (m30 0 41)) r2) ∧ ((m30 0 38 = nI (b + e) ∨ ∃ k, 5 ≤ k ∧ k ≤ 500 ∧ m30 0 38 = nI (b + e + k)) → MB mm b r2) := fun m30 h30 s30 => by
    have ev : ((if r = 45 then (some (-(m30 0 41))) else (some (m30 0 41))) : Option (Int32)) = some (if r = 45 then - (m30 0 41) else (m30 0 41)) := by
      by_cases q : r = 45
      · rw [if_pos q, if_pos q]
      · rw [if_neg q, if_neg q]
    rw [ev, bind_s]
    refine ex_n ?_
    have g := M7_4 (j := 41) (x := (if r = 45 then - (m30 0 41) else (m30 0 41))) h30 (by omega)
    have t38 : (sto m30 0 41 (if r = 45 then - (m30 0 41) else (m30 0 41))) 0 38 = m30 0 38 := rd_j (by decide)
    have t40 : (sto m30 0 41 (if r = 45 then - (m30 0 41) else (m30 0 41))) 0 40 = 2 := by rw [rd_j (by decide)]; exact s30
    have t41 : (sto m30 0 41 (if r = 45 then - (m30 0 41) else (m30 0 41))) 0 41 = (if r = 45 then - (m30 0 41) else (m30 0 41)) := rd_s
    generalize sto m30 0 41 (if r = 45 then - (m30 0 41) else (m30 0 41)) = m32 at g t38 t40 t41 ⊢
    rw [t38]
    refine ex_if (fun z => ?_) (fun z => ?_)
    · obtain ⟨r2, q1, q2⟩ := M7_b g
      refine ⟨r2, q1, fun ⟨k, k1, k2, k3⟩ => ?_, fun _ => q2⟩
      rw [k3] at z
      have := (nI_eq (by omega) (by omega)).mp z
      omega
    · refine ex_if (fun z4 => ex_s ⟨fun ⟨k, k1, k2, k3⟩ => ?_, fun q => ?_⟩) (fun z4 => ?_)
      · rw [k3, ix_n (by omega)]
        exact ⟨g.1, g.2.1, g.2.2.1, g.2.2.2, by rw [t38, k3]; congr 1; omega, t40, t41⟩
      · rcases q with q | ⟨k, k1, k2, k3⟩
        · exact absurd q z
        · rw [k3, pk_sub (by omega), show b + e + k - (b + e) = k by omega] at z4
          have := (nI_leI (b := 4) (by omega) (by decide)).mp z4
          omega
      · obtain ⟨r2, q1, q2⟩ := M7_b g
        refine ⟨r2, q1, fun ⟨k, k1, k2, k3⟩ => ?_, fun _ => q2⟩
        rw [k3, pk_sub (by omega), show b + e + k - (b + e) = k by omega] at z4
        exact absurd (nI_le (b := 4) (by omega) (by decide)) z4
  by_cases j5 : j = 5
  · have en : FU = ((999000 + 995) + 1) + 4 := rfl
    obtain ⟨m2, f1, f2, f3, f4, f5⟩ := figs_m (x := nI (b + e)) hL rfl (by omega) 4 ((999000 + 995) + 1) m16 (by omega) (fun i hi => h1 i (by omega)) q37 q33 s38 s41
    have fg4 := h1 4 (by omega)
    have es : t_X7_next_147 (nI (b + e)) m2 = some (.inl (sto (sto m2 0 41 (m2 0 41)) 0 38 (nI (b + e + 5)))) := by
      unfold t_X7_next_147
      rw [f4, look_by hL (by rw [f3 37 (by decide) (by decide)]; exact q37) (by omega), BY_c (show m2 33 = mm 33 from (f2 33 (by decide)).trans q33), bind_s, in_48, bind_s, if_bb, if_pos fg4, pk_sub (by omega), show b + e + 4 - (b + e) = 4 by omega, if_pos (show (4 : Int32) ≤ nI 4 by decide)]
      show some (Sum.inl (sto (sto m2 0 41 (m2 0 41)) 0 38 ((sto m2 0 41 (m2 0 41)) 0 38 + 1))) = _
      rw [rd_j (by decide), f4, nI_s1]
    have b4 : b + e + 4 < L := by
      rcases Nat.lt_or_ge (b + e + 4) L with q | q
      · exact q
      · unfold BY at fg4
        rw [if_neg (by omega)] at fg4
        exact absurd fg4.1 (by decide)
    obtain ⟨m30, k1, k2, k3, d, k4, k5, k6⟩ := digits_n (m := sto (sto m2 0 41 (m2 0 41)) 0 38 (nI (b + e + 5))) (n := 999000 + 995) (x := nI (b + e)) (by omega) hL (by rw [rd_j (by decide), rd_j (by decide), f3 37 (by decide) (by decide)]; exact q37) rd_s (by omega)
    have lp : l_X7_next_147 (nI (b + e)) FU m16 = some m30 := by
      rw [en, f1]
      unfold l_X7_next_147
      rw [zlp_on es]
      exact k1
    rw [lp, bind_s]
    have c2 : ∀ c, c ≠ 0 → m30 c = m16 c := fun c hc => by rw [k2 c hc, rd_o hc, rd_o hc]; exact f2 c hc
    have i2 : ∀ i, i ≠ 38 → i ≠ 41 → m30 0 i = m16 0 i := fun i h8 h1 => by rw [k3 i h8 h1, rd_j h8, rd_j h1]; exact f3 i h8 h1
    have g30 : M7 mm b m30 := ⟨fun c hc => (c2 c hc).trans (g1.1 c hc), fun i hi => (i2 i (by omega) (by omega)).trans (g1.2.1 i hi), (i2 42 (by decide) (by decide)).trans g1.2.2.1, (i2 39 (by decide) (by decide)).trans g1.2.2.2⟩
    obtain ⟨r2, w1, w2, w3⟩ := tl m30 g30 ((i2 40 (by decide) (by decide)).trans s40)
    exact ⟨r2, w1, fun q => by omega, fun _ => w3 (Or.inr ⟨d - (b + e), by omega, by omega, by rw [k4]; congr 1; omega⟩)⟩
  · obtain ⟨n, en⟩ : ∃ n, FU = (n + 1) + j := ⟨FU - 1 - j, by have : FU = 1000000 := rfl; omega⟩
    obtain ⟨m2, f1, f2, f3, f4, f5⟩ := figs_m (x := nI (b + e)) hL rfl (by omega) j (n + 1) m16 (by omega) h1 q37 q33 s38 s41
    have lp : l_X7_next_147 (nI (b + e)) FU m16 = some m2 := by
      rw [en, f1]
      exact figs_m_end hL (p := b + e + j) (by omega) (by rw [f3 37 (by decide) (by decide)]; exact q37) ((f2 33 (by decide)).trans q33) f4 (h2.resolve_left j5)
    rw [lp, bind_s]
    have g30 : M7 mm b m2 := ⟨fun c hc => (f2 c hc).trans (g1.1 c hc), fun i hi => (f3 i (by omega) (by omega)).trans (g1.2.1 i hi), (f3 42 (by decide) (by decide)).trans g1.2.2.1, (f3 39 (by decide) (by decide)).trans g1.2.2.2⟩
    obtain ⟨r2, w1, w2, w3⟩ := tl m2 g30 ((f3 40 (by decide) (by decide)).trans s40)
    refine ⟨r2, w1, fun q => ?_, fun q => w3 (Or.inl (by rw [f4]; congr 1; omega))⟩
    have := w2 ⟨j, q.1, q.2, f4⟩
    rw [f4, ix_n (by omega), f5, show b + e + j - b = e + j by omega] at this
    exact this
