/-! the next token, on both sides: one and the same -/
theorem in_lh {r lo hi : Int32} {l h : Int64} (hl : l = lo.toInt64) (hh : h = hi.toInt64) : s_X7_in r.toInt64 l h = some (bb (lo ≤ r ∧ r ≤ hi)) := by
  rw [hl, hh, in_i]
  rfl
def KT (S v K : Int32) : Prop := (S = 0 ∧ K = 0) ∨ (S = 1 ∧ K = 2) ∨ (S = 2 ∧ K = 3) ∨ (S = 3 ∧ K = 4) ∨ (S = 4 ∧ K = v ∧ sgn v) ∨ (S = 5 ∧ K = 5)
def TR (mx mm : Mem) : Prop := KT (mm 0 40) (mm 0 41) (mx 10 2) ∧ ((mm 0 40 = 1 ∨ mm 0 40 = 2) → mx 10 4 = mm 0 41) ∧ mx 10 3 = mm 0 39 ∧ ∃ f, f < 1000 ∧ mm 0 39 = nI f
def OKT (a L : Nat) (mx2 mm2 : Mem) : Prop := mm2 0 42 = 0 ∧ TR mx2 mm2 ∧ ∃ b, mx2 10 1 = nI b ∧ mm2 0 38 = nI b ∧ b ≤ L ∧ (mm2 0 40 = 0 ∨ a < b) ∧ a ≤ b
def BADT (mx2 mm2 : Mem) : Prop := mm2 0 42 = 1 ∧ mx2 10 2 = 1 ∧ mx2 10 3 = mm2 0 43
def TKE (mx mm : Mem) (a L : Nat) (mx2 mm2 : Mem) : Prop := (∀ c, c ≠ 10 → mx2 c = mx c) ∧ (∀ c, c ≠ 0 → mm2 c = mm c) ∧ (∀ j, j < 38 ∨ 43 < j → mm2 0 j = mm 0 j) ∧ (OKT a L mx2 mm2 ∨ BADT mx2 mm2)
theorem fin_ok {mx mm mx2 mm2 : Mem} {a b e L : Nat} {K x4 S v : Int32} (hL : L ≤ 400) (x : XF mx b e K x4 mx2) (y : MF mm b e S v mm2) (hK : KT S v K) (hv : (S = 1 ∨ S = 2) → x4 = v) (hp : S = 0 ∨ 0 < e) (hb : b + e ≤ L) (hab : a ≤ b) : TKE mx mm a L mx2 mm2 := by
  obtain ⟨x1, x2, x3, x4', x5⟩ := x
  obtain ⟨y1, y2, y3, y4, y5, y6, y7⟩ := y
  refine ⟨x1, y1, y2, Or.inl ⟨y3, ⟨by rw [y6, y7, x3]; exact hK, fun q => ?_, by rw [x2, y4], b, by omega, y4⟩, b + e, x4', y5, hb, ?_, by omega⟩⟩
  · rw [y6] at q
    rw [x5, y7]
    exact hv q
  · rw [y6]
    exact hp.elim Or.inl (fun q => Or.inr (by omega))
theorem fin_bad {mx mm mx2 mm2 : Mem} {a b e L : Nat} {x4 : Int32} (x : XF mx b e 1 x4 mx2) (y : MB mm b mm2) : TKE mx mm a L mx2 mm2 := by
  obtain ⟨x1, x2, x3, x4', x5⟩ := x
  obtain ⟨y1, y2, y3, y4⟩ := y
  exact ⟨x1, y1, y2, Or.inr ⟨y3, x3, by rw [x2, y4]⟩⟩
theorem mf {mm m : Mem} {b e : Nat} {S v : Int32} (h : M7 mm b m) (h38 : m 0 38 = nI (b + e)) (h40 : m 0 40 = S) (h41 : m 0 41 = v) : MF mm b e S v m := ⟨h.1, h.2.1, h.2.2.1, h.2.2.2, h38, h40, h41⟩
theorem tok_eq {mx mm : Mem} {L a : Nat} (hL : L ≤ 400) (h7 : mx 7 1 = nI L) (h37 : mm 0 37 = nI L) (hT : TPE mx mm) (ha : a ≤ L) (x1 : mx 10 1 = nI a) (m38 : mm 0 38 = nI a) (h42 : mm 0 42 = 0) : ∃ mx2 mm2, s_X5_advance mx = some mx2 ∧ s_X7_next mm = some mm2 ∧ TKE mx mm a L mx2 mm2 := by
  obtain ⟨b, hab, hbL, ea, h32, m6, em, c6, j6, e6⟩ := skip2 hL h7 hT L FU a mm (by omega) (FU_lt (by omega)) (by omega) h37 rfl m38
  have hbL2 : b ≤ L := by omega
  have c9 : ∀ c, c ≠ 10 → (sto mx 10 3 (nI b)) c = mx c := fun c hc => rd_o hc
  have e93 : (sto mx 10 3 (nI b)) 10 3 = nI b := rd_s
  have e97 : (sto mx 10 3 (nI b)) 7 1 = nI L := by rw [c9 7 (by decide)]; exact h7
  have e9T : TPE (sto mx 10 3 (nI b)) mm := fun p hp => by rw [c9 8 (by decide)]; exact hT p hp
  have er := byteAt_eq (p := b) hL e97 e9T (by omega)
  have AD := adv_red x1 ea er
  have g7 : M7 mm b (sto m6 0 39 (m6 0 38)) := ⟨fun c hc => by rw [rd_o hc]; exact c6 c hc, fun i hi => by rw [rd_j (by omega)]; exact j6 i (by omega), by rw [rd_j (by decide), j6 42 (by decide)]; exact h42, by rw [rd_s]; exact e6⟩
  have e78 : (sto m6 0 39 (m6 0 38)) 0 38 = nI b := by rw [rd_j (by decide)]; exact e6
  have e77 : (sto m6 0 39 (m6 0 38)) 0 37 = nI L := by rw [g7.2.1 37 (by omega)]; exact h37
  have e73 : BY (sto m6 0 39 (m6 0 38)) L = BY mm L := BY_c (g7.1 33 (by decide))
  have lr : s_X7_look (sto m6 0 39 (m6 0 38)) ((sto m6 0 39 (m6 0 38)) 0 38) = some (BY mm L b) := by rw [e78, look_by hL e77 (by omega), e73]
  have NE := next_red em lr
  rw [AD, NE]
  generalize sto mx 10 3 (nI b) = m9 at c9 e93 e97 e9T ⊢
  generalize sto m6 0 39 (m6 0 38) = m7 at g7 e78 e77 e73 ⊢
  have hrc := BY_r (p := b) hL hT
  generalize hr : BY mm L b = r at hrc ⊢
  have done : ∀ {X Y : Option Mem} {U W : Mem → Prop}, (∃ p, X = some p ∧ U p) → (∃ q, Y = some q ∧ W q) → (∀ p q, U p → W q → TKE mx mm a L p q) → ∃ mx2 mm2, X = some mx2 ∧ Y = some mm2 ∧ TKE mx mm a L mx2 mm2 := fun {X Y U W} ⟨p, hp, up⟩ ⟨q, hq, wq⟩ h => ⟨p, q, hp, hq, h p q up wq⟩
  rcases hrc with e | ⟨hb, j0, hj0, ej⟩
  · unfold advT nxT
    rw [e, if_neg (by decide), if_neg (by decide)]
    refine done (bec (e := 0) c9 e93 rfl) ⟨_, rfl, mf (e := 0) (M7_4 (j := 40) (x := 0) g7 (by omega)) (by rw [rd_j (by decide)]; exact e78) rd_s rfl⟩ (fun p q hp hq => fin_ok hL hp hq (Or.inl ⟨rfl, rfl⟩) (fun z => z.elim (fun z => absurd z (by decide)) (fun z => absurd z (by decide))) (Or.inl rfl) (by omega) hab)
  have r0 : 0 ≤ r := by rw [ej]; exact nI_pos' (by omega)
  have n65 : s_X7_in r.toInt64 65 90 = some (bb (65 ≤ r ∧ r ≤ 90)) := in_lh (by decide) (by decide)
  have n97 : s_X7_in r.toInt64 97 122 = some (bb (97 ≤ r ∧ r ≤ 122)) := in_lh (by decide) (by decide)
  by_cases hA : 65 ≤ r ∧ r ≤ 90
  · unfold advT nxT
    rw [if_pos r0, if_neg (Int32.not_lt.mpr hA.1), if_neg (Int32.not_lt.mpr hA.2), if_pos r0, n65, bind_s, if_bb, if_pos hA]
    have gA := M7_4 (j := 38) (x := nI (b + 1)) (M7_4 (j := 41) (x := r) (M7_4 (j := 40) (x := 1) g7 (by omega)) (by omega)) (by omega)
    have bx := bec (mx := mx) (m := sto m9 10 4 r) (K := 2) (w := 1) (e := 1) (fun c hc => by rw [rd_o hc]; exact c9 c hc) (by rw [rd_j (by decide)]; exact e93) rfl
    rw [rd_s] at bx
    refine done (ex_n bx) (Y := _) (W := MF mm b 1 1 r) ⟨_, ?_, mf gA rd_s (by rw [rd_j (by decide), rd_j (by decide), rd_s]) (by rw [rd_j (by decide), rd_s])⟩ (fun p q hp hq => fin_ok hL hp hq (Or.inr (Or.inl ⟨rfl, rfl⟩)) (fun _ => rfl) (Or.inr (by omega)) (by omega) hab)
    show some (sto (sto (sto m7 0 40 1) 0 41 r) 0 38 ((sto (sto m7 0 40 1) 0 41 r) 0 38 + 1)) = _
    rw [rd_j (by decide), rd_j (by decide), e78, nI_s1]
  rw [advT_rest r0 hA]
  unfold nxT
  rw [if_pos r0, n65, bind_s, if_bb, if_neg hA]
  by_cases hN : r = 45 ∨ (48 ≤ r ∧ r ≤ 57)
  · have ex : restT m9 (nI b) r = ((s_X5_readNumber m9).bind fun q => some q) := by
      unfold restT
      by_cases q : r = 45
      · rw [if_pos q]
      · rw [if_neg q, fig_eq, bind_s, if_bb, if_pos (hN.resolve_left q)]
    have ey : (if r = 45 then numT m7 r else (s_X7_in r.toInt64 48 57).bind fun r42 => if r42 = 0 then none else numT m7 r) = numT m7 r := by
      by_cases q : r = 45
      · rw [if_pos q]
      · rw [if_neg q, in_48, bind_s, if_bb, if_pos (hN.resolve_left q)]
    obtain ⟨e, he⟩ : ∃ e, (r = 45 ∧ e = 1) ∨ (¬ r = 45 ∧ e = 0) := by
      by_cases q : r = 45
      · exact ⟨1, Or.inl ⟨q, rfl⟩⟩
      · exact ⟨0, Or.inr ⟨q, rfl⟩⟩
    obtain ⟨j, hj, h1, h2⟩ := figs_n (BY mm L) (b + e) 5
    have e1 : e ≤ 1 := by omega
    have xx := numX (mx := mx) hL e97 e9T (by omega) c9 e93 hr he hj h1 h2
    obtain ⟨mm2, y1, y2, y3⟩ := numM hL h37 g7 e78 (by omega) he hj h1 h2
    rw [ex]
    have ey2 : ∀ (Z : Option Mem), (if r = 45 then numT m7 r else (s_X7_in r.toInt64 48 57).bind fun r42 => if r42 = 0 then Z else numT m7 r) = numT m7 r := fun Z => by
      by_cases q : r = 45
      · rw [if_pos q]
      · rw [if_neg q, in_48, bind_s, if_bb, if_pos (hN.resolve_left q)]
    rw [ey2]
    by_cases hj4 : 1 ≤ j ∧ j ≤ 4
    · rw [if_pos hj4] at xx
      have bl : b + e + (j - 1) < L := by
        have f := h1 (j - 1) (by omega)
        rcases Nat.lt_or_ge (b + e + (j - 1)) L with q | q
        · exact q
        · unfold BY at f
          rw [if_neg (by omega)] at f
          exact absurd f.1 (by decide)
      exact done xx ⟨mm2, y1, y2 hj4⟩ (fun p q hp hq => fin_ok hL hp hq (Or.inr (Or.inr (Or.inl ⟨rfl, rfl⟩))) (fun _ => rfl) (Or.inr (by omega)) (by omega) hab)
    · rw [if_neg hj4] at xx
      exact done xx ⟨mm2, y1, y3 hj4⟩ (fun p q hp hq => fin_bad hp hq)
  have hn45 : ¬ r = 45 := fun q => hN (Or.inl q)
  have hnfg : ¬ (48 ≤ r ∧ r ≤ 57) := fun q => hN (Or.inr q)
  rw [if_neg hn45, in_48, bind_s, if_bb, if_neg hnfg, n97, bind_s, if_bb]
  unfold restT
  rw [if_neg hn45, fig_eq, bind_s, if_bb, if_neg hnfg]
  by_cases hC : 97 ≤ r ∧ r ≤ 122
  · rw [if_pos hC]
    have g79 := M7_4 (j := 38) (x := nI (b + 6)) (M7_4 (j := 40) (x := 3) g7 (by omega)) (by omega)
    have cm := closedM (mm := mm) (b := b) hL (by rw [g79.2.1 37 (by omega)]; exact h37) (g79.1 33 (by decide)) (by omega) g79.2.2.2 rd_s
    have cx := closedX hL e97 e9T (by omega : b ≤ 900) e93
    have ym : ∀ (P : Prop) [Decidable P], True := fun _ _ => trivial
    have Y : ∃ q, (bn (sto m7 0 40 3) fun m78 => bn (sto m78 0 38 ((m78 0 38) + 6)) fun m79 => (s_X7_isClosed m79).bind fun r81 => (if r81 = 0 then ((s_X7_fails m79 1 (m79 0 39)).bind fun m83 => some m83) else (some m79))) = some q ∧ (clw (BY mm L) b → MF mm b 6 3 (m7 0 41) q) ∧ (¬ clw (BY mm L) b → MB mm b q) := by
      refine ex_n (ex_n ?_)
      rw [rd_j (show (38 : Nat) ≠ 40 by decide), e78, show nI b + 6 = nI (b + 6) from nI_add b 6]
      by_cases hc : clw (BY mm L) b
      · rw [cm.1 hc, bind_s, if_neg (by decide)]
        exact ex_s ⟨fun _ => mf g79 rd_s (by rw [rd_j (by decide), rd_s]) (by rw [rd_j (by decide), rd_j (by decide)]), fun z => absurd hc z⟩
      · rw [cm.2 hc, bind_s, if_pos rfl]
        exact ex_w (M7_b g79) (fun q hq => ⟨fun z => absurd z hc, fun _ => hq⟩)
    by_cases h99 : r = 99
    · rw [if_pos h99]
      by_cases hc : clw (BY mm L) b
      · have bl : b + 6 ≤ L := by
          rcases Nat.lt_or_ge (b + 5) L with q | q
          · omega
          · have f := hc.2.2.2.2.2
            unfold BY at f
            rw [if_neg (by omega)] at f
            exact absurd f (by decide)
        rw [cx.1 hc, bind_s, if_neg (by decide)]
        exact done (len6 (K := 4) c9 e93) Y (fun p q hp hq => fin_ok hL hp (hq.1 hc) (Or.inr (Or.inr (Or.inr (Or.inl ⟨rfl, rfl⟩)))) (fun z => z.elim (fun z => absurd z (by decide)) (fun z => absurd z (by decide))) (Or.inr (by omega)) bl hab)
      · rw [cx.2 hc, bind_s, if_pos rfl]
        exact done (len6 (K := 1) c9 e93) Y (fun p q hp hq => fin_bad hp (hq.2 hc))
    · have hnc : ¬ clw (BY mm L) b := fun z => h99 (hr.symm.trans z.1)
      have nk : ∀ k : Int32, ¬ (97 ≤ k ∧ k ≤ 122) → ¬ r = k := fun k hk e => hk (e ▸ hC)
      have hns : ¬ sgn r := by
        rintro (h | h | h | h | h | h | h | h | h | h | h) <;> exact nk _ (by decide) h
      rw [if_neg h99, if_neg (nk 46 (by decide)), sgnX.2 hns, bind_s, if_pos rfl]
      exact done (bec (K := 1) (w := 1) (e := 1) c9 e93 rfl) Y (fun p q hp hq => fin_bad hp (hq.2 hnc))
  rw [if_neg hC, if_neg (show ¬ r = 99 from fun q => hC (by rw [q]; decide))]
  have SX : ∃ p, ((s_X5_isSign r).bind fun r17 => (if r17 = 0 then ((s_X5_become m9 1 1).bind fun m19 => some m19) else ((s_X5_become m9 r 1).bind fun m21 => some m21))) = some p ∧ (sgn r → XF mx b 1 r (m9 10 4) p) ∧ (¬ sgn r → XF mx b 1 1 (m9 10 4) p) := by
    by_cases hs : sgn r
    · rw [sgnX.1 hs, bind_s, if_neg (by decide)]
      exact ex_w (bec (K := r) (w := 1) (e := 1) c9 e93 rfl) (fun q hq => ⟨fun _ => hq, fun z => absurd hs z⟩)
    · rw [sgnX.2 hs, bind_s, if_pos rfl]
      exact ex_w (bec (K := 1) (w := 1) (e := 1) c9 e93 rfl) (fun q hq => ⟨fun z => absurd z hs, fun _ => hq⟩)
  have SM : ∃ q, ((s_X7_isSign r).bind fun r46 => (if r46 = 0 then ((s_X7_fails m7 1 (m7 0 39)).bind fun m48 => some m48) else (bn (sto m7 0 40 4) fun m49 => bn (sto m49 0 41 r) fun m50 => bn (sto m50 0 38 ((m50 0 38) + 1)) fun m51 => some m51))) = some q ∧ (sgn r → MF mm b 1 4 r q) ∧ (¬ sgn r → MB mm b q) := by
    by_cases hs : sgn r
    · rw [sgnM.1 hs, bind_s, if_neg (by decide)]
      refine ex_n (ex_n (ex_n ?_))
      rw [rd_j (show (38 : Nat) ≠ 41 by decide), rd_j (show (38 : Nat) ≠ 40 by decide), e78, nI_s1]
      exact ex_s ⟨fun _ => mf (M7_4 (M7_4 (M7_4 g7 (by omega)) (by omega)) (by omega)) rd_s (by rw [rd_j (by decide), rd_j (by decide), rd_s]) (by rw [rd_j (by decide), rd_s]), fun z => absurd hs z⟩
    · rw [sgnM.2 hs, bind_s, if_pos rfl]
      exact ex_w (M7_b g7) (fun q hq => ⟨fun z => absurd z hs, fun _ => hq⟩)
  have SG : ∀ {X Y : Option Mem}, X = ((s_X5_isSign r).bind fun r17 => (if r17 = 0 then ((s_X5_become m9 1 1).bind fun m19 => some m19) else ((s_X5_become m9 r 1).bind fun m21 => some m21))) → Y = ((s_X7_isSign r).bind fun r46 => (if r46 = 0 then ((s_X7_fails m7 1 (m7 0 39)).bind fun m48 => some m48) else (bn (sto m7 0 40 4) fun m49 => bn (sto m49 0 41 r) fun m50 => bn (sto m50 0 38 ((m50 0 38) + 1)) fun m51 => some m51))) → ∃ mx2 mm2, X = some mx2 ∧ Y = some mm2 ∧ TKE mx mm a L mx2 mm2 := fun {X Y} hX hY => by
    rw [hX, hY]
    refine done SX SM (fun p q hp hq => ?_)
    by_cases hs : sgn r
    · exact fin_ok hL (hp.1 hs) (hq.1 hs) (Or.inr (Or.inr (Or.inr (Or.inr (Or.inl ⟨rfl, rfl, hs⟩))))) (fun z => z.elim (fun z => absurd z (by decide)) (fun z => absurd z (by decide))) (Or.inr (by omega)) (by omega) hab
    · exact fin_bad (hp.2 hs) (hq.2 hs)
  by_cases h46 : r = 46
  · rw [if_pos h46, if_pos h46, nI_s1, byteAt_eq hL e97 e9T (by omega), bind_s, e78, nI_s1, look_by hL e77 (by omega), e73, bind_s]
    by_cases g1 : BY mm L (b + 1) = 46
    · rw [if_pos g1, if_pos g1, show nI b + 2 = nI (b + 2) from nI_add b 2, byteAt_eq hL e97 e9T (by omega), bind_s, look_by hL e77 (by omega), e73, bind_s]
      by_cases g2 : BY mm L (b + 2) = 46
      · rw [if_pos g2, if_pos g2]
        have bl : b + 3 ≤ L := by
          rcases Nat.lt_or_ge (b + 2) L with q | q
          · omega
          · unfold BY at g2
            rw [if_neg (by omega)] at g2
            exact absurd g2 (by decide)
        have gD := M7_4 (j := 38) (x := nI (b + 3)) (M7_4 (j := 40) (x := 5) g7 (by omega)) (by omega)
        refine done (bec (K := 5) (w := 3) (e := 3) c9 e93 rfl) (W := MF mm b 3 5 (m7 0 41)) ⟨_, ?_, mf gD rd_s (by rw [rd_j (by decide), rd_s]) (by rw [rd_j (by decide), rd_j (by decide)])⟩ (fun p q hp hq => fin_ok hL hp hq (Or.inr (Or.inr (Or.inr (Or.inr (Or.inr ⟨rfl, rfl⟩))))) (fun z => z.elim (fun z => absurd z (by decide)) (fun z => absurd z (by decide))) (Or.inr (by omega)) bl hab)
        show some (sto (sto m7 0 40 5) 0 38 ((sto m7 0 40 5) 0 38 + 3)) = _
        rw [rd_j (by decide), e78, show nI b + 3 = nI (b + 3) from nI_add b 3]
      · rw [if_neg g2, if_neg g2]
        exact SG rfl rfl
    · rw [if_neg g1, if_neg g1]
      exact SG rfl rfl
  · rw [if_neg h46, if_neg h46]
    exact SG rfl rfl
