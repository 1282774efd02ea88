/-! dealt: edge by edge -/
theorem deal_lock {mx6 m4 : Mem} {k b c s n i ws : Nat} {d N T P Z : Nat → Nat} {V W : Nat → Int32} (R : RC mx6 m4 k d N T V W b c P Z) (hs : s < c) (hn : n < k) (hB : BL m4) (ag : ∀ t x, t < c → x < k → (bt (mx6 40 t) x = true ↔ ¬ m4 37 (10 * t + x) = 0)) (hi : i < d n) (hw : ∀ j, j < d n → (bt (nI ws) j = true ↔ IW m4 s (P s) (m4 4 (n * 5 + j)))) (hiw : IW m4 s (P s) (m4 4 (n * 5 + i))) : ∀ (r j : Nat) (y : Int32) (mx a : Mem), j + r = i + 1 → DR mx6 m4 mx a s (P s) → (∀ x, j ≤ x → x < 5 → a 39 x = -4) → canP a s n (d n) (Z s) 0 → (i < j → ∃ p, p < P s ∧ y = nI p ∧ a 39 i = nI (6 * s + p)) → ∀ (u v : Nat), r < u → r < v → ∃ y2 mx2 a2, zlp u (fun (q : Int32 × Int32 × Mem) => t_X2_leastPartOf_15 (nI n) (nI s) (nI i) (nI ws) q.1 q.2.1 q.2.2) (y, nI j, mx) = some (y2, mx2) ∧ zlp v (fun (q : Int32 × Mem) => t_X7_dealt_78 (nI n) (nI s) (nI i) q.1 q.2) (nI j, a) = some a2 ∧ ∃ p, p < P s ∧ y2 = nI p ∧ a2 39 i = nI (6 * s + p) := by
  have R0 := R
  obtain ⟨g, x, xv, hb, hjb, y0, yv, sh, lb, bk, lv, ac, h39, jv⟩ := R
  have hc6 := sh.2.1
  have h10 := g.1
  have hd5 := (g.2 n hn).1
  have hE4 := EG_of g y0 hn
  intro r
  induction r with
  | zero =>
    intro j y mx a hj D h9 hc hy u v hu hv
    obtain ⟨u, rfl⟩ : ∃ w, u = w + 1 := ⟨u - 1, by omega⟩
    obtain ⟨v, rfl⟩ : ∃ w, v = w + 1 := ⟨v - 1, by omega⟩
    have e1 : t_X2_leastPartOf_15 (nI n) (nI s) (nI i) (nI ws) y (nI j) mx = some (.inr (y, mx)) := by
      unfold t_X2_leastPartOf_15
      rw [if_pos (nI_lt (by omega) (by omega))]
    have e2 : t_X7_dealt_78 (nI n) (nI s) (nI i) (nI j) a = some (.inr a) := by
      unfold t_X7_dealt_78
      rw [if_pos (nI_lt (by omega) (by omega))]
    exact ⟨y, mx, a, zlp_off (f := fun (q : Int32 × Int32 × Mem) => t_X2_leastPartOf_15 (nI n) (nI s) (nI i) (nI ws) q.1 q.2.1 q.2.2) (a := (y, nI j, mx)) e1, zlp_off (f := fun (q : Int32 × Mem) => t_X7_dealt_78 (nI n) (nI s) (nI i) q.1 q.2) (a := (nI j, a)) e2, hy (by omega)⟩
  | succ r ih =>
    intro j y mx a hj D h9 hc hy u v hu hv
    obtain ⟨u, rfl⟩ : ∃ w, u = w + 1 := ⟨u - 1, by omega⟩
    obtain ⟨v, rfl⟩ : ∃ w, v = w + 1 := ⟨v - 1, by omega⟩
    obtain ⟨D1, D2, D3⟩ := D
    have hji : j ≤ i := by omega
    have hj5 : j < 5 := by omega
    have hSa : SH a c P Z := SH_c (fun b b1 b2 => D2 b (by omega) (by omega)) (by rw [D2 0 (by decide) (by decide)]) sh
    have hEa : EG a n (d n) := by
      unfold EG at *
      rw [D2 3 (by decide) (by decide), D2 5 (by decide) (by decide)]
      exact hE4
    have hBa : BL a := by
      unfold BL at *
      rw [D2 37 (by decide) (by decide), D2 38 (by decide) (by decide)]
      exact hB
    have ia : ∀ z, IW a s (P s) z ↔ IW m4 s (P s) z := fun z => by
      unfold IW
      rw [D2 9 (by decide) (by decide)]
    obtain ⟨r18, e18, v18⟩ := isWanted_eq (x := a 4 (n * 5 + j)) hSa hs
    rw [ia, D2 4 (by decide) (by decide)] at v18
    by_cases wj : IW m4 s (P s) (m4 4 (n * 5 + j))
    · obtain ⟨-, w2, w3, w4⟩ := WS_eq hSa hs hEa
      have hx := canP_bnd hSa hs hd5 hj5 (h9 j (Nat.le_refl _) hj5) ((w4 j (by omega)).mpr (by rw [ia, D2 4 (by decide) (by decide)]; exact wj)) w3 hc
      obtain ⟨m30, e30, p, hp, q1, q2, q3⟩ := dealt_in (k := j) (m := bnd a s j 0) hSa hs hEa hBa hj5 hx (fun _ _ => rfl)
      obtain ⟨mx2, ex, X1, X2, X3⟩ := bind_eq R0 hs hn hj5 ag ⟨D1, D2, D3⟩ hp q2 q3
      have b1 : ((nI ws >>> (nI j &&& 31)) &&& 1) = 1 := by rw [bit_v (by omega), if_pos ((hw j (by omega)).mpr wj)]
      have e1 : t_X2_leastPartOf_15 (nI n) (nI s) (nI i) (nI ws) y (nI j) mx = some (.inl (nI p, nI (j + 1), mx2)) := by
        unfold t_X2_leastPartOf_15
        rw [if_neg (nI_nlt (by omega) (by omega)), if_neg (show ¬ (5 : Int32) ≤ nI j from nI_ge (b := 5) hj5 (by decide)), b1, if_neg (show ¬ (1 : Int32) = 0 by decide), ex, zb2_s]
        simp only [bn]
        rw [nI_s1]
      have e2 : t_X7_dealt_78 (nI n) (nI s) (nI i) (nI j) a = some (.inl (nI (j + 1), m30)) := by
        unfold t_X7_dealt_78
        have e6 : sto a 39 j ((6 : Int32) * nI s) = bnd a s j 0 := by
          unfold bnd
          rw [show (6 : Int32) = nI 6 from rfl, nI_mul]
          rfl
        rw [if_neg (nI_nlt (by omega) (by omega)), p5, ck_p (zin_nI (by omega) (by decide)), ix_nI (n := n * 5 + j) (by omega), e18, bind_s, if_neg (v18.mpr wj), ck_p (zin_nI (by omega) (by decide)), ix_nI (n := j) (by omega)]
        simp only [bn]
        rw [e6, e30, bind_s, nI_s1]
      have f30 : ∀ q, q ≠ 39 → q ≠ 40 → m30 q = m4 q := fun q a1 a2 => by rw [q1 q a2, bnd_o a1]; exact D2 q a1 a2
      have al : ALW mx2 m30 s (P s) := fun p2 hp2 i2 hi2 => by
        rw [q1 39 (by decide)]
        exact X3 p2 hp2 i2 hi2
      obtain ⟨y2, mx3, a2, z1, z2, z3⟩ := ih (j + 1) (nI p) mx2 m30 (by omega) ⟨X1, f30, al⟩ (fun x hx h5 => by rw [q1 39 (by decide), show bnd a s j p 39 x = a 39 x from rd_j (by omega)]; exact h9 x (by omega) h5) ((canP_c q1).mpr q2) (fun hij => ⟨p, hp, rfl, by rw [q1 39 (by decide), show i = j by omega]; exact rd_s⟩) u v (by omega) (by omega)
      exact ⟨y2, mx3, a2, (zlp_on (f := fun (q : Int32 × Int32 × Mem) => t_X2_leastPartOf_15 (nI n) (nI s) (nI i) (nI ws) q.1 q.2.1 q.2.2) (a := (y, nI j, mx)) (a2 := (nI p, nI (j + 1), mx2)) e1).trans z1, (zlp_on (f := fun (q : Int32 × Mem) => t_X7_dealt_78 (nI n) (nI s) (nI i) q.1 q.2) (a := (nI j, a)) (a2 := (nI (j + 1), m30)) e2).trans z2, z3⟩
    · have hne : j ≠ i := fun e => wj (by rw [e]; exact hiw)
      have b0 : ((nI ws >>> (nI j &&& 31)) &&& 1) = 0 := by rw [bit_v (by omega), if_neg (fun q => wj ((hw j (by omega)).mp q))]
      have r0 : r18 = 0 := by
        by_cases q : r18 = 0
        · exact q
        · exact absurd (v18.mp q) wj
      have e1 : t_X2_leastPartOf_15 (nI n) (nI s) (nI i) (nI ws) y (nI j) mx = some (.inl (y, nI (j + 1), mx)) := by
        unfold t_X2_leastPartOf_15
        rw [if_neg (nI_nlt (by omega) (by omega)), if_neg (show ¬ (5 : Int32) ≤ nI j from nI_ge (b := 5) hj5 (by decide)), if_pos b0]
        simp only [bn]
        rw [nI_s1]
      have e2 : t_X7_dealt_78 (nI n) (nI s) (nI i) (nI j) a = some (.inl (nI (j + 1), a)) := by
        unfold t_X7_dealt_78
        rw [if_neg (nI_nlt (by omega) (by omega)), p5, ck_p (zin_nI (by omega) (by decide)), ix_nI (n := n * 5 + j) (by omega), e18, bind_s, if_pos r0]
        simp only [bn]
        rw [nI_s1]
      obtain ⟨y2, mx3, a2, z1, z2, z3⟩ := ih (j + 1) y mx a (by omega) ⟨D1, D2, D3⟩ (fun x hx h5 => h9 x (by omega) h5) hc (fun hij => absurd hij (by omega)) u v (by omega) (by omega)
      exact ⟨y2, mx3, a2, (zlp_on (f := fun (q : Int32 × Int32 × Mem) => t_X2_leastPartOf_15 (nI n) (nI s) (nI i) (nI ws) q.1 q.2.1 q.2.2) (a := (y, nI j, mx)) (a2 := (y, nI (j + 1), mx)) e1).trans z1, (zlp_on (f := fun (q : Int32 × Mem) => t_X7_dealt_78 (nI n) (nI s) (nI i) q.1 q.2) (a := (nI j, a)) (a2 := (nI (j + 1), a)) e2).trans z2, z3⟩
theorem X1_hasEdge_eq {m : Mem} {n d : Nat} (hx : m 4 n = nI d) (hd : d ≤ 5) (hn : n < 10) (i : Int32) : s_X1_hasEdge m (nI n) i = some (bb (0 ≤ i.toInt ∧ i.toInt < d)) := by
  have E : ∃ r, s_X1_hasEdge m (nI n) i = some r ∧ r = bb (0 ≤ i.toInt ∧ i.toInt < d) := by
    unfold s_X1_hasEdge
    rw [ix_nI (n := n) (by omega), hx]
    refine ex_if (fun h => ex_s ?_) (fun h => ex_ck (zin_nI hn (by decide)) (ex_if (fun h2 => ex_s ?_) (fun h2 => ?_)))
    · rw [bb_f (fun z => by have := lt_i.mp h; rw [toInt_0] at this; omega)]
    · rw [bb_f (fun z => by have := le_i.mp h2; rw [nI_toInt (by omega)] at this; omega)]
    · have h0 : 0 ≤ i.toInt := by
        have := le_i.mp (Int32.not_lt.mp h)
        rwa [toInt_0] at this
      obtain ⟨w, hw, rfl, ew⟩ := int_nI h0
      have hwd : w < d := by
        rcases Nat.lt_or_ge w d with q | q
        · exact q
        · exact absurd (nI_le q (by omega)) h2
      refine ex_if (fun h3 => absurd h3 (nI_ge (b := 5) (by omega) (by decide))) (fun _ => ex_s ?_)
      rw [bb_t ⟨h0, by omega⟩]
  obtain ⟨r, h1, h2⟩ := E
  rw [h1, h2]
