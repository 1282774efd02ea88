/-! mask by mask, on both sides -/
theorem pcb_5 : ∀ w, w < 32 → pcb w 10 = pcb w 5 := by decide +kernel
theorem pcb_pos : ∀ w, w < 32 → ¬ w = 0 → ¬ pcb w 10 = 0 := by decide +kernel
theorem pcb_le : ∀ w, w < 32 → pcb w 10 ≤ 5 := by decide +kernel
theorem bits_eq {w : Nat} (hw : w < 32) : s_X7_bits (nI w) = some (nI (pcb w 10)) := by
  have E : ∃ r, s_X7_bits (nI w) = some r ∧ r = nI (pcb w 5) := by
    unfold s_X7_bits l_X7_bits_4
    refine ex_b (Q := fun r => r = nI (pcb w 5)) ?_ (fun y hy => ex_s hy)
    refine forG 5 (fun j (a : Int32 × Int32) => a.2 = nI j ∧ a.1 = nI (pcb w j)) _ (fun j a hj ha => ?_) (fun a ha => ?_) FU 0 (0, 0) (Nat.zero_le _) ⟨rfl, rfl⟩ (FU_lt (by omega))
    · unfold t_X7_bits_4
      rw [ha.1, ha.2, bit_v (by omega), bt_10 _ (by omega) j (by omega)]
      refine st_if (fun z => absurd z (nI_ge (b := 5) hj (by decide))) (fun _ => st_n (st_n (st_l ⟨nI_s1, ?_⟩)))
      show nI (pcb w j) + (if w.testBit j = true then (1 : Int32) else 0) = nI (pcb w j + if w.testBit j = true then 1 else 0)
      by_cases q : w.testBit j = true
      · rw [if_pos q, if_pos q, nI_s1]
      · rw [if_neg q, if_neg q, show (0 : Int32) = nI 0 from rfl, nI_add]
    · unfold t_X7_bits_4
      rw [ha.1]
      exact ⟨_, if_pos (by decide), ha.2⟩
  obtain ⟨r, h1, h2⟩ := E
  rw [h1, h2, pcb_5 w hw]
def ANS (D κ : Nat) (i : Int32) (a : Mem) : Prop := (i = -4 ∧ a 0 53 = -4 ∧ a 0 54 = -4) ∨ ∃ v, v < D ∧ i = nI v ∧ a 0 53 = nI κ ∧ a 0 54 = nI v ∧ pcb v 10 = κ
theorem mask_lock {mx mm : Mem} {k L b c n s κ : Nat} {d N T P Z : Nat → Nat} {V W : Nat → Int32} (R : RC mx mm k d N T V W b c P Z) (h : IM mm k d N T V W L c P Z) (a63 : A63 mx) (hn : n < k) (hs : s < c) (hκ : κ < 6) : ∀ (r x : Nat) (i : Int32) (m a : Mem), x + r = 2 ^ d n → FMX mx m n → WFr mm n a → KP mm n (d n) a → ANS (2 ^ d n) κ i a → ∀ (u v : Nat), r < u → r < v → ∃ i2 m2 a2, zlp u (fun (q : Int32 × Int32 × Mem) => t_X2_surplusEdges_58 (nI n) (nI s) (nI (2 ^ d n)) (nI κ) q.1 q.2.1 q.2.2) (i, nI x, m) = some (i2, m2) ∧ zlp v (fun (q : Int32 × Mem) => t_X7_without_91 (nI n) (nI s) (nI (d n)) (nI κ) q.1 q.2) (nI x, a) = some a2 ∧ FMX mx m2 n ∧ WFr mm n a2 ∧ KP mm n (d n) a2 ∧ ANS (2 ^ d n) κ i2 a2 := by
  have g := R.1
  have h10 := g.1
  have hc6 := h.2.2.2.1.2.1
  have h5 := (g.2 n hn).1
  have t5 := two_5 h5
  intro r
  induction r with
  | zero =>
    intro x i m a hx hm hw hk an u v hu hv
    obtain ⟨u, rfl⟩ : ∃ w, u = w + 1 := ⟨u - 1, by omega⟩
    obtain ⟨v, rfl⟩ : ∃ w, v = w + 1 := ⟨v - 1, by omega⟩
    have e1 : t_X2_surplusEdges_58 (nI n) (nI s) (nI (2 ^ d n)) (nI κ) i (nI x) m = some (.inr (i, m)) := by
      unfold t_X2_surplusEdges_58
      rw [if_pos (nI_le (by omega) (by omega))]
    have e2 : t_X7_without_91 (nI n) (nI s) (nI (d n)) (nI κ) (nI x) a = some (.inr a) := by
      unfold t_X7_without_91
      rw [shl_5 h5, if_pos (nI_le (by omega) (by omega))]
    exact ⟨i, m, a, zlp_off (f := fun (q : Int32 × Int32 × Mem) => t_X2_surplusEdges_58 (nI n) (nI s) (nI (2 ^ d n)) (nI κ) q.1 q.2.1 q.2.2) (a := (i, nI x, m)) e1, zlp_off (f := fun (q : Int32 × Mem) => t_X7_without_91 (nI n) (nI s) (nI (d n)) (nI κ) q.1 q.2) (a := (nI x, a)) e2, hm, hw, hk, an⟩
  | succ r ih =>
    intro x i m a hx hm hw hk an u v hu hv
    obtain ⟨u, rfl⟩ : ∃ w, u = w + 1 := ⟨u - 1, by omega⟩
    obtain ⟨v, rfl⟩ : ∃ w, v = w + 1 := ⟨v - 1, by omega⟩
    have hxd : x < 2 ^ d n := by omega
    have nge : ¬ nI (2 ^ d n) ≤ nI x := nI_ge hxd (by omega)
    rcases an with ⟨a1, a2, a3⟩ | ⟨w, hwd, a1, a2, a3, a4⟩
    · have pl := pcb_le x (by omega)
      by_cases hc : pcb x 10 = κ
      · obtain ⟨m20, m42, m45, s1, s2, s3, s4, s5, s6, s7, s8, s9⟩ := mask_step (s := s) R h a63 hn hs hxd hm hw hk
        by_cases z : m45 37 (10 * s + n) = 0
        · have e1 : t_X2_surplusEdges_58 (nI n) (nI s) (nI (2 ^ d n)) (nI κ) i (nI x) m = some (.inl (-4, nI (x + 1), m20)) := by
            unfold t_X2_surplusEdges_58
            rw [if_neg nge, if_pos a1, bc_10 x (by omega), bind_s, hc, if_pos rfl]
            simp only [bn]
            rw [forget_eq, bind_s, s1, bind_s, ck_p (zin_nI (by omega) (by decide)), ix_nI (n := s) (by omega), bit_v (by omega), if_neg (fun q => (s7.mp q) z), if_pos rfl, nI_s1]
          have e2 : t_X7_without_91 (nI n) (nI s) (nI (d n)) (nI κ) (nI x) a = some (.inl (nI (x + 1), m45)) := by
            unfold t_X7_without_91
            rw [shl_5 h5, if_neg nge, if_pos a2, bits_eq (by omega), bind_s, hc, if_pos rfl, ck_p (zin_nI (by omega) (by decide)), ix_nI (n := n) (by omega)]
            simp only [bn]
            rw [s3, bind_s, s4, bind_s, p10, ck_p (zin_nI (by omega) (by decide)), ix_nI (n := 10 * s + n) (by omega), if_pos z, nI_s1]
          obtain ⟨i2, m2, b2, z1, z2, z3⟩ := ih (x + 1) (-4) m20 m45 (by omega) s2 s5 s6 (Or.inl ⟨rfl, s8.trans a2, s9.trans a3⟩) u v (by omega) (by omega)
          exact ⟨i2, m2, b2, (zlp_on (f := fun (q : Int32 × Int32 × Mem) => t_X2_surplusEdges_58 (nI n) (nI s) (nI (2 ^ d n)) (nI κ) q.1 q.2.1 q.2.2) (a := (i, nI x, m)) (a2 := (-4, nI (x + 1), m20)) e1).trans z1, (zlp_on (f := fun (q : Int32 × Mem) => t_X7_without_91 (nI n) (nI s) (nI (d n)) (nI κ) q.1 q.2) (a := (nI x, a)) (a2 := (nI (x + 1), m45)) e2).trans z2, z3⟩
        · have e1 : t_X2_surplusEdges_58 (nI n) (nI s) (nI (2 ^ d n)) (nI κ) i (nI x) m = some (.inl (nI x, nI (x + 1), m20)) := by
            unfold t_X2_surplusEdges_58
            rw [if_neg nge, if_pos a1, bc_10 x (by omega), bind_s, hc, if_pos rfl]
            simp only [bn]
            rw [forget_eq, bind_s, s1, bind_s, ck_p (zin_nI (by omega) (by decide)), ix_nI (n := s) (by omega), bit_v (by omega), if_pos (s7.mpr z), if_neg (show ¬ (1 : Int32) = 0 by decide), nI_s1]
          have e2 : t_X7_without_91 (nI n) (nI s) (nI (d n)) (nI κ) (nI x) a = some (.inl (nI (x + 1), sto (sto m45 0 53 (nI κ)) 0 54 (nI x))) := by
            unfold t_X7_without_91
            rw [shl_5 h5, if_neg nge, if_pos a2, bits_eq (by omega), bind_s, hc, if_pos rfl, ck_p (zin_nI (by omega) (by decide)), ix_nI (n := n) (by omega)]
            simp only [bn]
            rw [s3, bind_s, s4, bind_s, p10, ck_p (zin_nI (by omega) (by decide)), ix_nI (n := 10 * s + n) (by omega), if_neg z, nI_s1]
          have q53 : (sto (sto m45 0 53 (nI κ)) 0 54 (nI x)) 0 53 = nI κ := by rw [rd_j (by decide), rd_s]
          have q54 : (sto (sto m45 0 53 (nI κ)) 0 54 (nI x)) 0 54 = nI x := rd_s
          obtain ⟨i2, m2, b2, z1, z2, z3⟩ := ih (x + 1) (nI x) m20 (sto (sto m45 0 53 (nI κ)) 0 54 (nI x)) (by omega) s2 (WFr_0 (WFr_0 s5 (by omega)) (by omega)) (KP_0 (KP_0 s6 (by decide) (by decide)) (by decide) (by decide)) (Or.inr ⟨x, hxd, rfl, q53, q54, hc⟩) u v (by omega) (by omega)
          exact ⟨i2, m2, b2, (zlp_on (f := fun (q : Int32 × Int32 × Mem) => t_X2_surplusEdges_58 (nI n) (nI s) (nI (2 ^ d n)) (nI κ) q.1 q.2.1 q.2.2) (a := (i, nI x, m)) (a2 := (nI x, nI (x + 1), m20)) e1).trans z1, (zlp_on (f := fun (q : Int32 × Mem) => t_X7_without_91 (nI n) (nI s) (nI (d n)) (nI κ) q.1 q.2) (a := (nI x, a)) (a2 := (nI (x + 1), sto (sto m45 0 53 (nI κ)) 0 54 (nI x))) e2).trans z2, z3⟩
      · have ne : ¬ nI (pcb x 10) = nI κ := fun q => hc ((nI_eq (by omega) (by omega)).mp q)
        have e1 : t_X2_surplusEdges_58 (nI n) (nI s) (nI (2 ^ d n)) (nI κ) i (nI x) m = some (.inl (i, nI (x + 1), m)) := by
          unfold t_X2_surplusEdges_58
          rw [if_neg nge, if_pos a1, bc_10 x (by omega), bind_s, if_neg ne]
          simp only [bn]
          rw [nI_s1]
        have e2 : t_X7_without_91 (nI n) (nI s) (nI (d n)) (nI κ) (nI x) a = some (.inl (nI (x + 1), a)) := by
          unfold t_X7_without_91
          rw [shl_5 h5, if_neg nge, if_pos a2, bits_eq (by omega), bind_s, if_neg ne]
          simp only [bn]
          rw [nI_s1]
        obtain ⟨i2, m2, b2, z1, z2, z3⟩ := ih (x + 1) i m a (by omega) hm hw hk (Or.inl ⟨a1, a2, a3⟩) u v (by omega) (by omega)
        exact ⟨i2, m2, b2, (zlp_on (f := fun (q : Int32 × Int32 × Mem) => t_X2_surplusEdges_58 (nI n) (nI s) (nI (2 ^ d n)) (nI κ) q.1 q.2.1 q.2.2) (a := (i, nI x, m)) (a2 := (i, nI (x + 1), m)) e1).trans z1, (zlp_on (f := fun (q : Int32 × Mem) => t_X7_without_91 (nI n) (nI s) (nI (d n)) (nI κ) q.1 q.2) (a := (nI x, a)) (a2 := (nI (x + 1), a)) e2).trans z2, z3⟩
    · have e1 : t_X2_surplusEdges_58 (nI n) (nI s) (nI (2 ^ d n)) (nI κ) i (nI x) m = some (.inr (i, m)) := by
        unfold t_X2_surplusEdges_58
        rw [if_neg nge, if_neg (by rw [a1]; exact nn4 (by omega))]
      have e2 : t_X7_without_91 (nI n) (nI s) (nI (d n)) (nI κ) (nI x) a = some (.inr a) := by
        unfold t_X7_without_91
        rw [shl_5 h5, if_neg nge, if_neg (by rw [a2]; exact nn4 (by omega))]
      exact ⟨i, m, a, zlp_off (f := fun (q : Int32 × Int32 × Mem) => t_X2_surplusEdges_58 (nI n) (nI s) (nI (2 ^ d n)) (nI κ) q.1 q.2.1 q.2.2) (a := (i, nI x, m)) e1, zlp_off (f := fun (q : Int32 × Mem) => t_X7_without_91 (nI n) (nI s) (nI (d n)) (nI κ) q.1 q.2) (a := (nI x, a)) e2, hm, hw, hk, Or.inr ⟨w, hwd, a1, a2, a3, a4⟩⟩
