/-! a reading told of one memory is one of another that holds the same nodes, edges and shapes -/
def AGR (m m2 : Mem) (k : Nat) (d : Nat → Nat) : Prop := (∀ a, a = 1 ∨ a = 2 ∨ (6 ≤ a ∧ a ≤ 18) → m2 a = m a) ∧ (∀ n, n < k → ∀ i, i < d n → m2 4 (n * 5 + i) = m 4 (n * 5 + i) ∧ m2 5 (n * 5 + i) = m 5 (n * 5 + i)) ∧ ∀ i, i < 5 → m2 39 i = m 39 i
theorem canP_in {m m2 : Mem} {c k s n : Nat} {d P Z : Nat → Nat} {z : Nat} {sv : Int32} (A : AGR m m2 k d) (hn : n < k) (hS : SH m c P Z) (hS2 : SH m2 c P Z) (hs : s < c) (hE : EG m n (d n)) (hE2 : EG m2 n (d n)) (e37 : m2 37 = m 37) (e38 : m2 38 = m 38) : canP m2 s n (d n) z sv ↔ canP m s n (d n) z sv := by
  obtain ⟨e, e45, e39⟩ := A
  have hd := hE.2.1
  have ew : WS m2 s n = WS m s n := by
    obtain ⟨-, w1, -, w3⟩ := WS_eq hS hs hE
    obtain ⟨-, v1, -, v3⟩ := WS_eq hS2 hs hE2
    apply Nat.eq_of_testBit_eq
    intro i
    rcases Nat.lt_or_ge i (d n) with h | h
    · rw [Bool.eq_iff_iff, v3 i h, w3 i h, (e45 n hn i h).1]
      unfold IW
      rw [e 9 (by omega)]
    · rw [tb_lt v1 h, tb_lt w1 h]
  have tk : ∀ p i, i < d n → tkV m2 p (n * 5 + i) sv = tkV m p (n * 5 + i) sv := fun p i hi => by
    unfold tkV
    rw [(e45 n hn i hi).1, (e45 n hn i hi).2, e 9 (by omega), e 10 (by omega), e 11 (by omega), e 1 (by omega), e 2 (by omega), e 12 (by omega), e37, e38]
  have lf : ∀ j, j ≤ d n → ∀ p y, lfV m2 p n sv y j = lfV m p n sv y j := by
    intro j
    induction j with
    | zero => intro _ _ _; rfl
    | succ j ih =>
      intro hj p y
      unfold lfV
      rw [ih (by omega), tk p j (by omega), e39 j (by omega)]
  have ds : ∀ j a, dstep m2 s n sv (d n) j a = dstep m s n sv (d n) j a := fun j a => by
    unfold dstep
    rw [e 14 (by omega), e 15 (by omega), e 16 (by omega), e 17 (by omega), e 18 (by omega)]
    have lx2 : ∀ x y, lfx m2 n sv (d n) x y = lfx m n sv (d n) x y := fun x y => by
      unfold lfx
      rw [lf (d n) (Nat.le_refl _)]
    rw [lx2]
  have dr : ∀ j a, drun m2 s n sv (d n) j a = drun m s n sv (d n) j a := by
    intro j
    induction j with
    | zero => intro a; rfl
    | succ j ih =>
      intro a
      show drun m2 s n sv (d n) j (dstep m2 s n sv (d n) j a) = drun m s n sv (d n) j (dstep m s n sv (d n) j a)
      rw [ds, ih]
  have di : din m2 s = din m s := by
    funext jj
    show (if m2 14 _ = 1 then _ else _) = (if m 14 _ = 1 then _ else _)
    rw [e 14 (by omega)]
  unfold canP DV
  rw [e 7 (by omega), ew, dr, di]
def put3 (m m1 : Mem) : Mem := fun a => if a = 37 ∨ a = 38 ∨ a = 40 then m1 a else m a
theorem put3_o {m m1 : Mem} {a : Nat} (h : a ≠ 37) (h2 : a ≠ 38) (h3 : a ≠ 40) : put3 m m1 a = m a := if_neg (by omega)
theorem put3_e {m m1 : Mem} {a : Nat} (h : a = 37 ∨ a = 38 ∨ a = 40) : put3 m m1 a = m1 a := if_pos h
theorem BL_e {m m2 : Mem} (e37 : m2 37 = m 37) (e38 : m2 38 = m 38) (h : BL m) : BL m2 := by
  unfold BL at *
  rw [e37, e38]
  exact h
/-- what of a memory a reading needs to be told of -/
def RB (m : Mem) (k : Nat) (d N T : Nat → Nat) (c : Nat) (P Z : Nat → Nat) : Prop := GG k d N T ∧ GM m k d N T ∧ SH m c P Z
theorem RB_put {m m1 : Mem} {k c : Nat} {d N T P Z : Nat → Nat} (h : RB m k d N T c P Z) : RB (put3 m m1) k d N T c P Z := by
  obtain ⟨g1, g2, g3⟩ := h
  refine ⟨g1, ?_, SH_c (fun a a1 a2 => put3_o (by omega) (by omega) (by omega)) (by rw [put3_o (by decide) (by decide) (by decide)]) g3⟩
  unfold GM at *
  rw [put3_o (by decide) (by decide) (by decide), put3_o (by decide) (by decide) (by decide), put3_o (by decide) (by decide) (by decide), put3_o (by decide) (by decide) (by decide)]
  exact g2
theorem AGR_put {m m2 m1 : Mem} {k : Nat} {d : Nat → Nat} (A : AGR m m2 k d) (h : ∀ a, a ≠ 37 → a ≠ 38 → a ≠ 40 → m1 a = m2 a) : AGR (put3 m m1) m1 k d := by
  obtain ⟨e, e45, e39⟩ := A
  refine ⟨fun a ha => by rw [put3_o (by omega) (by omega) (by omega), h a (by omega) (by omega) (by omega)]; exact e a ha, fun n hn i hi => ?_, fun i hi => by rw [put3_o (by decide) (by decide) (by decide), h 39 (by decide) (by decide) (by decide)]; exact e39 i hi⟩
  rw [put3_o (by decide) (by decide) (by decide), put3_o (by decide) (by decide) (by decide), h 4 (by decide) (by decide) (by decide), h 5 (by decide) (by decide) (by decide)]
  exact e45 n hn i hi
theorem RB_o {m m1 : Mem} {k c : Nat} {d N T P Z : Nat → Nat} (h : ∀ a, a ≠ 37 → a ≠ 38 → a ≠ 40 → m1 a = m a) (g : RB m k d N T c P Z) : RB m1 k d N T c P Z := by
  obtain ⟨g1, g2, g3⟩ := g
  refine ⟨g1, ?_, SH_c (fun a a1 a2 => h a (by omega) (by omega) (by omega)) (by rw [h 0 (by decide) (by decide) (by decide)]) g3⟩
  unfold GM at *
  rw [h 0 (by decide) (by decide) (by decide), h 3 (by decide) (by decide) (by decide), h 4 (by decide) (by decide) (by decide), h 5 (by decide) (by decide) (by decide)]
  exact g2
theorem GRD_g {m m2 : Mem} {c k : Nat} {d N T P Z rk : Nat → Nat} (A : AGR m m2 k d) (B : RB m k d N T c P Z) (B2 : RB m2 k d N T c P Z) (e37 : m2 37 = m 37) (e38 : m2 38 = m 38) (h : GRD m c k d Z rk) : GRD m2 c k d Z rk := by
  obtain ⟨hB, hF, hG⟩ := h
  refine ⟨BL_e e37 e38 hB, fun s n hs hn hne => ?_, fun m1 g1 r g2 g3 s n hs hn hrk hne => ?_⟩
  · rw [e37] at hne
    exact (canP_in A hn B.2.2 B2.2.2 hs (EG_of B.1 B.2.1 hn) (EG_of B2.1 B2.2.1 hn) e37 e38).mpr (hF s n hs hn hne)
  · have B1 := RB_o g1.1 B2
    have A1 := AGR_put A g1.1
    have p37 : put3 m m1 37 = m1 37 := put3_e (Or.inl rfl)
    have p38 : put3 m m1 38 = m1 38 := put3_e (Or.inr (Or.inl rfl))
    rw [e37]
    refine hG (put3 m m1) ⟨fun a a1 a2 a3 => put3_o a1 a2 a3, BL_e p37 p38 g1.2⟩ r (fun t x ht hx hr => by rw [p37, g2 t x ht hx hr, e37]) (fun t x ht hx hr hne2 => ?_) s n hs hn hrk (by rw [p37]; exact hne)
    rw [p37] at hne2
    exact (canP_in A1 hx (RB_put B).2.2 B1.2.2 ht (EG_of B.1 (RB_put B).2.1 hx) (EG_of B1.1 B1.2.1 hx) p37.symm p38.symm).mp (g3 t x ht hx hr hne2)
theorem SCl_g {m m2 : Mem} {c k : Nat} {d N T P Z : Nat → Nat} (A : AGR m m2 k d) (B : RB m k d N T c P Z) (B2 : RB m2 k d N T c P Z) (e37 : m2 37 = m 37) (e38 : m2 38 = m 38) (h : SCl m c k d Z) : SCl m2 c k d Z := fun s n hs hn hc => by
  rw [e38]
  exact h s n hs hn ((canP_in A hn B.2.2 B2.2.2 hs (EG_of B.1 B.2.1 hn) (EG_of B2.1 B2.2.1 hn) e37 e38).mp hc)
theorem AGR_s {m m2 : Mem} {k : Nat} {d : Nat → Nat} (A : AGR m m2 k d) : AGR m2 m k d := ⟨fun a ha => (A.1 a ha).symm, fun n hn i hi => ⟨((A.2.1 n hn i hi).1).symm, ((A.2.1 n hn i hi).2).symm⟩, fun i hi => (A.2.2 i hi).symm⟩
theorem SRD_g {m m2 : Mem} {c k : Nat} {d N T P Z : Nat → Nat} (A : AGR m m2 k d) (B : RB m k d N T c P Z) (B2 : RB m2 k d N T c P Z) (e37 : m2 37 = m 37) (e38 : m2 38 = m 38) (h : SRD m c k d Z) : SRD m2 c k d Z := by
  refine ⟨SCl_g A B B2 e37 e38 h.1, fun m1 g1 g2 g3 s n hs hn hne => ?_⟩
  have p37 : put3 m m1 37 = m1 37 := put3_e (Or.inl rfl)
  have p38 : put3 m m1 38 = m1 38 := put3_e (Or.inr (Or.inl rfl))
  rw [← p38]
  rw [e38] at hne
  refine h.2 (put3 m m1) ⟨fun a a1 a2 a3 => put3_o a1 a2 a3, BL_e p37 p38 g1.2⟩ (fun t x ht hx => by rw [p37, g2 t x ht hx, e37]) (SCl_g (AGR_s (AGR_put A g1.1)) (RB_o g1.1 B2) (RB_put B) p37 p38 g3) s n hs hn hne
/-- to the norm, with no edge bound -/
theorem AGR_n {m : Mem} {P : Nat → Nat} {k : Nat} {d : Nat → Nat} (e39 : ∀ i, i < 5 → m 39 i = -4) : AGR m (nrm m P) k d := ⟨fun a ha => nrm_a (by omega), fun n hn i hi => by rw [nrm_a (by omega), nrm_a (by omega)]; exact ⟨rfl, rfl⟩, fun i hi => by rw [e39 i hi]; rfl⟩
theorem RB_n {m : Mem} {k c : Nat} {d N T P Z P2 : Nat → Nat} (h : RB m k d N T c P Z) : RB (nrm m P2) k d N T c P Z := ⟨h.1, GM_n h.2.1, SH_n h.2.2⟩
/-! the reference's reading, however it stood -/
theorem m_readr {mm : Mem} {k L c : Nat} {d N T P Z : Nat → Nat} {V W : Nat → Int32} (g : GG k d N T) (y : IM mm k d N T V W L c P Z) (h6 : mm 0 6 = 0) : ∃ m2, s_X7_read mm = some m2 ∧ (∀ i, i < 5 → m2 39 i = -4) ∧ RB m2 k d N T c P Z ∧ GRD m2 c k d Z (Jr mm P 6) ∧ SRD m2 c k d Z := by
  have B : RB mm k d N T c P Z := ⟨g, y.1, y.2.2.2.1⟩
  have hA := y.2.2.2.2.1
  unfold s_X7_read
  refine ex_if (fun _ => ex_n (ex_b (free_eq _) (fun m3 h3 => ?_))) (fun h => absurd h6 h)
  obtain ⟨f3, g3⟩ := h3
  have hS3 : SH m3 c P Z := SH_c (fun a a1 a2 => by rw [g3 a (by omega), rd_o (by omega)]) (by rw [g3 0 (by decide), rd_j (by decide)]) B.2.2
  have hA3 : AC m3 c P := AC_c (by rw [g3 10 (by decide), rd_o (by decide)]) (by rw [g3 11 (by decide), rd_o (by decide)]) hA
  have ej : Jr m3 P 6 = Jr mm P 6 := Jr_e (by rw [g3 10 (by decide), rd_o (by decide)]) (by rw [g3 11 (by decide), rd_o (by decide)]) 6
  refine ex_b (findRanks_eq hS3 hA3) (fun m5 h5 => ?_)
  obtain ⟨v5, o5⟩ := h5
  have q5 : ∀ a, a ≠ 0 → a ≠ 39 → a ≠ 41 → m5 a = mm a := fun a a0 a9 a1 => by rw [o5 a a1, g3 a a9, rd_o a0]
  have q50 : ∀ j, j ≠ 6 → m5 0 j = mm 0 j := fun j hj => by rw [o5 0 (by decide), g3 0 (by decide), rd_j hj]
  have B5 : RB m5 k d N T c P Z := by
    refine ⟨g, ?_, SH_c (fun a a1 a2 => q5 a (by omega) (by omega) (by omega)) (q50 7 (by decide)) B.2.2⟩
    have := B.2.1
    unfold GM at *
    rw [q50 0 (by decide), q5 3 (by decide) (by decide) (by decide), q5 4 (by decide) (by decide) (by decide), q5 5 (by decide) (by decide) (by decide)]
    exact this
  have hX : RX m5 c k P Z d (Jr mm P 6) := by
    rw [← ej]
    refine ⟨B5.2.2, g.1, B5.2.1.1, fun n hn => EG_of g B5.2.1 hn, fun s hs => ⟨v5 s hs, Jr_le (SH_RF hS3) 6 s hs⟩, fun s t w hs ht hEd => ?_⟩
    refine Jr_fix (SH_RF hS3) hA3 hs ht ?_
    unfold Ed at *
    rw [o5 10 (by decide), o5 11 (by decide)] at hEd
    exact hEd
  refine ex_w (read_rung hX (fun n hn => EK_of g B5.2.1 hn)) (fun m2 h2 => ?_)
  obtain ⟨u1, u2, u3⟩ := h2
  exact ⟨fun i hi => by rw [u1.1 39 (by decide) (by decide) (by decide), o5 39 (by decide)]; exact f3 i hi, RB_o u1.1 B5, u2, u3⟩
theorem m_readg {mm : Mem} {k L c : Nat} {d N T P Z : Nat → Nat} {V W : Nat → Int32} (g : GG k d N T) (y : IM mm k d N T V W L c P Z) (cm : CM mm c k d Z P) : ∃ m2, s_X7_read mm = some m2 ∧ IM m2 k d N T V W L c P Z ∧ rdf mm m2 ∧ GRD (nrm m2 P) c k d Z (Jr mm P 6) ∧ SRD (nrm m2 P) c k d Z ∧ ∀ i, i < 5 → m2 39 i = -4 := by
  obtain ⟨m2, e2, i2, f2, r2, rd⟩ := m_read g y
  refine ⟨m2, e2, i2, rd, ?_⟩
  by_cases h6 : mm 0 6 = 0
  · obtain ⟨m4, e4, h39, B4, u2, u3⟩ := m_readr g y h6
    have e24 : m4 = m2 := Option.some.inj (e4.symm.trans e2)
    rw [e24] at h39 B4 u2 u3
    exact ⟨GRD_g (AGR_n h39) B4 (RB_n B4) (nrm_3 (Or.inl rfl)) (nrm_3 (Or.inr rfl)) u2, SRD_g (AGR_n h39) B4 (RB_n B4) (nrm_3 (Or.inl rfl)) (nrm_3 (Or.inr rfl)) u3, h39⟩
  · have em : s_X7_read mm = some mm := by
      unfold s_X7_read
      rw [if_neg h6]
    have e : m2 = mm := Option.some.inj (e2.symm.trans em)
    rw [e]
    exact cm.resolve_left h6
