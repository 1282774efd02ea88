/-! the reference's whole reading: the greatest, and the least -/
def GT (m : Mem) (c k : Nat) (d Z rk : Nat → Nat) : Prop := ∀ m1, RM m m1 → ∀ r, (∀ t x, t < c → x < k → rk t < r → m1 37 (10 * t + x) = m 37 (10 * t + x)) → (∀ s n, s < c → n < k → rk s = r → ¬ m1 37 (10 * s + n) = 0 → canP m1 s n (d n) (Z s) 0) → ∀ s n, s < c → n < k → rk s = r → ¬ m1 37 (10 * s + n) = 0 → ¬ m 37 (10 * s + n) = 0
def SCl (m : Mem) (c k : Nat) (d Z : Nat → Nat) : Prop := ∀ s n, s < c → n < k → canP m s n (d n) (Z s) 1 → ¬ m 38 (10 * s + n) = 0
def SLe (m : Mem) (c k : Nat) (d Z : Nat → Nat) : Prop := ∀ m1, RM m m1 → (∀ t x, t < c → x < k → m1 37 (10 * t + x) = m 37 (10 * t + x)) → SCl m1 c k d Z → ∀ s n, s < c → n < k → ¬ m 38 (10 * s + n) = 0 → ¬ m1 38 (10 * s + n) = 0
def GRD (m : Mem) (c k : Nat) (d Z rk : Nat → Nat) : Prop := BL m ∧ FP m c k d Z ∧ GT m c k d Z rk
def SRD (m : Mem) (c k : Nat) (d Z : Nat → Nat) : Prop := SCl m c k d Z ∧ SLe m c k d Z
theorem RM_t {m0 m m1 : Mem} (h : RM m0 m) (g : RM m m1) : RM m0 m1 := ⟨fun a a1 a2 a3 => (g.1 a a1 a2 a3).trans (h.1 a a1 a2 a3), g.2⟩
theorem RM_b {m0 m m1 : Mem} (h : RM m0 m) (g : RM m0 m1) : RM m m1 := ⟨fun a a1 a2 a3 => (g.1 a a1 a2 a3).trans (h.1 a a1 a2 a3).symm, g.2⟩
/-- can, from one memory to another, behind what a shape leans on -/
theorem can_0 {m0 m m1 : Mem} {c k s n : Nat} {P Z d rk : Nat → Nat} (hX : RX m0 c k P Z d rk) (hK : ∀ n, n < k → EK m0 n (d n) k) (hM : RM m0 m) (hM1 : RM m0 m1) (hs : s < c) (hn : n < k) (h1 : ∀ t x, t < c → x < k → rk t ≤ rk s → ¬ m 37 (10 * t + x) = 0 → ¬ m1 37 (10 * t + x) = 0) (h2 : ∀ t x, t < c → x < k → rk t < rk s → ¬ m1 37 (10 * t + x) = 0 → ¬ m 37 (10 * t + x) = 0) (h : canP m s n (d n) (Z s) 0) : canP m1 s n (d n) (Z s) 0 := by
  have e : ∀ b, b ≠ 37 → b ≠ 38 → b ≠ 40 → m1 b = m b := fun b b1 b2 b3 => by rw [hM1.1 b b1 b2 b3, hM.1 b b1 b2 b3]
  have edr : ∀ t w, t < c → Ed m P s t w → rk t + w ≤ rk s := fun t w ht he => by
    refine hX.2.2.2.2.2 s t w hs ht ?_
    unfold Ed at *
    rw [hM.1 10 (by decide) (by decide) (by decide), hM.1 11 (by decide) (by decide) (by decide)] at he
    exact he
  refine can_m (RM_SH hX hM) hs (RM_EG hX hM hn) e (tkm_0 (RM_SH hX hM) hs (k := k) (fun i hi => ?_) hX.2.1 e (fun t ht he x hx hne => h1 t x ht hx (edr t 0 ht he) hne) (fun t ht he x hx hne => h2 t x ht hx (edr t 1 ht he) hne)) h
  rw [hM.1 5 (by decide) (by decide) (by decide)]
  exact hK n hn i hi
theorem can_1 {m0 m m1 : Mem} {c k s n : Nat} {P Z d rk : Nat → Nat} (hX : RX m0 c k P Z d rk) (hK : ∀ n, n < k → EK m0 n (d n) k) (hM : RM m0 m) (hM1 : RM m0 m1) (hs : s < c) (hn : n < k) (h1 : ∀ t x, t < c → x < k → rk t ≤ rk s → ¬ m 38 (10 * t + x) = 0 → ¬ m1 38 (10 * t + x) = 0) (h2 : ∀ t x, t < c → x < k → ¬ m1 37 (10 * t + x) = 0 → ¬ m 37 (10 * t + x) = 0) (h : canP m s n (d n) (Z s) 1) : canP m1 s n (d n) (Z s) 1 := by
  have e : ∀ b, b ≠ 37 → b ≠ 38 → b ≠ 40 → m1 b = m b := fun b b1 b2 b3 => by rw [hM1.1 b b1 b2 b3, hM.1 b b1 b2 b3]
  have edr : ∀ t w, t < c → Ed m P s t w → rk t + w ≤ rk s := fun t w ht he => by
    refine hX.2.2.2.2.2 s t w hs ht ?_
    unfold Ed at *
    rw [hM.1 10 (by decide) (by decide) (by decide), hM.1 11 (by decide) (by decide) (by decide)] at he
    exact he
  refine can_m (RM_SH hX hM) hs (RM_EG hX hM hn) e (tkm_1 (RM_SH hX hM) hs (k := k) (fun i hi => ?_) hX.2.1 e (fun t ht he x hx hne => h1 t x ht hx (edr t 0 ht he) hne) (fun t ht he x hx hne => h2 t x ht hx hne)) h
  rw [hM.1 5 (by decide) (by decide) (by decide)]
  exact hK n hn i hi
theorem read_rung {m0 : Mem} {c k : Nat} {P Z d rk : Nat → Nat} (hX : RX m0 c k P Z d rk) (hK : ∀ n, n < k → EK m0 n (d n) k) : ∃ m2, ((l_X7_read_23 FU 0 m0).bind fun m14 => ((l_X7_read_51 FU 0 m14).bind fun m26 => ((l_X7_read_81 FU 0 m26).bind fun m38 => some m38))) = some m2 ∧ RM m0 m2 ∧ GRD m2 c k d Z rk ∧ SRD m2 c k d Z := by
  have hc6 := hX.1.2.1
  have hk10 := hX.2.1
  refine ex_b (Q := fun (m14 : Mem) => RM m0 m14 ∧ ∀ j, j < 60 → m14 37 j = 1 ∧ m14 38 j = 0) ?_ (fun m14 h14 => ex_b (Q := fun (m26 : Mem) => RM m0 m26 ∧ GRD m26 c k d Z rk ∧ ∀ j, j < 60 → m26 38 j = 0) ?_ (fun m26 h26 => ex_b (Q := fun (m38 : Mem) => RM m0 m38 ∧ GRD m38 c k d Z rk ∧ SRD m38 c k d Z) ?_ (fun m38 h38 => ex_s h38)))
  · unfold l_X7_read_23
    refine forG 60 (fun j (a : Int32 × Mem) => a.1 = nI j ∧ (∀ b, b ≠ 37 → b ≠ 38 → b ≠ 40 → a.2 b = m0 b) ∧ ∀ i, i < j → a.2 37 i = 1 ∧ a.2 38 i = 0) _ (fun j a hj ha => ?_) (fun a ha => ?_) FU 0 (0, m0) (Nat.zero_le _) ⟨rfl, fun _ _ _ _ => rfl, fun i hi => absurd hi (Nat.not_lt_zero i)⟩ (FU_lt (by omega))
    · obtain ⟨e1, hc, hi⟩ := ha
      unfold t_X7_read_23
      rw [e1, ix_nI (n := j) (by omega)]
      have z60 : zin (nI j) 60 = true := zin_nI hj (by decide)
      refine st_if (fun z => absurd z (nI_ge (b := 60) hj (by decide))) (fun _ => st_ck z60 (st_n (st_ck z60 (st_n (st_n (st_l ⟨nI_s1, fun b b1 b2 b3 => ?_, fun i hij => ?_⟩))))))
      · dsimp only; rw [rd_o b2, rd_o b1]; exact hc b b1 b2 b3
      · dsimp only
        rw [rd_o (a2 := 37) (by decide)]
        by_cases e : i = j
        · subst e
          rw [rd_s, rd_s]
          exact ⟨by decide, by decide⟩
        · rw [rd_j e, rd_j e, rd_o (by decide)]
          exact hi i (by omega)
    · obtain ⟨e1, hc, hi⟩ := ha
      unfold t_X7_read_23
      rw [e1]
      exact ⟨_, if_pos (by decide), ⟨hc, fun j hj => ⟨Or.inr (hi j hj).1, Or.inl (hi j hj).2⟩⟩, hi⟩
  · unfold l_X7_read_51
    refine forG 7 (fun r (a : Int32 × Mem) => a.1 = nI r ∧ RM m0 a.2 ∧ (∀ s n, s < c → n < k → rk s < r → ¬ a.2 37 (10 * s + n) = 0 → canP a.2 s n (d n) (Z s) 0) ∧ (∀ m1, RM m0 m1 → ∀ r1, r1 < r → (∀ t x, t < c → x < k → rk t < r1 → m1 37 (10 * t + x) = a.2 37 (10 * t + x)) → (∀ s n, s < c → n < k → rk s = r1 → ¬ m1 37 (10 * s + n) = 0 → canP m1 s n (d n) (Z s) 0) → ∀ s n, s < c → n < k → rk s = r1 → ¬ m1 37 (10 * s + n) = 0 → ¬ a.2 37 (10 * s + n) = 0) ∧ (∀ s n, s < c → n < k → r ≤ rk s → ¬ a.2 37 (10 * s + n) = 0) ∧ ∀ j, j < 60 → a.2 38 j = 0) _ (fun r a hr ha => ?_) (fun a ha => ?_) FU 0 (0, m14) (Nat.zero_le _) ⟨rfl, h14.1, fun s n _ _ h => absurd h (Nat.not_lt_zero _), fun _ _ r1 h => absurd h (Nat.not_lt_zero _), fun s n hs hn _ => by dsimp only; rw [(h14.2 (10 * s + n) (by omega)).1]; decide, fun j hj => (h14.2 j hj).2⟩ (FU_lt (by omega))
    · obtain ⟨e1, hM, hp, hg, hf, hz⟩ := ha
      unfold t_X7_read_51
      rw [e1]
      refine st_if (fun z => absurd z (nI_ge (b := 7) hr (by decide))) (fun _ => st_b (rank_loopg hX hK hM (show r ≤ 6 by omega)) (fun m23 h23 => st_n (st_l ?_)))
      obtain ⟨q1, q2, q3, q4, q5⟩ := h23
      have un : ∀ t x, t < c → ¬ rk t = r → x < 10 → m23 37 (10 * t + x) = a.2 37 (10 * t + x) := fun t x ht hrt hx => by
        by_cases e2 : m23 37 (10 * t + x) = a.2 37 (10 * t + x)
        · exact e2
        · obtain ⟨s2, x2, hs2, hr2, hx2, e3⟩ := q2 _ e2
          have : t = s2 := by omega
          subst this
          exact absurd hr2 hrt
      refine ⟨nI_s1, q1, fun s n hs hn hrk hne => ?_, fun m1 g1 r1 hr1 g2 g3 s n hs hn hrk hne => ?_, fun s n hs hn hrk => ?_, fun j hj => q5 j (hz j hj)⟩
      · dsimp only at hne ⊢
        by_cases e : rk s = r
        · exact q3 s n hs hn e hne
        · rw [un s n hs e (by omega)] at hne
          exact can_0 hX hK hM q1 hs hn (fun t x ht hx hrt hne2 => by rw [un t x ht (by omega) (by omega)]; exact hne2) (fun t x ht hx hrt hne2 => by rw [un t x ht (by omega) (by omega)] at hne2; exact hne2) (hp s n hs hn (by omega) hne)
      · dsimp only at g2 ⊢
        by_cases e : r1 = r
        · subst e
          exact q4 m1 g1 (fun t x ht hx hrt => by rw [g2 t x ht hx hrt]; exact un t x ht (by omega) (by omega)) g3 (fun s n hs hn hrk _ => hf s n hs hn (by omega)) s n hs hn hrk hne
        · rw [un s n hs (by omega) (by omega)]
          exact hg m1 g1 r1 (by omega) (fun t x ht hx hrt => by rw [g2 t x ht hx hrt]; exact un t x ht (by omega) (by omega)) g3 s n hs hn hrk hne
      · dsimp only
        rw [un s n hs (by omega) (by omega)]
        exact hf s n hs hn (by omega)
    · obtain ⟨e1, hM, hp, hg, hf, hz⟩ := ha
      unfold t_X7_read_51
      rw [e1]
      refine ⟨_, if_pos (by decide), hM, ⟨hM.2, fun s n hs hn hne => hp s n hs hn (by have := (hX.2.2.2.2.1 s hs).2; omega) hne, fun m1 g1 r g2 g3 s n hs hn hrk hne => hg m1 (RM_t hM g1) r (by have := (hX.2.2.2.2.1 s hs).2; omega) g2 g3 s n hs hn hrk hne⟩, hz⟩
  · obtain ⟨hM26, ⟨hB26, hF26, hG26⟩, hz26⟩ := h26
    unfold l_X7_read_81
    refine forG 7 (fun r (a : Int32 × Mem) => a.1 = nI r ∧ RM m0 a.2 ∧ a.2 37 = m26 37 ∧ (∀ m1, RM m0 m1 → (∀ t x, t < c → x < k → m1 37 (10 * t + x) = m26 37 (10 * t + x)) → SCl m1 c k d Z → ∀ s n, s < c → n < k → ¬ a.2 38 (10 * s + n) = 0 → ¬ m1 38 (10 * s + n) = 0) ∧ ∀ s n, s < c → n < k → rk s < r → canP a.2 s n (d n) (Z s) 1 → ¬ a.2 38 (10 * s + n) = 0) _ (fun r a hr ha => ?_) (fun a ha => ?_) FU 0 (0, m26) (Nat.zero_le _) ⟨rfl, hM26, rfl, fun m1 _ _ _ s n hs hn hne => absurd (hz26 (10 * s + n) (by omega)) hne, fun s n _ _ h => absurd h (Nat.not_lt_zero _)⟩ (FU_lt (by omega))
    · obtain ⟨e1, hM, h37, hl, hc⟩ := ha
      unfold t_X7_read_81
      rw [e1]
      refine st_if (fun z => absurd z (nI_ge (b := 7) hr (by decide))) (fun _ => st_b (sure_loopg hX hK hM (show r ≤ 6 by omega)) (fun m23 h23 => st_n (st_l ?_)))
      obtain ⟨q1, q2, q3, q4, q5⟩ := h23
      have un : ∀ t x, t < c → ¬ rk t = r → x < 10 → m23 38 (10 * t + x) = a.2 38 (10 * t + x) := fun t x ht hrt hx => by
        by_cases e2 : m23 38 (10 * t + x) = a.2 38 (10 * t + x)
        · exact e2
        · obtain ⟨s2, x2, hs2, hr2, hx2, e3⟩ := q3 _ e2
          have : t = s2 := by omega
          subst this
          exact absurd hr2 hrt
      refine ⟨nI_s1, q1, q2.trans h37, fun m1 g1 g2 g3 => q4 m1 g1 (fun t x ht hx => by rw [h37]; exact g2 t x ht hx) g3 (hl m1 g1 g2 g3), fun s n hs hn hrk hcan => ?_⟩
      dsimp only at hcan ⊢
      by_cases e : rk s = r
      · exact q5 s n hs hn e hcan
      · rw [un s n hs e (by omega)]
        refine hc s n hs hn (by omega) ?_
        exact can_1 hX hK q1 hM hs hn (fun t x ht hx hrt hne2 => by rw [un t x ht (by omega) (by omega)] at hne2; exact hne2) (fun t x ht hx hne2 => by rw [q2]; exact hne2) hcan
    · obtain ⟨e1, hM, h37, hl, hc⟩ := ha
      unfold t_X7_read_81
      rw [e1]
      have e26 : RM a.2 m26 := RM_b hM hM26
      refine ⟨_, if_pos (by decide), hM, ⟨hM.2, fun s n hs hn hne => ?_, fun m1 g1 r g2 g3 s n hs hn hrk hne => ?_⟩, fun s n hs hn hcan => hc s n hs hn (by have := (hX.2.2.2.2.1 s hs).2; omega) hcan, fun m1 g1 g2 g3 => hl m1 (RM_t hM g1) (fun t x ht hx => by rw [g2 t x ht hx, h37]) g3⟩
      · rw [h37] at hne
        exact can_0 hX hK hM26 hM hs hn (fun t x _ _ _ h => by rw [h37]; exact h) (fun t x _ _ _ h => by rw [h37] at h; exact h) (hF26 s n hs hn hne)
      · rw [h37]
        exact hG26 m1 (RM_t (RM_b hM26 hM) g1) r (fun t x ht hx hrt => by rw [g2 t x ht hx hrt, h37]) g3 s n hs hn hrk hne
/-- there is just one such reading -/
theorem GRD_1 {m m2 : Mem} {c k : Nat} {d Z rk : Nat → Nat} (hc : c ≤ 6) (hk : k ≤ 10) (e : ∀ a, a ≠ 37 → a ≠ 38 → a ≠ 40 → m2 a = m a) (h : GRD m c k d Z rk) (g : GRD m2 c k d Z rk) : ∀ s n, s < c → n < k → (m 37 (10 * s + n) = 0 ↔ m2 37 (10 * s + n) = 0) := by
  obtain ⟨hB, hF, hG⟩ := h
  obtain ⟨gB, gF, gG⟩ := g
  have R1 : RM m m2 := ⟨e, gB⟩
  have R2 : RM m2 m := ⟨fun a a1 a2 a3 => (e a a1 a2 a3).symm, hB⟩
  have key : ∀ r, ∀ s n, s < c → n < k → 10 * s + n < 60 → rk s < r → m 37 (10 * s + n) = m2 37 (10 * s + n) := by
    intro r
    induction r with
    | zero => intro s n _ _ _ h; exact absurd h (Nat.not_lt_zero _)
    | succ r ih =>
      intro s n hs hn h60 hr
      by_cases er : rk s = r
      · have b1 := (hB (10 * s + n) h60).1
        have b2 := (gB (10 * s + n) h60).1
        have i1 : ¬ m 37 (10 * s + n) = 0 → ¬ m2 37 (10 * s + n) = 0 := fun h => gG m R2 r (fun t x ht hx hrt => ih t x ht hx (by omega) hrt) (fun t x ht hx _ h => hF t x ht hx h) s n hs hn er h
        have i2 : ¬ m2 37 (10 * s + n) = 0 → ¬ m 37 (10 * s + n) = 0 := fun h => hG m2 R1 r (fun t x ht hx hrt => (ih t x ht hx (by omega) hrt).symm) (fun t x ht hx _ h => gF t x ht hx h) s n hs hn er h
        rcases b1 with b1 | b1 <;> rcases b2 with b2 | b2
        · rw [b1, b2]
        · exact absurd b1 (i2 (by rw [b2]; decide))
        · exact absurd b2 (i1 (by rw [b1]; decide))
        · rw [b1, b2]
      · exact ih s n hs hn h60 (by omega)
  intro s n hs hn
  have := key (rk s + 1) s n hs hn (by omega) (by omega)
  rw [this]
/-- and just one sure reading beside it -/
theorem SRD_1 {m m2 : Mem} {c k : Nat} {d Z : Nat → Nat} (e : ∀ a, a ≠ 37 → a ≠ 38 → a ≠ 40 → m2 a = m a) (hB : BL m) (gB : BL m2) (e37 : ∀ s n, s < c → n < k → m2 37 (10 * s + n) = m 37 (10 * s + n)) (h : SRD m c k d Z) (g : SRD m2 c k d Z) : ∀ s n, s < c → n < k → (m 38 (10 * s + n) = 0 ↔ m2 38 (10 * s + n) = 0) := by
  intro s n hs hn
  have i1 := h.2 m2 ⟨e, gB⟩ e37 g.1 s n hs hn
  have i2 := g.2 m ⟨fun a a1 a2 a3 => (e a a1 a2 a3).symm, hB⟩ (fun t x ht hx => (e37 t x ht hx).symm) h.1 s n hs hn
  constructor
  · intro q
    by_cases z : m2 38 (10 * s + n) = 0
    · exact z
    · exact absurd q (i2 z)
  · intro q
    by_cases z : m 38 (10 * s + n) = 0
    · exact z
    · exact absurd q (i1 z)
