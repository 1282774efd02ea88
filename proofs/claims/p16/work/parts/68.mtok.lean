/-! the reference's reading of a text: one token -/
def fl (m : Mem) (x y : Int32) : Mem := if m 0 42 = 0 then sto (sto m 0 42 x) 0 43 y else m
theorem fails_eq (m : Mem) (x y : Int32) : s_X7_fails m x y = some (fl m x y) := by
  unfold s_X7_fails fl
  by_cases h : m 0 42 = 0
  · rw [if_pos h, if_pos h]; rfl
  · rw [if_neg h, if_neg h]
theorem fl_c {m : Mem} {x y : Int32} {c : Nat} (h : c ≠ 0) : fl m x y c = m c := by
  unfold fl
  by_cases e : m 0 42 = 0
  · rw [if_pos e, rd_o h, rd_o h]
  · rw [if_neg e]
theorem fl_j {m : Mem} {x y : Int32} {j : Nat} (h : j ≠ 42) (h2 : j ≠ 43) : fl m x y 0 j = m 0 j := by
  unfold fl
  by_cases e : m 0 42 = 0
  · rw [if_pos e, rd_j h2, rd_j h]
  · rw [if_neg e]
theorem fl_p {m : Mem} {x y : Int32} (h : 0 < x) (g : 0 ≤ m 0 42) : 0 ≤ fl m x y 0 42 := by
  unfold fl
  by_cases e : m 0 42 = 0
  · rw [if_pos e, rd_j (by decide), rd_s]; exact Int32.le_of_lt h
  · rw [if_neg e]; exact g
theorem fl_b {m : Mem} {x y : Int32} (h0 : 0 < x) : ¬ fl m x y 0 42 = 0 := by
  have h : ¬ x = 0 := fun z => by rw [z] at h0; exact Int32.lt_irrefl h0
  unfold fl
  by_cases e : m 0 42 = 0
  · rw [if_pos e, rd_j (by decide), rd_s]; exact h
  · rw [if_neg e]; exact e
def tf (m m2 : Mem) : Prop := (∀ c, c ≠ 0 → m2 c = m c) ∧ (∀ j, j < 38 ∨ 44 < j → m2 0 j = m 0 j) ∧ (¬ m 0 42 = 0 → ¬ m2 0 42 = 0)
theorem tf_r {m : Mem} : tf m m := ⟨fun _ _ => rfl, fun _ _ => rfl, id⟩
theorem tf_t {a b c : Mem} (h : tf a b) (g : tf b c) : tf a c := ⟨fun q hq => (g.1 q hq).trans (h.1 q hq), fun j hj => (g.2.1 j hj).trans (h.2.1 j hj), fun z => g.2.2 (h.2.2 z)⟩
def TA (m : Mem) (L : Nat) : Prop := L ≤ 400 ∧ m 0 37 = nI L ∧ 0 ≤ m 0 42 ∧ ∃ a, m 0 38 = nI a ∧ a ≤ L + 6
def mu (m : Mem) : Nat := if m 0 42 = 0 then (if m 0 40 = 0 then 1 else 2 + (410 - ix (m 0 38))) else 0
theorem mu_b {m : Mem} (h : ¬ m 0 42 = 0) : mu m = 0 := if_neg h
theorem mu_le {m : Mem} : mu m ≤ 412 := by
  unfold mu
  split
  · split <;> omega
  · omega
theorem mu_2 {m : Mem} (h : m 0 42 = 0) (g : ¬ m 0 40 = 0) : mu m = 2 + (410 - ix (m 0 38)) := by
  unfold mu
  rw [if_pos h, if_neg g]
theorem mu_1 {m : Mem} (h : m 0 42 = 0) : 1 ≤ mu m := by
  unfold mu
  rw [if_pos h]
  split <;> omega
theorem mu_p {m : Mem} (h : 2 ≤ mu m) : m 0 42 = 0 ∧ ¬ m 0 40 = 0 := by
  by_cases e : m 0 42 = 0
  · refine ⟨e, fun g => ?_⟩
    unfold mu at h
    rw [if_pos e, if_pos g] at h
    omega
  · rw [mu_b e] at h; omega
theorem mu_same {m m2 : Mem} (a : m2 0 42 = m 0 42) (b : m2 0 40 = m 0 40) (c : m2 0 38 = m 0 38) : mu m2 = mu m := by
  unfold mu
  rw [a, b, c]
theorem fl_tf {m : Mem} {x y : Int32} (h : 0 < x) : tf m (fl m x y) := ⟨fun _ hc => fl_c hc, fun j hj => fl_j (by omega) (by omega), fun _ => fl_b h⟩
theorem fl_TA {m : Mem} {L : Nat} {x y : Int32} (hx : 0 < x) (h : TA m L) : TA (fl m x y) L := by
  obtain ⟨h1, h2, h0, a, h3, h6⟩ := h
  exact ⟨h1, by rw [fl_j (by decide) (by decide)]; exact h2, fl_p hx h0, a, by rw [fl_j (by decide) (by decide)]; exact h3, h6⟩
def NX (m : Mem) (L : Nat) (m2 : Mem) : Prop := TA m2 L ∧ tf m m2 ∧ (2 ≤ mu m → mu m2 < mu m)
def Gt (m m2 : Mem) (b f : Nat) : Prop := (∀ c, c ≠ 0 → m2 c = m c) ∧ (∀ j, j < 38 ∨ 44 < j ∨ j = 42 ∨ j = 43 → m2 0 j = m 0 j) ∧ m2 0 38 = nI b ∧ m2 0 39 = nI f
theorem Gt_4 {m m2 : Mem} {b f j : Nat} {x : Int32} (h : Gt m m2 b f) (hj : j = 40 ∨ j = 41 ∨ j = 44) : Gt m (sto m2 0 j x) b f := by
  obtain ⟨h1, h2, h3, h4⟩ := h
  refine ⟨fun c hc => by rw [rd_o hc]; exact h1 c hc, fun i hi => by rw [rd_j (by omega)]; exact h2 i hi, by rw [rd_j (by omega)]; exact h3, by rw [rd_j (by omega)]; exact h4⟩
theorem Gt_8 {m m2 : Mem} {b f e : Nat} {x : Int32} (h : Gt m m2 b f) (hx : x = nI e) : Gt m (sto m2 0 38 ((m2 0 38) + x)) (b + e) f := by
  obtain ⟨h1, h2, h3, h4⟩ := h
  refine ⟨fun c hc => by rw [rd_o hc]; exact h1 c hc, fun i hi => by rw [rd_j (by omega)]; exact h2 i hi, by rw [rd_s, h3, hx, nI_add], by rw [rd_j (by omega)]; exact h4⟩
theorem nx_ok {m m2 : Mem} {L a b f : Nat} (hL : L ≤ 400) (h37 : m 0 37 = nI L) (h38 : m 0 38 = nI a) (h42 : 0 ≤ m 0 42) (g : Gt m m2 b f) (hb : b ≤ L + 6) (ab : a ≤ b) (hx : m2 0 40 = 0 ∨ a < b) : NX m L m2 := by
  obtain ⟨g1, g2, g3, g4⟩ := g
  refine ⟨⟨hL, by rw [g2 37 (by omega)]; exact h37, by rw [g2 42 (by omega)]; exact h42, b, g3, hb⟩, ⟨g1, fun j hj => g2 j (by omega), fun z => by rw [g2 42 (by omega)]; exact z⟩, fun h => ?_⟩
  obtain ⟨z1, z2⟩ := mu_p h
  by_cases e : m2 0 40 = 0
  · have : mu m2 = 1 := by
      unfold mu
      rw [g2 42 (by omega), if_pos z1, if_pos e]
    omega
  · rw [mu_2 z1 z2, mu_2 (by rw [g2 42 (by omega)]; exact z1) e, h38, g3, ix_n (by omega), ix_n (by omega)]
    have := hx.resolve_left e
    omega
theorem nx_fl {m m2 : Mem} {L b f : Nat} {x y : Int32} (hL : L ≤ 400) (h37 : m 0 37 = nI L) (h42 : 0 ≤ m 0 42) (g : Gt m m2 b f) (hb : b ≤ L + 6) (hx : 0 < x) : NX m L (fl m2 x y) := by
  obtain ⟨g1, g2, g3, g4⟩ := g
  have t : TA m2 L := ⟨hL, by rw [g2 37 (by omega)]; exact h37, by rw [g2 42 (by omega)]; exact h42, b, g3, hb⟩
  refine ⟨fl_TA hx t, tf_t ⟨g1, fun j hj => g2 j (by omega), fun z => by rw [g2 42 (by omega)]; exact z⟩ (fl_tf hx), fun h => ?_⟩
  rw [mu_b (fl_b hx)]
  omega
theorem look_eq {m : Mem} {L p : Nat} (hL : L ≤ 400) (h37 : m 0 37 = nI L) (hp : p ≤ 1000) : ∃ r, s_X7_look m (nI p) = some r ∧ (r = -1 ∨ p < L) := by
  unfold s_X7_look
  rw [h37]
  refine ex_if (fun _ => ex_s (Or.inl rfl)) (fun h => ?_)
  have h2 : p < L := by
    rcases Nat.lt_or_ge p L with q | q
    · exact q
    · exact absurd (nI_le q (by omega)) h
  exact ex_ck (zin_nI (by omega) (by decide)) (ex_s (Or.inr h2))
theorem skip_eq {m : Mem} {L a : Nat} (hL : L ≤ 400) (h37 : m 0 37 = nI L) (h38 : m 0 38 = nI a) (ha : a ≤ L + 6) : ∃ m2, l_X7_next_0 FU m = some m2 ∧ (∀ c, c ≠ 0 → m2 c = m c) ∧ (∀ j, j ≠ 38 → m2 0 j = m 0 j) ∧ ∃ b, m2 0 38 = nI b ∧ a ≤ b ∧ b ≤ L + 6 := by
  unfold l_X7_next_0
  refine zlp_run (fun (m2 : Mem) => (∀ c, c ≠ 0 → m2 c = m c) ∧ (∀ j, j ≠ 38 → m2 0 j = m 0 j) ∧ ∃ b, m2 0 38 = nI b ∧ a ≤ b ∧ b ≤ L + 6) _ (fun (m2 : Mem) => 410 - ix (m2 0 38)) (fun m2 h => ?_) FU m ⟨fun _ _ => rfl, fun _ _ => rfl, a, h38, Nat.le_refl _, ha⟩ (FU_lt (by omega))
  obtain ⟨h1, h2, b, h3, h4, h5⟩ := h
  unfold t_X7_next_0
  rw [h3]
  obtain ⟨r, er, hr⟩ := look_eq (m := m2) (L := L) (p := b) hL (by rw [h2 37 (by decide)]; exact h37) (by omega)
  rw [er, bind_s]
  by_cases e : r = 32
  · have hb : b < L := hr.resolve_left (fun z => by rw [z] at e; exact absurd e (by decide))
    rw [if_pos e, nI_s1]
    refine Or.inr ⟨_, rfl, ⟨fun c hc => by rw [rd_o hc]; exact h1 c hc, fun j hj => by rw [rd_j hj]; exact h2 j hj, b + 1, rd_s, by omega, by omega⟩, ?_⟩
    rw [rd_s, ix_n (by omega), ix_n (by omega)]
    omega
  · rw [if_neg e]
    exact Or.inl ⟨_, rfl, h1, h2, b, h3, h4, h5⟩
theorem in_m1 : s_X7_in ((-1 : Int32).toInt64) 48 57 = some 0 := by decide +kernel
theorem digits_eq {m : Mem} {L a : Nat} {x : Int32} (hL : L ≤ 400) (h37 : m 0 37 = nI L) (h38 : m 0 38 = nI a) (ha : a ≤ L + 6) : ∃ m2, l_X7_next_147 x FU m = some m2 ∧ (∀ c, c ≠ 0 → m2 c = m c) ∧ (∀ j, j ≠ 38 → j ≠ 41 → m2 0 j = m 0 j) ∧ ∃ b, m2 0 38 = nI b ∧ a ≤ b ∧ b ≤ L + 6 := by
  unfold l_X7_next_147
  refine zlp_run (fun (m2 : Mem) => (∀ c, c ≠ 0 → m2 c = m c) ∧ (∀ j, j ≠ 38 → j ≠ 41 → m2 0 j = m 0 j) ∧ ∃ b, m2 0 38 = nI b ∧ a ≤ b ∧ b ≤ L + 6) _ (fun (m2 : Mem) => 410 - ix (m2 0 38)) (fun m2 h => ?_) FU m ⟨fun _ _ => rfl, fun _ _ _ => rfl, a, h38, Nat.le_refl _, ha⟩ (FU_lt (by omega))
  obtain ⟨h1, h2, b, h3, h4, h5⟩ := h
  unfold t_X7_next_147
  rw [h3]
  obtain ⟨r, er, hr⟩ := look_eq (m := m2) (L := L) (p := b) hL (by rw [h2 37 (by decide) (by decide)]; exact h37) (by omega)
  rw [er, bind_s]
  have nx : ∀ {v : Int32}, b < L → ((∀ c, c ≠ 0 → (sto (sto m2 0 41 v) 0 38 (((sto m2 0 41 v) 0 38) + 1)) c = m c) ∧ (∀ j, j ≠ 38 → j ≠ 41 → (sto (sto m2 0 41 v) 0 38 (((sto m2 0 41 v) 0 38) + 1)) 0 j = m 0 j) ∧ ∃ b, (sto (sto m2 0 41 v) 0 38 (((sto m2 0 41 v) 0 38) + 1)) 0 38 = nI b ∧ a ≤ b ∧ b ≤ L + 6) ∧ 410 - ix ((sto (sto m2 0 41 v) 0 38 (((sto m2 0 41 v) 0 38) + 1)) 0 38) < 410 - ix (nI b) := fun {v} hb => by
    have e : ((sto m2 0 41 v) 0 38) + 1 = nI (b + 1) := by rw [rd_j (by decide), h3, nI_s1]
    rw [e]
    refine ⟨⟨fun c hc => by rw [rd_o hc, rd_o hc]; exact h1 c hc, fun j hj hj2 => by rw [rd_j hj, rd_j hj2]; exact h2 j hj hj2, b + 1, rd_s, by omega, by omega⟩, ?_⟩
    rw [rd_s, ix_n (by omega), ix_n (by omega)]
    omega
  rcases hr with rfl | hb
  · rw [in_m1, bind_s, if_pos rfl]
    exact Or.inl ⟨_, rfl, h1, h2, b, h3, h4, h5⟩
  · obtain ⟨r2, e2⟩ : ∃ r2, s_X7_in r.toInt64 48 57 = some r2 := ⟨_, in_spec _ _ _⟩
    rw [e2, bind_s]
    by_cases e : r2 = 0
    · rw [if_pos e]
      exact Or.inl ⟨_, rfl, h1, h2, b, h3, h4, h5⟩
    · rw [if_neg e]
      by_cases e4 : 4 ≤ nI b - x
      · rw [if_pos e4]
        exact Or.inr ⟨_, rfl, nx hb⟩
      · rw [if_neg e4, bind_s]
        exact Or.inr ⟨_, rfl, nx hb⟩
theorem digits2 (x : Int32) (m : Mem) : l_X7_next_147_2 x FU m = l_X7_next_147 x FU m := by
  have e : t_X7_next_147_2 = t_X7_next_147 := rfl
  unfold l_X7_next_147_2 l_X7_next_147
  rw [e]
theorem sign_ex (x : Int32) : ∃ r, s_X7_isSign x = some r ∧ True := by
  unfold s_X7_isSign
  repeat' (first | exact ex_s trivial | refine ex_if (fun _ => ?_) (fun _ => ?_))
theorem closed_ex {m : Mem} {L f : Nat} (hL : L ≤ 400) (h37 : m 0 37 = nI L) (h39 : m 0 39 = nI f) (hf : f ≤ L + 6) : ∃ r, s_X7_isClosed m = some r ∧ True := by
  unfold s_X7_isClosed
  rw [h39, show (1 : Int32) = nI 1 from rfl, show (2 : Int32) = nI 2 from rfl, show (3 : Int32) = nI 3 from rfl, show (4 : Int32) = nI 4 from rfl, show (5 : Int32) = nI 5 from rfl, nI_add, nI_add, nI_add, nI_add, nI_add]
  have lk : ∀ p, p ≤ 1000 → ∃ r, s_X7_look m (nI p) = some r ∧ True := fun p hp => by
    obtain ⟨r, e, -⟩ := look_eq hL h37 hp
    exact ⟨r, e, trivial⟩
  refine ex_if (fun _ => ex_b (lk _ (by omega)) (fun _ _ => ex_if (fun _ => ex_b (lk _ (by omega)) (fun _ _ => ex_if (fun _ => ex_b (lk _ (by omega)) (fun _ _ => ex_if (fun _ => ex_b (lk _ (by omega)) (fun _ _ => ex_if (fun _ => ex_b (lk _ (by omega)) (fun _ _ => ex_if (fun _ => ex_b (lk _ (by omega)) (fun _ _ => ex_if (fun _ => ex_s trivial) (fun _ => ex_s trivial))) (fun _ => ex_s trivial))) (fun _ => ex_s trivial))) (fun _ => ex_s trivial))) (fun _ => ex_s trivial))) (fun _ => ex_s trivial))) (fun _ => ex_s trivial)
