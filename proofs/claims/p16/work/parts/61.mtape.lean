/-! the reference's reset, tape, and calls that only tell -/
theorem IM_t {m m2 : Mem} {k L L2 c : Nat} {d N T P Z : Nat → Nat} {V W : Nat → Int32} (h : IM m k d N T V W L c P Z) (e : ∀ a, a ≠ 0 → a ≠ 33 → m2 a = m a) (e0 : ∀ j, j ≠ 37 → m2 0 j = m 0 j) (e7 : m2 0 37 = nI L2) : IM m2 k d N T V W L2 c P Z := by
  obtain ⟨h1, h2, h3, h4, h5, h6, h7⟩ := h
  have eM : ∀ a, a ≠ 0 → a ≠ 33 → a ≠ 40 → m2 a = m a := fun a a0 a3 _ => e a a0 a3
  refine ⟨?_, ?_, e7, SH_c (fun a a1 a2 => e a (by omega) (by omega)) (e0 7 (by decide)) h4, AC_c (e 10 (by decide) (by decide)) (e 11 (by decide) (by decide)) h5, ?_, ?_⟩
  · unfold GM
    rw [e0 0 (by decide), e 3 (by decide) (by decide), e 4 (by decide) (by decide), e 5 (by decide) (by decide)]
    exact h1
  · rw [e 1 (by decide) (by decide), e 2 (by decide) (by decide)]; exact h2
  · unfold BL at *
    rw [e 37 (by decide) (by decide), e 38 (by decide) (by decide)]
    exact h6
  · unfold RI at *
    rw [e0 6 (by decide), e 39 (by decide) (by decide)]
    rcases h7 with h | ⟨a, b⟩
    · exact Or.inl h
    · refine Or.inr ⟨fun s n hs hn hne => ?_, b⟩
      rw [e 37 (by decide) (by decide)] at hne
      have q := a s n hs hn hne
      have t : tkV m2 = tkV m := by
        funext p j sv
        unfold tkV
        rw [e 4 (by decide) (by decide), e 9 (by decide) (by decide), e 10 (by decide) (by decide), e 37 (by decide) (by decide), e 11 (by decide) (by decide), e 5 (by decide) (by decide), e 38 (by decide) (by decide), e 1 (by decide) (by decide), e 2 (by decide) (by decide), e 12 (by decide) (by decide)]
      have l : ∀ {p n : Nat} {sv y : Int32} (d : Nat), lfV m2 p n sv y d = lfV m p n sv y d := by
        intro p n sv y d
        induction d with
        | zero => rfl
        | succ d ih => unfold lfV; rw [ih, t, e 39 (by decide) (by decide)]
      have r : ∀ {s n d : Nat} {sv : Int32} (k : Nat) (a : Int32 × (Nat → Int32)), drun m2 s n sv d k a = drun m s n sv d k a := by
        intro s n d sv k
        induction k with
        | zero => intro a; rfl
        | succ k ih =>
          intro a
          unfold drun
          have hd : dstep m2 s n sv d k a = dstep m s n sv d k a := by
            unfold dstep lfx
            simp only [l, e 14 (by decide) (by decide), e 15 (by decide) (by decide), e 16 (by decide) (by decide), e 17 (by decide) (by decide), e 18 (by decide) (by decide)]
          rw [hd, ih]
      have w : ∀ {s n : Nat}, WS m2 s n = WS m s n := by
        intro s n
        unfold WS s_X7_wantedSet l_X7_wantedSet_5
        have h : ∀ a b c d, t_X7_wantedSet_5 m2 a b c d = t_X7_wantedSet_5 m a b c d := fun a b c d => by
          unfold t_X7_wantedSet_5 s_X7_isWanted l_X7_isWanted_5
          have h2 : ∀ a b c d, t_X7_isWanted_5 m2 a b c d = t_X7_isWanted_5 m a b c d := fun a b c d => by
            unfold t_X7_isWanted_5
            rw [e 8 (by decide) (by decide), e 9 (by decide) (by decide)]
          simp only [h2, e 3 (by decide) (by decide), e 4 (by decide) (by decide)]
        simp only [h]
      unfold canP DV at *
      have ed : din m2 s = din m s := by funext j; unfold din; rw [e 14 (by decide) (by decide)]
      rw [e 7 (by decide) (by decide), w, r, ed]
      exact q
theorem m_feed {m : Mem} {k L c : Nat} {d N T P Z : Nat → Nat} {V W : Nat → Int32} (h : IM m k d N T V W L c P Z) (h4 : L ≤ 400) (x y z v w : Int32) : (L + 20 ≤ 400 → ∃ m2, s_X7_feed m x y z v w = some (nI (L + 20), m2) ∧ IM m2 k d N T V W (L + 20) c P Z) ∧ (¬ L + 20 ≤ 400 → s_X7_feed m x y z v w = some (-3, m)) := by
  obtain ⟨f1, f2⟩ := X7_feed_eq (m := m) h.2.2.1 h4 x y z v w
  refine ⟨fun hl => ?_, f2⟩
  obtain ⟨m2, e, e7, eo, ej⟩ := f1 hl
  exact ⟨m2, e, IM_t h eo ej e7⟩
theorem m_end {m : Mem} {k L c : Nat} {d N T P Z : Nat → Nat} {V W : Nat → Int32} (h : IM m k d N T V W L c P Z) (h4 : L ≤ 400) (n : Int32) : (∀ q, q ≤ L → n = nI q → ∃ m2, s_X7_end m n = some (nI L, m2) ∧ IM m2 k d N T V W q c P Z) ∧ (¬ (0 ≤ n ∧ n ≤ nI L) → s_X7_end m n = some (-1, m)) := by
  refine ⟨fun q hq e => ?_, fun hn => ?_⟩
  · subst e
    refine ⟨sto m 0 37 (nI q), ?_, IM_t h (fun c c0 _ => rd_o c0) (fun j hj => rd_j hj) rd_s⟩
    unfold s_X7_end
    rw [h.2.2.1, show (0 : Int64) = (0 : Int32).toInt64 from rfl, in_i, if_pos ⟨nI_le (a := 0) (Nat.zero_le _) (by omega), nI_le hq (by omega)⟩]
    rfl
  · unfold s_X7_end
    rw [h.2.2.1, show (0 : Int64) = (0 : Int32).toInt64 from rfl, in_i, if_neg hn]
    rfl
theorem m_reset {m : Mem} {k L c : Nat} {d N T P Z : Nat → Nat} {V W : Nat → Int32} (h : IM m k d N T V W L c P Z) : ∃ m2, s_X7_reset m = some (nI k, m2) ∧ IM m2 0 d N T V W L c P Z := by
  refine ⟨sto (sto m 0 0 0) 0 6 0, by rw [← h.1.1]; rfl, IM_graph h ?_ (fun n hn => absurd hn (Nat.not_lt_zero n)) (fun a ha => by rw [rd_o (by omega), rd_o (by omega)]) (fun j j0 j6 => by rw [rd_j j6, rd_j j0]) rd_s⟩
  unfold GM
  rw [rd_j (by decide), rd_s]
  exact GXf_0
