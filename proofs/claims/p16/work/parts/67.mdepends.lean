/-! what the reading looks at -/
theorem canP_g {m m2 : Mem} (e : ∀ a, 0 < a → a < 19 → m2 a = m a) (e7 : m2 37 = m 37) (e8 : m2 38 = m 38) (e9 : m2 39 = m 39) {s n d z : Nat} {sv : Int32} : canP m2 s n d z sv ↔ canP m s n d z sv := by
  have t : tkV m2 = tkV m := by
    funext p j sv
    unfold tkV
    rw [e 4 (by decide) (by decide), e 9 (by decide) (by decide), e 10 (by decide) (by decide), e7, e 11 (by decide) (by decide), e 5 (by decide) (by decide), e8, e 1 (by decide) (by decide), e 2 (by decide) (by decide), e 12 (by decide) (by decide)]
  have l : ∀ {p n : Nat} {sv y : Int32} (d : Nat), lfV m2 p n sv y d = lfV m p n sv y d := by
    intro p n sv y d
    induction d with
    | zero => rfl
    | succ d ih => unfold lfV; rw [ih, t, e9]
  have r : ∀ {s n d : Nat} {sv : Int32} (k : Nat) (a : Int32 × (Nat → Int32)), drun m2 s n sv d k a = drun m s n sv d k a := by
    intro s n d sv k
    induction k with
    | zero => intro a; rfl
    | succ k ih =>
      intro a
      unfold drun
      have hd : dstep m2 s n sv d k a = dstep m s n sv d k a := by
        unfold dstep lfx
        simp only [l, e 14 (by decide) (by decide), e 15 (by decide) (by decide), e 16 (by decide) (by decide), e 17 (by decide) (by decide), e 18 (by decide) (by decide)]
      rw [hd, ih]
  have w : WS m2 s n = WS m s n := by
    unfold WS s_X7_wantedSet l_X7_wantedSet_5
    have h : ∀ a b c d, t_X7_wantedSet_5 m2 a b c d = t_X7_wantedSet_5 m a b c d := fun a b c d => by
      unfold t_X7_wantedSet_5 s_X7_isWanted l_X7_isWanted_5
      have h2 : ∀ a b c d, t_X7_isWanted_5 m2 a b c d = t_X7_isWanted_5 m a b c d := fun a b c d => by
        unfold t_X7_isWanted_5
        rw [e 8 (by decide) (by decide), e 9 (by decide) (by decide)]
      simp only [h2, e 3 (by decide) (by decide), e 4 (by decide) (by decide)]
    simp only [h]
  unfold canP DV
  have ed : din m2 s = din m s := by funext j; unfold din; rw [e 14 (by decide) (by decide)]
  rw [e 7 (by decide) (by decide), w, r, ed]
/-! the reference's depends -/
theorem m_depends {m : Mem} {k L c : Nat} {d N T P Z : Nat → Nat} {V W : Nat → Int32} (h : IM m k d N T V W L c P Z) (s t : Int32) : ∃ q, s_X7_depends m s t = some q ∧ IM q.2 k d N T V W L c P Z := by
  have hS := h.2.2.2.1
  have hc6 := hS.2.1
  unfold s_X7_depends
  rw [X7_isShape_eq hS.1 hc6, X7_isShape_eq hS.1 hc6]
  simp only [bind_s, if_bb]
  refine ex_if (fun z1 => ex_if (fun z2 => ?_) (fun _ => ex_s h)) (fun _ => ex_s h)
  obtain ⟨a, ha, rfl, ea⟩ := int_nI z1.1
  obtain ⟨b, hb, rfl, eb⟩ := int_nI z2.1
  refine ex_b (findLeads_0 (P := P) hc6 hS.1 (fun s hs => (hS.2.2 s hs).1)) (fun m6 h6 => ?_)
  have hI : IM m6 k d N T V W L c P Z := by
    obtain ⟨h1, h2, h3, h4, h5, h6', h7⟩ := h
    have e := h6.1
    refine ⟨?_, ?_, by rw [e 0 (by decide)]; exact h3, SH_c (fun a a1 a2 => e a (by omega)) (by rw [e 0 (by decide)]) h4, AC_c (e 10 (by decide)) (e 11 (by decide)) h5, ?_, ?_⟩
    · unfold GM
      rw [e 0 (by decide), e 3 (by decide), e 4 (by decide), e 5 (by decide)]
      exact h1
    · rw [e 1 (by decide), e 2 (by decide)]; exact h2
    · unfold BL at *
      rw [e 37 (by decide), e 38 (by decide)]
      exact h6'
    · unfold RI at *
      rw [e 0 (by decide), e 39 (by decide)]
      rcases h7 with h | ⟨a, b⟩
      · exact Or.inl h
      · refine Or.inr ⟨fun s n hs hn hne => ?_, b⟩
        rw [e 37 (by decide)] at hne
        rw [canP_g (fun a _ a2 => e a (by omega)) (e 37 (by decide)) (e 38 (by decide)) (e 39 (by decide))]
        exact a s n hs hn hne
  rw [p6]
  exact ex_ck (zin_nI (by omega) (by decide)) (ex_if (fun _ => ex_s hI) (fun _ => ex_s hI))
