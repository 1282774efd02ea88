/-! one call on a new object: each of the calls, on both -/
def IT : Mem → Mem → Prop := fun _ _ => True
set_option maxRecDepth 100000 in
theorem s0_a : sgX 1 0 = nI 0 ∧ sgX 1 1 = 0 ∧ sgX 0 4 = nI 11 ∧ sgX 0 6 = 0 ∧ sgX 7 1 = nI 0 ∧ sgX 11 0 = nI 0 := by decide +kernel
set_option maxRecDepth 100000 in
theorem s0_b : sgM 0 0 = nI 0 ∧ sgM 0 7 = nI 0 ∧ sgM 0 37 = nI 0 ∧ sgM 0 42 = 0 := by decide +kernel
theorem no_k0 {x : Int32} : ¬ (0 ≤ x.toInt ∧ x.toInt < ((0 : Nat) : Int)) := by omega
theorem hn0 (n : Int32) : s_X1_hasNode sgX n = some 0 := by rw [X1_hasNode_eq s0_a.1 (by decide), bb_f no_k0]
theorem hs0 (n : Int32) : s_X0_hasShape sgX 11 n = some 0 := by rw [X0_hasShape_eq s0_a.2.2.2.2.2 (by decide), bb_f no_k0]
theorem ip0 (n s : Int32) : s_X6_isPair sgX n s = some 0 := by rw [X6_isPair_eq s0_a.1 (by decide) (Or.inl rfl) s0_a.2.2.1 s0_a.2.2.2.2.2 (by decide), bb_f (fun z => no_k0 z.1)]
theorem in0 (n : Int32) : s_X7_isNode sgM n = some 0 := by rw [X7_isNode_eq s0_b.1 (by decide), bb_f no_k0]
theorem is0 (n : Int32) : s_X7_isShape sgM n = some 0 := by rw [X7_isShape_eq s0_b.2.1 (by decide), bb_f no_k0]
theorem ab0 (n s : Int32) : s_X7_areBoth sgM n s = some 0 := by rw [X7_areBoth_eq s0_b.1 (by decide) s0_b.2.1 (by decide), bb_f (fun z => no_k0 z.1)]
theorem bk0 {α : Type} (f : Nat → Option α) : zbk (sgX 0 4) f = f 11 := by rw [s0_a.2.2.1]; exact zbk_11
theorem b0 {α : Type} {k : Int32 → Option α} {x : Option α} (h : k 0 = x) : (some (0 : Int32)).bind k = x := h
theorem b0i {α : Type} {A : Option α} {B : Int32 → Option α} : ((some (0 : Int32)).bind fun r => if r = 0 then A else B r) = A := by
  show (if (0 : Int32) = 0 then A else B 0) = A
  exact if_pos rfl
theorem p1_node : Hc_node True IT sgX sgM := by
  intro z v _
  exact ⟨_, _, _, _, (X6_node_eq s0_a.1 (by decide)).1 (by decide), (X7_node_eq s0_b.1 (by decide)).1 (by decide), fun _ => rfl, trivial⟩
theorem p1_value : Hc_value True IT sgX sgM := by
  intro a b c _
  refine ⟨-1, sgX, -1, sgM, ?_, ?_, fun _ => rfl, trivial⟩
  · unfold s_X6_value; rw [hn0]; exact b0i
  · unfold s_X7_value; rw [in0]; exact b0i
theorem p1_edge : Hc_edge True IT sgX sgM := by
  intro a b c
  refine ⟨-1, sgX, -1, sgM, ?_, ?_, fun _ => rfl, trivial⟩
  · unfold s_X6_edge s_X1_canBeEdge; rw [hn0]; simp only [Option.bind_some, if_true]
  · unfold s_X7_edge; rw [in0]; exact b0i
theorem p1_cut : Hc_cut True IT sgX sgM := by
  intro a b c
  refine ⟨-1, sgX, -1, sgM, ?_, ?_, fun _ => rfl, trivial⟩
  · unfold s_X6_cut s_X1_canBeEdge; rw [hn0]; simp only [Option.bind_some, if_true]
  · unfold s_X7_cut; rw [in0]; exact b0i
theorem p1_feed : Hc_feed True IT sgX sgM := by
  intro a b c d e
  obtain ⟨m1, e1, -⟩ := (X6_feed_eq s0_a.2.2.2.2.1 (by decide) a b c d e).1 (by decide)
  obtain ⟨m2, e2, -⟩ := (X7_feed_eq s0_b.2.2.1 (by decide) a b c d e).1 (by decide)
  exact ⟨_, _, _, _, e1, e2, fun _ => rfl, trivial⟩
theorem p1_end : Hc_end True IT sgX sgM := by
  intro n
  have h7 : s_X7_in n.toInt64 0 (sgM 0 37).toInt64 = some (bb (0 ≤ n ∧ n ≤ 0)) := by
    rw [s0_b.2.2.1]
    exact in_i n 0 0
  by_cases h1 : n < 0
  · refine ⟨-1, sgX, -1, sgM, ?_, ?_, fun _ => rfl, trivial⟩
    · unfold s_X6_end; rw [if_pos h1]
    · unfold s_X7_end; rw [h7, bb_f (fun z => absurd h1 (Int32.not_lt.mpr z.1))]; exact b0i
  · have h1' := Int32.not_lt.mp h1
    by_cases h2 : n ≤ 0
    · refine ⟨0, sto sgX 7 1 n, 0, sto sgM 0 37 n, ?_, ?_, fun _ => rfl, trivial⟩
      · unfold s_X6_end
        rw [if_neg h1, s0_a.2.2.2.2.1, if_pos (show n ≤ nI 0 from h2)]
        rfl
      · unfold s_X7_end
        rw [h7, bb_t ⟨h1', h2⟩, s0_b.2.2.1]
        rfl
    · refine ⟨-1, sgX, -1, sgM, ?_, ?_, fun _ => rfl, trivial⟩
      · unfold s_X6_end; rw [if_neg h1, s0_a.2.2.2.2.1, if_neg (show ¬ n ≤ nI 0 from h2)]
      · unfold s_X7_end; rw [h7, bb_f (fun z => h2 z.2)]; exact b0i
set_option maxRecDepth 100000 in
theorem sh_a : (s_X6_shapes sgX).map (fun q => q.1) = some (-10) := by decide +kernel
set_option maxRecDepth 100000 in
theorem sh_b : (s_X7_shapes sgM).map (fun q => q.1) = some (-10) := by decide +kernel
theorem p1_shapes : Hc_shapes True IT sgX sgM := by
  obtain ⟨m1, e1⟩ := of_map1 sh_a
  obtain ⟨m2, e2⟩ := of_map1 sh_b
  exact ⟨_, _, _, _, e1, e2, fun _ => rfl, trivial⟩
theorem p1_fault : Hc_fault True IT sgX sgM := ⟨0, sgX, 0, sgM, by unfold s_X6_fault; rw [s0_a.2.2.2.1], by unfold s_X7_fault; rw [s0_b.2.2.2], rfl, rfl, fun _ => rfl, trivial⟩
theorem p1_fits : Hc_fits True IT sgX sgM := by
  intro a b
  refine ⟨-1, sgX, -1, sgM, ?_, ?_, fun _ => rfl, trivial⟩
  · unfold s_X6_fits; rw [ip0]; exact b0i
  · unfold s_X7_fits; rw [ab0]; exact b0i
theorem p1_surely : Hc_surely True IT sgX sgM := by
  intro a b
  refine ⟨-1, sgX, -1, sgM, ?_, ?_, fun _ => rfl, trivial⟩
  · unfold s_X6_surely; rw [ip0]; exact b0i
  · unfold s_X7_surely; rw [ab0]; exact b0i
theorem p1_all : Hc_all True IT sgX sgM := by
  intro a
  refine ⟨-1, sgX, -1, sgM, ?_, ?_, fun _ => rfl, trivial⟩
  · unfold s_X6_all; rw [bk0, hs0]; exact b0i
  · unfold s_X7_all; rw [is0]; exact b0i
theorem p1_wanted : Hc_wanted True IT sgX sgM := by
  intro a b
  refine ⟨-1, sgX, -1, sgM, ?_, ?_, rfl, rfl, fun _ => rfl, trivial⟩
  · unfold s_X6_wanted; rw [ip0]; exact b0i
  · unfold s_X7_wanted; rw [ab0]; exact b0i
theorem p1_dealt : Hc_dealt True IT sgX sgM := by
  intro a b c
  refine ⟨-1, sgX, -1, sgM, ?_, ?_, fun _ => rfl, trivial⟩
  · unfold s_X6_dealt; rw [ip0]; exact b0i
  · unfold s_X7_dealt; rw [ab0]; exact b0i
theorem p1_tooMany : Hc_tooMany True IT sgX sgM := by
  intro a b
  refine ⟨-1, sgX, -1, sgM, ?_, ?_, fun _ => rfl, trivial⟩
  · unfold s_X6_tooMany; rw [ip0]; exact b0i
  · unfold s_X7_tooMany; rw [ab0]; exact b0i
theorem p1_which : Hc_which True IT sgX sgM := by
  intro a b
  refine ⟨-1, sgX, -1, sgM, ?_, ?_, fun _ => rfl, trivial⟩
  · unfold s_X6_which; rw [ip0]; exact b0i
  · unfold s_X7_which; rw [ab0]; exact b0i
theorem p1_depends : Hc_depends True IT sgX sgM := by
  intro a b
  refine ⟨-1, sgX, -1, sgM, ?_, ?_, rfl, fun _ => rfl, trivial⟩
  · unfold s_X6_depends; rw [bk0, hs0]; exact b0i
  · unfold s_X7_depends; rw [is0]; exact b0i
theorem p1_part : Hc_part True IT sgX sgM := by
  intro a b c
  refine ⟨-1, sgX, -1, sgM, ?_, ?_, rfl, rfl, fun _ => rfl, trivial⟩
  · unfold s_X6_part s_X0_hasPart; rw [bk0, hs0]; simp only [Option.bind_some, if_true]
  · unfold s_X7_part; rw [is0]; exact b0i
theorem p1_told : Hc_told True IT sgX sgM := by
  intro a b
  refine ⟨-1, sgX, -1, sgM, ?_, ?_, rfl, rfl, fun _ => rfl, trivial⟩
  · unfold s_X6_told; rw [bk0, hs0]; exact b0i
  · unfold s_X7_told; rw [is0]; exact b0i
theorem p1_from : Hc_from True IT sgX sgM := by
  intro a b c
  refine ⟨-1, sgX, -1, sgM, ?_, ?_, rfl, rfl, fun _ => rfl, trivial⟩
  · unfold s_X6_from; rw [hn0]; exact b0i
  · unfold s_X7_from; rw [in0]; exact b0i
set_option maxRecDepth 100000 in
theorem re_a : (s_X6_reset sgX).map (fun q => q.1) = some 0 := by decide +kernel
set_option maxRecDepth 100000 in
theorem re_b : (s_X7_reset sgM).map (fun q => q.1) = some 0 := by decide +kernel
theorem p1_reset : Hc_reset True IT sgX sgM := by
  obtain ⟨m1, e1⟩ := of_map1 re_a
  obtain ⟨m2, e2⟩ := of_map1 re_b
  exact ⟨_, _, _, _, e1, e2, fun _ => rfl, trivial⟩
set_option maxRecDepth 100000 in
theorem co_a : (∀ v ∈ ([0, 1, 2, 3, 4, 5] : List Int32), (s_X6_count sgX v).map (fun q => q.1) = some 0) := by decide +kernel
set_option maxRecDepth 100000 in
theorem co_b : (∀ v ∈ ([0, 1, 2, 3, 4, 5] : List Int32), (s_X7_count sgM v).map (fun q => q.1) = some 0) ∧ (s_X7_count sgM 6).map (fun q => q.1) = some (-1) := by decide +kernel
theorem co_n {v : Int32} (h0 : ¬ v = 0) (h1 : ¬ v = 1) (h2 : ¬ v = 2) (h3 : ¬ v = 3) (h4 : ¬ v = 4) (h5 : ¬ v = 5) : s_X7_count sgM v = s_X7_count sgM 6 := by
  unfold s_X7_count
  simp only [if_neg h0, if_neg h1, if_neg h2, if_neg h3, if_neg h4, if_neg h5, if_neg (show ¬ (6 : Int32) = 0 by decide), if_neg (show ¬ (6 : Int32) = 1 by decide), if_neg (show ¬ (6 : Int32) = 2 by decide), if_neg (show ¬ (6 : Int32) = 3 by decide), if_neg (show ¬ (6 : Int32) = 4 by decide), if_neg (show ¬ (6 : Int32) = 5 by decide)]
theorem p1_count : Hc_count True IT sgX sgM := by
  intro v
  by_cases hv : v ∈ ([0, 1, 2, 3, 4, 5] : List Int32)
  · obtain ⟨m1, e1⟩ := of_map1 (co_a v hv)
    obtain ⟨m2, e2⟩ := of_map1 (co_b.1 v hv)
    exact ⟨_, _, _, _, e1, e2, fun _ => rfl, trivial⟩
  · have h0 : ¬ v = 0 := fun e => hv (by rw [e]; decide)
    have h1 : ¬ v = 1 := fun e => hv (by rw [e]; decide)
    have h2 : ¬ v = 2 := fun e => hv (by rw [e]; decide)
    have h3 : ¬ v = 3 := fun e => hv (by rw [e]; decide)
    have h4 : ¬ v = 4 := fun e => hv (by rw [e]; decide)
    have h5 : ¬ v = 5 := fun e => hv (by rw [e]; decide)
    obtain ⟨m2, e2⟩ := of_map1 co_b.2
    refine ⟨-1, sgX, -1, m2, ?_, by rw [co_n h0 h1 h2 h3 h4 h5]; exact e2, fun _ => rfl, trivial⟩
    unfold s_X6_count
    rw [if_neg h0, if_neg h1, if_neg h2, if_neg h3, if_neg h4, if_neg h5]
theorem p1_all_calls : Hall IT sgX sgM := ⟨p1_node, p1_value, p1_edge, p1_cut, p1_feed, p1_end, p1_shapes, p1_fault, p1_fits, p1_surely, p1_all, p1_wanted, p1_dealt, p1_tooMany, p1_which, p1_depends, p1_part, p1_told, p1_from, p1_reset, p1_count⟩
theorem pure_ok : lw_pure := by
  intro L xs hL
  rw [show FU = 999998 + 1 + 1 from rfl]
  by_cases h6 : L = 6
  · subst h6
    obtain ⟨mx2, mm2, h, -⟩ := lw_step (I := IT) (xs := xs) (L := 6) (i := 0) (by decide) (by decide) (by decide) (by decide) (by decide) (by decide) (by decide) p1_all_calls trivial
    rw [lw_on h]
    exact lw_exit (by decide)
  · refine lw_exit ?_
    rcases (show L = 0 ∨ L = 1 ∨ L = 2 ∨ L = 3 ∨ L = 4 ∨ L = 5 by omega) with rfl | rfl | rfl | rfl | rfl | rfl <;> decide
