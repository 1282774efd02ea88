/-! the reference's memory, as far as a reading looks at it -/
def nrm (m : Mem) (P : Nat → Nat) : Mem := fun a => if 1 ≤ a ∧ a ≤ 18 then m a else if a = 0 then (fun j => if j = 0 ∨ j = 7 then m 0 j else 0) else if a = 37 ∨ a = 38 then m a else if a = 39 then (fun _ => -4) else if a = 41 then (fun s => nI (Jr m P 6 s)) else (fun _ => 0)
theorem nrm_a {m : Mem} {P : Nat → Nat} {a : Nat} (h : 1 ≤ a ∧ a ≤ 18) : nrm m P a = m a := if_pos h
theorem nrm_0 {m : Mem} {P : Nat → Nat} {j : Nat} (h : j = 0 ∨ j = 7) : nrm m P 0 j = m 0 j := if_pos h
theorem nrm_3 {m : Mem} {P : Nat → Nat} {a : Nat} (h : a = 37 ∨ a = 38) : nrm m P a = m a := by
  unfold nrm
  rw [if_neg (by omega), if_neg (by omega), if_pos h]
theorem nrm_39 {m : Mem} {P : Nat → Nat} {j : Nat} : nrm m P 39 j = -4 := rfl
theorem nrm_41 {m : Mem} {P : Nat → Nat} {j : Nat} : nrm m P 41 j = nI (Jr m P 6 j) := rfl
/-- two memories with the same nodes, edges and shapes -/
theorem nrm_e {m m2 : Mem} {P : Nat → Nat} (e : ∀ a, 1 ≤ a → a ≤ 18 → m2 a = m a) (e0 : m2 0 0 = m 0 0) (e7 : m2 0 7 = m 0 7) : ∀ a, a ≠ 37 → a ≠ 38 → nrm m2 P a = nrm m P a := fun a a1 a2 => by
  unfold nrm
  by_cases h1 : 1 ≤ a ∧ a ≤ 18
  · rw [if_pos h1, if_pos h1, e a h1.1 h1.2]
  · rw [if_neg h1, if_neg h1]
    by_cases h2 : a = 0
    · rw [if_pos h2, if_pos h2]
      funext j
      by_cases h3 : j = 0 ∨ j = 7
      · rw [if_pos h3, if_pos h3]
        rcases h3 with h | h
        · rw [h]; exact e0
        · rw [h]; exact e7
      · rw [if_neg h3, if_neg h3]
    · have h3 : ¬ (a = 37 ∨ a = 38) := by omega
      rw [if_neg h2, if_neg h2, if_neg h3, if_neg h3]
      by_cases h4 : a = 39
      · rw [if_pos h4, if_pos h4]
      · rw [if_neg h4, if_neg h4]
        by_cases h5 : a = 41
        · rw [if_pos h5, if_pos h5, Jr_e (e 10 (by decide) (by decide)) (e 11 (by decide) (by decide))]
        · rw [if_neg h5, if_neg h5]
theorem nrm_img {mx mm : Mem} {P : Nat → Nat} : ∀ a, a ≠ 37 → a ≠ 38 → nrm (img mx mm) P a = nrm mm P a := nrm_e (fun a a1 a2 => img_o (by omega) (by omega)) (by rw [img_o (by decide) (by decide)]) (by rw [img_o (by decide) (by decide)])
theorem img_nrm {mx mm : Mem} {P : Nat → Nat} : img mx (nrm mm P) = nrm (img mx mm) P := by
  funext a
  by_cases h1 : a = 37
  · rw [nrm_3 (Or.inl h1)]
    subst h1
    rfl
  · by_cases h2 : a = 38
    · rw [nrm_3 (Or.inr h2)]
      subst h2
      rfl
    · rw [img_o h1 h2, nrm_img a h1 h2]
theorem SH_n {m : Mem} {c : Nat} {P Z P2 : Nat → Nat} (h : SH m c P Z) : SH (nrm m P2) c P Z := by
  obtain ⟨h1, h2, h3⟩ := h
  refine ⟨by rw [nrm_0 (Or.inr rfl)]; exact h1, h2, fun s hs => ?_⟩
  obtain ⟨⟨g1, g2, g3⟩, g4, g5, g6⟩ := h3 s hs
  refine ⟨⟨g1, by rw [nrm_a (by omega)]; exact g2, by rw [nrm_a (by omega), nrm_a (by omega)]; exact g3⟩, g4, by rw [nrm_a (by omega)]; exact g5, fun j hj => KD_at (fun a a1 a2 => by rw [nrm_a (by omega)]) (g6 j hj)⟩
theorem AC_n {m : Mem} {c : Nat} {P P2 : Nat → Nat} (h : AC m c P) : AC (nrm m P2) c P := AC_c (by rw [nrm_a (by omega)]) (by rw [nrm_a (by omega)]) h
theorem GM_n {m : Mem} {k : Nat} {d N T P2 : Nat → Nat} (h : GM m k d N T) : GM (nrm m P2) k d N T := by
  unfold GM at *
  rw [nrm_0 (Or.inl rfl), nrm_a (a := 3) (by omega), nrm_a (a := 4) (by omega), nrm_a (a := 5) (by omega)]
  exact h
theorem RC_n {mx mm : Mem} {k b c : Nat} {d N T P Z P2 : Nat → Nat} {V W : Nat → Int32} (R : RC mx mm k d N T V W b c P Z) : RC mx (nrm mm P2) k d N T V W b c P Z := by
  obtain ⟨g, x, xv, hb, hj, y, yv, sh, lb, bk, lv, ac, h39, jv⟩ := R
  refine ⟨g, x, xv, hb, hj, GM_n y, by rw [nrm_a (by omega), nrm_a (by omega)]; exact yv, SH_n sh, ?_, BK_c bk rfl rfl (fun a a1 a2 => nrm_a (by omega)), fun s hs => ?_, AC_n ac, h39, jv⟩
  · unfold LB at *
    rw [nrm_a (by omega), nrm_a (by omega), nrm_a (by omega), nrm_a (by omega), nrm_a (by omega), nrm_a (by omega)]
    exact lb
  · rw [Jr_e (m := mm) (nrm_a (by omega)) (nrm_a (by omega))]
    exact lv s hs
theorem RX_n {mm : Mem} {k c : Nat} {d N T P Z : Nat → Nat} (g : GG k d N T) (y : GM mm k d N T) (sh : SH mm c P Z) (ac : AC mm c P) : RX (nrm mm P) c k P Z d (Jr mm P 6) := by
  refine ⟨SH_n sh, g.1, by rw [nrm_0 (Or.inl rfl)]; exact y.1, fun n hn => EG_of g (GM_n y) hn, fun s hs => ⟨rfl, Jr_le (SH_RF sh) 6 s hs⟩, fun s t w hs ht hE => Jr_fix (SH_RF sh) ac hs ht ?_⟩
  unfold Ed at *
  rw [nrm_a (by omega), nrm_a (by omega)] at hE
  exact hE
theorem canP_gg {m m2 : Mem} {s n d z : Nat} {sv : Int32} (hd : d ≤ 5) (e : ∀ a, 1 ≤ a → a ≤ 18 → m2 a = m a) (e37 : m2 37 = m 37) (e38 : m2 38 = m 38) (e39 : ∀ i, i < 5 → m2 39 i = m 39 i) : canP m2 s n d z sv ↔ canP m s n d z sv := by
  have ew : WS m2 s n = WS m s n := by
    unfold WS s_X7_wantedSet l_X7_wantedSet_5
    have h : ∀ a b c d, t_X7_wantedSet_5 m2 a b c d = t_X7_wantedSet_5 m a b c d := fun a b c d => by
      unfold t_X7_wantedSet_5 s_X7_isWanted l_X7_isWanted_5
      have h2 : ∀ a b c d, t_X7_isWanted_5 m2 a b c d = t_X7_isWanted_5 m a b c d := fun a b c d => by
        unfold t_X7_isWanted_5
        rw [e 8 (by decide) (by decide), e 9 (by decide) (by decide)]
      simp only [h2, e 3 (by decide) (by decide), e 4 (by decide) (by decide)]
    simp only [h]
  have tk : ∀ p j, tkV m2 p j sv = tkV m p j sv := fun p j => by
    unfold tkV
    rw [e 4 (by decide) (by decide), e 9 (by decide) (by decide), e 10 (by decide) (by decide), e 11 (by decide) (by decide), e 5 (by decide) (by decide), e 1 (by decide) (by decide), e 2 (by decide) (by decide), e 12 (by decide) (by decide), e37, e38]
  have lf : ∀ d, d ≤ 5 → ∀ p y, lfV m2 p n sv y d = lfV m p n sv y d := by
    intro d
    induction d with
    | zero => intro _ _ _; rfl
    | succ d ih =>
      intro hd p y
      unfold lfV
      rw [ih (by omega), tk, e39 d (by omega)]
  have ds : ∀ j a, dstep m2 s n sv d j a = dstep m s n sv d j a := fun j a => by
    unfold dstep
    rw [e 14 (by decide) (by decide), e 15 (by decide) (by decide), e 16 (by decide) (by decide), e 17 (by decide) (by decide), e 18 (by decide) (by decide)]
    have lx2 : ∀ x y, lfx m2 n sv d x y = lfx m n sv d x y := fun x y => by
      unfold lfx
      rw [lf d hd]
    rw [lx2]
  have dr : ∀ j a, drun m2 s n sv d j a = drun m s n sv d j a := by
    intro j
    induction j with
    | zero => intro a; rfl
    | succ j ih =>
      intro a
      show drun m2 s n sv d j (dstep m2 s n sv d j a) = drun m s n sv d j (dstep m s n sv d j a)
      rw [ds, ih]
  have di : din m2 s = din m s := by
    funext jj
    show (if m2 14 _ = 1 then _ else _) = (if m 14 _ = 1 then _ else _)
    rw [e 14 (by decide) (by decide)]
  unfold canP DV
  rw [e 7 (by decide) (by decide), ew, dr, di]
/-- with no edge bound, a memory and its norm can do the same -/
theorem canP_n {m : Mem} {P : Nat → Nat} {s n d z : Nat} {sv : Int32} (hd : d ≤ 5) (e39 : ∀ i, i < 5 → m 39 i = -4) : canP (nrm m P) s n d z sv ↔ canP m s n d z sv := canP_gg hd (fun a a1 a2 => nrm_a ⟨a1, a2⟩) (nrm_3 (Or.inl rfl)) (nrm_3 (Or.inr rfl)) (fun i hi => by rw [e39 i hi]; rfl)
