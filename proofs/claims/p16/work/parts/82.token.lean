/-! the next token, on both sides -/
def restT (m9 : Mem) (y8 r11 : Int32) : Option Mem := ((if r11 = 45 then ((s_X5_readNumber m9).bind fun m13 => some m13) else ((s_X5_isFigure r11).bind fun r15 => (if r15 = 0 then ((if r11 = 99 then ((s_X5_isClosedText m9).bind fun r47 => (if r47 = 0 then ((s_J0_length_8abf5 ).bind fun r49 => (s_X5_become m9 1 r49).bind fun m51 => some m51) else ((s_J0_length_8abf5 ).bind fun r53 => (s_X5_become m9 4 r53).bind fun m55 => some m55))) else ((if r11 = 46 then ((s_X3_byteAt m9 (y8 + 1)).bind fun r24 => (if r24 = 46 then ((s_X3_byteAt m9 (y8 + 2)).bind fun r33 => (if r33 = 46 then ((s_X5_become m9 5 3).bind fun m42 => some m42) else ((s_X5_isSign r11).bind fun r35 => (if r35 = 0 then ((s_X5_become m9 1 1).bind fun m37 => some m37) else ((s_X5_become m9 r11 1).bind fun m39 => some m39))))) else ((s_X5_isSign r11).bind fun r26 => (if r26 = 0 then ((s_X5_become m9 1 1).bind fun m28 => some m28) else ((s_X5_become m9 r11 1).bind fun m30 => some m30))))) else ((s_X5_isSign r11).bind fun r17 => (if r17 = 0 then ((s_X5_become m9 1 1).bind fun m19 => some m19) else ((s_X5_become m9 r11 1).bind fun m21 => some m21))))))) else ((s_X5_readNumber m9).bind fun m59 => some m59)))))
def advT (m9 : Mem) (y8 r11 : Int32) : Option Mem := (if 0 ≤ r11 then ((if r11 < 65 then (restT m9 y8 r11) else ((if 90 < r11 then (restT m9 y8 r11) else (bn (sto m9 10 4 r11) fun m112 => (s_X5_become m112 2 1).bind fun m114 => some m114))))) else ((s_X5_become m9 0 0).bind fun m118 => some m118))
def nxT (m7 : Mem) (r9 : Int32) : Option Mem := (if 0 ≤ r9 then ((s_X7_in (r9.toInt64) 65 90).bind fun r11 => (if r11 = 0 then ((if r9 = 45 then (numT m7 r9) else ((s_X7_in (r9.toInt64) 48 57).bind fun r42 => (if r42 = 0 then ((s_X7_in (r9.toInt64) 97 122).bind fun r44 => (if r44 = 0 then ((if r9 = 46 then ((s_X7_look m7 ((m7 0 38) + 1)).bind fun r54 => (if r54 = 46 then ((s_X7_look m7 ((m7 0 38) + 2)).bind fun r64 => (if r64 = 46 then (bn (sto m7 0 40 5) fun m73 => bn (sto m73 0 38 ((m73 0 38) + 3)) fun m74 => some m74) else ((s_X7_isSign r9).bind fun r66 => (if r66 = 0 then ((s_X7_fails m7 1 (m7 0 39)).bind fun m68 => some m68) else (bn (sto m7 0 40 4) fun m69 => bn (sto m69 0 41 r9) fun m70 => bn (sto m70 0 38 ((m70 0 38) + 1)) fun m71 => some m71))))) else ((s_X7_isSign r9).bind fun r56 => (if r56 = 0 then ((s_X7_fails m7 1 (m7 0 39)).bind fun m58 => some m58) else (bn (sto m7 0 40 4) fun m59 => bn (sto m59 0 41 r9) fun m60 => bn (sto m60 0 38 ((m60 0 38) + 1)) fun m61 => some m61))))) else ((s_X7_isSign r9).bind fun r46 => (if r46 = 0 then ((s_X7_fails m7 1 (m7 0 39)).bind fun m48 => some m48) else (bn (sto m7 0 40 4) fun m49 => bn (sto m49 0 41 r9) fun m50 => bn (sto m50 0 38 ((m50 0 38) + 1)) fun m51 => some m51))))) else (bn (sto m7 0 40 3) fun m78 => bn (sto m78 0 38 ((m78 0 38) + 6)) fun m79 => (s_X7_isClosed m79).bind fun r81 => (if r81 = 0 then ((s_X7_fails m79 1 (m79 0 39)).bind fun m83 => some m83) else (some m79))))) else (numT m7 r9))))) else (bn (sto m7 0 40 1) fun m117 => bn (sto m117 0 41 r9) fun m118 => bn (sto m118 0 38 ((m118 0 38) + 1)) fun m119 => some m119))) else (bn (sto m7 0 40 0) fun m121 => some m121))
theorem adv_red {mx : Mem} {a b : Nat} {r : Int32} (h1 : mx 10 1 = nI a) (hs : l_X5_advance_5 mx FU (nI a) = some (nI b)) (hr : s_X3_byteAt (sto mx 10 3 (nI b)) (nI b) = some r) : s_X5_advance mx = advT (sto mx 10 3 (nI b)) (nI b) r := by
  unfold s_X5_advance
  rw [h1]
  show (l_X5_advance_5 mx FU (nI a)).bind _ = _
  rw [hs, bind_s]
  show (s_X3_byteAt (sto mx 10 3 (nI b)) (nI b)).bind _ = _
  rw [hr, bind_s]
  rfl
theorem next_red {mm m6 : Mem} {r : Int32} (hs : l_X7_next_0 FU mm = some m6) (hr : s_X7_look (sto m6 0 39 (m6 0 38)) ((sto m6 0 39 (m6 0 38)) 0 38) = some r) : s_X7_next mm = nxT (sto m6 0 39 (m6 0 38)) r := by
  unfold s_X7_next
  simp only [digits2]
  rw [hs, bind_s]
  show (s_X7_look (sto m6 0 39 (m6 0 38)) ((sto m6 0 39 (m6 0 38)) 0 38)).bind _ = _
  rw [hr, bind_s]
  rfl
def sgn (r : Int32) : Prop := r = 33 ∨ r = 40 ∨ r = 41 ∨ r = 44 ∨ r = 46 ∨ r = 59 ∨ r = 61 ∨ r = 64 ∨ r = 91 ∨ r = 93 ∨ r = 124
theorem sgnX {r : Int32} : (sgn r → s_X5_isSign r = some 1) ∧ (¬ sgn r → s_X5_isSign r = some 0) := by
  refine ⟨fun h => ?_, fun h => ?_⟩
  · rcases h with rfl | rfl | rfl | rfl | rfl | rfl | rfl | rfl | rfl | rfl | rfl <;> decide
  · have n : ∀ k, (r = k → sgn r) → ¬ r = k := fun k q e => h (q e)
    unfold s_X5_isSign
    rw [if_neg (n _ (fun e => by unfold sgn; simp [e])), if_neg (n _ (fun e => by unfold sgn; simp [e])), if_neg (n _ (fun e => by unfold sgn; simp [e])), if_neg (n _ (fun e => by unfold sgn; simp [e])), if_neg (n _ (fun e => by unfold sgn; simp [e])), if_neg (n _ (fun e => by unfold sgn; simp [e])), if_neg (n _ (fun e => by unfold sgn; simp [e])), if_neg (n _ (fun e => by unfold sgn; simp [e])), if_neg (n _ (fun e => by unfold sgn; simp [e])), if_neg (n _ (fun e => by unfold sgn; simp [e])), if_neg (n _ (fun e => by unfold sgn; simp [e]))]
theorem sgnM {r : Int32} : (sgn r → s_X7_isSign r = some 1) ∧ (¬ sgn r → s_X7_isSign r = some 0) := by
  refine ⟨fun h => ?_, fun h => ?_⟩
  · rcases h with rfl | rfl | rfl | rfl | rfl | rfl | rfl | rfl | rfl | rfl | rfl <;> decide
  · have n : ∀ k, (r = k → sgn r) → ¬ r = k := fun k q e => h (q e)
    unfold s_X7_isSign
    rw [if_neg (n _ (fun e => by unfold sgn; simp [e])), if_neg (n _ (fun e => by unfold sgn; simp [e])), if_neg (n _ (fun e => by unfold sgn; simp [e])), if_neg (n _ (fun e => by unfold sgn; simp [e])), if_neg (n _ (fun e => by unfold sgn; simp [e])), if_neg (n _ (fun e => by unfold sgn; simp [e])), if_neg (n _ (fun e => by unfold sgn; simp [e])), if_neg (n _ (fun e => by unfold sgn; simp [e])), if_neg (n _ (fun e => by unfold sgn; simp [e])), if_neg (n _ (fun e => by unfold sgn; simp [e])), if_neg (n _ (fun e => by unfold sgn; simp [e]))]
/-- what a token leaves in the class's reader -/
def XF (mx : Mem) (b e : Nat) (K : Int32) (x4 : Int32) (m2 : Mem) : Prop := (∀ c, c ≠ 10 → m2 c = mx c) ∧ m2 10 3 = nI b ∧ m2 10 2 = K ∧ m2 10 1 = nI (b + e) ∧ m2 10 4 = x4
theorem bec {m mx : Mem} {b e : Nat} {K w : Int32} (hc : ∀ c, c ≠ 10 → m c = mx c) (h3 : m 10 3 = nI b) (hw : w = nI e) : ∃ m2, ((s_X5_become m K w).bind fun q => some q) = some m2 ∧ XF mx b e K (m 10 4) m2 := by
  refine ⟨sto (sto m 10 2 K) 10 1 ((sto m 10 2 K) 10 3 + w), rfl, fun c hc2 => by rw [rd_o hc2, rd_o hc2]; exact hc c hc2, by rw [rd_j (by decide), rd_j (by decide)]; exact h3, by rw [rd_j (by decide), rd_s], by rw [rd_s, rd_j (by decide), h3, hw, nI_add], by rw [rd_j (by decide), rd_j (by decide)]⟩
theorem len6 {m mx : Mem} {b : Nat} {K : Int32} (hc : ∀ c, c ≠ 10 → m c = mx c) (h3 : m 10 3 = nI b) : ∃ m2, ((s_J0_length_8abf5).bind fun r49 => (s_X5_become m K r49).bind fun q => some q) = some m2 ∧ XF mx b 6 K (m 10 4) m2 := by
  rw [len_6, bind_s]
  exact bec hc h3 rfl
theorem advT_rest {m9 : Mem} {y r : Int32} (h0 : 0 ≤ r) (hA : ¬ (65 ≤ r ∧ r ≤ 90)) : advT m9 y r = restT m9 y r := by
  unfold advT
  rw [if_pos h0]
  by_cases h : r < 65
  · rw [if_pos h]
  · rw [if_neg h, if_pos (Int32.not_le.mp (fun z => hA ⟨Int32.not_lt.mp h, z⟩))]
theorem cl_ch : (s_J0_charAt_5068e 0 = some 99 ∧ s_J0_charAt_5068e 1 = some 108 ∧ s_J0_charAt_5068e 2 = some 111) ∧ s_J0_charAt_5068e 3 = some 115 ∧ s_J0_charAt_5068e 4 = some 101 ∧ s_J0_charAt_5068e 5 = some 100 := by decide +kernel
def clw (f : Nat → Int32) (b : Nat) : Prop := f b = 99 ∧ f (b + 1) = 108 ∧ f (b + 2) = 111 ∧ f (b + 3) = 115 ∧ f (b + 4) = 101 ∧ f (b + 5) = 100
theorem closedX {m mm : Mem} {L b : Nat} (hL : L ≤ 400) (h7 : m 7 1 = nI L) (hT : TPE m mm) (hb : b ≤ 900) (h3 : m 10 3 = nI b) : (clw (BY mm L) b → s_X5_isClosedText m = some 1) ∧ (¬ clw (BY mm L) b → s_X5_isClosedText m = some 0) := by
  have go : ∀ (i n : Nat) (k : Int32), i < 6 → s_J0_charAt_5068e (nI i) = some k → l_X5_isClosedText_2 m (n + 1) (nI i) = if BY mm L (b + i) = k then l_X5_isClosedText_2 m n (nI (i + 1)) else some 0 := fun i n k hi hk => by
    by_cases e : BY mm L (b + i) = k
    · rw [if_pos e]
      unfold l_X5_isClosedText_2
      refine zlp_on ?_
      unfold t_X5_isClosedText_2
      rw [len_6, bind_s, if_neg (show ¬ (6 : Int32) ≤ nI i from nI_ge (b := 6) hi (by decide)), h3, nI_add, byteAt_eq hL h7 hT (by omega), bind_s, hk, bind_s, if_pos e]
      show some (Sum.inl (nI i + 1)) = _
      rw [nI_s1]
    · rw [if_neg e]
      unfold l_X5_isClosedText_2
      refine zlp_off ?_
      unfold t_X5_isClosedText_2
      rw [len_6, bind_s, if_neg (show ¬ (6 : Int32) ≤ nI i from nI_ge (b := 6) hi (by decide)), h3, nI_add, byteAt_eq hL h7 hT (by omega), bind_s, hk, bind_s, if_neg e]
  have fin : ∀ n, l_X5_isClosedText_2 m (n + 1) (nI 6) = some 1 := fun n => by
    unfold l_X5_isClosedText_2
    refine zlp_off ?_
    unfold t_X5_isClosedText_2
    rw [len_6, bind_s, if_pos (by decide)]
  obtain ⟨⟨c0, c1, c2⟩, c3, c4, c5⟩ := cl_ch
  have all : s_X5_isClosedText m = if BY mm L (b + 0) = 99 then (if BY mm L (b + 1) = 108 then (if BY mm L (b + 2) = 111 then (if BY mm L (b + 3) = 115 then (if BY mm L (b + 4) = 101 then (if BY mm L (b + 5) = 100 then some 1 else some 0) else some 0) else some 0) else some 0) else some 0) else some 0 := by
    unfold s_X5_isClosedText
    rw [show FU = 999993 + 1 + 1 + 1 + 1 + 1 + 1 + 1 from rfl, show (0 : Int32) = nI 0 from rfl]
    rw [go 0 _ 99 (by omega) c0, go 1 _ 108 (by omega) c1, go 2 _ 111 (by omega) c2, go 3 _ 115 (by omega) c3, go 4 _ 101 (by omega) c4, go 5 _ 100 (by omega) c5, fin]
    rfl
  refine ⟨fun ⟨e0, e1, e2, e3, e4, e5⟩ => ?_, fun h => ?_⟩
  · rw [all, if_pos (show BY mm L (b + 0) = 99 from e0), if_pos e1, if_pos e2, if_pos e3, if_pos e4, if_pos e5]
  · rw [all]
    by_cases e0 : BY mm L (b + 0) = 99
    · rw [if_pos e0]
      by_cases e1 : BY mm L (b + 1) = 108
      · rw [if_pos e1]
        by_cases e2 : BY mm L (b + 2) = 111
        · rw [if_pos e2]
          by_cases e3 : BY mm L (b + 3) = 115
          · rw [if_pos e3]
            by_cases e4 : BY mm L (b + 4) = 101
            · rw [if_pos e4, if_neg (fun e5 => h ⟨e0, e1, e2, e3, e4, e5⟩)]
            · rw [if_neg e4]
          · rw [if_neg e3]
        · rw [if_neg e2]
      · rw [if_neg e1]
    · rw [if_neg e0]
theorem closedM {m mm : Mem} {L b : Nat} (hL : L ≤ 400) (h37 : m 0 37 = nI L) (h33 : m 33 = mm 33) (hb : b ≤ 900) (h39 : m 0 39 = nI b) (h38 : m 0 38 = nI (b + 6)) : (clw (BY mm L) b → s_X7_isClosed m = some 1) ∧ (¬ clw (BY mm L) b → s_X7_isClosed m = some 0) := by
  have lk : ∀ p, p ≤ 1000 → s_X7_look m (nI p) = some (BY mm L p) := fun p hp => by rw [look_by hL h37 hp, BY_c h33]
  have all : s_X7_isClosed m = if BY mm L b = 99 then (if BY mm L (b + 1) = 108 then (if BY mm L (b + 2) = 111 then (if BY mm L (b + 3) = 115 then (if BY mm L (b + 4) = 101 then (if BY mm L (b + 5) = 100 then some 1 else some 0) else some 0) else some 0) else some 0) else some 0) else some 0 := by
    unfold s_X7_isClosed
    rw [h38, h39, pk_sub (by omega), show b + 6 - b = 6 by omega, if_pos (show nI 6 = 6 from rfl), lk b (by omega), bind_s, nI_s1, lk (b + 1) (by omega), show nI b + 2 = nI (b + 2) from nI_add b 2, show nI b + 3 = nI (b + 3) from nI_add b 3, show nI b + 4 = nI (b + 4) from nI_add b 4, show nI b + 5 = nI (b + 5) from nI_add b 5, lk (b + 2) (by omega), lk (b + 3) (by omega), lk (b + 4) (by omega), lk (b + 5) (by omega), bind_s, bind_s, bind_s, bind_s, bind_s]
  refine ⟨fun ⟨e0, e1, e2, e3, e4, e5⟩ => ?_, fun h => ?_⟩
  · rw [all, if_pos e0, if_pos e1, if_pos e2, if_pos e3, if_pos e4, if_pos e5]
  · rw [all]
    by_cases e0 : BY mm L b = 99
    · rw [if_pos e0]
      by_cases e1 : BY mm L (b + 1) = 108
      · rw [if_pos e1]
        by_cases e2 : BY mm L (b + 2) = 111
        · rw [if_pos e2]
          by_cases e3 : BY mm L (b + 3) = 115
          · rw [if_pos e3]
            by_cases e4 : BY mm L (b + 4) = 101
            · rw [if_pos e4, if_neg (fun e5 => h ⟨e0, e1, e2, e3, e4, e5⟩)]
            · rw [if_neg e4]
          · rw [if_neg e3]
        · rw [if_neg e2]
      · rw [if_neg e1]
    · rw [if_neg e0]
