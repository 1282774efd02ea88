/-! the reference reads a text: to its end, and what it holds then -/
theorem copy_1 {m : Mem} {c : Nat} (hN : m 0 7 = nI c) (hc : c ≤ 6) : ∃ m2, l_X7_shapes_93 FU 0 m = some m2 ∧ (∀ a, a ≠ 6 → a ≠ 7 → a ≠ 8 → a ≠ 13 → m2 a = m a) ∧ ∀ s, s < c → m2 6 s = m 19 s ∧ m2 7 s = vp_nar .boolean (m 20 s) ∧ m2 8 s = m 21 s ∧ m2 13 s = m 27 s := by
  unfold l_X7_shapes_93
  refine forG c (fun j (a : Int32 × Mem) => a.1 = nI j ∧ (∀ b, b ≠ 6 → b ≠ 7 → b ≠ 8 → b ≠ 13 → a.2 b = m b) ∧ ∀ s, s < j → a.2 6 s = m 19 s ∧ a.2 7 s = vp_nar .boolean (m 20 s) ∧ a.2 8 s = m 21 s ∧ a.2 13 s = m 27 s) _ (fun j st hj ha => ?_) (fun st ha => ?_) FU 0 (0, m) (Nat.zero_le _) ⟨rfl, fun _ _ _ _ _ => rfl, fun s hs => absurd hs (Nat.not_lt_zero _)⟩ (FU_lt (by omega))
  · obtain ⟨e1, o, v⟩ := ha
    unfold t_X7_shapes_93
    rw [e1, o 0 (by decide) (by decide) (by decide) (by decide), hN, ix_nI (n := j) (by omega)]
    have z6 : zin (nI j) 6 = true := zin_nI (by omega) (by decide)
    refine st_if (fun z => absurd z (nI_ge hj (by omega))) (fun _ => st_ck z6 (st_ck z6 (st_n (st_ck z6 (st_ck z6 (st_n (st_ck z6 (st_ck z6 (st_n (st_ck z6 (st_ck z6 (st_n (st_n (st_l ⟨nI_s1, fun b b0 b1 b2 b3 => ?_, fun s hs => ?_⟩))))))))))))))
    · dsimp only
      rw [rd_o b3, rd_o b2, rd_o b1, rd_o b0]
      exact o b b0 b1 b2 b3
    · dsimp only
      by_cases e : s = j
      · rw [e]
        refine ⟨?_, ?_, ?_, ?_⟩
        · rw [rd_o (by decide), rd_o (by decide), rd_o (by decide), rd_s, o 19 (by decide) (by decide) (by decide) (by decide)]
        · rw [rd_o (by decide), rd_o (by decide), rd_s, rd_o (by decide), o 20 (by decide) (by decide) (by decide) (by decide)]
        · rw [rd_o (by decide), rd_s, rd_o (by decide), rd_o (by decide), o 21 (by decide) (by decide) (by decide) (by decide)]
        · rw [rd_s, rd_o (by decide), rd_o (by decide), rd_o (by decide), o 27 (by decide) (by decide) (by decide) (by decide)]
      · obtain ⟨v1, v2, v3, v4⟩ := v s (by omega)
        refine ⟨?_, ?_, ?_, ?_⟩
        · rw [rd_o (by decide), rd_o (by decide), rd_o (by decide), rd_j e]; exact v1
        · rw [rd_o (by decide), rd_o (by decide), rd_j e, rd_o (by decide)]; exact v2
        · rw [rd_o (by decide), rd_j e, rd_o (by decide), rd_o (by decide)]; exact v3
        · rw [rd_j e, rd_o (by decide), rd_o (by decide), rd_o (by decide)]; exact v4
  · obtain ⟨e1, o, v⟩ := ha
    unfold t_X7_shapes_93
    rw [e1, o 0 (by decide) (by decide) (by decide) (by decide), hN]
    exact ⟨_, if_pos (nI_le (Nat.le_refl _) (by omega)), o, v⟩
theorem copy_2 {m : Mem} : ∃ m2, l_X7_shapes_157 FU 0 m = some m2 ∧ (∀ a, a < 9 ∨ 12 < a → m2 a = m a) ∧ ∀ s, s < 36 → m2 9 s = m 22 s ∧ m2 10 s = m 23 s ∧ m2 11 s = m 24 s ∧ m2 12 s = m 25 s := by
  unfold l_X7_shapes_157
  refine forG 36 (fun j (a : Int32 × Mem) => a.1 = nI j ∧ (∀ b, b < 9 ∨ 12 < b → a.2 b = m b) ∧ ∀ s, s < j → a.2 9 s = m 22 s ∧ a.2 10 s = m 23 s ∧ a.2 11 s = m 24 s ∧ a.2 12 s = m 25 s) _ (fun j st hj ha => ?_) (fun st ha => ?_) FU 0 (0, m) (Nat.zero_le _) ⟨rfl, fun _ _ => rfl, fun s hs => absurd hs (Nat.not_lt_zero _)⟩ (FU_lt (by omega))
  · obtain ⟨e1, o, v⟩ := ha
    unfold t_X7_shapes_157
    rw [e1, ix_nI (n := j) (by omega)]
    have z6 : zin (nI j) 36 = true := zin_nI (by omega) (by decide)
    refine st_if (fun z => absurd z (nI_ge (b := 36) hj (by decide))) (fun _ => st_ck z6 (st_ck z6 (st_n (st_ck z6 (st_ck z6 (st_n (st_ck z6 (st_ck z6 (st_n (st_ck z6 (st_ck z6 (st_n (st_n (st_l ⟨nI_s1, fun b b0 => ?_, fun s hs => ?_⟩))))))))))))))
    · dsimp only
      rw [rd_o (by omega), rd_o (by omega), rd_o (by omega), rd_o (by omega)]
      exact o b b0
    · dsimp only
      by_cases e : s = j
      · rw [e]
        refine ⟨?_, ?_, ?_, ?_⟩
        · rw [rd_o (by decide), rd_o (by decide), rd_o (by decide), rd_s, o 22 (by decide)]
        · rw [rd_o (by decide), rd_o (by decide), rd_s, rd_o (by decide), o 23 (by decide)]
        · rw [rd_o (by decide), rd_s, rd_o (by decide), rd_o (by decide), o 24 (by decide)]
        · rw [rd_s, rd_o (by decide), rd_o (by decide), rd_o (by decide), o 25 (by decide)]
      · obtain ⟨v1, v2, v3, v4⟩ := v s (by omega)
        refine ⟨?_, ?_, ?_, ?_⟩
        · rw [rd_o (by decide), rd_o (by decide), rd_o (by decide), rd_j e]; exact v1
        · rw [rd_o (by decide), rd_o (by decide), rd_j e, rd_o (by decide)]; exact v2
        · rw [rd_o (by decide), rd_j e, rd_o (by decide), rd_o (by decide)]; exact v3
        · rw [rd_j e, rd_o (by decide), rd_o (by decide), rd_o (by decide)]; exact v4
  · obtain ⟨e1, o, v⟩ := ha
    unfold t_X7_shapes_157
    rw [e1]
    exact ⟨_, if_pos (show (36 : Int32) ≤ nI 36 from nI_le (Nat.le_refl 36) (by decide)), o, v⟩
theorem copy_3 {m : Mem} : ∃ m2, l_X7_shapes_219 FU 0 m = some m2 ∧ (∀ a, a < 14 ∨ 18 < a → m2 a = m a) ∧ ∀ s, s < 960 → m2 14 s = m 28 s ∧ m2 15 s = m 29 s ∧ m2 16 s = m 30 s ∧ m2 17 s = m 31 s ∧ m2 18 s = m 32 s := by
  unfold l_X7_shapes_219
  refine forG 960 (fun j (a : Int32 × Mem) => a.1 = nI j ∧ (∀ b, b < 14 ∨ 18 < b → a.2 b = m b) ∧ ∀ s, s < j → a.2 14 s = m 28 s ∧ a.2 15 s = m 29 s ∧ a.2 16 s = m 30 s ∧ a.2 17 s = m 31 s ∧ a.2 18 s = m 32 s) _ (fun j st hj ha => ?_) (fun st ha => ?_) FU 0 (0, m) (Nat.zero_le _) ⟨rfl, fun _ _ => rfl, fun s hs => absurd hs (Nat.not_lt_zero _)⟩ (FU_lt (by omega))
  · obtain ⟨e1, o, v⟩ := ha
    unfold t_X7_shapes_219
    rw [e1, ix_nI (n := j) (by omega)]
    have z6 : zin (nI j) 960 = true := zin_nI (by omega) (by decide)
    refine st_if (fun z => absurd z (nI_ge (b := 960) hj (by decide))) (fun _ => st_ck z6 (st_ck z6 (st_n (st_ck z6 (st_ck z6 (st_n (st_ck z6 (st_ck z6 (st_n (st_ck z6 (st_ck z6 (st_n (st_ck z6 (st_ck z6 (st_n (st_n (st_l ⟨nI_s1, fun b b0 => ?_, fun s hs => ?_⟩)))))))))))))))))
    · dsimp only
      rw [rd_o (by omega), rd_o (by omega), rd_o (by omega), rd_o (by omega), rd_o (by omega)]
      exact o b b0
    · dsimp only
      by_cases e : s = j
      · rw [e]
        refine ⟨?_, ?_, ?_, ?_, ?_⟩
        · rw [rd_o (by decide), rd_o (by decide), rd_o (by decide), rd_o (by decide), rd_s, o 28 (by decide)]
        · rw [rd_o (by decide), rd_o (by decide), rd_o (by decide), rd_s, rd_o (by decide), o 29 (by decide)]
        · rw [rd_o (by decide), rd_o (by decide), rd_s, rd_o (by decide), rd_o (by decide), o 30 (by decide)]
        · rw [rd_o (by decide), rd_s, rd_o (by decide), rd_o (by decide), rd_o (by decide), o 31 (by decide)]
        · rw [rd_s, rd_o (by decide), rd_o (by decide), rd_o (by decide), rd_o (by decide), o 32 (by decide)]
      · obtain ⟨v1, v2, v3, v4, v5⟩ := v s (by omega)
        refine ⟨?_, ?_, ?_, ?_, ?_⟩
        · rw [rd_o (by decide), rd_o (by decide), rd_o (by decide), rd_o (by decide), rd_j e]; exact v1
        · rw [rd_o (by decide), rd_o (by decide), rd_o (by decide), rd_j e, rd_o (by decide)]; exact v2
        · rw [rd_o (by decide), rd_o (by decide), rd_j e, rd_o (by decide), rd_o (by decide)]; exact v3
        · rw [rd_o (by decide), rd_j e, rd_o (by decide), rd_o (by decide), rd_o (by decide)]; exact v4
        · rw [rd_j e, rd_o (by decide), rd_o (by decide), rd_o (by decide), rd_o (by decide)]; exact v5
  · obtain ⟨e1, o, v⟩ := ha
    unfold t_X7_shapes_219
    rw [e1]
    exact ⟨_, if_pos (show (960 : Int32) ≤ nI 960 from nI_le (Nat.le_refl 960) (by decide)), o, v⟩
