/-! both: the words become shapes -/
theorem zbS_l {α β γ : Type} {a : α} {f : α → Option γ} {g : β → Option γ} : zbS (some (.inl a)) f g = f a := rfl
theorem zbS_r {α β γ : Type} {b : β} {f : α → Option γ} {g : β → Option γ} : zbS (some (.inr b)) f g = g b := rfl
def LKs (mx mm : Mem) (b s P : Nat) (D : Nat → Prop) : Prop := P ≤ 6 ∧ mm 21 s = nI P ∧ mx (b + 2) s = nI P ∧ mx (b + 1) s = mm 19 s ∧ mx (b + 3) s = vp_nar .boolean (mm 20 s) ∧ mx (b + 6) s = 0 ∧ (∀ k, k < 10 → (bt (mx (b + 4) s) k = true ↔ ∃ i, i < P ∧ mm 22 (6 * s + i) = nI k)) ∧ (∀ i, i < P → mx (b + 9) (6 * s + i) = mm 22 (6 * s + i) ∧ mx (b + 10) (6 * s + i) = mm 23 (6 * s + i) ∧ mx (b + 11) (6 * s + i) = mm 24 (6 * s + i) ∧ mx (b + 12) (6 * s + i) = mm 25 (6 * s + i) ∧ mx (b + 13) (6 * s + i) = mm 26 (6 * s + i) ∧ ∃ q, q < 1000 ∧ mm 26 (6 * s + i) = nI q) ∧ ∀ t, t < 6 → (bt (mx (b + 5) s) t = true ↔ ∃ i, i < P ∧ D i ∧ (mm 23 (6 * s + i) = 1 ∨ mm 23 (6 * s + i) = 2) ∧ mm 24 (6 * s + i) = nI t)
def LK (mx mm : Mem) (b c : Nat) (P : Nat → Nat) (D : Nat → Nat → Prop) : Prop := ∀ s, s < c → LKs mx mm b s (P s) (D s)
theorem LK_0 {mx mm : Mem} {b c : Nat} {P : Nat → Nat} (h : PE mx mm b c P) : LK mx mm b c P (fun x _ => x < 0) := fun s hs => by
  obtain ⟨h1, h2, h3, h4, h5, h6, h7, h8, h9⟩ := h s hs
  refine ⟨h1, h2, h3, h4, h5, h7, h8, h9, fun t ht => ?_⟩
  rw [h6, b_0]
  exact ⟨fun z => absurd z (by decide), fun ⟨i, _, w, _⟩ => absurd w (Nat.not_lt_zero _)⟩
theorem LK_d {mx mm : Mem} {b c : Nat} {P : Nat → Nat} {D E : Nat → Nat → Prop} (h : LK mx mm b c P D) (e : ∀ s i, s < c → i < P s → (D s i ↔ E s i)) : LK mx mm b c P E := fun s hs => by
  obtain ⟨h1, h2, h3, h4, h5, h6, h7, h8, h9⟩ := h s hs
  refine ⟨h1, h2, h3, h4, h5, h6, h7, h8, fun t ht => ?_⟩
  rw [h9 t ht]
  exact ⟨fun ⟨i, w, d, g⟩ => ⟨i, w, (e s i hs w).mp d, g⟩, fun ⟨i, w, d, g⟩ => ⟨i, w, (e s i hs w).mpr d, g⟩⟩
theorem refers_eq {m : Mem} {b x : Nat} (hx : x < 36) : s_X0_refers m b (nI x) = some (bb (m (b + 10) x = 1 ∨ m (b + 10) x = 2)) := by
  have zx : zin (nI x) 36 = true := zin_nI hx (by decide)
  unfold s_X0_refers
  rw [ck_p zx, ix_nI (by omega)]
  by_cases h1 : m (b + 10) x = 1
  · rw [if_pos h1, bb_t (Or.inl h1)]
  · rw [if_neg h1, ck_p zx]
    by_cases h2 : m (b + 10) x = 2
    · rw [if_pos h2, bb_t (Or.inr h2)]
    · rw [if_neg h2, bb_f (fun z => z.elim h1 h2)]
theorem o_wordAt {m : Mem} {c : Nat} {w : Int32} (h0 : m 0 21 = nI c) (hc : c ≤ 6) : ∃ r, s_X7_wordAt m w = some r ∧ ((r = -4 ∧ ∀ s, s < c → m 19 s ≠ w) ∨ ∃ t, t < c ∧ r = nI t ∧ m 19 t = w ∧ ∀ s, s < t → m 19 s ≠ w) := by
  unfold s_X7_wordAt l_X7_wordAt_2
  refine forG c (fun j (a : Int32) => a = nI j ∧ ∀ s, s < j → m 19 s ≠ w) _ (fun j a hj ha => ?_) (fun a ha => ?_) FU 0 0 (Nat.zero_le _) ⟨rfl, fun s hs => absurd hs (Nat.not_lt_zero _)⟩ (FU_lt (by omega))
  · obtain ⟨e, h⟩ := ha
    unfold t_X7_wordAt_2
    rw [e, h0, ix_nI (n := j) (by omega)]
    refine st_if (fun z => absurd z (nI_ge hj (by omega))) (fun _ => st_ck (zin_nI (by omega) (by decide)) (st_if (fun q => st_r (Or.inr ⟨j, hj, rfl, q, h⟩)) (fun q => st_n (st_l ⟨nI_s1, fun s hs => ?_⟩))))
    by_cases e2 : s = j
    · rw [e2]; exact q
    · exact h s (by omega)
  · obtain ⟨e, h⟩ := ha
    unfold t_X7_wordAt_2
    rw [e, h0]
    exact ⟨_, if_pos (nI_le (Nat.le_refl _) (by omega)), Or.inl ⟨rfl, h⟩⟩
def lkf (b : Nat) (mx mx2 : Mem) : Prop := ∀ a, a ≠ b + 5 → a ≠ b + 11 → mx2 a = mx a
theorem c_link_in {b c s : Nat} {P : Nat → Nat} (hb : isb b) (hc : c ≤ 6) (hs : s < c) : ∀ (k j n : Nat) (mx mm : Mem), P s = j + k → k + 1 < n → mx b 0 = nI c → mm 0 21 = nI c → mm 0 42 = 0 → LK mx mm b c P (fun x i => x < s ∨ (x = s ∧ i < j)) → (∃ pl mx2 mm2, l_X0_linkReferences_12 b (nI s) n (nI j) mx = some (.inl (pl, mx2)) ∧ l_X7_settleWords_19 (nI s) n (nI j) mm = some mm2 ∧ ¬ mm2 0 42 = 0 ∧ mm2 0 43 = pl ∧ (∃ q, q < 1000 ∧ pl = nI q) ∧ lkf b mx mx2) ∨ ∃ mx2 mm2, l_X0_linkReferences_12 b (nI s) n (nI j) mx = some (.inr mx2) ∧ l_X7_settleWords_19 (nI s) n (nI j) mm = some mm2 ∧ mm2 0 42 = 0 ∧ mm2 0 21 = nI c ∧ lkf b mx mx2 ∧ LK mx2 mm2 b c P (fun x _ => x < s + 1) := by
  have hb2 := isb_e hb
  intro k
  induction k with
  | zero =>
    intro j n mx mm hP hn h0 h21 h42 hL
    obtain ⟨n, rfl⟩ : ∃ q, n = q + 1 := ⟨n - 1, by omega⟩
    have p6 := (hL s hs).1
    have zs : zin (nI s) 6 = true := zin_nI (by omega) (by decide)
    refine Or.inr ⟨mx, mm, ?_, ?_, h42, h21, fun _ _ _ => rfl, LK_d hL (fun x i hx hi => ⟨fun w => by omega, fun w => ?_⟩)⟩
    · unfold l_X0_linkReferences_12
      refine zlp_off ?_
      show t_X0_linkReferences_12 b (nI s) (nI j) mx = _
      unfold t_X0_linkReferences_12
      rw [ck_p zs, ix_nI (by omega), (hL s hs).2.2.1, if_pos (nI_le (by omega) (by omega))]
    · unfold l_X7_settleWords_19
      refine zlp_off ?_
      show t_X7_settleWords_19 (nI s) (nI j) mm = _
      unfold t_X7_settleWords_19
      rw [ck_p zs, ix_nI (by omega), (hL s hs).2.1, if_pos (nI_le (by omega) (by omega))]
    · by_cases e : x = s
      · exact Or.inr ⟨e, by rw [e] at hi; omega⟩
      · exact Or.inl (by omega)
  | succ k ih =>
    intro j n mx mm hP hn h0 h21 h42 hL
    obtain ⟨n, rfl⟩ : ∃ q, n = q + 1 := ⟨n - 1, by omega⟩
    obtain ⟨g1, g2, g3, g4, g5, g6, g7, g8, g9⟩ := hL s hs
    have hj : j < P s := by omega
    have zs : zin (nI s) 6 = true := zin_nI (by omega) (by decide)
    have zx : zin (nI (6 * s + j)) 36 = true := zin_nI (by omega) (by decide)
    obtain ⟨w1, w2, w3, w4, w5, q0, hq0, eq0⟩ := g8 j hj
    have nle : ¬ nI (P s) ≤ nI j := nI_ge hj (by omega)
    by_cases hr : mm 23 (6 * s + j) = 1 ∨ mm 23 (6 * s + j) = 2
    rotate_left
    · have sx : t_X0_linkReferences_12 b (nI s) (nI j) mx = some (.inl (nI (j + 1), mx)) := by
        unfold t_X0_linkReferences_12
        rw [ck_p zs, ix_nI (n := s) (by omega), g3, if_neg nle, m6, show s * 6 + j = 6 * s + j by omega]
        show (s_X0_refers mx b (nI (6 * s + j))).bind _ = _
        rw [refers_eq (by omega), bind_s, if_bb, if_neg (by rw [w2]; exact hr)]
        show some (Sum.inl (nI j + 1, mx)) = _
        rw [nI_s1]
      have sm : t_X7_settleWords_19 (nI s) (nI j) mm = some (.inl (nI (j + 1), mm)) := by
        unfold t_X7_settleWords_19
        rw [ck_p zs, ix_nI (n := s) (by omega), g2, if_neg nle, if_pos h42, p6]
        show ck _ _ = _
        rw [ck_p zx, ix_nI (n := 6 * s + j) (by omega), if_neg (fun z => hr (Or.inl z)), ck_p zx, if_neg (fun z => hr (Or.inr z))]
        show some (Sum.inl (nI j + 1, mm)) = _
        rw [nI_s1]
      have hL2 : LK mx mm b c P (fun x i => x < s ∨ (x = s ∧ i < j + 1)) := fun s2 hs2 => by
        obtain ⟨f1, f2, f3, f4, f5, f6, f7, f8, f9⟩ := hL s2 hs2
        refine ⟨f1, f2, f3, f4, f5, f6, f7, f8, fun t ht => ?_⟩
        rw [f9 t ht]
        constructor
        · rintro ⟨i, hi, d, r⟩
          exact ⟨i, hi, d.elim Or.inl (fun d => Or.inr ⟨d.1, by omega⟩), r⟩
        · rintro ⟨i, hi, d, r⟩
          refine ⟨i, hi, ?_, r⟩
          rcases d with d | ⟨d, di⟩
          · exact Or.inl d
          · refine Or.inr ⟨d, ?_⟩
            have : i ≠ j := fun q => hr (by rw [← q, ← d]; exact r.1)
            omega
      have e1 : l_X0_linkReferences_12 b (nI s) (n + 1) (nI j) mx = l_X0_linkReferences_12 b (nI s) n (nI (j + 1)) mx := by
        unfold l_X0_linkReferences_12
        exact zlp_on sx
      have e2 : l_X7_settleWords_19 (nI s) (n + 1) (nI j) mm = l_X7_settleWords_19 (nI s) n (nI (j + 1)) mm := by
        unfold l_X7_settleWords_19
        exact zlp_on sm
      rw [e1, e2]
      exact ih (j + 1) n mx mm (by omega) (by omega) h0 h21 h42 hL2
    obtain ⟨rx, ex, hx⟩ := o_shapeOf (w := mx (b + 11) (6 * s + j)) h0 hc
    obtain ⟨rm, em, hm⟩ := o_wordAt (w := mm 24 (6 * s + j)) h21 hc
    have wd : ∀ t, t < c → mx (b + 1) t = mm 19 t := fun t ht => (hL t ht).2.2.2.1
    have SM : ∀ (Z : Option ((Int32 × Mem) ⊕ Mem)), (∀ (r10 : Int32), r10 = rm → (if r10 = (-4) then (ck (zin (nI (6 * s + j)) 36 = true) ((s_X7_fails mm 6 (mm 26 (6 * s + j))).bind fun m16 => ck (zin (nI (6 * s + j)) 36 = true) (bn (sto m16 24 (6 * s + j) r10) fun m18 => bn (nI j + 1) fun x19 => some (.inl (x19, m18))))) else (ck (zin (nI (6 * s + j)) 36 = true) (bn (sto mm 24 (6 * s + j) r10) fun m12 => bn (nI j + 1) fun x13 => some (.inl (x13, m12))))) = Z) → t_X7_settleWords_19 (nI s) (nI j) mm = Z := fun Z hZ => by
      unfold t_X7_settleWords_19
      rw [ck_p zs, ix_nI (n := s) (by omega), g2, if_neg nle, if_pos h42, p6]
      show ck _ _ = _
      rw [ck_p zx, ix_nI (n := 6 * s + j) (by omega)]
      by_cases r1 : mm 23 (6 * s + j) = 1
      · rw [if_pos r1, ck_p zx, em, bind_s]
        exact hZ rm rfl
      · rw [if_neg r1, ck_p zx, if_pos (hr.resolve_left r1), ck_p zx, em, bind_s]
        exact hZ rm rfl
    rcases hx with ⟨erx, hnx⟩ | ⟨t, ht, erx, ewx, hlx⟩
    · have erm : rm = -4 := by
        rcases hm with ⟨e, -⟩ | ⟨t, ht, -, ew, -⟩
        · exact e
        · exact absurd ((wd t ht).trans (ew.trans w3.symm)) (hnx t ht)
      have sx : t_X0_linkReferences_12 b (nI s) (nI j) mx = some (.inr (.inl (mx (b + 13) (6 * s + j), mx))) := by
        unfold t_X0_linkReferences_12
        rw [ck_p zs, ix_nI (n := s) (by omega), g3, if_neg nle, m6, show s * 6 + j = 6 * s + j by omega]
        show (s_X0_refers mx b (nI (6 * s + j))).bind _ = _
        rw [refers_eq (by omega), bind_s, if_bb, if_pos (by rw [w2]; exact hr), ck_p zx, ix_nI (n := 6 * s + j) (by omega), ex, bind_s, erx, if_neg (by decide), ck_p zx]
      have sm : t_X7_settleWords_19 (nI s) (nI j) mm = some (.inl (nI (j + 1), sto (fl mm 6 (mm 26 (6 * s + j))) 24 (6 * s + j) (-4))) := SM _ (fun r10 e10 => by
        rw [e10, erm, if_pos rfl, ck_p zx, fails_eq, bind_s, ck_p zx]
        show some (Sum.inl (nI j + 1, _)) = _
        rw [nI_s1])
      obtain ⟨n, rfl⟩ : ∃ q, n = q + 1 := ⟨n - 1, by omega⟩
      have fb : ¬ (sto (fl mm 6 (mm 26 (6 * s + j))) 24 (6 * s + j) (-4)) 0 42 = 0 := by rw [rd_o (by decide)]; exact fl_b (by decide)
      refine Or.inl ⟨mx (b + 13) (6 * s + j), mx, sto (fl mm 6 (mm 26 (6 * s + j))) 24 (6 * s + j) (-4), ?_, ?_, fb, ?_, ⟨q0, hq0, w5.trans eq0⟩, fun _ _ _ => rfl⟩
      · unfold l_X0_linkReferences_12
        exact zlp_off sx
      · unfold l_X7_settleWords_19
        rw [zlp_on sm]
        refine zlp_off ?_
        unfold t_X7_settleWords_19
        rw [ck_p zs]
        by_cases q : (sto (fl mm 6 (mm 26 (6 * s + j))) 24 (6 * s + j) (-4)) 21 (Int32.toNatClampNeg (nI s)) ≤ nI (j + 1)
        · exact if_pos q
        · exact (if_neg q).trans (if_neg fb)
      · rw [rd_o (by decide), fl_v h42, w5]
    · have erm : rm = nI t := by
        rcases hm with ⟨-, hn⟩ | ⟨t2, ht2, e, ew, hl⟩
        · exact absurd ((wd t ht).symm.trans (ewx.trans w3)) (hn t ht)
        · rcases Nat.lt_trichotomy t t2 with q | q | q
          · exact absurd ((wd t ht).symm.trans (ewx.trans w3)) (hl t q)
          · rw [e, q]
          · exact absurd ((wd t2 ht2).trans (ew.trans w3.symm)) (hlx t2 q)
      have sx : t_X0_linkReferences_12 b (nI s) (nI j) mx = some (.inl (nI (j + 1), sto (sto mx (b + 11) (6 * s + j) (nI t)) (b + 5) s (mx (b + 5) s ||| ((1 : Int32) <<< (nI t &&& 31))))) := by
        unfold t_X0_linkReferences_12
        rw [ck_p zs, ix_nI (n := s) (by omega), g3, if_neg nle, m6, show s * 6 + j = 6 * s + j by omega]
        show (s_X0_refers mx b (nI (6 * s + j))).bind _ = _
        rw [refers_eq (by omega), bind_s, if_bb, if_pos (by rw [w2]; exact hr), ck_p zx, ix_nI (n := 6 * s + j) (by omega), ex, bind_s, erx, if_pos (nI_pos' (by omega)), ck_p zx]
        show ck _ _ = _
        rw [ck_p zs, ck_p zs, rd_o (show b + 5 ≠ b + 11 by omega)]
        show some (Sum.inl (nI j + 1, _)) = _
        rw [nI_s1]
      have sm : t_X7_settleWords_19 (nI s) (nI j) mm = some (.inl (nI (j + 1), sto mm 24 (6 * s + j) (nI t))) := SM _ (fun r10 e10 => by
        rw [e10, erm, if_neg (nn4 (by omega)), ck_p zx]
        show some (Sum.inl (nI j + 1, _)) = _
        rw [nI_s1])
      have e1 : l_X0_linkReferences_12 b (nI s) (n + 1) (nI j) mx = l_X0_linkReferences_12 b (nI s) n (nI (j + 1)) (sto (sto mx (b + 11) (6 * s + j) (nI t)) (b + 5) s (mx (b + 5) s ||| ((1 : Int32) <<< (nI t &&& 31)))) := by
        unfold l_X0_linkReferences_12
        exact zlp_on sx
      have e2 : l_X7_settleWords_19 (nI s) (n + 1) (nI j) mm = l_X7_settleWords_19 (nI s) n (nI (j + 1)) (sto mm 24 (6 * s + j) (nI t)) := by
        unfold l_X7_settleWords_19
        exact zlp_on sm
      rw [e1, e2]
      have xo : ∀ a, a ≠ b + 5 → a ≠ b + 11 → (sto (sto mx (b + 11) (6 * s + j) (nI t)) (b + 5) s (mx (b + 5) s ||| ((1 : Int32) <<< (nI t &&& 31)))) a = mx a := fun a a5 a11 => by rw [rd_o a5, rd_o a11]
      have x11 : ∀ i, (sto (sto mx (b + 11) (6 * s + j) (nI t)) (b + 5) s (mx (b + 5) s ||| ((1 : Int32) <<< (nI t &&& 31)))) (b + 11) i = if i = 6 * s + j then nI t else mx (b + 11) i := fun i => by
        rw [rd_o (by omega)]
        by_cases q : i = 6 * s + j
        · rw [q, rd_s, if_pos rfl]
        · rw [rd_j q, if_neg q]
      have y24 : ∀ i, (sto mm 24 (6 * s + j) (nI t)) 24 i = if i = 6 * s + j then nI t else mm 24 i := fun i => by
        by_cases q : i = 6 * s + j
        · rw [q, rd_s, if_pos rfl]
        · rw [rd_j q, if_neg q]
      have yo : ∀ a, a ≠ 24 → (sto mm 24 (6 * s + j) (nI t)) a = mm a := fun a ha => rd_o ha
      have x5 : ∀ s2, (sto (sto mx (b + 11) (6 * s + j) (nI t)) (b + 5) s (mx (b + 5) s ||| ((1 : Int32) <<< (nI t &&& 31)))) (b + 5) s2 = if s2 = s then (mx (b + 5) s ||| ((1 : Int32) <<< (nI t &&& 31))) else mx (b + 5) s2 := fun s2 => by
        by_cases q : s2 = s
        · rw [q, rd_s, if_pos rfl]
        · rw [rd_j q, rd_o (by omega), if_neg q]
      have lk0 : lkf b mx (sto (sto mx (b + 11) (6 * s + j) (nI t)) (b + 5) s (mx (b + 5) s ||| ((1 : Int32) <<< (nI t &&& 31)))) := xo
      have hL2 : LK (sto (sto mx (b + 11) (6 * s + j) (nI t)) (b + 5) s (mx (b + 5) s ||| ((1 : Int32) <<< (nI t &&& 31)))) (sto mm 24 (6 * s + j) (nI t)) b c P (fun x i => x < s ∨ (x = s ∧ i < j + 1)) := fun s2 hs2 => by
        obtain ⟨f1, f2, f3, f4, f5, f6, f7, f8, f9⟩ := hL s2 hs2
        refine ⟨f1, by rw [yo 21 (by decide)]; exact f2, by rw [xo (b + 2) (by omega) (by omega)]; exact f3, by rw [xo (b + 1) (by omega) (by omega), yo 19 (by decide)]; exact f4, by rw [xo (b + 3) (by omega) (by omega), yo 20 (by decide)]; exact f5, by rw [xo (b + 6) (by omega) (by omega)]; exact f6, by rw [xo (b + 4) (by omega) (by omega), yo 22 (by decide)]; exact f7, fun i hi => ?_, fun t2 ht2 => ?_⟩
        · obtain ⟨v1, v2, v3, v4, v5, v6⟩ := f8 i hi
          rw [xo (b + 9) (by omega) (by omega), xo (b + 10) (by omega) (by omega), xo (b + 12) (by omega) (by omega), xo (b + 13) (by omega) (by omega), x11, y24, yo 22 (by decide), yo 23 (by decide), yo 25 (by decide), yo 26 (by decide)]
          refine ⟨v1, v2, ?_, v4, v5, v6⟩
          by_cases q : 6 * s2 + i = 6 * s + j
          · rw [if_pos q, if_pos q]
          · rw [if_neg q, if_neg q]; exact v3
        · rw [x5, yo 23 (by decide)]
          by_cases es : s2 = s
          · rw [if_pos es, b_or, one_shl (by omega) (by omega), Bool.or_eq_true, decide_eq_true_iff]
            rw [es] at f9 ⊢
            rw [f9 t2 ht2]
            constructor
            · rintro (⟨i, hi, d, r1, r2⟩ | e)
              · refine ⟨i, hi, d.elim Or.inl (fun d => Or.inr ⟨d.1, by omega⟩), r1, ?_⟩
                rw [y24, if_neg (by rcases d with d | d <;> omega)]
                exact r2
              · exact ⟨j, hj, Or.inr ⟨rfl, by omega⟩, hr, by rw [y24, if_pos rfl, e]⟩
            · rintro ⟨i, hi, d, r1, r2⟩
              rw [y24] at r2
              by_cases q : i = j
              · rw [if_pos (by rw [q])] at r2
                exact Or.inr ((nI_eq (by omega) (by omega)).mp r2).symm
              · rw [if_neg (by omega)] at r2
                exact Or.inl ⟨i, hi, d.elim Or.inl (fun d => Or.inr ⟨d.1, by omega⟩), r1, r2⟩
          · have nj : ∀ i, i < P s2 → ¬ 6 * s2 + i = 6 * s + j := fun i hi => by omega
            rw [if_neg es, f9 t2 ht2]
            constructor
            · rintro ⟨i, hi, d, r1, r2⟩
              exact ⟨i, hi, d.elim Or.inl (fun d => absurd d.1 es), r1, by rw [y24, if_neg (nj i hi)]; exact r2⟩
            · rintro ⟨i, hi, d, r1, r2⟩
              rw [y24, if_neg (nj i hi)] at r2
              exact ⟨i, hi, d.elim Or.inl (fun d => absurd d.1 es), r1, r2⟩
      rcases ih (j + 1) n _ _ (by omega) (by omega) (by rw [xo b (by omega) (by omega)]; exact h0) (by rw [yo 0 (by decide)]; exact h21) (by rw [yo 0 (by decide)]; exact h42) hL2 with ⟨pl, mx2, mm2, r1, r2, r3, r4, r5, r6⟩ | ⟨mx2, mm2, r1, r2, r3, r4, r5, r6⟩
      · exact Or.inl ⟨pl, mx2, mm2, r1, r2, r3, r4, r5, fun a a5 a11 => (r6 a a5 a11).trans (lk0 a a5 a11)⟩
      · exact Or.inr ⟨mx2, mm2, r1, r2, r3, r4, fun a a5 a11 => (r5 a a5 a11).trans (lk0 a a5 a11), r6⟩
theorem settle_dead {n : Nat} {i : Int32} {d : Mem} (h : ¬ d 0 42 = 0) : l_X7_settleWords_2 (n + 1) i d = some d := by
  unfold l_X7_settleWords_2
  refine zlp_off ?_
  unfold t_X7_settleWords_2
  by_cases q : d 0 21 ≤ i
  · rw [if_pos q]
  · rw [if_neg q, if_neg h]
theorem c_link {b c : Nat} {P : Nat → Nat} (hb : isb b) (hc : c ≤ 6) : ∀ (k s n : Nat) (mx mm : Mem), c = s + k → k + 1 < n → mx b 0 = nI c → mm 0 21 = nI c → mm 0 42 = 0 → LK mx mm b c P (fun x _ => x < s) → (∃ pl mx2 mm2, l_X0_linkReferences_2 b n (nI s) mx = some (pl, mx2) ∧ l_X7_settleWords_2 n (nI s) mm = some mm2 ∧ ¬ mm2 0 42 = 0 ∧ mm2 0 43 = pl ∧ (∃ q, q < 1000 ∧ pl = nI q) ∧ lkf b mx mx2) ∨ ∃ mx2 mm2, l_X0_linkReferences_2 b n (nI s) mx = some (-1, mx2) ∧ l_X7_settleWords_2 n (nI s) mm = some mm2 ∧ mm2 0 42 = 0 ∧ mm2 0 21 = nI c ∧ lkf b mx mx2 ∧ LK mx2 mm2 b c P (fun x _ => x < c) := by
  have hb2 := isb_e hb
  intro k
  induction k with
  | zero =>
    intro s n mx mm hs hn h0 h21 h42 hL
    obtain ⟨n, rfl⟩ : ∃ q, n = q + 1 := ⟨n - 1, by omega⟩
    refine Or.inr ⟨mx, mm, ?_, ?_, h42, h21, fun _ _ _ => rfl, LK_d hL (fun x i hx _ => ⟨fun _ => hx, fun _ => by omega⟩)⟩
    · unfold l_X0_linkReferences_2
      refine zlp_off ?_
      show t_X0_linkReferences_2 b (nI s) mx = _
      unfold t_X0_linkReferences_2
      rw [h0, if_pos (nI_le (by omega) (by omega))]
    · unfold l_X7_settleWords_2
      refine zlp_off ?_
      show t_X7_settleWords_2 (nI s) mm = _
      unfold t_X7_settleWords_2
      rw [h21, if_pos (nI_le (by omega) (by omega))]
  | succ k ih =>
    intro s n mx mm hs hn h0 h21 h42 hL
    obtain ⟨n, rfl⟩ : ∃ q, n = q + 1 := ⟨n - 1, by omega⟩
    have hsc : s < c := by omega
    have p6 := (hL s hsc).1
    rcases c_link_in (P := P) hb hc hsc (P s) 0 FU mx mm (by omega) (FU_lt (by omega)) h0 h21 h42 (LK_d hL (fun x i _ _ => ⟨Or.inl, fun w => w.elim id (fun w => absurd w.2 (Nat.not_lt_zero _))⟩)) with ⟨pl, mx2, mm2, r1, r2, r3, r4, r5, r6⟩ | ⟨mx2, mm2, r1, r2, r3, r4, r5, r6⟩
    · obtain ⟨n, rfl⟩ : ∃ q, n = q + 1 := ⟨n - 1, by omega⟩
      refine Or.inl ⟨pl, mx2, mm2, ?_, ?_, r3, r4, r5, r6⟩
      · unfold l_X0_linkReferences_2
        refine zlp_off ?_
        show t_X0_linkReferences_2 b (nI s) mx = _
        unfold t_X0_linkReferences_2
        rw [h0, if_neg (nI_ge hsc (by omega))]
        show zbS (l_X0_linkReferences_12 b (nI s) FU (nI 0) mx) _ _ = _
        rw [r1, zbS_l]
      · have st : t_X7_settleWords_2 (nI s) mm = some (.inl (nI (s + 1), mm2)) := by
          unfold t_X7_settleWords_2
          rw [h21, if_neg (nI_ge hsc (by omega)), if_pos h42]
          show (l_X7_settleWords_19 (nI s) FU (nI 0) mm).bind _ = _
          rw [r2, bind_s]
          show some (Sum.inl (nI s + 1, mm2)) = _
          rw [nI_s1]
        have := settle_dead (n := n) (i := nI (s + 1)) r3
        unfold l_X7_settleWords_2 at this ⊢
        rw [zlp_on st]
        exact this
    · have sx : t_X0_linkReferences_2 b (nI s) mx = some (.inl (nI (s + 1), mx2)) := by
        unfold t_X0_linkReferences_2
        rw [h0, if_neg (nI_ge hsc (by omega))]
        show zbS (l_X0_linkReferences_12 b (nI s) FU (nI 0) mx) _ _ = _
        rw [r1, zbS_r]
        show some (Sum.inl (nI s + 1, mx2)) = _
        rw [nI_s1]
      have st : t_X7_settleWords_2 (nI s) mm = some (.inl (nI (s + 1), mm2)) := by
        unfold t_X7_settleWords_2
        rw [h21, if_neg (nI_ge hsc (by omega)), if_pos h42]
        show (l_X7_settleWords_19 (nI s) FU (nI 0) mm).bind _ = _
        rw [r2, bind_s]
        show some (Sum.inl (nI s + 1, mm2)) = _
        rw [nI_s1]
      have e1 : l_X0_linkReferences_2 b (n + 1) (nI s) mx = l_X0_linkReferences_2 b n (nI (s + 1)) mx2 := by
        unfold l_X0_linkReferences_2
        exact zlp_on sx
      have e2 : l_X7_settleWords_2 (n + 1) (nI s) mm = l_X7_settleWords_2 n (nI (s + 1)) mm2 := by
        unfold l_X7_settleWords_2
        exact zlp_on st
      rw [e1, e2]
      rcases ih (s + 1) n mx2 mm2 (by omega) (by omega) (by rw [r5 b (by omega) (by omega)]; exact h0) r4 r3 r6 with ⟨pl, mx3, mm3, q1, q2, q3, q4, q5, q6⟩ | ⟨mx3, mm3, q1, q2, q3, q4, q5, q6⟩
      · exact Or.inl ⟨pl, mx3, mm3, q1, q2, q3, q4, q5, fun a a5 a11 => (q6 a a5 a11).trans (r5 a a5 a11)⟩
      · exact Or.inr ⟨mx3, mm3, q1, q2, q3, q4, fun a a5 a11 => (q5 a a5 a11).trans (r5 a a5 a11), q6⟩
