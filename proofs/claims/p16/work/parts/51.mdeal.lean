/-! the reference's dealing, as values -/
def ix (x : Int32) : Nat := x.toNatClampNeg
theorem ix_n {n : Nat} (h : n < 2 ^ 31) : ix (nI n) = n := nI_clamp h
def GM (m : Mem) (k : Nat) (d N T : Nat → Nat) : Prop := GXf (m 0 0) (m 3) (m 4) (m 5) k d N T
def BL (m : Mem) : Prop := ∀ j, j < 60 → (m 37 j = 0 ∨ m 37 j = 1) ∧ (m 38 j = 0 ∨ m 38 j = 1)
def KD (m : Mem) (s p j : Nat) : Prop := (m 14 (160 * s + j) = 0 ∧ (m 15 (160 * s + j) = -4 ∨ ∃ u, u < j ∧ m 15 (160 * s + j) = nI (160 * s + u))) ∨ (m 14 (160 * s + j) = 1 ∧ ∃ u, u < j ∧ m 15 (160 * s + j) = nI (160 * s + u)) ∨ (m 14 (160 * s + j) = 2 ∧ (∃ u, u < j ∧ m 15 (160 * s + j) = nI (160 * s + u)) ∧ (m 18 (160 * s + j) = -4 ∨ ∃ i, i < p ∧ m 18 (160 * s + j) = nI (6 * s + i)) ∧ (∃ l, l ≤ 5 ∧ m 16 (160 * s + j) = nI l) ∧ ∃ h, h ≤ 5 ∧ m 17 (160 * s + j) = nI h)
def SH (m : Mem) (c : Nat) (P Z : Nat → Nat) : Prop := m 0 7 = nI c ∧ c ≤ 6 ∧ ∀ s, s < c → (P s ≤ 6 ∧ m 8 s = nI (P s) ∧ ∀ i, i < P s → (m 10 (6 * s + i) = 1 ∨ m 10 (6 * s + i) = 2) → ∃ t, t < c ∧ m 11 (6 * s + i) = nI t) ∧ Z s ≤ 160 ∧ m 13 s = nI (Z s) ∧ ∀ j, j < Z s → KD m s (P s) j
theorem p5 (n i : Nat) : (5 : Int32) * nI n + nI i = nI (n * 5 + i) := by rw [show (5 : Int32) = nI 5 from rfl, nI_mul, nI_add, Nat.mul_comm]
theorem p6 (n i : Nat) : (6 : Int32) * nI n + nI i = nI (6 * n + i) := by rw [show (6 : Int32) = nI 6 from rfl, nI_mul, nI_add]
theorem p10 (n i : Nat) : (10 : Int32) * nI n + nI i = nI (10 * n + i) := by rw [show (10 : Int32) = nI 10 from rfl, nI_mul, nI_add]
theorem p160 (n : Nat) : (160 : Int32) * nI n = nI (160 * n) := by rw [show (160 : Int32) = nI 160 from rfl, nI_mul]
def tkV (m : Mem) (p j : Nat) (sv : Int32) : Int32 :=
  if m 4 j = m 9 p then (if m 10 p = 1 then (if sv = 0 then m 37 (10 * ix (m 11 p) + ix (m 5 j)) else m 38 (10 * ix (m 11 p) + ix (m 5 j))) else if m 10 p = 2 then (if m 37 (10 * ix (m 11 p) + ix (m 5 j)) = 0 then 1 else 0) else if m 10 p = 0 then 1 else if m 1 (ix (m 5 j)) = 0 then 0 else bb (m 11 p ≤ m 2 (ix (m 5 j)) ∧ m 2 (ix (m 5 j)) ≤ m 12 p)) else 0
theorem takes_eq {m : Mem} {p n i : Nat} {sv : Int32} (hp : p < 36) (hj : n * 5 + i < 50) (ht : ∃ t, t < 10 ∧ m 5 (n * 5 + i) = nI t) (hf : (m 10 p = 1 ∨ m 10 p = 2) → ∃ f, f < 6 ∧ m 11 p = nI f) (hB : BL m) : s_X7_takes m (nI p) (nI n) (nI i) sv = some (tkV m p (n * 5 + i) sv) := by
  obtain ⟨t, ht, et⟩ := ht
  have E : ∃ r, s_X7_takes m (nI p) (nI n) (nI i) sv = some r ∧ r = tkV m p (n * 5 + i) sv := by
    unfold s_X7_takes
    rw [p5, ix_nI (n := p) (by omega), ix_nI (n := n * 5 + i) (by omega), et]
    have zp : zin (nI p) 36 = true := zin_nI hp (by decide)
    have zj : zin (nI (n * 5 + i)) 50 = true := zin_nI hj (by decide)
    have zt : zin (nI t) 10 = true := zin_nI ht (by decide)
    refine ex_ck zj (ex_ck zp (ex_if (fun h1 => ex_ck zj (ex_n (ex_ck zp ?_))) (fun h1 => ex_s (by unfold tkV; rw [if_neg h1]))))
    rw [ix_nI (n := t) (by omega)]
    refine ex_if (fun h2 => ?_) (fun h2 => ex_ck zp (ex_if (fun h3 => ?_) (fun h3 => ex_ck zp (ex_if (fun h4 => ex_s ?_) (fun h4 => ex_ck zt (ex_if (fun h5 => ex_s ?_) (fun h5 => ex_ck zt (ex_ck zp (ex_ck zp ?_)))))))))
    · obtain ⟨f, hf, ef⟩ := hf (Or.inl h2)
      rw [ef, p10, ix_nI (n := 10 * f + t) (by omega)]
      have zz : zin (nI (10 * f + t)) 60 = true := zin_nI (by omega) (by decide)
      obtain ⟨b1, b2⟩ := hB (10 * f + t) (by omega)
      refine ex_if (fun h3 => ex_ck zp (ex_ck zz (ex_ck b1 (ex_s ?_)))) (fun h3 => ex_ck zp (ex_ck zz (ex_ck b2 (ex_s ?_))))
      · unfold tkV; rw [if_pos h1, if_pos h2, if_pos h3, ef, et, ix_n (by omega), ix_n (by omega)]
      · unfold tkV; rw [if_pos h1, if_pos h2, if_neg h3, ef, et, ix_n (by omega), ix_n (by omega)]
    · obtain ⟨f, hf, ef⟩ := hf (Or.inr h3)
      rw [ef, p10, ix_nI (n := 10 * f + t) (by omega)]
      have zz : zin (nI (10 * f + t)) 60 = true := zin_nI (by omega) (by decide)
      refine ex_ck zp (ex_ck zz (ex_if (fun h4 => ex_s ?_) (fun h4 => ex_s ?_)))
      · unfold tkV; rw [if_pos h1, if_neg h2, if_pos h3, ef, et, ix_n (by omega), ix_n (by omega), if_pos h4]
      · unfold tkV; rw [if_pos h1, if_neg h2, if_pos h3, ef, et, ix_n (by omega), ix_n (by omega), if_neg h4]
    · unfold tkV; rw [if_pos h1, if_neg h2, if_neg h3, if_pos h4]
    · unfold tkV; rw [if_pos h1, if_neg h2, if_neg h3, if_neg h4, et, ix_n (by omega), if_pos h5]
    · rw [in_i]
      have tv : tkV m p (n * 5 + i) sv = bb (m 11 p ≤ m 2 t ∧ m 2 t ≤ m 12 p) := by
        unfold tkV; rw [if_pos h1, if_neg h2, if_neg h3, if_neg h4, et, ix_n (by omega), if_neg h5]
      rw [tv]
      refine ex_b (Q := fun r => r = bb (m 11 p ≤ m 2 t ∧ m 2 t ≤ m 12 p)) ⟨_, rfl, rfl⟩ (fun r hr => ?_)
      subst hr
      refine ex_if (fun z => ex_s ?_) (fun z => ex_s ?_)
      · exact z.symm
      · rcases bb_z (p := m 11 p ≤ m 2 t ∧ m 2 t ≤ m 12 p) with h | h
        · exact absurd h z
        · exact h.symm
  obtain ⟨r, h1, h2⟩ := E
  rw [h1, h2]
def lfV (m : Mem) (p n : Nat) (sv : Int32) (y : Int32) : Nat → Int32
  | 0 => y
  | i + 1 => lfV m p n sv y i ||| (if (m 39 i = -4 ∨ m 39 i = nI p) ∧ ¬ tkV m p (n * 5 + i) sv = 0 then (1 : Int32) <<< (((1 : Int32) <<< (nI i &&& 31)) &&& 31) else 0)
/-- what a node's edges are, as the reference's rows hold them -/
def EG (m : Mem) (n d : Nat) : Prop := n < 10 ∧ d ≤ 5 ∧ m 3 n = nI d ∧ ∀ i, i < d → ∃ t, t < 10 ∧ m 5 (n * 5 + i) = nI t
theorem leaf_eq {m : Mem} {p n d : Nat} {sv y : Int32} (hp : p < 36) (hE : EG m n d) (hf : (m 10 p = 1 ∨ m 10 p = 2) → ∃ f, f < 6 ∧ m 11 p = nI f) (hB : BL m) : l_X7_dealtTo_144 (nI n) sv m (nI p) FU y 0 = some (lfV m p n sv y d) := by
  obtain ⟨hn, hd, ed, ht⟩ := hE
  have E : ∃ r, l_X7_dealtTo_144 (nI n) sv m (nI p) FU y 0 = some r ∧ r = lfV m p n sv y d := by
    unfold l_X7_dealtTo_144
    refine forG d (fun j (a : Int32 × Int32) => a.1 = lfV m p n sv y j ∧ a.2 = nI j) _ (fun j a hj ha => ?_) (fun a ha => ?_) FU 0 (y, 0) (Nat.zero_le _) ⟨rfl, rfl⟩ (FU_lt (by omega))
    · obtain ⟨e1, e2⟩ := ha
      unfold t_X7_dealtTo_144
      rw [e1, e2, ix_nI (n := n) (by omega), ed, ix_nI (n := j) (by omega), takes_eq hp (by omega) (ht j hj) hf hB]
      have z5 : zin (nI j) 5 = true := zin_nI (by omega) (by decide)
      have np : ¬ nI p = -4 := fun z => by
        have := congrArg Int32.toInt z
        rw [nI_toInt (by omega), show (-4 : Int32).toInt = -4 from rfl] at this
        omega
      refine st_ck (zin_nI hn (by decide)) (st_if (fun z => absurd z (nI_ge hj (by omega))) (fun _ => st_if (fun z => absurd z np) (fun _ => st_ck z5 ?_)))
      refine st_b (Q := fun r => (r = 1 ∧ (m 39 j = -4 ∨ m 39 j = nI p)) ∨ (r = 0 ∧ ¬ (m 39 j = -4 ∨ m 39 j = nI p))) (ex_if (fun h => ex_s (Or.inl ⟨rfl, Or.inl h⟩)) (fun h => ex_ck z5 (ex_if (fun h2 => ex_s (Or.inl ⟨rfl, Or.inr h2⟩)) (fun h2 => ex_s (Or.inr ⟨rfl, fun z => z.elim h h2⟩))))) (fun r hr => ?_)
      have nx : ∀ {w : Int32}, w = lfV m p n sv y (j + 1) → (w, nI j + 1).1 = lfV m p n sv y (j + 1) ∧ (w, nI j + 1).2 = nI (j + 1) := fun h => ⟨h, nI_s1⟩
      rcases hr with ⟨rfl, hm⟩ | ⟨rfl, hm⟩
      · refine st_if (fun z => absurd z (by decide)) (fun _ => st_b (Q := fun r => r = tkV m p (n * 5 + j) sv) ⟨_, rfl, rfl⟩ (fun r hr => ?_))
        subst hr
        refine st_if (fun z => st_n (st_n (st_l (nx ?_)))) (fun z => st_n (st_n (st_l (nx ?_))))
        · show _ = _ ||| _
          rw [if_neg (fun q => q.2 z)]
        · show _ = _ ||| _
          rw [if_pos ⟨hm, z⟩]
      · refine st_if (fun _ => st_n (st_n (st_l (nx ?_)))) (fun z => absurd rfl z)
        show _ = _ ||| _
        rw [if_neg (fun q => hm q.1)]
    · obtain ⟨e1, e2⟩ := ha
      unfold t_X7_dealtTo_144
      rw [e1, e2, ix_nI (n := n) (by omega), ed, ck_p (zin_nI hn (by decide))]
      exact ⟨_, if_pos (nI_le (Nat.le_refl _) (by omega)), rfl⟩
  obtain ⟨r, h1, h2⟩ := E
  rw [h1, h2]
theorem leaf_none {m : Mem} {n d : Nat} {sv y : Int32} (hE : EG m n d) : l_X7_dealtTo_144 (nI n) sv m (-4) FU y 0 = some y := by
  obtain ⟨hn, hd, ed, ht⟩ := hE
  unfold l_X7_dealtTo_144
  rw [show FU = 999999 + 1 from rfl]
  apply zlp_off
  unfold t_X7_dealtTo_144
  rw [ck_p (zin_nI hn (by decide))]
  by_cases h : m 3 (Int32.toNatClampNeg (nI n)) ≤ 0
  · rw [if_pos h]
  · rw [if_neg h, if_pos rfl]
def lfx (m : Mem) (n : Nat) (sv : Int32) (d : Nat) (x y : Int32) : Int32 := if x = -4 then y else lfV m (ix x) n sv y d
def dstep (m : Mem) (s n : Nat) (sv : Int32) (d k : Nat) (a : Int32 × (Nat → Int32)) : Int32 × (Nat → Int32) :=
  if m 14 (160 * s + k) = 2 then (a.1, upd a.2 (ix (m 15 (160 * s + k)) - 160 * s) (Jn (a.2 (ix (m 15 (160 * s + k)) - 160 * s)) (Cn (lfx m n sv d (m 18 (160 * s + k)) (a.2 k)) (ix (m 16 (160 * s + k))) (ix (m 17 (160 * s + k))))))
  else if m 14 (160 * s + k) = 1 then (a.1, upd a.2 (ix (m 15 (160 * s + k)) - 160 * s) (a.2 (ix (m 15 (160 * s + k)) - 160 * s) ||| a.2 k))
  else if m 15 (160 * s + k) = -4 then (a.2 k, a.2) else (a.1, upd a.2 (ix (m 15 (160 * s + k)) - 160 * s) (a.2 k))
def drun (m : Mem) (s n : Nat) (sv : Int32) (d : Nat) : Nat → (Int32 × (Nat → Int32)) → (Int32 × (Nat → Int32))
  | 0, a => a
  | k + 1, a => drun m s n sv d k (dstep m s n sv d k a)
def din (m : Mem) (s : Nat) : Nat → Int32 := fun j => if m 14 (160 * s + j) = 1 then 1 else 0
def DV (m : Mem) (s n : Nat) (sv : Int32) (d z : Nat) : Int32 := (drun m s n sv d z (1, din m s)).1
theorem tkV_c {m m2 : Mem} (e : ∀ c, c ≠ 40 → m2 c = m c) : tkV m2 = tkV m := by
  funext p j sv
  unfold tkV
  rw [e 4 (by decide), e 9 (by decide), e 10 (by decide), e 37 (by decide), e 11 (by decide), e 5 (by decide), e 38 (by decide), e 1 (by decide), e 2 (by decide), e 12 (by decide)]
theorem lfV_c {m m2 : Mem} (e : ∀ c, c ≠ 40 → m2 c = m c) {p n : Nat} {sv y : Int32} : ∀ d, lfV m2 p n sv y d = lfV m p n sv y d
  | 0 => rfl
  | d + 1 => by
    unfold lfV
    rw [lfV_c e d, tkV_c e, e 39 (by decide)]
theorem dstep_u {m : Mem} {s p k z : Nat} (hk : KD m s p k) (hz : k < z) (hs : s < 6) (h15 : ¬ m 15 (160 * s + k) = -4) (hz1 : z ≤ 160) : ∃ u, u < k ∧ m 15 (160 * s + k) = nI (160 * s + u) ∧ ix (m 15 (160 * s + k)) - 160 * s = u := by
  have H : ∃ u, u < k ∧ m 15 (160 * s + k) = nI (160 * s + u) := by
    rcases hk with ⟨-, h | h⟩ | ⟨-, h⟩ | ⟨-, h, -⟩
    · exact absurd h h15
    · exact h
    · exact h
    · exact h
  obtain ⟨u, hu, e⟩ := H
  exact ⟨u, hu, e, by rw [e, ix_n (by omega)]; omega⟩
theorem nn4 {x : Nat} (h : x < 2 ^ 31) : ¬ nI x = -4 := fun z => by
  have := congrArg Int32.toInt z
  rw [nI_toInt h, show (-4 : Int32).toInt = -4 from rfl] at this
  omega
/-- only what stands below z is looked at -/
theorem drun_ag {m : Mem} {s n d p z : Nat} {sv : Int32} (hs : s < 6) (hz : z ≤ 160) (hK : ∀ j, j < z → KD m s p j) : ∀ k, k ≤ z → ∀ (w : Int32) (f g : Nat → Int32), (∀ j, j < z → f j = g j) → (drun m s n sv d k (w, f)).1 = (drun m s n sv d k (w, g)).1
  | 0, _, w, f, g, _ => rfl
  | k + 1, hk, w, f, g, h => by
    have hkz : k < z := hk
    have ek := h k hkz
    unfold drun
    have U : ∀ (u : Nat) (x : Int32), ∀ j, j < z → upd f u x j = upd g u x j := fun u x j hj => by
      rw [upd_if, upd_if]
      by_cases e : j = u
      · rw [if_pos e, if_pos e]
      · rw [if_neg e, if_neg e]; exact h j hj
    by_cases c15 : m 15 (160 * s + k) = -4
    · have c2 : ¬ m 14 (160 * s + k) = 2 := fun c => by
        rcases hK k hkz with ⟨e, -⟩ | ⟨e, -⟩ | ⟨-, ⟨u, hu, e⟩, -⟩
        · rw [e] at c; exact absurd c (by decide)
        · rw [e] at c; exact absurd c (by decide)
        · rw [c15] at e; exact nn4 (by omega) e.symm
      have c1 : ¬ m 14 (160 * s + k) = 1 := fun c => by
        rcases hK k hkz with ⟨e, -⟩ | ⟨-, u, hu, e⟩ | ⟨e, -⟩
        · rw [e] at c; exact absurd c (by decide)
        · rw [c15] at e; exact nn4 (by omega) e.symm
        · rw [e] at c; exact absurd c (by decide)
      unfold dstep
      rw [if_neg c2, if_neg c1, if_pos c15, if_neg c2, if_neg c1, if_pos c15]
      dsimp only
      rw [ek]
      exact drun_ag hs hz hK k (by omega) _ _ _ h
    · obtain ⟨u, hu, e15, eu⟩ := dstep_u (hK k hkz) hkz hs c15 hz
      have hu2 := h u (by omega)
      unfold dstep
      rw [eu]
      dsimp only
      rw [ek, hu2]
      by_cases c2 : m 14 (160 * s + k) = 2
      · rw [if_pos c2, if_pos c2]
        exact drun_ag hs hz hK k (by omega) _ _ _ (U _ _)
      · rw [if_neg c2, if_neg c2]
        by_cases c1 : m 14 (160 * s + k) = 1
        · rw [if_pos c1, if_pos c1]
          exact drun_ag hs hz hK k (by omega) _ _ _ (U _ _)
        · rw [if_neg c1, if_neg c1, if_neg c15, if_neg c15]
          exact drun_ag hs hz hK k (by omega) _ _ _ (U _ _)
