/-! rows of sets -/
theorem bt_1 : ∀ j, j < 32 → bt 1 j = decide (j = 0) := by decide +kernel
theorem bit_v {a : Int32} {i : Nat} (hi : i < 32) : ((a >>> (nI i &&& 31)) &&& 1) = if bt a i = true then 1 else 0 := by
  apply b_ext
  intro j hj
  rw [b_and, b_sshr i hi a hj, bt_1 j hj]
  by_cases e : j = 0
  · subst e
    cases h : bt a i <;> simp [h, hi, b_0, bt_1]
  · cases h : bt a i <;> simp [h, e, b_0, bt_1 j hj]
theorem bit_1 {a : Int32} {i : Nat} (hi : i < 32) : ((a >>> (nI i &&& 31)) &&& 1) = 1 ↔ bt a i = true := by
  rw [bit_v hi]
  cases h : bt a i <;> simp
theorem bit_0 {a : Int32} {i : Nat} (hi : i < 32) : ((a >>> (nI i &&& 31)) &&& 1) = 0 ↔ bt a i = false := by
  rw [bit_v hi]
  cases h : bt a i <;> simp
theorem one_shl {z j : Nat} (hz : z < 32) (hj : j < 32) : bt ((1 : Int32) <<< (nI z &&& 31)) j = decide (j = z) := by
  rw [b_shl z hz 1 hj]
  by_cases h : z ≤ j
  · rw [bt_1 (j - z) (by omega)]
    by_cases e : j = z
    · subst e; simp
    · simp [h, e, show ¬ j - z = 0 by omega]
  · simp [h, show ¬ j = z by omega]
theorem nx_or (a b : Nat) : nI a ||| nI b = nI (a ||| b) := by
  apply Int32.toBitVec_inj.1
  show BitVec.ofNat 32 a ||| BitVec.ofNat 32 b = BitVec.ofNat 32 (a ||| b)
  apply BitVec.eq_of_getLsbD_eq
  intro i hi
  simp [hi]
theorem or_32 {x y : Nat} (hx : x < 32) (hy : y < 32) : x ||| y < 32 := Nat.or_lt_two_pow (n := 5) hx hy
theorem and_0 {x y : Nat} (hx : x < 32) (hy : y < 32) : (nI x &&& nI y) = 0 ↔ x &&& y = 0 := by
  have h : x &&& y ≤ x := Nat.and_le_left
  rw [nx_and, ← nI_0, nI_eq (by omega) (by decide)]
def mts (x y z : Nat) : Prop := x &&& y = 0 ∧ x ||| y = z
theorem joined_in {b : Int32} {x : Nat} (hx : x < 32) (c0 : Int32) : ∃ c, l_X7_joined_22 b (nI x) FU c0 0 = some c ∧ ∀ z, z < 32 → (bt c z = true ↔ bt c0 z = true ∨ ∃ y, y < 32 ∧ bt b y = true ∧ mts x y z) := by
  unfold l_X7_joined_22
  refine forG 32 (fun j (a : Int32 × Int32) => a.2 = nI j ∧ ∀ z, z < 32 → (bt a.1 z = true ↔ bt c0 z = true ∨ ∃ y, y < j ∧ bt b y = true ∧ mts x y z)) _ (fun j a hj ha => ?_) (fun a ha => ?_) FU 0 (c0, 0) (Nat.zero_le _) ⟨rfl, fun z hz => ?_⟩ (FU_lt (by omega))
  · obtain ⟨e1, hb⟩ := ha
    unfold t_X7_joined_22
    rw [e1]
    have no : ¬ (bt b j = true ∧ x &&& j = 0) → ∀ z, z < 32 → (bt a.1 z = true ↔ bt c0 z = true ∨ ∃ y, y < j + 1 ∧ bt b y = true ∧ mts x y z) := fun h z hz => by
      rw [hb z hz]
      constructor
      · rintro (h1 | ⟨y, hy, h2, h3⟩)
        · exact Or.inl h1
        · exact Or.inr ⟨y, by omega, h2, h3⟩
      · rintro (h1 | ⟨y, hy, h2, h3⟩)
        · exact Or.inl h1
        · by_cases e : y = j
          · subst e; exact absurd ⟨h2, h3.1⟩ h
          · exact Or.inr ⟨y, by omega, h2, h3⟩
    refine st_if (fun z => absurd z (nI_ge (b := 32) hj (by decide))) (fun _ => st_if (fun h1 => st_if (fun h2 => ?_) (fun h2 => ?_)) (fun h1 => ?_))
    · have h1 := (bit_1 hj).mp h1
      have h2 := (and_0 hx hj).mp h2
      refine st_n (st_n (st_l ⟨nI_s1, fun z hz => ?_⟩))
      have o := or_32 hx hj
      rw [nx_or, b_or, one_shl o hz, Bool.or_eq_true, hb z hz, decide_eq_true_iff]
      constructor
      · rintro ((h3 | ⟨y, hy, h4, h5⟩) | h3)
        · exact Or.inl h3
        · exact Or.inr ⟨y, by omega, h4, h5⟩
        · exact Or.inr ⟨j, by omega, h1, h2, h3.symm⟩
      · rintro (h3 | ⟨y, hy, h4, h5⟩)
        · exact Or.inl (Or.inl h3)
        · by_cases e : y = j
          · subst e; exact Or.inr h5.2.symm
          · exact Or.inl (Or.inr ⟨y, by omega, h4, h5⟩)
    · exact st_n (st_l ⟨nI_s1, no (fun z => h2 ((and_0 hx hj).mpr z.2))⟩)
    · exact st_n (st_l ⟨nI_s1, no (fun z => h1 ((bit_1 hj).mpr z.1))⟩)
  · unfold t_X7_joined_22
    rw [ha.1]
    exact ⟨_, if_pos (by decide), ha.2⟩
  · constructor
    · exact Or.inl
    · rintro (h | ⟨y, hy, -⟩)
      · exact h
      · exact absurd hy (Nat.not_lt_zero y)
theorem joined_all (a b : Int32) : ∃ c, s_X7_joined a b = some c ∧ ∀ z, z < 32 → (bt c z = true ↔ ∃ x, x < 32 ∧ bt a x = true ∧ ∃ y, y < 32 ∧ bt b y = true ∧ mts x y z) := by
  unfold s_X7_joined l_X7_joined_4
  refine ex_b (Q := fun c => ∀ z, z < 32 → (bt c z = true ↔ ∃ x, x < 32 ∧ bt a x = true ∧ ∃ y, y < 32 ∧ bt b y = true ∧ mts x y z)) ?_ (fun y h => ex_s h)
  refine forG 32 (fun j (q : Int32 × Int32) => q.2 = nI j ∧ ∀ z, z < 32 → (bt q.1 z = true ↔ ∃ x, x < j ∧ bt a x = true ∧ ∃ y, y < 32 ∧ bt b y = true ∧ mts x y z)) _ (fun j q hj hq => ?_) (fun q hq => ?_) FU 0 (0, 0) (Nat.zero_le _) ⟨rfl, fun z hz => ?_⟩ (FU_lt (by omega))
  · obtain ⟨e1, hb⟩ := hq
    unfold t_X7_joined_4
    rw [e1]
    refine st_if (fun z => absurd z (nI_ge (b := 32) hj (by decide))) (fun _ => st_if (fun h1 => ?_) (fun h1 => ?_))
    · have h1 := (bit_1 hj).mp h1
      refine st_b (joined_in hj q.1) (fun c hc => st_n (st_l ⟨nI_s1, fun z hz => ?_⟩))
      rw [hc z hz, hb z hz]
      constructor
      · rintro (⟨x, hx, h3⟩ | h3)
        · exact ⟨x, by omega, h3⟩
        · exact ⟨j, by omega, h1, h3⟩
      · rintro ⟨x, hx, h3, h4⟩
        by_cases e : x = j
        · subst e; exact Or.inr h4
        · exact Or.inl ⟨x, by omega, h3, h4⟩
    · refine st_n (st_l ⟨nI_s1, fun z hz => ?_⟩)
      rw [hb z hz]
      constructor
      · rintro ⟨x, hx, h3⟩
        exact ⟨x, by omega, h3⟩
      · rintro ⟨x, hx, h3, h4⟩
        by_cases e : x = j
        · subst e; exact absurd ((bit_1 hj).mpr h3) h1
        · exact ⟨x, by omega, h3, h4⟩
  · unfold t_X7_joined_4
    rw [hq.1]
    exact ⟨_, if_pos (by decide), hq.2⟩
  · rw [b_0]
    constructor
    · intro h; exact absurd h (by decide)
    · rintro ⟨x, hx, -⟩
      exact absurd hx (Nat.not_lt_zero x)
def Jn (a b : Int32) : Int32 := (s_X7_joined a b).getD 0
theorem Jn_eq (a b : Int32) : s_X7_joined a b = some (Jn a b) := by
  obtain ⟨c, h, -⟩ := joined_all a b
  unfold Jn
  rw [h]
  rfl
theorem Jn_bt {a b : Int32} {z : Nat} (hz : z < 32) : bt (Jn a b) z = true ↔ ∃ x, x < 32 ∧ bt a x = true ∧ ∃ y, y < 32 ∧ bt b y = true ∧ mts x y z := by
  obtain ⟨c, h, hc⟩ := joined_all a b
  rw [Jn_eq] at h
  rw [Option.some.inj h]
  exact hc z hz
def soN (one : Int32) : Nat → Int32
  | 0 => 1
  | j + 1 => Jn (soN one j) one
def Cn (one : Int32) (l : Nat) : Nat → Int32
  | 0 => if l = 0 then 1 else 0
  | j + 1 => Cn one l j ||| (if l ≤ j + 1 then soN one (j + 1) else 0)
theorem or_z (x : Int32) : x ||| 0 = x := by
  apply b_ext
  intro i _
  rw [b_or, b_0, Bool.or_false]
theorem counted_eq {one : Int32} {l h : Nat} (hl : l < 2 ^ 20) (hh : h ≤ 1000) : s_X7_counted one (nI l) (nI h) = some (Cn one l h) := by
  have E : ∃ r, s_X7_counted one (nI l) (nI h) = some r ∧ r = Cn one l h := by
    unfold s_X7_counted l_X7_counted_17
    refine ex_b (Q := fun y => y = Cn one l 0) (ex_if (fun e => ex_s ?_) (fun e => ex_s ?_)) (fun y1 h1 => ?_)
    · have : l = 0 := (nI_eq (a := l) (b := 0) (by omega) (by decide)).mp e
      unfold Cn; rw [if_pos this]
    · have : ¬ l = 0 := fun z => e (by rw [z]; rfl)
      unfold Cn; rw [if_neg this]
    · subst h1
      refine ex_b (Q := fun r => r = Cn one l h) ?_ (fun y hy => ex_s hy)
      refine forG h (fun j (a : Int32 × Int32 × Int32) => a.1 = soN one j ∧ a.2.1 = Cn one l j ∧ a.2.2 = nI (j + 1)) _ (fun j a hj ha => ?_) (fun a ha => ?_) FU 0 (1, Cn one l 0, 1) (Nat.zero_le _) ⟨rfl, rfl, rfl⟩ (FU_lt (by omega))
      · obtain ⟨e1, e2, e3⟩ := ha
        unfold t_X7_counted_17
        rw [e1, e2, e3, Jn_eq]
        refine st_if (fun z => absurd z (nI_nlt (by omega) (by omega))) (fun _ => st_b (Q := fun r => r = soN one (j + 1)) ⟨_, rfl, rfl⟩ (fun r hr => ?_))
        subst hr
        refine st_if (fun z => st_n (st_n (st_l ⟨rfl, ?_, nI_s1⟩))) (fun z => st_n (st_n (st_l ⟨rfl, ?_, nI_s1⟩)))
        · have : ¬ l ≤ j + 1 := by have := (nI_ltI (by omega) (by omega)).mp z; omega
          show Cn one l j ||| 0 = Cn one l j ||| (if l ≤ j + 1 then soN one (j + 1) else 0)
          rw [if_neg this]
        · have : l ≤ j + 1 := by
            rcases Nat.lt_or_ge (j + 1) l with h | h
            · exact absurd (nI_lt h (by omega)) z
            · exact h
          show Cn one l j ||| soN one (j + 1) = Cn one l j ||| (if l ≤ j + 1 then soN one (j + 1) else 0)
          rw [if_pos this]
      · obtain ⟨e1, e2, e3⟩ := ha
        unfold t_X7_counted_17
        rw [e2, e3]
        exact ⟨_, if_pos (nI_lt (by omega) (by omega)), rfl⟩
  obtain ⟨r, h1, h2⟩ := E
  rw [h1, h2]
/-! one more edge bound to a part -/
def Spl (k : Nat) (P : Nat → Prop) (R : Int32) (S : Nat → Int32) : Prop := ∀ x, x < 32 → bt R x = true → (x.testBit k = true → ∃ p, P p ∧ bt (S p) x = true) ∧ (x.testBit k = false → ∀ p, P p → bt (S p) x = true)
theorem Spl_c {k : Nat} {P : Nat → Prop} {R : Int32} (h : ∀ x, x < 32 → bt R x = true → x = 0) : Spl k P R (fun _ => R) := by
  intro x hx hb
  have e := h x hx hb
  subst e
  refine ⟨fun z => ?_, fun _ p _ => hb⟩
  rw [Nat.zero_testBit] at z
  exact absurd z (by decide)
theorem Spl_1 {k : Nat} {P : Nat → Prop} : Spl k P 1 (fun _ => 1) := Spl_c (fun x hx h => by rw [bt_1 x hx] at h; exact of_decide_eq_true h)
theorem Spl_0 {k : Nat} {P : Nat → Prop} : Spl k P 0 (fun _ => 0) := Spl_c (fun x hx h => by rw [b_0] at h; exact absurd h (by decide))
theorem Spl_or {k : Nat} {P : Nat → Prop} {R R2 : Int32} {S S2 : Nat → Int32} (h : Spl k P R S) (h2 : Spl k P R2 S2) : Spl k P (R ||| R2) (fun p => S p ||| S2 p) := by
  intro x hx hb
  rw [b_or, Bool.or_eq_true] at hb
  rcases hb with hb | hb
  · obtain ⟨a, b⟩ := h x hx hb
    refine ⟨fun z => ?_, fun z p hp => ?_⟩
    · obtain ⟨p, hp, e⟩ := a z
      exact ⟨p, hp, by rw [b_or, e, Bool.true_or]⟩
    · rw [b_or, b z p hp, Bool.true_or]
  · obtain ⟨a, b⟩ := h2 x hx hb
    refine ⟨fun z => ?_, fun z p hp => ?_⟩
    · obtain ⟨p, hp, e⟩ := a z
      exact ⟨p, hp, by rw [b_or, e, Bool.or_true]⟩
    · rw [b_or, b z p hp, Bool.or_true]
theorem mts_t {x y z k : Nat} (h : mts x y z) : (z.testBit k = true → (x.testBit k = true ∧ y.testBit k = false) ∨ (x.testBit k = false ∧ y.testBit k = true)) ∧ (z.testBit k = false → x.testBit k = false ∧ y.testBit k = false) := by
  obtain ⟨h1, h2⟩ := h
  have e1 : (x &&& y).testBit k = false := by rw [h1]; exact Nat.zero_testBit k
  rw [Nat.testBit_and] at e1
  rw [← h2, Nat.testBit_or]
  revert e1
  generalize x.testBit k = u
  generalize y.testBit k = v
  revert u v
  decide
theorem Spl_J {k : Nat} {P : Nat → Prop} {R R2 : Int32} {S S2 : Nat → Int32} (h : Spl k P R S) (h2 : Spl k P R2 S2) : Spl k P (Jn R R2) (fun p => Jn (S p) (S2 p)) := by
  intro z hz hb
  obtain ⟨x, hx, hx1, y, hy, hy1, hm⟩ := (Jn_bt hz).mp hb
  obtain ⟨t1, t2⟩ := mts_t (k := k) hm
  obtain ⟨a, b⟩ := h x hx hx1
  obtain ⟨c, d⟩ := h2 y hy hy1
  refine ⟨fun zz => ?_, fun zz p hp => ?_⟩
  · rcases t1 zz with ⟨q1, q2⟩ | ⟨q1, q2⟩
    · obtain ⟨p, hp, e⟩ := a q1
      exact ⟨p, hp, (Jn_bt hz).mpr ⟨x, hx, e, y, hy, d q2 p hp, hm⟩⟩
    · obtain ⟨p, hp, e⟩ := c q2
      exact ⟨p, hp, (Jn_bt hz).mpr ⟨x, hx, b q1 p hp, y, hy, e, hm⟩⟩
  · obtain ⟨q1, q2⟩ := t2 zz
    exact (Jn_bt hz).mpr ⟨x, hx, b q1 p hp, y, hy, d q2 p hp, hm⟩
theorem Spl_so {k : Nat} {P : Nat → Prop} {R : Int32} {S : Nat → Int32} (h : Spl k P R S) : ∀ j, Spl k P (soN R j) (fun p => soN (S p) j)
  | 0 => Spl_1
  | j + 1 => Spl_J (Spl_so h j) h
theorem Spl_C {k : Nat} {P : Nat → Prop} {R : Int32} {S : Nat → Int32} (h : Spl k P R S) (l : Nat) : ∀ j, Spl k P (Cn R l j) (fun p => Cn (S p) l j)
  | 0 => by
    unfold Cn
    by_cases e : l = 0
    · simp only [if_pos e]; exact Spl_1
    · simp only [if_neg e]; exact Spl_0
  | j + 1 => by
    unfold Cn
    refine Spl_or (Spl_C h l j) ?_
    by_cases e : l ≤ j + 1
    · simp only [if_pos e]; exact Spl_so h (j + 1)
    · simp only [if_neg e]; exact Spl_0
