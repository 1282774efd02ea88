/-! the class's rows of sets -/
theorem zus_b (a : Int32) {i : Nat} (hi : i < 32) (j : Nat) : bt (zus a (nI i)) j = bt a (i + j) := b_ushr i hi a j
theorem zus_1 {a : Int32} {i : Nat} (hi : i < 32) : ((zus a (nI i)) &&& 1) = 0 ↔ bt a i = false := by
  constructor
  · intro h
    have e : bt ((zus a (nI i)) &&& 1) 0 = bt a i := by rw [b_and, zus_b a hi, bt_1 0 (by decide), Nat.add_zero, decide_eq_true rfl, Bool.and_true]
    rw [← e, h, b_0]
  · intro h
    apply b_ext
    intro j hj
    rw [b_and, zus_b a hi, bt_1 j hj, b_0]
    by_cases e : j = 0
    · rw [e, Nat.add_zero, h, Bool.false_and]
    · rw [decide_eq_false e, Bool.and_false]
theorem zus_0 {a : Int32} {i : Nat} (hi : i < 32) (h : zus a (nI i) = 0) : ∀ x, i ≤ x → bt a x = false := by
  intro x hx
  have e := zus_b a hi (x - i)
  rw [h, b_0, show i + (x - i) = x by omega] at e
  exact e.symm
theorem apt_b : ∀ x, x < 32 → ∀ y, y < 32 → bt (apt x) y = decide (x &&& y = 0) := by decide +kernel
theorem or_pl : ∀ x, x < 32 → ∀ y, y < 32 → x &&& y = 0 → x ||| y = x + y := by decide +kernel
theorem both_1 {b : Int32} {x z : Nat} (hx : x < 32) (hz : z < 32) : bt ((b &&& (apt x)) <<< (nI x &&& 31)) z = true ↔ ∃ y, y < 32 ∧ bt b y = true ∧ mts x y z := by
  rw [b_shl x hx _ hz, Bool.and_eq_true, decide_eq_true_iff, b_and, Bool.and_eq_true]
  constructor
  · rintro ⟨h1, h2, h3⟩
    rw [apt_b x hx (z - x) (by omega), decide_eq_true_iff] at h3
    refine ⟨z - x, by omega, h2, h3, ?_⟩
    rw [or_pl x hx (z - x) (by omega) h3]
    omega
  · rintro ⟨y, hy, h1, h2, h3⟩
    rw [or_pl x hx y hy h2] at h3
    have e : z - x = y := by omega
    rw [e, apt_b x hx y hy, decide_eq_true_iff]
    exact ⟨by omega, h1, h2⟩
theorem both_eq (a b : Int32) : s_X2_both a b = some (Jn a b) := by
  have E : ∃ r, s_X2_both a b = some r ∧ ∀ z, z < 32 → (bt r z = true ↔ ∃ x, x < 32 ∧ bt a x = true ∧ ∃ y, y < 32 ∧ bt b y = true ∧ mts x y z) := by
    unfold s_X2_both l_X2_both_4
    refine ex_b (Q := fun r => ∀ z, z < 32 → (bt r z = true ↔ ∃ x, x < 32 ∧ bt a x = true ∧ ∃ y, y < 32 ∧ bt b y = true ∧ mts x y z)) ?_ (fun y h => ex_s h)
    refine forG 32 (fun j (q : Int32 × Int32) => q.2 = nI j ∧ ∀ z, z < 32 → (bt q.1 z = true ↔ ∃ x, x < j ∧ bt a x = true ∧ ∃ y, y < 32 ∧ bt b y = true ∧ mts x y z)) _ (fun j q hj hq => ?_) (fun q hq => ?_) FU 0 (0, 0) (Nat.zero_le _) ⟨rfl, fun z hz => ?_⟩ (FU_lt (by omega))
    · obtain ⟨e1, hb⟩ := hq
      unfold t_X2_both_4
      rw [e1]
      refine st_if (fun z => absurd z (nI_ge (b := 32) hj (by decide))) (fun _ => st_if (fun h0 => st_r (fun z hz => ?_)) (fun _ => st_if (fun h1 => st_n (st_l ⟨nI_s1, fun z hz => ?_⟩)) (fun h1 => st_ck (zin_nI hj (by decide)) (st_n (st_n (st_l ⟨nI_s1, fun z hz => ?_⟩))))))
      · rw [hb z hz]
        constructor
        · rintro ⟨x, hx, h3⟩
          exact ⟨x, by omega, h3⟩
        · rintro ⟨x, hx, h3, h4⟩
          rcases Nat.lt_or_ge x j with q | q
          · exact ⟨x, q, h3, h4⟩
          · rw [zus_0 hj h0 x q] at h3
            exact absurd h3 (by decide)
      · have h1 := (zus_1 hj).mp h1
        rw [hb z hz]
        constructor
        · rintro ⟨x, hx, h3⟩
          exact ⟨x, by omega, h3⟩
        · rintro ⟨x, hx, h3, h4⟩
          by_cases e : x = j
          · rw [e, h1] at h3
            exact absurd h3 (by decide)
          · exact ⟨x, by omega, h3, h4⟩
      · have h1 : bt a j = true := by
          cases q : bt a j
          · exact absurd ((zus_1 hj).mpr q) h1
          · rfl
        dsimp only
        rw [ix_nI (n := j) (by omega), b_or, Bool.or_eq_true, hb z hz, both_1 hj hz]
        constructor
        · rintro (⟨x, hx, h3⟩ | h3)
          · exact ⟨x, by omega, h3⟩
          · exact ⟨j, by omega, h1, h3⟩
        · rintro ⟨x, hx, h3, h4⟩
          by_cases e : x = j
          · rw [e] at h4; exact Or.inr h4
          · exact Or.inl ⟨x, by omega, h3, h4⟩
    · unfold t_X2_both_4
      rw [hq.1]
      exact ⟨_, if_pos (by decide), hq.2⟩
    · rw [b_0]
      constructor
      · intro h; exact absurd h (by decide)
      · rintro ⟨x, hx, -⟩
        exact absurd hx (Nat.not_lt_zero x)
  obtain ⟨r, e, h⟩ := E
  rw [e]
  congr 1
  apply b_ext
  intro z hz
  rw [Bool.eq_iff_iff, h z hz, Jn_bt hz]
theorem times_eq {row : Int32} {l h : Nat} (hl : l ≤ 5) (hh : h ≤ 5) : s_X2_times row (nI (l * 8 + h)) = some (Cn row l h) := by
  have h8 : (8 : Int32) = nI 8 := rfl
  have hr : nI (l * 8 + h) - nI (l * 8 + h) / 8 * 8 = nI h := by rw [h8, pk_rem (by omega) (by decide) (by decide), show (l * 8 + h) % 8 = h by omega]
  have hd : nI (l * 8 + h) / 8 = nI l := by rw [h8, pk_div (by omega) (by decide) (by decide), show (l * 8 + h) / 8 = l by omega]
  have E : ∃ r, s_X2_times row (nI (l * 8 + h)) = some r ∧ r = Cn row l h := by
    unfold s_X2_times l_X2_times_28
    rw [hr, hd]
    refine ex_n (ex_n (ex_b (Q := fun y => y = Cn row l 0) (ex_if (fun q => ex_s ?_) (fun q => ex_s ?_)) (fun y3 hy => ex_b (Q := fun y => y = Cn row l h) ?_ (fun y h => ex_s h))))
    · have : l = 0 := (nI_eq (b := 0) (by omega) (by decide)).mp q
      unfold Cn
      rw [if_pos this]
    · have : ¬ l = 0 := fun z => q (by rw [z]; rfl)
      unfold Cn
      rw [if_neg this]
    · refine forG h (fun j (a : Int32 × Int32 × Int32) => a.1 = soN row j ∧ a.2.1 = Cn row l j ∧ a.2.2 = nI (j + 1)) _ (fun j a hj ha => ?_) (fun a ha => ?_) FU 0 (1, y3, 1) (Nat.zero_le _) ⟨rfl, hy, rfl⟩ (FU_lt (by omega))
      · obtain ⟨e1, e2, e3⟩ := ha
        unfold t_X2_times_28
        rw [e1, e2, e3, both_eq]
        refine st_if (fun z => absurd z (nI_nlt (by omega) (by omega))) (fun _ => st_b (Q := fun r => r = soN row (j + 1)) ⟨_, rfl, rfl⟩ (fun r8 h8 => ?_))
        subst h8
        refine st_if (fun q => st_n (st_l ⟨rfl, ?_, nI_s1⟩)) (fun q => st_n (st_n (st_l ⟨rfl, ?_, nI_s1⟩)))
        · have : ¬ l ≤ j + 1 := fun z => absurd q (nI_nlt (by omega) (by omega))
          show _ = Cn row l j ||| _
          rw [if_neg this, or_z]
        · have : l ≤ j + 1 := by
            rcases Nat.lt_or_ge (j + 1) l with z | z
            · exact absurd (nI_lt z (by omega)) q
            · exact z
          show _ = Cn row l j ||| _
          rw [if_pos this]
      · obtain ⟨e1, e2, e3⟩ := ha
        unfold t_X2_times_28
        rw [e3]
        exact ⟨_, if_pos (nI_lt (by omega) (by omega)), e2⟩
  obtain ⟨r, h1, h2⟩ := E
  rw [h1, h2]
/-! the class's steps, with the rows of the parts given -/
def xtm (v : Nat) : List Int32 → List Int32
  | [] => []
  | x :: t => Cn x ((v - 64) / 8) ((v - 64) % 8) :: t
def xjn : List Int32 → List Int32
  | y :: x :: t => Jn x y :: t
  | [x] => [x]
  | [] => []
def xor2 : List Int32 → List Int32
  | y :: x :: t => (x ||| y) :: t
  | [x] => [x]
  | [] => []
def xsp (F : Nat → Int32) (v : Nat) (S : List Int32) : List Int32 :=
  if v < 64 then (if S.length < 6 then F v :: S else S)
  else if v < 128 then xtm v S
  else if v < 192 then xjn S
  else xor2 S
def xst (F : Nat → Int32) (S : Nat → Nat) (f : Nat) : Nat → List Int32
  | 0 => []
  | n + 1 => xsp F (S (f + n)) (xst F S f n)
theorem xst_c {F : Nat → Int32} {S S2 : Nat → Nat} {f : Nat} : ∀ n, (∀ i, f ≤ i → i < f + n → S2 i = S i) → xst F S2 f n = xst F S f n
  | 0, _ => rfl
  | n + 1, h => by
    show xsp F (S2 (f + n)) (xst F S2 f n) = xsp F (S (f + n)) (xst F S f n)
    rw [xst_c n (fun i i1 i2 => h i i1 (by omega)), h (f + n) (by omega) (by omega)]
/-- a step as it may stand in the book -/
def okv (v : Nat) : Prop := v < 6 ∨ (64 ≤ v ∧ v < 128 ∧ (v - 64) / 8 ≤ 5 ∧ (v - 64) % 8 ≤ 5) ∨ v = 128 ∨ v = 192
/-- the stack as it lies in memory -/
def Rk (g : Nat → Int32) : List Int32 → Prop
  | [] => True
  | x :: t => g t.length = x ∧ Rk g t
theorem Rk_c {g : Nat → Int32} {k : Nat} {x : Int32} : ∀ {S : List Int32}, S.length ≤ k → Rk g S → Rk (upd g k x) S
  | [], _, _ => trivial
  | y :: t, hk, h => by
    have hk2 : t.length + 1 ≤ k := hk
    refine ⟨?_, Rk_c (by omega) h.2⟩
    rw [upd_if, if_neg (by omega)]
    exact h.1
theorem Rk_p {g : Nat → Int32} {x : Int32} {S : List Int32} (h : Rk g S) : Rk (upd g S.length x) (x :: S) := ⟨by rw [upd_if, if_pos rfl], Rk_c (Nat.le_refl _) h⟩
/-- where the steps of a shape lie -/
def SB (m : Mem) (b s f q : Nat) (S : Nat → Nat) : Prop := m (b + 7) s = nI f ∧ m (b + 7) (s + 1) = nI q ∧ f ≤ q ∧ q ≤ 146 ∧ ∀ i, f ≤ i → i < q → m (b + 8) i = nI (S i) ∧ okv (S i)
theorem sets_run {m : Mem} {b n s f q tr : Nat} {S : Nat → Nat} {F : Nat → Int32} (hb : isb b) (hj : m 39 1 = nI b) (hs : s < 6) (hS : SB m b s f q S) (hF : ∀ m2 p, (∀ a, a ≠ 43 → m2 a = m a) → p < 6 → (∃ i, f ≤ i ∧ i < q ∧ S i = p) → s_X2_setsTaken m2 (nI n) (nI (s * 6 + p)) tr = some (F p)) (hl : (xst F S f (q - f)).length ≤ 1) : ∃ r, s_X2_setsDealt m (nI n) (nI s) tr = some r ∧ r.1 = (xst F S f (q - f)).headD 1 ∧ ∀ a, a ≠ 43 → r.2 a = m a := by
  have hb2 := isb_e hb
  obtain ⟨e7, e8, hfq, hq, hv⟩ := hS
  unfold s_X2_setsDealt l_X2_setsDealt_14
  refine ex_k hb hj (ex_ck (zin_nI (by omega) (by decide)) (ex_n ?_))
  rw [ix_nI (n := s) (by omega), e7]
  refine ex_2 (Q := fun (z : Int32 × Mem) => (∀ a, a ≠ 43 → z.2 a = m a) ∧ ∃ T : List Int32, T = xst F S f (q - f) ∧ z.1 = nI T.length ∧ Rk (z.2 43) T) ?_ (fun y53 m54 hz => ?_)
  rotate_left
  · obtain ⟨z1, T, z2, z3, z4⟩ := hz
    dsimp only at z1 z3 z4
    rw [← z2] at hl ⊢
    match T, hl, z3, z4 with
    | [], _, z3, _ => 
      rw [z3]
      exact ⟨_, if_pos rfl, rfl, z1⟩
    | x :: [], _, z3, z4 =>
      rw [z3]
      refine ex_if (fun w => absurd w (show ¬ nI 1 = 0 by decide)) (fun _ => ex_ck (by decide) (ex_s ⟨?_, z1⟩))
      exact z4.1
    | x :: y :: t, hl, _, _ => exact absurd hl (by simp)
  refine forG q (fun j (a : Int32 × Int32 × Mem) => f ≤ j ∧ a.2.1 = nI j ∧ (∀ c, c ≠ 43 → a.2.2 c = m c) ∧ ∃ T : List Int32, T = xst F S f (j - f) ∧ T.length ≤ 6 ∧ a.1 = nI T.length ∧ Rk (a.2.2 43) T) _ (fun j a hj6 ha => ?_) (fun a ha => ?_) FU f (0, nI f, m) hfq ⟨Nat.le_refl _, rfl, fun _ _ => rfl, [], by rw [Nat.sub_self]; rfl, Nat.zero_le _, rfl, trivial⟩ (FU_lt (by omega))
  · obtain ⟨h0, e1, hc, T, hT, hT6, e2, hR⟩ := ha
    have hj2 : a.2.2 39 1 = nI b := by rw [hc 39 (by decide)]; exact hj
    obtain ⟨v1, v2⟩ := hv j h0 hj6
    have v256 : S j < 256 := by unfold okv at v2; omega
    have nx : xst F S f (j + 1 - f) = xsp F (S j) T := by
      rw [show j + 1 - f = (j - f) + 1 by omega, hT]
      show xsp F (S (f + (j - f))) _ = _
      rw [show f + (j - f) = j by omega]
    have Z : ∀ {α : Type} (k : Nat → Option α), zbk (a.2.2 39 1) k = k b := fun k => zbk_i hb hj2
    unfold t_X2_setsDealt_14
    rw [e1, e2, nI_s1]
    simp only [Z]
    rw [hc (b + 7) (by omega), hc (b + 8) (by omega), ix_nI (n := s + 1) (by omega), e8]
    refine st_ck (zin_nI (by omega) (by decide)) (st_if (fun z => absurd z (nI_ge hj6 (by omega))) (fun _ => st_if (fun z => absurd z (nI_ge (b := 146) (by omega) (by decide))) (fun _ => st_ck (zin_nI (by omega) (by decide)) (st_n (st_n ?_)))))
    rw [ix_nI (n := j) (by omega), v1]
    have h64 : (64 : Int32) = nI 64 := rfl
    have hdiv : nI (S j) / 64 = nI (S j / 64) := by rw [h64]; exact pk_div (by omega) (by decide) (by decide)
    have hrem : nI (S j) - nI (S j) / 64 * 64 = nI (S j % 64) := by rw [h64]; exact pk_rem (by omega) (by decide) (by decide)
    rw [hrem, hdiv]
    have ks : ∀ {c : Nat} {x : Int32} {m2 : Mem}, (∀ c, c ≠ 43 → m2 c = m c) → ∀ d, d ≠ 43 → (sto m2 43 c x) d = m d := fun {c x m2} h d hd => by rw [rd_o hd]; exact h d hd
    refine st_if (fun hz => ?_) (fun hz => ?_)
    · have hz : S j / 64 = 0 := (nI_eq (a := S j / 64) (b := 0) (by omega) (by decide)).mp hz
      have hv6 : S j < 6 := by unfold okv at v2; omega
      rw [show S j % 64 = S j by omega]
      refine st_if (fun z => st_n (st_l ⟨by omega, nI_s1, hc, T, ?_, hT6, rfl, hR⟩)) (fun hlt => ?_)
      · rw [nx]
        unfold xsp
        rw [if_pos (by omega), if_neg (fun w => absurd z (nI_ge (b := 6) w (by decide)))]
      · have hg5 : T.length < 6 := by
          rcases Nat.lt_or_ge T.length 6 with h | h
          · exact h
          · exact absurd (nI_le h (by omega)) hlt
        rw [m6]
        refine st_b (Q := fun r => r = F (S j)) ⟨_, hF a.2.2 (S j) hc hv6 ⟨j, h0, hj6, rfl⟩, rfl⟩ (fun r hr => ?_)
        subst hr
        refine st_ck (zin_nI hg5 (by decide)) (st_n (st_n (st_n (st_l ⟨by omega, nI_s1, ?_, F (S j) :: T, ?_, hg5, nI_s1, ?_⟩))))
        · rw [ix_nI (n := T.length) (by omega)]
          exact ks hc
        · rw [nx]
          unfold xsp
          rw [if_pos (by omega), if_pos hg5]
        · dsimp only
          rw [ix_nI (n := T.length) (by omega), sto_same]
          exact Rk_p hR
    have n64 : ¬ S j < 64 := fun w => hz (by rw [show S j / 64 = 0 by omega]; rfl)
    refine st_if (fun hz1 => ?_) (fun hz1 => ?_)
    · have hz1 : S j / 64 = 1 := (nI_eq (a := S j / 64) (b := 1) (by omega) (by decide)).mp hz1
      have nx2 : xst F S f (j + 1 - f) = xtm (S j) T := by
        rw [nx]
        unfold xsp
        rw [if_neg n64, if_pos (by omega)]
      cases T with
      | nil =>
        exact st_if (fun z => st_n (st_l ⟨by omega, nI_s1, hc, [], nx2.symm, hT6, rfl, hR⟩)) (fun hlt => absurd (show nI 0 < 1 by decide) hlt)
      | cons x t =>
        have l6 : t.length + 1 ≤ 6 := hT6
        have e3 : nI (x :: t).length - 1 = nI t.length := by
          show nI (t.length + 1) - 1 = _
          rw [show (1 : Int32) = nI 1 from rfl, pk_sub (by omega)]
          rfl
        rw [e3, ix_nI (n := t.length) (by omega), hR.1]
        refine st_if (fun z => absurd z (nI_nlt (b := 1) (show 1 ≤ t.length + 1 by omega) (by omega))) (fun _ => ?_)
        have hzz : zin (nI t.length) 6 = true := zin_nI (by omega) (by decide)
        have ht : s_X2_times x (nI (S j % 64)) = some (Cn x ((S j - 64) / 8) ((S j - 64) % 8)) := by
          rw [show S j % 64 = (S j - 64) / 8 * 8 + (S j - 64) % 8 by omega]
          unfold okv at v2
          exact times_eq (by omega) (by omega)
        refine st_ck hzz (st_b (Q := fun r => r = Cn x ((S j - 64) / 8) ((S j - 64) % 8)) ⟨_, ht, rfl⟩ (fun r hr => ?_))
        subst hr
        refine st_ck hzz (st_n (st_n (st_l ⟨by omega, nI_s1, ks hc, Cn x ((S j - 64) / 8) ((S j - 64) % 8) :: t, nx2.symm, hT6, rfl, ?_⟩)))
        dsimp only
        rw [sto_same]
        exact Rk_p hR.2
    have n128 : ¬ S j < 128 := fun w => hz1 (by rw [show S j / 64 = 1 by omega]; rfl)
    have two : ∀ {x y : Int32} {t : List Int32}, (y :: x :: t).length ≤ 6 → nI (y :: x :: t).length + (-1) = nI (t.length + 1) ∧ nI (t.length + 1) - 1 = nI t.length ∧ zin (nI t.length) 6 = true ∧ zin (nI (t.length + 1)) 6 = true ∧ ¬ nI (y :: x :: t).length < 2 := fun {x y t} h => by
      have h : t.length + 2 ≤ 6 := h
      refine ⟨?_, ?_, zin_nI (by omega) (by decide), zin_nI (by omega) (by decide), nI_nlt (b := 2) (show 2 ≤ t.length + 2 by omega) (by omega)⟩
      · show nI (t.length + 1 + 1) + (-1) = _
        rw [pk_m1]
      · rw [show (1 : Int32) = nI 1 from rfl, pk_sub (by omega)]
        rfl
    have one : ∀ (T : List Int32), T.length ≤ 1 → nI T.length < 2 := fun T h => nI_lt (b := 2) (by omega) (by decide)
    refine st_if (fun hz2 => ?_) (fun hz2 => ?_)
    · have hz2 : S j / 64 = 2 := (nI_eq (a := S j / 64) (b := 2) (by omega) (by decide)).mp hz2
      have nx2 : xst F S f (j + 1 - f) = xjn T := by
        rw [nx]
        unfold xsp
        rw [if_neg n64, if_neg n128, if_pos (by omega)]
      match T, hT, hT6, hR, nx2 with
      | [], hT, hT6, hR, nx2 => exact st_if (fun z => st_n (st_l ⟨by omega, nI_s1, hc, [], nx2.symm, hT6, rfl, hR⟩)) (fun hlt => absurd (one _ (Nat.zero_le _)) hlt)
      | [x], hT, hT6, hR, nx2 => exact st_if (fun z => st_n (st_l ⟨by omega, nI_s1, hc, [x], nx2.symm, hT6, rfl, hR⟩)) (fun hlt => absurd (one _ (Nat.le_refl _)) hlt)
      | y :: x :: t, hT, hT6, hR, nx2 =>
        obtain ⟨w1, w2, w3, w4, w5⟩ := two hT6
        have l6 : t.length + 2 ≤ 6 := hT6
        refine st_if (fun z => absurd z w5) (fun _ => st_n ?_)
        rw [w1, w2, ix_nI (n := t.length) (by omega), ix_nI (n := t.length + 1) (by omega), both_eq, show a.2.2 43 (t.length + 1) = y from hR.1, hR.2.1]
        refine st_ck w3 (st_ck w4 (st_b (Q := fun r => r = Jn x y) ⟨_, rfl, rfl⟩ (fun r hr => ?_)))
        subst hr
        refine st_ck w3 (st_n (st_n (st_l ⟨by omega, nI_s1, ks hc, Jn x y :: t, nx2.symm, by show t.length + 1 ≤ 6; omega, rfl, ?_⟩)))
        dsimp only
        rw [sto_same]
        exact Rk_p hR.2.2
    · have n192 : ¬ S j < 192 := fun w => hz2 (by rw [show S j / 64 = 2 by omega]; rfl)
      have nx2 : xst F S f (j + 1 - f) = xor2 T := by
        rw [nx]
        unfold xsp
        rw [if_neg n64, if_neg n128, if_neg n192]
      match T, hT, hT6, hR, nx2 with
      | [], hT, hT6, hR, nx2 => exact st_if (fun z => st_n (st_l ⟨by omega, nI_s1, hc, [], nx2.symm, hT6, rfl, hR⟩)) (fun hlt => absurd (one _ (Nat.zero_le _)) hlt)
      | [x], hT, hT6, hR, nx2 => exact st_if (fun z => st_n (st_l ⟨by omega, nI_s1, hc, [x], nx2.symm, hT6, rfl, hR⟩)) (fun hlt => absurd (one _ (Nat.le_refl _)) hlt)
      | y :: x :: t, hT, hT6, hR, nx2 =>
        obtain ⟨w1, w2, w3, w4, w5⟩ := two hT6
        have l6 : t.length + 2 ≤ 6 := hT6
        refine st_if (fun z => absurd z w5) (fun _ => st_n ?_)
        rw [w1, w2, ix_nI (n := t.length) (by omega), ix_nI (n := t.length + 1) (by omega), show a.2.2 43 (t.length + 1) = y from hR.1, hR.2.1]
        refine st_ck w3 (st_ck w4 (st_ck w3 (st_n (st_n (st_l ⟨by omega, nI_s1, ks hc, (x ||| y) :: t, nx2.symm, by show t.length + 1 ≤ 6; omega, rfl, ?_⟩)))))
        dsimp only
        rw [sto_same]
        exact Rk_p hR.2.2
  · obtain ⟨h0, e1, hc, T, hT, hT6, e2, hR⟩ := ha
    have hj2 : a.2.2 39 1 = nI b := by rw [hc 39 (by decide)]; exact hj
    unfold t_X2_setsDealt_14
    rw [e1, e2, nI_s1, zbk_i hb hj2, hc (b + 7) (by omega), ix_nI (n := s + 1) (by omega), e8, ck_p (zin_nI (by omega) (by decide)), if_pos (nI_le (Nat.le_refl _) (by omega))]
    exact ⟨_, rfl, hc, T, hT, rfl, hR⟩
