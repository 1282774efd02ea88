/-! more is taken, more can be dealt -/
def bl (x y : Int32) : Prop := ∀ i, i < 32 → bt x i = true → bt y i = true
theorem bl_r (x : Int32) : bl x x := fun _ _ h => h
theorem bl_or {x y x2 y2 : Int32} (h : bl x x2) (g : bl y y2) : bl (x ||| y) (x2 ||| y2) := fun i hi q => by
  rw [b_or, Bool.or_eq_true] at q ⊢
  exact q.elim (fun z => Or.inl (h i hi z)) (fun z => Or.inr (g i hi z))
theorem bl_0 (x : Int32) : bl 0 x := fun i _ h => by rw [b_0] at h; cases h
theorem Jn_m {x y x2 y2 : Int32} (h : bl x x2) (g : bl y y2) : bl (Jn x y) (Jn x2 y2) := fun i hi q => by
  obtain ⟨a, ha, h1, b, hb, h2, h3⟩ := (Jn_bt hi).mp q
  exact (Jn_bt hi).mpr ⟨a, ha, h a ha h1, b, hb, g b hb h2, h3⟩
theorem so_m {x x2 : Int32} (h : bl x x2) : ∀ j, bl (soN x j) (soN x2 j)
  | 0 => bl_r 1
  | j + 1 => Jn_m (so_m h j) h
theorem Cn_m {x x2 : Int32} {l : Nat} (h : bl x x2) : ∀ j, bl (Cn x l j) (Cn x2 l j)
  | 0 => bl_r _
  | j + 1 => by
    unfold Cn
    refine bl_or (Cn_m h j) ?_
    by_cases q : l ≤ j + 1
    · rw [if_pos q, if_pos q]; exact so_m h (j + 1)
    · rw [if_neg q, if_neg q]; exact bl_r 0
theorem rst_m {F F2 : Nat → Int32} {m : Mem} {s k : Nat} (hF : ∀ i, bl (F i) (F2 i)) {w w2 : Int32} {g g2 : Nat → Int32} (hw : bl w w2) (hg : ∀ i, bl (g i) (g2 i)) : bl (rst F m s k (w, g)).1 (rst F2 m s k (w2, g2)).1 ∧ ∀ i, bl ((rst F m s k (w, g)).2 i) ((rst F2 m s k (w2, g2)).2 i) := by
  have U : ∀ (u : Nat) (x y : Int32), bl x y → ∀ i, bl (upd g u x i) (upd g2 u y i) := fun u x y h i => by
    rw [upd_if, upd_if]
    by_cases e : i = u
    · rw [if_pos e, if_pos e]; exact h
    · rw [if_neg e, if_neg e]; exact hg i
  have L : ∀ (x y y2 : Int32), bl y y2 → bl (lx F s x y) (lx F2 s x y2) := fun x y y2 h => by
    unfold lx
    by_cases e : x = -4
    · rw [if_pos e, if_pos e]; exact h
    · rw [if_neg e, if_neg e]; exact bl_or h (hF _)
  unfold rst
  by_cases c2 : m 14 (160 * s + k) = 2
  · rw [if_pos c2, if_pos c2]
    exact ⟨hw, U _ _ _ (Jn_m (hg _) (Cn_m (L _ _ _ (hg _)) _))⟩
  · rw [if_neg c2, if_neg c2]
    by_cases c1 : m 14 (160 * s + k) = 1
    · rw [if_pos c1, if_pos c1]
      exact ⟨hw, U _ _ _ (bl_or (hg _) (hg _))⟩
    · rw [if_neg c1, if_neg c1]
      by_cases c5 : m 15 (160 * s + k) = -4
      · rw [if_pos c5, if_pos c5]; exact ⟨hg _, hg⟩
      · rw [if_neg c5, if_neg c5]; exact ⟨hw, U _ _ _ (hg _)⟩
theorem rrn_m {F F2 : Nat → Int32} {m : Mem} {s : Nat} (hF : ∀ i, bl (F i) (F2 i)) : ∀ (n : Nat) (w w2 : Int32) (g g2 : Nat → Int32), bl w w2 → (∀ i, bl (g i) (g2 i)) → bl (rrn F m s 0 n (w, g)).1 (rrn F2 m s 0 n (w2, g2)).1
  | 0, _, _, _, _, hw, _ => hw
  | n + 1, w, w2, g, g2, hw, hg => by
    obtain ⟨h1, h2⟩ := rst_m (m := m) (s := s) (k := 0 + n) hF hw hg
    exact rrn_m hF n _ _ _ _ h1 h2
/-- what a part takes here it takes there -/
def tkm (m m2 : Mem) (s P n d : Nat) (sv : Int32) : Prop := ∀ p, p < P → ∀ i, i < d → ¬ tkV m (6 * s + p) (n * 5 + i) sv = 0 → ¬ tkV m2 (6 * s + p) (n * 5 + i) sv = 0
theorem lfV_m {m m2 : Mem} {q n : Nat} {sv : Int32} (e : m2 39 = m 39) : ∀ d, (∀ i, i < d → ¬ tkV m q (n * 5 + i) sv = 0 → ¬ tkV m2 q (n * 5 + i) sv = 0) → bl (lfV m q n sv 0 d) (lfV m2 q n sv 0 d)
  | 0, _ => bl_r 0
  | d + 1, h => by
    unfold lfV
    refine bl_or (lfV_m e d (fun i hi => h i (by omega))) ?_
    rw [e]
    by_cases c1 : (m 39 d = -4 ∨ m 39 d = nI q) ∧ ¬ tkV m q (n * 5 + d) sv = 0
    · rw [if_pos c1, if_pos ⟨c1.1, h d (Nat.lt_succ_self d) c1.2⟩]; exact bl_r _
    · rw [if_neg c1]; exact bl_0 _
theorem can_m {m m2 : Mem} {s n d c : Nat} {P Z : Nat → Nat} {sv : Int32} (hS : SH m c P Z) (hs : s < c) (hE : EG m n d) (e : ∀ a, a ≠ 37 → a ≠ 38 → a ≠ 40 → m2 a = m a) (h : tkm m m2 s (P s) n d sv) (hc : canP m s n d (Z s) sv) : canP m2 s n d (Z s) sv := by
  have hc6 := hS.2.1
  obtain ⟨⟨hP6, -, -⟩, hZ, -, hK⟩ := hS.2.2 s hs
  have K2 : ∀ j, j < Z s → KD m2 s (P s) j := fun j hj => KD_at (fun a a1 a2 => by rw [e a (by omega) (by omega) (by omega)]) (hK j hj)
  obtain ⟨-, -, w2, -⟩ := WS_eq hS hs hE
  have ew : WS m2 s n = WS m s n := WS_r (fun a a1 a2 _ a4 => e a a1 a2 a4)
  unfold canP at *
  rw [e 7 (by decide) (by decide) (by decide), ew]
  refine ⟨hc.1, ?_⟩
  have h2 := hc.2
  rw [DV_rr (show s < 6 by omega) hP6 hK] at h2
  rw [DV_rr (show s < 6 by omega) hP6 K2]
  have ed : din m2 s = din m s := by
    funext jj
    show (if m2 14 _ = 1 then _ else _) = (if m 14 _ = 1 then _ else _)
    rw [e 14 (by decide) (by decide) (by decide)]
  have er : ∀ F a, rr F m2 s 0 (Z s) a = rr F m s 0 (Z s) a := fun F a => rr_c (fun x j x1 x2 _ _ => by rw [e x (by omega) (by omega) (by omega)]) a
  rw [ed, er]
  unfold rr at h2 ⊢
  rw [Nat.sub_zero] at h2 ⊢
  rw [rr_F (F2 := fun i => if i < P s then lfV m (6 * s + i) n sv 0 d else 0) (show s < 6 by omega) hP6 (fun i hi => (if_pos hi).symm) (Z s) _ hK] at h2
  rw [rr_F (F2 := fun i => if i < P s then lfV m2 (6 * s + i) n sv 0 d else 0) (show s < 6 by omega) hP6 (fun i hi => (if_pos hi).symm) (Z s) _ hK]
  refine rrn_m (fun i => ?_) (Z s) 1 1 (din m s) (din m s) (bl_r 1) (fun i => bl_r _) _ w2 h2
  by_cases hi : i < P s
  · rw [if_pos hi, if_pos hi]
    exact lfV_m (e 39 (by decide) (by decide) (by decide)) d (fun j hj => h i hi j hj)
  · rw [if_neg hi, if_neg hi]; exact bl_r 0
/-- an edge of a node goes to a node that there is -/
def EK (m : Mem) (n d k : Nat) : Prop := ∀ i, i < d → ∃ t, t < k ∧ m 5 (n * 5 + i) = nI t
theorem EK_of {m : Mem} {k n : Nat} {d N T : Nat → Nat} (g : GG k d N T) (y : GM m k d N T) (hn : n < k) : EK m n (d n) k := fun i hi => ⟨T (n * 5 + i), ((g.2 n hn).2.1 i hi).2, ((y.2 n hn).2 i hi).2⟩
/-- for the greatest reading: behind @ more, behind ! the same -/
theorem tkm_0 {m m2 : Mem} {s n d k c : Nat} {P Z : Nat → Nat} (hS : SH m c P Z) (hs : s < c) (hE : EK m n d k) (hk : k ≤ 10) (e : ∀ a, a ≠ 37 → a ≠ 38 → a ≠ 40 → m2 a = m a) (h1 : ∀ t, t < c → Ed m P s t 0 → ∀ x, x < k → ¬ m 37 (10 * t + x) = 0 → ¬ m2 37 (10 * t + x) = 0) (h2 : ∀ t, t < c → Ed m P s t 1 → ∀ x, x < k → ¬ m2 37 (10 * t + x) = 0 → ¬ m 37 (10 * t + x) = 0) : tkm m m2 s (P s) n d 0 := by
  intro p hp i hi hne
  have hc6 := hS.2.1
  obtain ⟨x, hx, ex⟩ := hE i hi
  obtain ⟨⟨hP6, -, hR⟩, -⟩ := hS.2.2 s hs
  rw [tk_ps] at hne ⊢
  rw [e 4 (by decide) (by decide) (by decide), e 9 (by decide) (by decide) (by decide), e 5 (by decide) (by decide) (by decide)]
  by_cases c0 : m 4 (n * 5 + i) = m 9 (6 * s + p)
  · rw [if_pos c0] at hne ⊢
    rw [ex, ix_n (by omega)] at hne ⊢
    unfold psV at hne ⊢
    rw [e 10 (by decide) (by decide) (by decide), e 11 (by decide) (by decide) (by decide), e 1 (by decide) (by decide) (by decide), e 2 (by decide) (by decide) (by decide), e 12 (by decide) (by decide) (by decide)]
    by_cases c1 : m 10 (6 * s + p) = 1
    · rw [if_pos c1, if_pos rfl] at hne ⊢
      obtain ⟨t, ht, et⟩ := hR p hp (Or.inl c1)
      rw [et, ix_n (by omega)] at hne ⊢
      exact h1 t ht ⟨p, hp, et, Or.inl ⟨c1, rfl⟩⟩ x hx hne
    · rw [if_neg c1] at hne ⊢
      by_cases c2 : m 10 (6 * s + p) = 2
      · rw [if_pos c2] at hne ⊢
        obtain ⟨t, ht, et⟩ := hR p hp (Or.inr c2)
        rw [et, ix_n (by omega)] at hne ⊢
        intro q
        apply hne
        by_cases z : m2 37 (10 * t + x) = 0
        · rw [if_pos z] at q; exact absurd q (by decide)
        · rw [if_neg (h2 t ht ⟨p, hp, et, Or.inr ⟨c2, rfl⟩⟩ x hx z)]
      · rw [if_neg c2] at hne ⊢; exact hne
  · rw [if_neg c0] at hne; exact absurd rfl hne
theorem tkm_1 {m m2 : Mem} {s n d k c : Nat} {P Z : Nat → Nat} (hS : SH m c P Z) (hs : s < c) (hE : EK m n d k) (hk : k ≤ 10) (e : ∀ a, a ≠ 37 → a ≠ 38 → a ≠ 40 → m2 a = m a) (h1 : ∀ t, t < c → Ed m P s t 0 → ∀ x, x < k → ¬ m 38 (10 * t + x) = 0 → ¬ m2 38 (10 * t + x) = 0) (h2 : ∀ t, t < c → Ed m P s t 1 → ∀ x, x < k → ¬ m2 37 (10 * t + x) = 0 → ¬ m 37 (10 * t + x) = 0) : tkm m m2 s (P s) n d 1 := by
  intro p hp i hi hne
  have hc6 := hS.2.1
  obtain ⟨x, hx, ex⟩ := hE i hi
  obtain ⟨⟨hP6, -, hR⟩, -⟩ := hS.2.2 s hs
  rw [tk_ps] at hne ⊢
  rw [e 4 (by decide) (by decide) (by decide), e 9 (by decide) (by decide) (by decide), e 5 (by decide) (by decide) (by decide)]
  by_cases c0 : m 4 (n * 5 + i) = m 9 (6 * s + p)
  · rw [if_pos c0] at hne ⊢
    rw [ex, ix_n (by omega)] at hne ⊢
    unfold psV at hne ⊢
    rw [e 10 (by decide) (by decide) (by decide), e 11 (by decide) (by decide) (by decide), e 1 (by decide) (by decide) (by decide), e 2 (by decide) (by decide) (by decide), e 12 (by decide) (by decide) (by decide)]
    by_cases c1 : m 10 (6 * s + p) = 1
    · rw [if_pos c1, if_neg (by decide)] at hne ⊢
      obtain ⟨t, ht, et⟩ := hR p hp (Or.inl c1)
      rw [et, ix_n (by omega)] at hne ⊢
      exact h1 t ht ⟨p, hp, et, Or.inl ⟨c1, rfl⟩⟩ x hx hne
    · rw [if_neg c1] at hne ⊢
      by_cases c2 : m 10 (6 * s + p) = 2
      · rw [if_pos c2] at hne ⊢
        obtain ⟨t, ht, et⟩ := hR p hp (Or.inr c2)
        rw [et, ix_n (by omega)] at hne ⊢
        intro q
        apply hne
        by_cases z : m2 37 (10 * t + x) = 0
        · rw [if_pos z] at q; exact absurd q (by decide)
        · rw [if_neg (h2 t ht ⟨p, hp, et, Or.inr ⟨c2, rfl⟩⟩ x hx z)]
      · rw [if_neg c2] at hne ⊢; exact hne
  · rw [if_neg c0] at hne; exact absurd rfl hne
