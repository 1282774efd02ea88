/-! a row with edges left out, renumbered -/
def dm : Nat → Nat → Nat
  | 0, _ => 0
  | i + 1, w => dm i w + (if w.testBit i = true then 0 else 1)
/-- a set of kept edges, as a set of edges of the full row -/
def exm : Nat → Nat → Nat → Nat
  | 0, _, _ => 0
  | i + 1, w, a => exm i w a + (if w.testBit i = true then 0 else if a.testBit (dm i w) = true then 2 ^ i else 0)
theorem dm_le : ∀ d, d < 6 → ∀ w, w < 2 ^ d → dm d w ≤ d := by decide +kernel
theorem ex_a : ∀ d, d < 6 → ∀ w, w < 2 ^ d → exm d w 0 = 0 ∧ exm d w (2 ^ dm d w - 1) = 2 ^ d - 1 - w ∧ nI (2 ^ d - 1) &&& (nI w ^^^ (-1)) = nI (2 ^ d - 1 - w) ∧ ∀ a, a < 2 ^ dm d w → exm d w a < 2 ^ d := by decide +kernel
theorem ex_t : ∀ d, d < 6 → ∀ w, w < 2 ^ d → ∀ i, i < d → (w.testBit i = false → exm d w (2 ^ dm i w) = 2 ^ i ∧ dm i w < dm d w) ∧ ∀ a, a < 2 ^ dm d w → (exm d w a).testBit i = (!w.testBit i && a.testBit (dm i w)) := by decide +kernel
theorem ex_p1 : ∀ d, d < 6 → ∀ w, w < 2 ^ d → ∀ a, a < 2 ^ dm d w → ∀ b, b < 2 ^ dm d w → (decide (a &&& b = 0)) = (decide (exm d w a &&& exm d w b = 0)) := by decide +kernel
theorem ex_p2 : ∀ d, d < 6 → ∀ w, w < 2 ^ d → ∀ a, a < 2 ^ dm d w → ∀ b, b < 2 ^ dm d w → exm d w a ||| exm d w b = exm d w (a ||| b) := by decide +kernel
theorem ex_p3 : ∀ d, d < 6 → ∀ w, w < 2 ^ d → ∀ a, a < 2 ^ dm d w → ∀ b, b < 2 ^ dm d w → a ||| b < 2 ^ dm d w := by decide +kernel
theorem ex_p4 : ∀ d, d < 6 → ∀ w, w < 2 ^ d → ∀ a, a < 2 ^ dm d w → ∀ b, b < 2 ^ dm d w → exm d w a = exm d w b → a = b := by decide +kernel
theorem ex_p {d w a b : Nat} (hd : d < 6) (hw : w < 2 ^ d) (ha : a < 2 ^ dm d w) (hb : b < 2 ^ dm d w) : (a &&& b = 0 ↔ exm d w a &&& exm d w b = 0) ∧ exm d w a ||| exm d w b = exm d w (a ||| b) ∧ a ||| b < 2 ^ dm d w ∧ (exm d w a = exm d w b → a = b) := ⟨decide_eq_decide.mp (ex_p1 d hd w hw a ha b hb), ex_p2 d hd w hw a ha b hb, ex_p3 d hd w hw a ha b hb, ex_p4 d hd w hw a ha b hb⟩
theorem dm_on : ∀ d, d < 6 → ∀ w, w < 2 ^ d → ∀ j, j < dm d w → ∃ i, i < d ∧ w.testBit i = false ∧ dm i w = j := by decide +kernel
/-- the same row, of the full edges and of the kept ones -/
def RNB (d w : Nat) (x y : Int32) : Prop := (∀ a, a < 32 → bt y a = true → a < 2 ^ dm d w ∧ bt x (exm d w a) = true) ∧ ∀ i, i < 32 → bt x i = true → ∃ a, a < 2 ^ dm d w ∧ i = exm d w a ∧ bt y a = true
theorem dm_32 {d w : Nat} (hd : d < 6) (hw : w < 2 ^ d) : 2 ^ dm d w ≤ 32 := two_5 (by have := dm_le d hd w hw; omega)
theorem ex_32 {d w a : Nat} (hd : d < 6) (hw : w < 2 ^ d) (ha : a < 2 ^ dm d w) : exm d w a < 32 := Nat.lt_of_lt_of_le ((ex_a d hd w hw).2.2.2 a ha) (two_5 (by omega))
theorem RNB_bt {d w a : Nat} {x y : Int32} (hd : d < 6) (hw : w < 2 ^ d) (h : RNB d w x y) (ha : a < 2 ^ dm d w) : bt x (exm d w a) = true ↔ bt y a = true := by
  have h32 := dm_32 hd hw
  constructor
  · intro q
    obtain ⟨b, hb, e, r⟩ := h.2 _ (ex_32 hd hw ha) q
    rw [(ex_p hd hw ha hb).2.2.2 e]
    exact r
  · exact fun q => (h.1 a (by omega) q).2
theorem RNB_0 {d w : Nat} : RNB d w 0 0 := ⟨fun a _ h => (by rw [b_0] at h; cases h), fun a _ h => (by rw [b_0] at h; cases h)⟩
theorem RNB_1 {d w : Nat} (hd : d < 6) (hw : w < 2 ^ d) : RNB d w 1 1 := by
  have h0 := (ex_a d hd w hw).1
  have p := Nat.pow_pos (a := 2) (n := dm d w) (by decide)
  refine ⟨fun a ha h => ?_, fun i hi h => ?_⟩
  · rw [bt_1 a ha, decide_eq_true_iff] at h
    rw [h, h0]
    exact ⟨p, by decide⟩
  · rw [bt_1 i hi, decide_eq_true_iff] at h
    exact ⟨0, p, by rw [h, h0], by decide⟩
theorem RNB_or {d w : Nat} {x y x2 y2 : Int32} (h : RNB d w x y) (g : RNB d w x2 y2) : RNB d w (x ||| x2) (y ||| y2) := by
  refine ⟨fun a ha q => ?_, fun i hi q => ?_⟩
  · rw [b_or, Bool.or_eq_true] at q
    rcases q with q | q
    · obtain ⟨q1, q2⟩ := h.1 a ha q
      exact ⟨q1, by rw [b_or, q2, Bool.true_or]⟩
    · obtain ⟨q1, q2⟩ := g.1 a ha q
      exact ⟨q1, by rw [b_or, q2, Bool.or_true]⟩
  · rw [b_or, Bool.or_eq_true] at q
    rcases q with q | q
    · obtain ⟨a, q1, q2, q3⟩ := h.2 i hi q
      exact ⟨a, q1, q2, by rw [b_or, q3, Bool.true_or]⟩
    · obtain ⟨a, q1, q2, q3⟩ := g.2 i hi q
      exact ⟨a, q1, q2, by rw [b_or, q3, Bool.or_true]⟩
theorem RNB_Jn {d w : Nat} {x y x2 y2 : Int32} (hd : d < 6) (hw : w < 2 ^ d) (h : RNB d w x y) (g : RNB d w x2 y2) : RNB d w (Jn x x2) (Jn y y2) := by
  have h32 := dm_32 hd hw
  refine ⟨fun c hc q => ?_, fun i hi q => ?_⟩
  · obtain ⟨a, ha, h1, b, hb, h2, h3⟩ := (Jn_bt hc).mp q
    obtain ⟨u1, u2⟩ := h.1 a ha h1
    obtain ⟨v1, v2⟩ := g.1 b hb h2
    obtain ⟨p1, p2, p3, -⟩ := ex_p hd hw u1 v1
    have ec : a ||| b = c := h3.2
    rw [ec] at p2 p3
    exact ⟨p3, (Jn_bt (ex_32 hd hw p3)).mpr ⟨_, ex_32 hd hw u1, u2, _, ex_32 hd hw v1, v2, p1.mp h3.1, p2⟩⟩
  · obtain ⟨a, ha, h1, b, hb, h2, h3⟩ := (Jn_bt hi).mp q
    obtain ⟨u, u1, u2, u3⟩ := h.2 a ha h1
    obtain ⟨v, v1, v2, v3⟩ := g.2 b hb h2
    obtain ⟨p1, p2, p3, -⟩ := ex_p hd hw u1 v1
    rw [u2, v2] at h3
    exact ⟨u ||| v, p3, by rw [← p2]; exact h3.2.symm, (Jn_bt (by omega)).mpr ⟨u, by omega, u3, v, by omega, v3, p1.mpr h3.1, rfl⟩⟩
theorem RNB_so {d w : Nat} {x x2 : Int32} (hd : d < 6) (hw : w < 2 ^ d) (h : RNB d w x x2) : ∀ j, RNB d w (soN x j) (soN x2 j)
  | 0 => RNB_1 hd hw
  | j + 1 => RNB_Jn hd hw (RNB_so hd hw h j) h
theorem RNB_Cn {d w : Nat} {x x2 : Int32} {l : Nat} (hd : d < 6) (hw : w < 2 ^ d) (h : RNB d w x x2) : ∀ j, RNB d w (Cn x l j) (Cn x2 l j)
  | 0 => by
    unfold Cn
    by_cases q : l = 0
    · rw [if_pos q]; exact RNB_1 hd hw
    · rw [if_neg q]; exact RNB_0
  | j + 1 => by
    unfold Cn
    refine RNB_or (RNB_Cn hd hw h j) ?_
    by_cases q : l ≤ j + 1
    · rw [if_pos q, if_pos q]; exact RNB_so hd hw h (j + 1)
    · rw [if_neg q, if_neg q]; exact RNB_0
theorem RNB_rst {d v : Nat} {F F2 : Nat → Int32} {m : Mem} {s k : Nat} (hd : d < 6) (hv : v < 2 ^ d) (hF : ∀ i, RNB d v (F i) (F2 i)) {w w2 : Int32} {g g2 : Nat → Int32} (hw : RNB d v w w2) (hg : ∀ i, RNB d v (g i) (g2 i)) : RNB d v (rst F m s k (w, g)).1 (rst F2 m s k (w2, g2)).1 ∧ ∀ i, RNB d v ((rst F m s k (w, g)).2 i) ((rst F2 m s k (w2, g2)).2 i) := by
  have U : ∀ (u : Nat) (x y : Int32), RNB d v x y → ∀ i, RNB d v (upd g u x i) (upd g2 u y i) := fun u x y h i => by
    rw [upd_if, upd_if]
    by_cases e : i = u
    · rw [if_pos e, if_pos e]; exact h
    · rw [if_neg e, if_neg e]; exact hg i
  have L : ∀ (x y y2 : Int32), RNB d v y y2 → RNB d v (lx F s x y) (lx F2 s x y2) := fun x y y2 h => by
    unfold lx
    by_cases e : x = -4
    · rw [if_pos e, if_pos e]; exact h
    · rw [if_neg e, if_neg e]; exact RNB_or h (hF _)
  unfold rst
  by_cases c2 : m 14 (160 * s + k) = 2
  · rw [if_pos c2, if_pos c2]
    exact ⟨hw, U _ _ _ (RNB_Jn hd hv (hg _) (RNB_Cn hd hv (L _ _ _ (hg _)) _))⟩
  · rw [if_neg c2, if_neg c2]
    by_cases c1 : m 14 (160 * s + k) = 1
    · rw [if_pos c1, if_pos c1]
      exact ⟨hw, U _ _ _ (RNB_or (hg _) (hg _))⟩
    · rw [if_neg c1, if_neg c1]
      by_cases c5 : m 15 (160 * s + k) = -4
      · rw [if_pos c5, if_pos c5]; exact ⟨hg _, hg⟩
      · rw [if_neg c5, if_neg c5]; exact ⟨hw, U _ _ _ (hg _)⟩
theorem RNB_rrn {d v : Nat} {F F2 : Nat → Int32} {m : Mem} {s : Nat} (hd : d < 6) (hv : v < 2 ^ d) (hF : ∀ i, RNB d v (F i) (F2 i)) : ∀ (n : Nat) (w w2 : Int32) (g g2 : Nat → Int32), RNB d v w w2 → (∀ i, RNB d v (g i) (g2 i)) → RNB d v (rrn F m s 0 n (w, g)).1 (rrn F2 m s 0 n (w2, g2)).1
  | 0, _, _, _, _, hw, _ => hw
  | n + 1, w, w2, g, g2, hw, hg => by
    obtain ⟨h1, h2⟩ := RNB_rst (m := m) (s := s) (k := 0 + n) hd hv hF hw hg
    exact RNB_rrn hd hv hF n _ _ _ _ h1 h2
