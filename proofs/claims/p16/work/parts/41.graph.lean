/-! nodes and edges, as both modules keep them -/
def LTp (a c b e : Nat) : Prop := a < b ∨ (a = b ∧ c < e)
def GG (k : Nat) (d N T : Nat → Nat) : Prop := k ≤ 10 ∧ ∀ n, n < k → d n ≤ 5 ∧ (∀ i, i < d n → N (n * 5 + i) < 10 ∧ T (n * 5 + i) < k) ∧ ∀ i, i + 1 < d n → LTp (N (n * 5 + i)) (T (n * 5 + i)) (N (n * 5 + (i + 1))) (T (n * 5 + (i + 1)))
theorem LTp_t {a c b e f g : Nat} (h : LTp a c b e) (h2 : LTp b e f g) : LTp a c f g := by unfold LTp at *; omega
theorem GG_lt {k : Nat} {d N T : Nat → Nat} (h : GG k d N T) {n : Nat} (hn : n < k) {i j : Nat} (hij : i < j) (hj : j < d n) : LTp (N (n * 5 + i)) (T (n * 5 + i)) (N (n * 5 + j)) (T (n * 5 + j)) := by
  induction j with
  | zero => omega
  | succ j ih =>
    have h1 := (h.2 n hn).2.2 j hj
    rcases Nat.lt_or_ge i j with h2 | h2
    · exact LTp_t (ih h2 (by omega)) h1
    · have : i = j := by omega
      subst this
      exact h1
/-- a row with one more in it, and with one less -/
def ins (f : Nat → Nat) (n p d x : Nat) : Nat → Nat := fun j => if n * 5 ≤ j ∧ j ≤ n * 5 + d then (if j < n * 5 + p then f j else if j = n * 5 + p then x else f (j - 1)) else f j
def del (f : Nat → Nat) (n p d : Nat) : Nat → Nat := fun j => if n * 5 + p ≤ j ∧ j + 1 < n * 5 + d then f (j + 1) else f j
theorem ins_o {f : Nat → Nat} {n p d x a i : Nat} (hd : d < 5) (ha : a ≠ n) (hi : i < 5) : ins f n p d x (a * 5 + i) = f (a * 5 + i) := by
  unfold ins
  rw [if_neg (by omega)]
theorem del_o {f : Nat → Nat} {n p d a i : Nat} (hd : d ≤ 5) (ha : a ≠ n) (hi : i < 5) : del f n p d (a * 5 + i) = f (a * 5 + i) := by
  unfold del
  rw [if_neg (by omega)]
theorem ins_l {f : Nat → Nat} {n p d x i : Nat} (hp : p ≤ d) (hi : i < p) : ins f n p d x (n * 5 + i) = f (n * 5 + i) := by
  unfold ins
  rw [if_pos (by omega), if_pos (by omega)]
theorem ins_e {f : Nat → Nat} {n p d x : Nat} (hp : p ≤ d) : ins f n p d x (n * 5 + p) = x := by
  unfold ins
  rw [if_pos (by omega), if_neg (by omega), if_pos rfl]
theorem ins_g {f : Nat → Nat} {n p d x i : Nat} (hi : p < i) (hd : i ≤ d) : ins f n p d x (n * 5 + i) = f (n * 5 + (i - 1)) := by
  unfold ins
  rw [if_pos (by omega), if_neg (by omega), if_neg (by omega)]
  congr 1
  omega
theorem del_l {f : Nat → Nat} {n p d i : Nat} (hi : i < p) : del f n p d (n * 5 + i) = f (n * 5 + i) := by
  unfold del
  rw [if_neg (by omega)]
theorem del_g {f : Nat → Nat} {n p d i : Nat} (hi : p ≤ i) (hd : i + 1 < d) : del f n p d (n * 5 + i) = f (n * 5 + (i + 1)) := by
  unfold del
  rw [if_pos (by omega)]
  congr 1
def up (d : Nat → Nat) (n x : Nat) : Nat → Nat := fun a => if a = n then x else d a
theorem up_s {d : Nat → Nat} {n x : Nat} : up d n x n = x := if_pos rfl
theorem up_o {d : Nat → Nat} {n x a : Nat} (h : a ≠ n) : up d n x a = d a := if_neg h
theorem GG_ins {k : Nat} {d N T : Nat → Nat} (h : GG k d N T) {n p a t : Nat} (hn : n < k) (hd : d n < 5) (hp : p ≤ d n) (ha : a < 10) (ht : t < k) (hl : ∀ i, i < p → LTp (N (n * 5 + i)) (T (n * 5 + i)) a t) (hg : p < d n → LTp a t (N (n * 5 + p)) (T (n * 5 + p))) : GG k (up d n (d n + 1)) (ins N n p (d n) a) (ins T n p (d n) t) := by
  refine ⟨h.1, fun m hm => ?_⟩
  by_cases e : m = n
  · subst e
    obtain ⟨h5, hv, hs⟩ := h.2 m hm
    rw [up_s]
    refine ⟨by omega, fun i hi => ?_, fun i hi => ?_⟩
    · rcases Nat.lt_trichotomy i p with h1 | h1 | h1
      · rw [ins_l hp h1, ins_l hp h1]; exact hv i (by omega)
      · subst h1; rw [ins_e hp, ins_e hp]; exact ⟨ha, ht⟩
      · rw [ins_g h1 (by omega), ins_g h1 (by omega)]; exact hv (i - 1) (by omega)
    · rcases Nat.lt_trichotomy i p with h1 | h1 | h1
      · rw [ins_l hp h1, ins_l hp h1]
        rcases Nat.lt_or_ge (i + 1) p with h2 | h2
        · rw [ins_l hp h2, ins_l hp h2]; exact hs i (by omega)
        · have e : i + 1 = p := by omega
          rw [e, ins_e hp, ins_e hp]; exact hl i h1
      · subst h1
        rw [ins_e hp, ins_e hp, ins_g (by omega) (by omega), ins_g (by omega) (by omega)]
        exact hg (by omega)
      · rw [ins_g h1 (by omega), ins_g h1 (by omega), ins_g (by omega) (by omega), ins_g (by omega) (by omega)]
        have := hs (i - 1) (by omega)
        rw [show i - 1 + 1 = i + 1 - 1 by omega] at this
        exact this
  · obtain ⟨h5, hv, hs⟩ := h.2 m hm
    rw [up_o e]
    refine ⟨h5, fun i hi => ?_, fun i hi => ?_⟩
    · rw [ins_o hd e (by omega), ins_o hd e (by omega)]; exact hv i hi
    · rw [ins_o hd e (by omega), ins_o hd e (by omega), ins_o hd e (by omega), ins_o hd e (by omega)]; exact hs i hi
theorem GG_del {k : Nat} {d N T : Nat → Nat} (h : GG k d N T) {n p : Nat} (hn : n < k) (hp : p < d n) : GG k (up d n (d n - 1)) (del N n p (d n)) (del T n p (d n)) := by
  refine ⟨h.1, fun m hm => ?_⟩
  by_cases e : m = n
  · subst e
    obtain ⟨h5, hv, hs⟩ := h.2 m hm
    rw [up_s]
    refine ⟨by omega, fun i hi => ?_, fun i hi => ?_⟩
    · rcases Nat.lt_or_ge i p with h1 | h1
      · rw [del_l h1, del_l h1]; exact hv i (by omega)
      · rw [del_g h1 (by omega), del_g h1 (by omega)]; exact hv (i + 1) (by omega)
    · rcases Nat.lt_or_ge i p with h1 | h1
      · rw [del_l h1, del_l h1]
        rcases Nat.lt_or_ge (i + 1) p with h2 | h2
        · rw [del_l h2, del_l h2]; exact hs i (by omega)
        · rw [del_g h2 (by omega), del_g h2 (by omega)]
          exact LTp_t (hs i (by omega)) (hs (i + 1) (by omega))
      · rw [del_g h1 (by omega), del_g h1 (by omega), del_g (by omega) (by omega), del_g (by omega) (by omega)]
        exact hs (i + 1) (by omega)
  · obtain ⟨h5, hv, hs⟩ := h.2 m hm
    have h5n := (h.2 n hn).1
    rw [up_o e]
    refine ⟨h5, fun i hi => ?_, fun i hi => ?_⟩
    · rw [del_o h5n e (by omega), del_o h5n e (by omega)]; exact hv i hi
    · rw [del_o h5n e (by omega), del_o h5n e (by omega), del_o h5n e (by omega), del_o h5n e (by omega)]; exact hs i hi
/-- the sum of all degrees -/
def sumd (d : Nat → Nat) : Nat → Nat
  | 0 => 0
  | k + 1 => sumd d k + d k
theorem sumd_le {k : Nat} {d : Nat → Nat} (h : ∀ n, n < k → d n ≤ 5) : sumd d k ≤ 5 * k := by
  induction k with
  | zero => exact Nat.le_refl _
  | succ k ih =>
    have h1 := ih (fun n hn => h n (by omega))
    have h2 := h k (by omega)
    unfold sumd
    omega
theorem sumd_o {k n x : Nat} {d : Nat → Nat} (h : k ≤ n) : sumd (up d n x) k = sumd d k := by
  induction k with
  | zero => rfl
  | succ k ih =>
    unfold sumd
    rw [ih (by omega), up_o (by omega)]
theorem sumd_up {k n x : Nat} {d : Nat → Nat} (h : n < k) : sumd (up d n x) k + d n = sumd d k + x := by
  induction k with
  | zero => omega
  | succ k ih =>
    unfold sumd
    by_cases e : n = k
    · subst e
      rw [sumd_o (Nat.le_refl _), up_s]
      omega
    · have := ih (by omega)
      rw [up_o (fun z => e z.symm)]
      omega
theorem sumd_d {k n : Nat} {d : Nat → Nat} (h : n < k) : d n ≤ sumd d k := by
  induction k with
  | zero => omega
  | succ k ih =>
    unfold sumd
    by_cases e : n = k
    · subst e; omega
    · have := ih (by omega); omega
/-! the same over rows of ints -/
def GXf (f0 : Int32) (f4 f5 f6 : Nat → Int32) (k : Nat) (d N T : Nat → Nat) : Prop := f0 = nI k ∧ ∀ n, n < k → f4 n = nI (d n) ∧ ∀ i, i < d n → f5 (n * 5 + i) = nI (N (n * 5 + i)) ∧ f6 (n * 5 + i) = nI (T (n * 5 + i))
def insI (f : Nat → Int32) (n p d : Nat) (x : Int32) : Nat → Int32 := fun j => if n * 5 ≤ j ∧ j ≤ n * 5 + d then (if j < n * 5 + p then f j else if j = n * 5 + p then x else f (j - 1)) else f j
def delI (f : Nat → Int32) (n p d : Nat) : Nat → Int32 := fun j => if n * 5 + p ≤ j ∧ j + 1 < n * 5 + d then f (j + 1) else f j
def shf (f : Nat → Int32) (lo hi : Nat) : Nat → Int32 := fun j => if lo < j ∧ j ≤ hi then f (j - 1) else f j
theorem shf_0 {f : Nat → Int32} {h : Nat} : shf f h h = f := by
  funext j
  unfold shf
  rw [if_neg (by omega)]
theorem shf_v {f : Nat → Int32} {lo hi j : Nat} (h : j ≤ lo) : shf f lo hi j = f j := by
  unfold shf
  rw [if_neg (by omega)]
theorem upd_if {f : Nat → Int32} {i j : Nat} {x : Int32} : upd f i x j = if j = i then x else f j := by
  by_cases h : j = i
  · subst h; rw [if_pos rfl]; exact pk_us
  · rw [if_neg h]; exact pk_un h
theorem shf_step {f : Nat → Int32} {lo hi : Nat} (h : lo < hi) : upd (shf f (lo + 1) hi) (lo + 1) (f lo) = shf f lo hi := by
  funext j
  rw [upd_if]
  unfold shf
  by_cases e : j = lo + 1
  · subst e
    rw [if_pos rfl, if_pos (by omega)]
    rfl
  · rw [if_neg e]
    by_cases c : lo < j ∧ j ≤ hi
    · rw [if_pos c, if_pos (by omega)]
    · rw [if_neg c, if_neg (by omega)]
theorem shf_ins {f : Nat → Int32} {n p d : Nat} {x : Int32} (h : p ≤ d) : upd (shf f (n * 5 + p) (n * 5 + d)) (n * 5 + p) x = insI f n p d x := by
  funext j
  rw [upd_if]
  unfold shf insI
  by_cases e : j = n * 5 + p
  · subst e
    rw [if_pos rfl, if_pos (by omega), if_neg (by omega), if_pos rfl]
  · rw [if_neg e]
    by_cases c : n * 5 ≤ j ∧ j ≤ n * 5 + d
    · rw [if_pos c]
      by_cases c2 : j < n * 5 + p
      · rw [if_pos c2, if_neg (by omega)]
      · rw [if_neg c2, if_neg e, if_pos (by omega)]
    · rw [if_neg c, if_neg (by omega)]
theorem delI_0 {f : Nat → Int32} {n p : Nat} : delI f n p (p + 1) = f := by
  funext j
  unfold delI
  rw [if_neg (by omega)]
theorem delI_v {f : Nat → Int32} {n p q : Nat} : delI f n p q (n * 5 + q) = f (n * 5 + q) := by
  unfold delI
  rw [if_neg (by omega)]
theorem delI_step {f : Nat → Int32} {n p q : Nat} (h : p < q) : upd (delI f n p q) (n * 5 + q - 1) (f (n * 5 + q)) = delI f n p (q + 1) := by
  funext j
  rw [upd_if]
  unfold delI
  by_cases e : j = n * 5 + q - 1
  · subst e
    rw [if_pos rfl, if_pos (by omega)]
    congr 1
    omega
  · rw [if_neg e]
    by_cases c : n * 5 + p ≤ j ∧ j + 1 < n * 5 + q
    · rw [if_pos c, if_pos (by omega)]
    · rw [if_neg c, if_neg (by omega)]
theorem insI_o {f : Nat → Int32} {n p d a i : Nat} {x : Int32} (hd : d < 5) (ha : a ≠ n) (hi : i < 5) : insI f n p d x (a * 5 + i) = f (a * 5 + i) := by
  unfold insI
  rw [if_neg (by omega)]
theorem delI_o {f : Nat → Int32} {n p d a i : Nat} (hd : d ≤ 5) (ha : a ≠ n) (hi : i < 5) : delI f n p d (a * 5 + i) = f (a * 5 + i) := by
  unfold delI
  rw [if_neg (by omega)]
theorem insI_l {f : Nat → Int32} {n p d i : Nat} {x : Int32} (hp : p ≤ d) (hi : i < p) : insI f n p d x (n * 5 + i) = f (n * 5 + i) := by
  unfold insI
  rw [if_pos (by omega), if_pos (by omega)]
theorem insI_e {f : Nat → Int32} {n p d : Nat} {x : Int32} (hp : p ≤ d) : insI f n p d x (n * 5 + p) = x := by
  unfold insI
  rw [if_pos (by omega), if_neg (by omega), if_pos rfl]
theorem insI_g {f : Nat → Int32} {n p d i : Nat} {x : Int32} (hi : p < i) (hd : i ≤ d) : insI f n p d x (n * 5 + i) = f (n * 5 + (i - 1)) := by
  unfold insI
  rw [if_pos (by omega), if_neg (by omega), if_neg (by omega)]
  congr 1
  omega
theorem insI_n {f : Nat → Int32} {F : Nat → Nat} {n p d x i : Nat} (hp : p ≤ d) (hf : ∀ i, i < d → f (n * 5 + i) = nI (F (n * 5 + i))) (hi : i ≤ d) : insI f n p d (nI x) (n * 5 + i) = nI (ins F n p d x (n * 5 + i)) := by
  rcases Nat.lt_trichotomy i p with h1 | h1 | h1
  · rw [insI_l hp h1, ins_l hp h1]; exact hf i (by omega)
  · subst h1; rw [insI_e hp, ins_e hp]
  · rw [insI_g h1 hi, ins_g h1 hi]; exact hf (i - 1) (by omega)
theorem delI_n {f : Nat → Int32} {F : Nat → Nat} {n p d i : Nat} (hf : ∀ i, i < d → f (n * 5 + i) = nI (F (n * 5 + i))) (hi : i + 1 < d) : delI f n p d (n * 5 + i) = nI (del F n p d (n * 5 + i)) := by
  unfold delI del
  by_cases c : n * 5 + p ≤ n * 5 + i ∧ n * 5 + i + 1 < n * 5 + d
  · rw [if_pos c, if_pos c]
    exact hf (i + 1) hi
  · rw [if_neg c, if_neg c]
    exact hf i (by omega)
theorem GXf_ins {f0 : Int32} {f4 f5 f6 : Nat → Int32} {k n p a t : Nat} {d N T : Nat → Nat} (g : GG k d N T) (x : GXf f0 f4 f5 f6 k d N T) (hn : n < k) (hd : d n < 5) (hp : p ≤ d n) : GXf f0 (upd f4 n (nI (d n + 1))) (insI f5 n p (d n) (nI a)) (insI f6 n p (d n) (nI t)) k (up d n (d n + 1)) (ins N n p (d n) a) (ins T n p (d n) t) := by
  refine ⟨x.1, fun m hm => ?_⟩
  by_cases e : m = n
  · subst e
    obtain ⟨h4, hv⟩ := x.2 m hm
    rw [up_s]
    exact ⟨pk_us, fun i hi => ⟨insI_n hp (fun i hi => (hv i hi).1) (by omega), insI_n hp (fun i hi => (hv i hi).2) (by omega)⟩⟩
  · obtain ⟨h4, hv⟩ := x.2 m hm
    have h5 := (g.2 m hm).1
    rw [up_o e]
    refine ⟨by rw [pk_un e]; exact h4, fun i hi => ?_⟩
    rw [insI_o hd e (by omega), insI_o hd e (by omega), ins_o hd e (by omega), ins_o hd e (by omega)]
    exact hv i hi
theorem GXf_del {f0 : Int32} {f4 f5 f6 : Nat → Int32} {k n p : Nat} {d N T : Nat → Nat} (g : GG k d N T) (x : GXf f0 f4 f5 f6 k d N T) (hn : n < k) : GXf f0 (upd f4 n (nI (d n - 1))) (delI f5 n p (d n)) (delI f6 n p (d n)) k (up d n (d n - 1)) (del N n p (d n)) (del T n p (d n)) := by
  refine ⟨x.1, fun m hm => ?_⟩
  have h5n := (g.2 n hn).1
  by_cases e : m = n
  · subst e
    obtain ⟨h4, hv⟩ := x.2 m hm
    rw [up_s]
    exact ⟨pk_us, fun i hi => ⟨delI_n (fun i hi => (hv i hi).1) (by omega), delI_n (fun i hi => (hv i hi).2) (by omega)⟩⟩
  · obtain ⟨h4, hv⟩ := x.2 m hm
    have h5 := (g.2 m hm).1
    rw [up_o e]
    refine ⟨by rw [pk_un e]; exact h4, fun i hi => ?_⟩
    rw [delI_o h5n e (by omega), delI_o h5n e (by omega), del_o h5n e (by omega), del_o h5n e (by omega)]
    exact hv i hi
