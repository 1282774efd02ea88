/-! loops that end -/
theorem zlp_run {α β : Type} {f : α → Option (α ⊕ β)} (I : α → Prop) (P : β → Prop) (μ : α → Nat) (hs : ∀ a, I a → (∃ b, f a = some (.inr b) ∧ P b) ∨ ∃ a2, f a = some (.inl a2) ∧ I a2 ∧ μ a2 < μ a) : ∀ (n : Nat) (a : α), I a → μ a < n → ∃ b, zlp n f a = some b ∧ P b := by
  intro n
  induction n with
  | zero => intro a _ h; omega
  | succ n ih =>
    intro a ha hm
    rcases hs a ha with ⟨b, hb, hp⟩ | ⟨a2, h2, hi, hl⟩
    · exact ⟨b, zlp_off hb, hp⟩
    · rw [zlp_on h2]
      exact ih a2 hi (by omega)
theorem forG {α β : Type} {f : α → Option (α ⊕ β)} (K : Nat) (J : Nat → α → Prop) (P : β → Prop) (hs : ∀ j a, j < K → J j a → (∃ a2, f a = some (.inl a2) ∧ J (j + 1) a2) ∨ ∃ b, f a = some (.inr b) ∧ P b) (he : ∀ a, J K a → ∃ b, f a = some (.inr b) ∧ P b) : ∀ (n j : Nat) (a : α), j ≤ K → J j a → K - j < n → ∃ b, zlp n f a = some b ∧ P b := by
  intro n
  induction n with
  | zero => intro j a _ _ h; omega
  | succ n ih =>
    intro j a hj ha hm
    rcases Nat.lt_or_ge j K with h1 | h1
    · rcases hs j a h1 ha with ⟨a2, h2, h3⟩ | ⟨b, hb, hp⟩
      · rw [zlp_on h2]
        exact ih (j + 1) a2 (by omega) h3 (by omega)
      · exact ⟨b, zlp_off hb, hp⟩
    · have : j = K := by omega
      subst this
      obtain ⟨b, hb, hp⟩ := he a ha
      exact ⟨b, zlp_off hb, hp⟩
theorem FU_lt {k : Nat} (h : k ≤ 100000) : k < FU := by
  have : FU = 1000000 := rfl
  omega
/-! small laws of answers -/
theorem bind_s {α β : Type} {a : α} {k : α → Option β} : (some a).bind k = k a := rfl
theorem zb2_s {α β γ : Type} {a : α} {b : β} {k : α → β → Option γ} : zb2 (some (a, b)) k = k a b := rfl
theorem zb3_s {α β δ γ : Type} {a : α} {b : β} {c : δ} {k : α → β → δ → Option γ} : zb3 (some (a, b, c)) k = k a b c := rfl
theorem bn_e {α β : Type} {a : α} {k : α → β} : bn a k = k a := rfl
theorem nI_toInt' {k : Nat} (h : k < 2 ^ 31) : (nI k).toInt = (k : Int) := nI_toInt h
theorem zin_i {x : Int32} {n : Nat} (h0 : 0 ≤ x.toInt) (h1 : x.toInt < n) : zin x n = true := zin_iff.mpr ⟨h0, h1⟩
theorem zbk_i {α : Type} {x : Int32} {b : Nat} {k : Nat → Option α} (h : isb b) (hx : x = nI b) : zbk x k = k b := by
  subst hx
  rcases h with rfl | rfl
  · exact zbk_11
  · exact zbk_25
theorem int_nI {x : Int32} (h : 0 ≤ x.toInt) : ∃ j : Nat, j < 2 ^ 31 ∧ x = nI j ∧ x.toInt = j := by
  have h2 : ¬ x < 0 := fun z => by have := lt_i.mp z; rw [toInt_0] at this; omega
  obtain ⟨j, hj, rfl⟩ := nI_of h2
  exact ⟨j, hj, rfl, nI_toInt hj⟩
theorem nI_mul (a b : Nat) : nI a * nI b = nI (a * b) := pk_mul a b
theorem ex_if {α : Type} {c : Prop} [Decidable c] {x y : Option α} {P : α → Prop} (h1 : c → ∃ r, x = some r ∧ P r) (h2 : ¬ c → ∃ r, y = some r ∧ P r) : ∃ r, (if c then x else y) = some r ∧ P r := by
  by_cases h : c
  · rw [if_pos h]; exact h1 h
  · rw [if_neg h]; exact h2 h
theorem ex_ck {α : Type} {b : Prop} [Decidable b] {k : Option α} {P : α → Prop} (h : b) (hk : ∃ r, k = some r ∧ P r) : ∃ r, ck b k = some r ∧ P r := by rw [ck_p h]; exact hk
theorem ex_b {α β : Type} {o : Option α} {k : α → Option β} {Q : α → Prop} {P : β → Prop} (h : ∃ a, o = some a ∧ Q a) (hk : ∀ a, Q a → ∃ r, k a = some r ∧ P r) : ∃ r, o.bind k = some r ∧ P r := by
  obtain ⟨a, rfl, hq⟩ := h
  exact hk a hq
theorem ex_2 {α γ β : Type} {o : Option (α × γ)} {k : α → γ → Option β} {Q : α × γ → Prop} {P : β → Prop} (h : ∃ a, o = some a ∧ Q a) (hk : ∀ a c, Q (a, c) → ∃ r, k a c = some r ∧ P r) : ∃ r, zb2 o k = some r ∧ P r := by
  obtain ⟨⟨a, c⟩, rfl, hq⟩ := h
  exact hk a c hq
theorem ex_3 {α γ δ β : Type} {o : Option (α × γ × δ)} {k : α → γ → δ → Option β} {Q : α × γ × δ → Prop} {P : β → Prop} (h : ∃ a, o = some a ∧ Q a) (hk : ∀ a c d, Q (a, c, d) → ∃ r, k a c d = some r ∧ P r) : ∃ r, zb3 o k = some r ∧ P r := by
  obtain ⟨⟨a, c, d⟩, rfl, hq⟩ := h
  exact hk a c d hq
theorem ex_n {α β : Type} {a : α} {k : α → Option β} {P : β → Prop} (h : ∃ r, k a = some r ∧ P r) : ∃ r, bn a k = some r ∧ P r := h
theorem ex_k {α : Type} {x : Int32} {b : Nat} {k : Nat → Option α} {P : α → Prop} (h : isb b) (hx : x = nI b) (hk : ∃ r, k b = some r ∧ P r) : ∃ r, zbk x k = some r ∧ P r := by rw [zbk_i h hx]; exact hk
theorem ex_s {α : Type} {a : α} {P : α → Prop} (h : P a) : ∃ r, some a = some r ∧ P r := ⟨a, rfl, h⟩
theorem ex_w {α : Type} {o : Option α} {P Q : α → Prop} (h : ∃ r, o = some r ∧ P r) (hw : ∀ r, P r → Q r) : ∃ r, o = some r ∧ Q r := by
  obtain ⟨r, h1, h2⟩ := h
  exact ⟨r, h1, hw r h2⟩
/-! a step of a loop: on, or out -/
theorem st_if {α β : Type} {c : Prop} [Decidable c] {x y : Option (α ⊕ β)} {A : α → Prop} {B : β → Prop} (h1 : c → (∃ a, x = some (.inl a) ∧ A a) ∨ ∃ b, x = some (.inr b) ∧ B b) (h2 : ¬ c → (∃ a, y = some (.inl a) ∧ A a) ∨ ∃ b, y = some (.inr b) ∧ B b) : (∃ a, (if c then x else y) = some (.inl a) ∧ A a) ∨ ∃ b, (if c then x else y) = some (.inr b) ∧ B b := by
  by_cases h : c
  · rw [if_pos h]; exact h1 h
  · rw [if_neg h]; exact h2 h
theorem st_ck {α β : Type} {c : Prop} [Decidable c] {x : Option (α ⊕ β)} {A : α → Prop} {B : β → Prop} (h : c) (h1 : (∃ a, x = some (.inl a) ∧ A a) ∨ ∃ b, x = some (.inr b) ∧ B b) : (∃ a, ck c x = some (.inl a) ∧ A a) ∨ ∃ b, ck c x = some (.inr b) ∧ B b := by rw [ck_p h]; exact h1
theorem st_b {α β γ : Type} {o : Option γ} {k : γ → Option (α ⊕ β)} {Q : γ → Prop} {A : α → Prop} {B : β → Prop} (h : ∃ c, o = some c ∧ Q c) (hk : ∀ c, Q c → (∃ a, k c = some (.inl a) ∧ A a) ∨ ∃ b, k c = some (.inr b) ∧ B b) : (∃ a, o.bind k = some (.inl a) ∧ A a) ∨ ∃ b, o.bind k = some (.inr b) ∧ B b := by
  obtain ⟨c, rfl, hq⟩ := h
  exact hk c hq
theorem st_2 {α β γ δ : Type} {o : Option (γ × δ)} {k : γ → δ → Option (α ⊕ β)} {Q : γ × δ → Prop} {A : α → Prop} {B : β → Prop} (h : ∃ c, o = some c ∧ Q c) (hk : ∀ c d, Q (c, d) → (∃ a, k c d = some (.inl a) ∧ A a) ∨ ∃ b, k c d = some (.inr b) ∧ B b) : (∃ a, zb2 o k = some (.inl a) ∧ A a) ∨ ∃ b, zb2 o k = some (.inr b) ∧ B b := by
  obtain ⟨⟨c, d⟩, rfl, hq⟩ := h
  exact hk c d hq
theorem st_n {α β γ : Type} {c : γ} {k : γ → Option (α ⊕ β)} {A : α → Prop} {B : β → Prop} (h : (∃ a, k c = some (.inl a) ∧ A a) ∨ ∃ b, k c = some (.inr b) ∧ B b) : (∃ a, bn c k = some (.inl a) ∧ A a) ∨ ∃ b, bn c k = some (.inr b) ∧ B b := h
theorem st_k {α β : Type} {x : Int32} {b : Nat} {k : Nat → Option (α ⊕ β)} {A : α → Prop} {B : β → Prop} (h : isb b) (hx : x = nI b) (hk : (∃ a, k b = some (.inl a) ∧ A a) ∨ ∃ c, k b = some (.inr c) ∧ B c) : (∃ a, zbk x k = some (.inl a) ∧ A a) ∨ ∃ c, zbk x k = some (.inr c) ∧ B c := by rw [zbk_i h hx]; exact hk
theorem st_l {α β : Type} {a : α} {A : α → Prop} {B : β → Prop} (h : A a) : (∃ a2, (some (.inl a) : Option (α ⊕ β)) = some (.inl a2) ∧ A a2) ∨ ∃ b, (some (.inl a) : Option (α ⊕ β)) = some (.inr b) ∧ B b := Or.inl ⟨a, rfl, h⟩
theorem st_r {α β : Type} {b : β} {A : α → Prop} {B : β → Prop} (h : B b) : (∃ a2, (some (.inr b) : Option (α ⊕ β)) = some (.inl a2) ∧ A a2) ∨ ∃ b2, (some (.inr b) : Option (α ⊕ β)) = some (.inr b2) ∧ B b2 := Or.inr ⟨b, rfl, h⟩
