/-! what a method means: an answer, or none where it would throw or not end -/
def zin (i : Int32) (n : Nat) : Bool := decide (0 ≤ i.toInt) && decide (i.toInt < n)
theorem zin_iff {i : Int32} {n : Nat} : zin i n = true ↔ 0 ≤ i.toInt ∧ i.toInt < n := by simp [zin]
theorem zin_vp {i : Int32} {n : Nat} (h : zin i n = true) : vp_in i n := vp_in_iff.mpr (zin_iff.mp h)
def ck {α : Type} (b : Prop) [Decidable b] (k : Option α) : Option α := if b then k else none
theorem ck_el {α : Type} {b : Prop} [Decidable b] {k : Option α} {y : α} (h : ck b k = some y) : b ∧ k = some y := by
  unfold ck at h
  by_cases hb : b
  · rw [if_pos hb] at h; exact ⟨hb, h⟩
  · rw [if_neg hb] at h; cases h
def bn {α β : Type} (e : α) (k : α → β) : β := k e
theorem bn_to {α β : Type} {e x : α} {k : α → β} {y : β} (h : x = e) (hf : bn e k = y) : k x = y := by rw [h]; exact hf
theorem zb_el {α γ : Type} {o : Option α} {k : α → Option γ} {y : γ} (h : o.bind k = some y) : ∃ a, o = some a ∧ k a = some y := by
  cases o with
  | none => cases h
  | some a => exact ⟨a, rfl, h⟩
def zb2 {α β γ : Type} (o : Option (α × β)) (k : α → β → Option γ) : Option γ := o.bind fun q => k q.1 q.2
theorem zb2_el {α β γ : Type} {o : Option (α × β)} {k : α → β → Option γ} {y : γ} (h : zb2 o k = some y) : ∃ a b, o = some (a, b) ∧ k a b = some y := by
  obtain ⟨⟨a, b⟩, h1, h2⟩ := zb_el h
  exact ⟨a, b, h1, h2⟩
def zb3 {α β δ γ : Type} (o : Option (α × β × δ)) (k : α → β → δ → Option γ) : Option γ := o.bind fun q => k q.1 q.2.1 q.2.2
theorem zb3_el {α β δ γ : Type} {o : Option (α × β × δ)} {k : α → β → δ → Option γ} {y : γ} (h : zb3 o k = some y) : ∃ a b c, o = some (a, b, c) ∧ k a b c = some y := by
  obtain ⟨⟨a, b, c⟩, h1, h2⟩ := zb_el h
  exact ⟨a, b, c, h1, h2⟩
def zb4 {α β δ ε γ : Type} (o : Option (α × β × δ × ε)) (k : α → β → δ → ε → Option γ) : Option γ := o.bind fun q => k q.1 q.2.1 q.2.2.1 q.2.2.2
theorem zb4_el {α β δ ε γ : Type} {o : Option (α × β × δ × ε)} {k : α → β → δ → ε → Option γ} {y : γ} (h : zb4 o k = some y) : ∃ a b c d, o = some (a, b, c, d) ∧ k a b c d = some y := by
  obtain ⟨⟨a, b, c, d⟩, h1, h2⟩ := zb_el h
  exact ⟨a, b, c, d, h1, h2⟩
/-- a loop's end: the method's own end, or on -/
def zbR {ρ α : Type} (o : Option (ρ ⊕ α)) (k : α → Option ρ) : Option ρ := match o with
  | none => none
  | some (.inl r) => some r
  | some (.inr a) => k a
theorem zbR_el {ρ α : Type} {o : Option (ρ ⊕ α)} {k : α → Option ρ} {y : ρ} (h : zbR o k = some y) : o = some (.inl y) ∨ ∃ a, o = some (.inr a) ∧ k a = some y := by
  match o, h with
  | some (.inl r), h => exact Or.inl (congrArg (fun z => some (Sum.inl z)) (Option.some.inj h))
  | some (.inr a), h => exact Or.inr ⟨a, rfl, h⟩
theorem if_t {α : Type} {c : Prop} [Decidable c] {a b y : α} (h : c) (hf : (if c then a else b) = y) : a = y := by rwa [if_pos h] at hf
theorem if_f {α : Type} {c : Prop} [Decidable c] {a b y : α} (h : ¬ c) (hf : (if c then a else b) = y) : b = y := by rwa [if_neg h] at hf
theorem if_tn {α : Type} {c : Prop} [Decidable c] {a b y : α} (h : ¬ ¬ c) (hf : (if c then a else b) = y) : a = y := if_t (Decidable.not_not.mp h) hf
theorem zby {c A : Prop} (a : c → A) (b : ¬ c → A) : A := Classical.byCases a b
theorem ztab_out {x : Int32} {n : Nat} (hn : n < 2 ^ 31) (h : ∀ j : Nat, j < n → ¬ x = nI j) : x.toInt < 0 ∨ (n : Int) - 1 < x.toInt := by
  rcases pk_ix x hn with h1 | h1 | ⟨j, hj, h1⟩
  · exact Or.inl (by simpa [Int32.lt_iff_toInt_lt] using h1)
  · right
    have h2 : (nI n).toInt ≤ x.toInt := by simpa [Int32.le_iff_toInt_le] using h1
    rw [nI_toInt hn] at h2
    omega
  · exact absurd h1 (h j hj)
def zus (x y : Int32) : Int32 := (x.toUInt32 >>> (y.toUInt32 &&& Int32.toUInt32 31)).toInt32
def zlp {α β : Type} : Nat → (α → Option (α ⊕ β)) → α → Option β
  | 0, _, _ => none
  | n + 1, f, a => match f a with
    | none => none
    | some (.inl a') => zlp n f a'
    | some (.inr b) => some b
def zlz {α β : Type} (n : Nat) (f : α → Option (α ⊕ β)) (b : β) (z : α ⊕ β) : Prop := match z with
  | .inl a => zlp n f a = some b
  | .inr b' => b' = b
theorem zlp_el {α β : Type} {n : Nat} {f : α → Option (α ⊕ β)} {a : α} {b : β} (h : zlp (n + 1) f a = some b) : ∃ z, f a = some z ∧ zlz n f b z := by
  simp only [zlp] at h
  match hf : f a, h with
  | some (.inl a'), h => exact ⟨_, rfl, h⟩
  | some (.inr b'), h => exact ⟨_, rfl, Option.some.inj h⟩
theorem zlz_r {α β : Type} {n : Nat} {f : α → Option (α ⊕ β)} {b b' : β} (h : zlz n f b (.inr b')) : b' = b := h
theorem zlz_l {α β : Type} {n : Nat} {f : α → Option (α ⊕ β)} {a : α} {b : β} (h : zlz n f b (.inl a)) : zlp n f a = some b := h
/-- a loop within, that may end the method -/
def zbS {ρ α γ : Type} (o : Option (ρ ⊕ α)) (f : ρ → Option γ) (k : α → Option γ) : Option γ := match o with
  | none => none
  | some (.inl r) => f r
  | some (.inr a) => k a
theorem zbS_el {ρ α γ : Type} {o : Option (ρ ⊕ α)} {f : ρ → Option γ} {k : α → Option γ} {y : γ} (h : zbS o f k = some y) : (∃ r, o = some (.inl r) ∧ f r = some y) ∨ ∃ a, o = some (.inr a) ∧ k a = some y := by
  match o, h with
  | some (.inl r), h => exact Or.inl ⟨r, rfl, h⟩
  | some (.inr a), h => exact Or.inr ⟨a, rfl, h⟩
theorem zne_i {x v : Int32} (h : ¬ x = v) : ¬ x.toInt = v.toInt := fun e => h (Int32.toInt_inj.mp e)
theorem zne_k {x v : Int32} {k : Int} (hv : v.toInt = k) (h : ¬ x = v) : ¬ x.toInt = k := by rw [← hv]; exact zne_i h
theorem zlk_out {x d : Int} : ∀ {ps : List (Int × Int)}, (∀ q ∈ ps, ¬ x = q.1) → Op.lookupswitch.offset ps d x = d
  | [], _ => rfl
  | (a, o) :: ps, h => by
    rw [Op.lookupswitch.offset_cons]
    have h1 : ¬ x = a := h (a, o) (by simp)
    have h2 := zlk_out (ps := ps) (d := d) (fun q hq => h q (by simp [hq]))
    rw [if_neg (fun e => h1 e.symm)]
    exact h2
def FU : Nat := 1000000
/-! rows of the judgement -/
section ZROWS
variable {M : ZM} {K : ZK} {cc : ByteArray} {nL : Nat} {ret : Option FieldType} {own : String} {Ts : List Cond} {rm : Room} {σ : Mem} {lv : List (Nat × Value)} {pc : Nat} {st : List Value}
theorem z_iconst (C : zOK M K cc nL ret own Ts rm) {n : Int} {v : Int32} (d : decode cc pc = .ok (.iconst n, 1)) (hv : Int32.ofInt n = v) (kk : zGo M K σ lv (pc + 1) (.int v :: st)) : zGo M K σ lv pc st := by
  obtain ⟨⟨p, l, e, R, s⟩, ⟨m, args, below, meth, c⟩, ⟨Q, cA, ad, D, A⟩, nL', kc0, ks0⟩ := K
  obtain ⟨hx, hb, hml, hr, hown, hts, hlk, hK, hD, hR, hnL, hXm, hXx, hkc, hks⟩ := C
  intro H locs ls hP hS hl
  exact lv_iconst hx hb d hv (kk H locs ls hP hS hl)
theorem z_bipush (C : zOK M K cc nL ret own Ts rm) {n : Int} {v : Int32} (d : decode cc pc = .ok (.bipush n, 2)) (hv : (Int8.ofInt n).toInt32 = v) (kk : zGo M K σ lv (pc + 2) (.int v :: st)) : zGo M K σ lv pc st := by
  obtain ⟨⟨p, l, e, R, s⟩, ⟨m, args, below, meth, c⟩, ⟨Q, cA, ad, D, A⟩, nL', kc0, ks0⟩ := K
  obtain ⟨hx, hb, hml, hr, hown, hts, hlk, hK, hD, hR, hnL, hXm, hXx, hkc, hks⟩ := C
  intro H locs ls hP hS hl
  exact lv_bipush hx hb d hv (kk H locs ls hP hS hl)
theorem z_sipush (C : zOK M K cc nL ret own Ts rm) {n : Int} {v : Int32} (d : decode cc pc = .ok (.sipush n, 3)) (hv : (Int16.ofInt n).toInt32 = v) (kk : zGo M K σ lv (pc + 3) (.int v :: st)) : zGo M K σ lv pc st := by
  obtain ⟨⟨p, l, e, R, s⟩, ⟨m, args, below, meth, c⟩, ⟨Q, cA, ad, D, A⟩, nL', kc0, ks0⟩ := K
  obtain ⟨hx, hb, hml, hr, hown, hts, hlk, hK, hD, hR, hnL, hXm, hXx, hkc, hks⟩ := C
  intro H locs ls hP hS hl
  exact lv_sipush hx hb d hv (kk H locs ls hP hS hl)
theorem z_lconst (C : zOK M K cc nL ret own Ts rm) {n : Fin 2} {v : Int64} (d : decode cc pc = .ok (.lconst n, 1)) (hv : Int64.ofNat (n : Nat) = v) (kk : zGo M K σ lv (pc + 1) (.long v :: st)) : zGo M K σ lv pc st := by
  obtain ⟨⟨p, l, e, R, s⟩, ⟨m, args, below, meth, c⟩, ⟨Q, cA, ad, D, A⟩, nL', kc0, ks0⟩ := K
  obtain ⟨hx, hb, hml, hr, hown, hts, hlk, hK, hD, hR, hnL, hXm, hXx, hkc, hks⟩ := C
  intro H locs ls hP hS hl
  exact lv_lconst hx hb d hv (kk H locs ls hP hS hl)
theorem z_ldc (C : zOK M K cc nL ret own Ts rm) {i : Nat} {v : Int32} (d : decode cc pc = .ok (.ldc i, 2)) (hc : Cond.constant own i v ∈ Ts) (kk : zGo M K σ lv (pc + 2) (.int v :: st)) : zGo M K σ lv pc st := by
  obtain ⟨⟨p, l, e, R, s⟩, ⟨m, args, below, meth, c⟩, ⟨Q, cA, ad, D, A⟩, nL', kc0, ks0⟩ := K
  obtain ⟨hx, hb, hml, hr, hown, hts, hlk, hK, hD, hR, hnL, hXm, hXx, hkc, hks⟩ := C
  intro H locs ls hP hS hl
  exact lv_ldc hx hb hown (hts _ hc) d (kk H locs ls hP hS hl)
theorem z_ldcw (C : zOK M K cc nL ret own Ts rm) {i : Nat} {v : Int32} (d : decode cc pc = .ok (.ldc_w i, 3)) (hc : Cond.constant own i v ∈ Ts) (kk : zGo M K σ lv (pc + 3) (.int v :: st)) : zGo M K σ lv pc st := by
  obtain ⟨⟨p, l, e, R, s⟩, ⟨m, args, below, meth, c⟩, ⟨Q, cA, ad, D, A⟩, nL', kc0, ks0⟩ := K
  obtain ⟨hx, hb, hml, hr, hown, hts, hlk, hK, hD, hR, hnL, hXm, hXx, hkc, hks⟩ := C
  intro H locs ls hP hS hl
  exact lv_ldcw hx hb hown (hts _ hc) d (kk H locs ls hP hS hl)
theorem z_ldc2 (C : zOK M K cc nL ret own Ts rm) {i : Nat} {v : Int64} (d : decode cc pc = .ok (.ldc2_w i, 3)) (hc : Cond.constantLong own i v ∈ Ts) (kk : zGo M K σ lv (pc + 3) (.long v :: st)) : zGo M K σ lv pc st := by
  obtain ⟨⟨p, l, e, R, s⟩, ⟨m, args, below, meth, c⟩, ⟨Q, cA, ad, D, A⟩, nL', kc0, ks0⟩ := K
  obtain ⟨hx, hb, hml, hr, hown, hts, hlk, hK, hD, hR, hnL, hXm, hXx, hkc, hks⟩ := C
  intro H locs ls hP hS hl
  exact lv_ldc2 hx hb hown (hts _ hc) d (kk H locs ls hP hS hl)
theorem z_iload_n (C : zOK M K cc nL ret own Ts rm) {f : Fin 4} {i : Nat} {x : Int32} (k : Nat) (d : decode cc pc = .ok (.iload_n f, 1)) (hf : (f : Nat) = i) (hv : lv[k]? = some (i, .int x)) (kk : zGo M K σ lv (pc + 1) (.int x :: st)) : zGo M K σ lv pc st := by
  obtain ⟨⟨p, l, e, R, s⟩, ⟨m, args, below, meth, c⟩, ⟨Q, cA, ad, D, A⟩, nL', kc0, ks0⟩ := K
  obtain ⟨hx, hb, hml, hr, hown, hts, hlk, hK, hD, hR, hnL, hXm, hXx, hkc, hks⟩ := C
  intro H locs ls hP hS hl
  exact lv_iload_n hx hb d hf (lv_at hl k hv) (kk H locs ls hP hS hl)
theorem z_iload (C : zOK M K cc nL ret own Ts rm) {i : Nat} {x : Int32} (k : Nat) (d : decode cc pc = .ok (.iload i, 2)) (hv : lv[k]? = some (i, .int x)) (kk : zGo M K σ lv (pc + 2) (.int x :: st)) : zGo M K σ lv pc st := by
  obtain ⟨⟨p, l, e, R, s⟩, ⟨m, args, below, meth, c⟩, ⟨Q, cA, ad, D, A⟩, nL', kc0, ks0⟩ := K
  obtain ⟨hx, hb, hml, hr, hown, hts, hlk, hK, hD, hR, hnL, hXm, hXx, hkc, hks⟩ := C
  intro H locs ls hP hS hl
  exact lv_iload hx hb d (lv_at hl k hv) (kk H locs ls hP hS hl)
theorem z_aload_n (C : zOK M K cc nL ret own Ts rm) {f : Fin 4} {i : Nat} {x : Nat} (k : Nat) (d : decode cc pc = .ok (.aload_n f, 1)) (hf : (f : Nat) = i) (hv : lv[k]? = some (i, .ref x)) (kk : zGo M K σ lv (pc + 1) (.ref x :: st)) : zGo M K σ lv pc st := by
  obtain ⟨⟨p, l, e, R, s⟩, ⟨m, args, below, meth, c⟩, ⟨Q, cA, ad, D, A⟩, nL', kc0, ks0⟩ := K
  obtain ⟨hx, hb, hml, hr, hown, hts, hlk, hK, hD, hR, hnL, hXm, hXx, hkc, hks⟩ := C
  intro H locs ls hP hS hl
  exact lv_aload_n hx hb d hf (lv_at hl k hv) (kk H locs ls hP hS hl)
theorem z_aload (C : zOK M K cc nL ret own Ts rm) {i : Nat} {x : Nat} (k : Nat) (d : decode cc pc = .ok (.aload i, 2)) (hv : lv[k]? = some (i, .ref x)) (kk : zGo M K σ lv (pc + 2) (.ref x :: st)) : zGo M K σ lv pc st := by
  obtain ⟨⟨p, l, e, R, s⟩, ⟨m, args, below, meth, c⟩, ⟨Q, cA, ad, D, A⟩, nL', kc0, ks0⟩ := K
  obtain ⟨hx, hb, hml, hr, hown, hts, hlk, hK, hD, hR, hnL, hXm, hXx, hkc, hks⟩ := C
  intro H locs ls hP hS hl
  exact lv_aload hx hb d (lv_at hl k hv) (kk H locs ls hP hS hl)
theorem z_lload_n (C : zOK M K cc nL ret own Ts rm) {f : Fin 4} {i : Nat} {x : Int64} (k : Nat) (d : decode cc pc = .ok (.lload_n f, 1)) (hf : (f : Nat) = i) (hv : lv[k]? = some (i, .long x)) (kk : zGo M K σ lv (pc + 1) (.long x :: st)) : zGo M K σ lv pc st := by
  obtain ⟨⟨p, l, e, R, s⟩, ⟨m, args, below, meth, c⟩, ⟨Q, cA, ad, D, A⟩, nL', kc0, ks0⟩ := K
  obtain ⟨hx, hb, hml, hr, hown, hts, hlk, hK, hD, hR, hnL, hXm, hXx, hkc, hks⟩ := C
  intro H locs ls hP hS hl
  exact lv_lload_n hx hb d hf (lv_at hl k hv) (kk H locs ls hP hS hl)
theorem z_lload (C : zOK M K cc nL ret own Ts rm) {i : Nat} {x : Int64} (k : Nat) (d : decode cc pc = .ok (.lload i, 2)) (hv : lv[k]? = some (i, .long x)) (kk : zGo M K σ lv (pc + 2) (.long x :: st)) : zGo M K σ lv pc st := by
  obtain ⟨⟨p, l, e, R, s⟩, ⟨m, args, below, meth, c⟩, ⟨Q, cA, ad, D, A⟩, nL', kc0, ks0⟩ := K
  obtain ⟨hx, hb, hml, hr, hown, hts, hlk, hK, hD, hR, hnL, hXm, hXx, hkc, hks⟩ := C
  intro H locs ls hP hS hl
  exact lv_lload hx hb d (lv_at hl k hv) (kk H locs ls hP hS hl)
theorem z_istore_n (C : zOK M K cc nL ret own Ts rm) {f : Fin 4} {i : Nat} {x : Int32} {lv2 : List (Nat × Value)} (ks : List Nat) (d : decode cc pc = .ok (.istore_n f, 1)) (hf : (f : Nat) = i) (hn : i < nL) (h2 : lv_pick ((i, Value.int x) :: lv.filter (fun q => !(q.1 == i) && !(q.1 + 1 == i && q.2.category == 2))) ks = lv2) (kk : zGo M K σ lv2 (pc + 1) st) : zGo M K σ lv pc (.int x :: st) := by
  obtain ⟨⟨p, l, e, R, s⟩, ⟨m, args, below, meth, c⟩, ⟨Q, cA, ad, D, A⟩, nL', kc0, ks0⟩ := K
  obtain ⟨hx, hb, hml, hr, hown, hts, hlk, hK, hD, hR, hnL, hXm, hXx, hkc, hks⟩ := C
  intro H locs ls hP hS hl
  subst hnL
  exact lv_istore_n hx hb d hf hl hn rfl (fun ls2 hl2 => kk H locs ls2 hP hS (lv_sub hl2 ks h2))
theorem z_istore (C : zOK M K cc nL ret own Ts rm) {i : Nat} {x : Int32} {lv2 : List (Nat × Value)} (ks : List Nat) (d : decode cc pc = .ok (.istore i, 2)) (hn : i < nL) (h2 : lv_pick ((i, Value.int x) :: lv.filter (fun q => !(q.1 == i) && !(q.1 + 1 == i && q.2.category == 2))) ks = lv2) (kk : zGo M K σ lv2 (pc + 2) st) : zGo M K σ lv pc (.int x :: st) := by
  obtain ⟨⟨p, l, e, R, s⟩, ⟨m, args, below, meth, c⟩, ⟨Q, cA, ad, D, A⟩, nL', kc0, ks0⟩ := K
  obtain ⟨hx, hb, hml, hr, hown, hts, hlk, hK, hD, hR, hnL, hXm, hXx, hkc, hks⟩ := C
  intro H locs ls hP hS hl
  subst hnL
  exact lv_istore hx hb d hl hn rfl (fun ls2 hl2 => kk H locs ls2 hP hS (lv_sub hl2 ks h2))
theorem z_astore_n (C : zOK M K cc nL ret own Ts rm) {f : Fin 4} {i : Nat} {x : Nat} {lv2 : List (Nat × Value)} (ks : List Nat) (d : decode cc pc = .ok (.astore_n f, 1)) (hf : (f : Nat) = i) (hn : i < nL) (h2 : lv_pick ((i, Value.ref x) :: lv.filter (fun q => !(q.1 == i) && !(q.1 + 1 == i && q.2.category == 2))) ks = lv2) (kk : zGo M K σ lv2 (pc + 1) st) : zGo M K σ lv pc (.ref x :: st) := by
  obtain ⟨⟨p, l, e, R, s⟩, ⟨m, args, below, meth, c⟩, ⟨Q, cA, ad, D, A⟩, nL', kc0, ks0⟩ := K
  obtain ⟨hx, hb, hml, hr, hown, hts, hlk, hK, hD, hR, hnL, hXm, hXx, hkc, hks⟩ := C
  intro H locs ls hP hS hl
  subst hnL
  exact lv_astore_n hx hb d hf hl hn rfl (fun ls2 hl2 => kk H locs ls2 hP hS (lv_sub hl2 ks h2))
theorem z_astore (C : zOK M K cc nL ret own Ts rm) {i : Nat} {x : Nat} {lv2 : List (Nat × Value)} (ks : List Nat) (d : decode cc pc = .ok (.astore i, 2)) (hn : i < nL) (h2 : lv_pick ((i, Value.ref x) :: lv.filter (fun q => !(q.1 == i) && !(q.1 + 1 == i && q.2.category == 2))) ks = lv2) (kk : zGo M K σ lv2 (pc + 2) st) : zGo M K σ lv pc (.ref x :: st) := by
  obtain ⟨⟨p, l, e, R, s⟩, ⟨m, args, below, meth, c⟩, ⟨Q, cA, ad, D, A⟩, nL', kc0, ks0⟩ := K
  obtain ⟨hx, hb, hml, hr, hown, hts, hlk, hK, hD, hR, hnL, hXm, hXx, hkc, hks⟩ := C
  intro H locs ls hP hS hl
  subst hnL
  exact lv_astore hx hb d hl hn rfl (fun ls2 hl2 => kk H locs ls2 hP hS (lv_sub hl2 ks h2))
theorem z_iinc (C : zOK M K cc nL ret own Ts rm) {i : Nat} {n : Int} {nv x v : Int32} {lv2 : List (Nat × Value)} (k : Nat) (ks : List Nat) (d : decode cc pc = .ok (.iinc i n, 3)) (hn : Int32.ofInt n = nv) (hk : lv[k]? = some (i, .int x)) (hi : i < nL) (hv : v = x + nv) (h2 : lv_pick ((i, Value.int v) :: lv.filter (fun q => !(q.1 == i) && !(q.1 + 1 == i && q.2.category == 2))) ks = lv2) (kk : zGo M K σ lv2 (pc + 3) st) : zGo M K σ lv pc st := by
  obtain ⟨⟨p, l, e, R, s⟩, ⟨m, args, below, meth, c⟩, ⟨Q, cA, ad, D, A⟩, nL', kc0, ks0⟩ := K
  obtain ⟨hx, hb, hml, hr, hown, hts, hlk, hK, hD, hR, hnL, hXm, hXx, hkc, hks⟩ := C
  intro H locs ls hP hS hl
  subst hnL
  exact lv_iinc (v := v) hx hb d hl hk (by rw [hn]; exact hv.symm) hi rfl (fun ls2 hl2 => kk H locs ls2 hP hS (lv_sub hl2 ks h2))
theorem z_iadd (C : zOK M K cc nL ret own Ts rm) {x y : Int32} (d : decode cc pc = .ok (.iadd, 1)) (kk : zGo M K σ lv (pc + 1) (.int (x + y) :: st)) : zGo M K σ lv pc (.int y :: .int x :: st) := by
  obtain ⟨⟨p, l, e, R, s⟩, ⟨m, args, below, meth, c⟩, ⟨Q, cA, ad, D, A⟩, nL', kc0, ks0⟩ := K
  obtain ⟨hx, hb, hml, hr, hown, hts, hlk, hK, hD, hR, hnL, hXm, hXx, hkc, hks⟩ := C
  intro H locs ls hP hS hl
  exact lv_iadd hx hb d (kk H locs ls hP hS hl)
theorem z_isub (C : zOK M K cc nL ret own Ts rm) {x y : Int32} (d : decode cc pc = .ok (.isub, 1)) (kk : zGo M K σ lv (pc + 1) (.int (x - y) :: st)) : zGo M K σ lv pc (.int y :: .int x :: st) := by
  obtain ⟨⟨p, l, e, R, s⟩, ⟨m, args, below, meth, c⟩, ⟨Q, cA, ad, D, A⟩, nL', kc0, ks0⟩ := K
  obtain ⟨hx, hb, hml, hr, hown, hts, hlk, hK, hD, hR, hnL, hXm, hXx, hkc, hks⟩ := C
  intro H locs ls hP hS hl
  exact lv_isub hx hb d (kk H locs ls hP hS hl)
theorem z_imul (C : zOK M K cc nL ret own Ts rm) {x y : Int32} (d : decode cc pc = .ok (.imul, 1)) (kk : zGo M K σ lv (pc + 1) (.int (x * y) :: st)) : zGo M K σ lv pc (.int y :: .int x :: st) := by
  obtain ⟨⟨p, l, e, R, s⟩, ⟨m, args, below, meth, c⟩, ⟨Q, cA, ad, D, A⟩, nL', kc0, ks0⟩ := K
  obtain ⟨hx, hb, hml, hr, hown, hts, hlk, hK, hD, hR, hnL, hXm, hXx, hkc, hks⟩ := C
  intro H locs ls hP hS hl
  exact lv_imul hx hb d (kk H locs ls hP hS hl)
theorem z_iand (C : zOK M K cc nL ret own Ts rm) {x y : Int32} (d : decode cc pc = .ok (.iand, 1)) (kk : zGo M K σ lv (pc + 1) (.int (x &&& y) :: st)) : zGo M K σ lv pc (.int y :: .int x :: st) := by
  obtain ⟨⟨p, l, e, R, s⟩, ⟨m, args, below, meth, c⟩, ⟨Q, cA, ad, D, A⟩, nL', kc0, ks0⟩ := K
  obtain ⟨hx, hb, hml, hr, hown, hts, hlk, hK, hD, hR, hnL, hXm, hXx, hkc, hks⟩ := C
  intro H locs ls hP hS hl
  exact lv_iand hx hb d (kk H locs ls hP hS hl)
theorem z_ior (C : zOK M K cc nL ret own Ts rm) {x y : Int32} (d : decode cc pc = .ok (.ior, 1)) (kk : zGo M K σ lv (pc + 1) (.int (x ||| y) :: st)) : zGo M K σ lv pc (.int y :: .int x :: st) := by
  obtain ⟨⟨p, l, e, R, s⟩, ⟨m, args, below, meth, c⟩, ⟨Q, cA, ad, D, A⟩, nL', kc0, ks0⟩ := K
  obtain ⟨hx, hb, hml, hr, hown, hts, hlk, hK, hD, hR, hnL, hXm, hXx, hkc, hks⟩ := C
  intro H locs ls hP hS hl
  exact lv_ior hx hb d (kk H locs ls hP hS hl)
theorem z_ixor (C : zOK M K cc nL ret own Ts rm) {x y : Int32} (d : decode cc pc = .ok (.ixor, 1)) (kk : zGo M K σ lv (pc + 1) (.int (x ^^^ y) :: st)) : zGo M K σ lv pc (.int y :: .int x :: st) := by
  obtain ⟨⟨p, l, e, R, s⟩, ⟨m, args, below, meth, c⟩, ⟨Q, cA, ad, D, A⟩, nL', kc0, ks0⟩ := K
  obtain ⟨hx, hb, hml, hr, hown, hts, hlk, hK, hD, hR, hnL, hXm, hXx, hkc, hks⟩ := C
  intro H locs ls hP hS hl
  exact lv_ixor hx hb d (kk H locs ls hP hS hl)
theorem z_ishl (C : zOK M K cc nL ret own Ts rm) {x y : Int32} (d : decode cc pc = .ok (.ishl, 1)) (kk : zGo M K σ lv (pc + 1) (.int (x <<< (y &&& 31)) :: st)) : zGo M K σ lv pc (.int y :: .int x :: st) := by
  obtain ⟨⟨p, l, e, R, s⟩, ⟨m, args, below, meth, c⟩, ⟨Q, cA, ad, D, A⟩, nL', kc0, ks0⟩ := K
  obtain ⟨hx, hb, hml, hr, hown, hts, hlk, hK, hD, hR, hnL, hXm, hXx, hkc, hks⟩ := C
  intro H locs ls hP hS hl
  exact lv_ishl hx hb d (kk H locs ls hP hS hl)
theorem z_ishr (C : zOK M K cc nL ret own Ts rm) {x y : Int32} (d : decode cc pc = .ok (.ishr, 1)) (kk : zGo M K σ lv (pc + 1) (.int (x >>> (y &&& 31)) :: st)) : zGo M K σ lv pc (.int y :: .int x :: st) := by
  obtain ⟨⟨p, l, e, R, s⟩, ⟨m, args, below, meth, c⟩, ⟨Q, cA, ad, D, A⟩, nL', kc0, ks0⟩ := K
  obtain ⟨hx, hb, hml, hr, hown, hts, hlk, hK, hD, hR, hnL, hXm, hXx, hkc, hks⟩ := C
  intro H locs ls hP hS hl
  exact lv_ishr hx hb d (kk H locs ls hP hS hl)
theorem z_idiv (C : zOK M K cc nL ret own Ts rm) {x y : Int32} (d : decode cc pc = .ok (.idiv, 1)) (hne : ¬ y = 0) (kk : zGo M K σ lv (pc + 1) (.int (x / y) :: st)) : zGo M K σ lv pc (.int y :: .int x :: st) := by
  obtain ⟨⟨p, l, e, R, s⟩, ⟨m, args, below, meth, c⟩, ⟨Q, cA, ad, D, A⟩, nL', kc0, ks0⟩ := K
  obtain ⟨hx, hb, hml, hr, hown, hts, hlk, hK, hD, hR, hnL, hXm, hXx, hkc, hks⟩ := C
  intro H locs ls hP hS hl
  exact lv_idiv hx hb d hne (kk H locs ls hP hS hl)
theorem z_irem (C : zOK M K cc nL ret own Ts rm) {x y : Int32} (d : decode cc pc = .ok (.irem, 1)) (hne : ¬ y = 0) (kk : zGo M K σ lv (pc + 1) (.int (x - x / y * y) :: st)) : zGo M K σ lv pc (.int y :: .int x :: st) := by
  obtain ⟨⟨p, l, e, R, s⟩, ⟨m, args, below, meth, c⟩, ⟨Q, cA, ad, D, A⟩, nL', kc0, ks0⟩ := K
  obtain ⟨hx, hb, hml, hr, hown, hts, hlk, hK, hD, hR, hnL, hXm, hXx, hkc, hks⟩ := C
  intro H locs ls hP hS hl
  exact lv_irem hx hb d hne (kk H locs ls hP hS hl)
theorem z_ineg (C : zOK M K cc nL ret own Ts rm) {x : Int32} (d : decode cc pc = .ok (.ineg, 1)) (kk : zGo M K σ lv (pc + 1) (.int (-x) :: st)) : zGo M K σ lv pc (.int x :: st) := by
  obtain ⟨⟨p, l, e, R, s⟩, ⟨m, args, below, meth, c⟩, ⟨Q, cA, ad, D, A⟩, nL', kc0, ks0⟩ := K
  obtain ⟨hx, hb, hml, hr, hown, hts, hlk, hK, hD, hR, hnL, hXm, hXx, hkc, hks⟩ := C
  intro H locs ls hP hS hl
  exact lv_ineg hx hb d (kk H locs ls hP hS hl)
theorem z_iushr (C : zOK M K cc nL ret own Ts rm) {x y : Int32} (d : decode cc pc = .ok (.iushr, 1)) (kk : zGo M K σ lv (pc + 1) (.int (zus x y) :: st)) : zGo M K σ lv pc (.int y :: .int x :: st) := by
  obtain ⟨⟨p, l, e, R, s⟩, ⟨m, args, below, meth, c⟩, ⟨Q, cA, ad, D, A⟩, nL', kc0, ks0⟩ := K
  obtain ⟨hx, hb, hml, hr, hown, hts, hlk, hK, hD, hR, hnL, hXm, hXx, hkc, hks⟩ := C
  intro H locs ls hP hS hl
  exact lv_iushr hx hb d rfl (kk H locs ls hP hS hl)
theorem z_i2b (C : zOK M K cc nL ret own Ts rm) {x : Int32} (d : decode cc pc = .ok (.i2b, 1)) (kk : zGo M K σ lv (pc + 1) (.int x.toInt8.toInt32 :: st)) : zGo M K σ lv pc (.int x :: st) := by
  obtain ⟨⟨p, l, e, R, s⟩, ⟨m, args, below, meth, c⟩, ⟨Q, cA, ad, D, A⟩, nL', kc0, ks0⟩ := K
  obtain ⟨hx, hb, hml, hr, hown, hts, hlk, hK, hD, hR, hnL, hXm, hXx, hkc, hks⟩ := C
  intro H locs ls hP hS hl
  exact lv_i2b hx hb d rfl (kk H locs ls hP hS hl)
theorem z_i2l (C : zOK M K cc nL ret own Ts rm) {x : Int32} (d : decode cc pc = .ok (.i2l, 1)) (kk : zGo M K σ lv (pc + 1) (.long x.toInt64 :: st)) : zGo M K σ lv pc (.int x :: st) := by
  obtain ⟨⟨p, l, e, R, s⟩, ⟨m, args, below, meth, c⟩, ⟨Q, cA, ad, D, A⟩, nL', kc0, ks0⟩ := K
  obtain ⟨hx, hb, hml, hr, hown, hts, hlk, hK, hD, hR, hnL, hXm, hXx, hkc, hks⟩ := C
  intro H locs ls hP hS hl
  exact lv_i2l hx hb d rfl (kk H locs ls hP hS hl)
theorem z_lcmp (C : zOK M K cc nL ret own Ts rm) {x y : Int64} (d : decode cc pc = .ok (.lcmp, 1)) (kk : zGo M K σ lv (pc + 1) (.int (lg_cmp x y) :: st)) : zGo M K σ lv pc (.long y :: .long x :: st) := by
  obtain ⟨⟨p, l, e, R, s⟩, ⟨m, args, below, meth, c⟩, ⟨Q, cA, ad, D, A⟩, nL', kc0, ks0⟩ := K
  obtain ⟨hx, hb, hml, hr, hown, hts, hlk, hK, hD, hR, hnL, hXm, hXx, hkc, hks⟩ := C
  intro H locs ls hP hS hl
  exact W.lcmp hx hb d (kk H locs ls hP hS hl)
theorem z_dup_i (C : zOK M K cc nL ret own Ts rm) {x : Int32} (d : decode cc pc = .ok (.dup, 1)) (kk : zGo M K σ lv (pc + 1) (.int x :: .int x :: st)) : zGo M K σ lv pc (.int x :: st) := by
  obtain ⟨⟨p, l, e, R, s⟩, ⟨m, args, below, meth, c⟩, ⟨Q, cA, ad, D, A⟩, nL', kc0, ks0⟩ := K
  obtain ⟨hx, hb, hml, hr, hown, hts, hlk, hK, hD, hR, hnL, hXm, hXx, hkc, hks⟩ := C
  intro H locs ls hP hS hl
  exact lv_dup hx hb d rfl (kk H locs ls hP hS hl)
theorem z_dup_a (C : zOK M K cc nL ret own Ts rm) {x : Nat} (d : decode cc pc = .ok (.dup, 1)) (kk : zGo M K σ lv (pc + 1) (.ref x :: .ref x :: st)) : zGo M K σ lv pc (.ref x :: st) := by
  obtain ⟨⟨p, l, e, R, s⟩, ⟨m, args, below, meth, c⟩, ⟨Q, cA, ad, D, A⟩, nL', kc0, ks0⟩ := K
  obtain ⟨hx, hb, hml, hr, hown, hts, hlk, hK, hD, hR, hnL, hXm, hXx, hkc, hks⟩ := C
  intro H locs ls hP hS hl
  exact lv_dup hx hb d rfl (kk H locs ls hP hS hl)
theorem z_dup2 (C : zOK M K cc nL ret own Ts rm) {x : Int32} {a : Nat} (d : decode cc pc = .ok (.dup2, 1)) (kk : zGo M K σ lv (pc + 1) (.int x :: .ref a :: .int x :: .ref a :: st)) : zGo M K σ lv pc (.int x :: .ref a :: st) := by
  obtain ⟨⟨p, l, e, R, s⟩, ⟨m, args, below, meth, c⟩, ⟨Q, cA, ad, D, A⟩, nL', kc0, ks0⟩ := K
  obtain ⟨hx, hb, hml, hr, hown, hts, hlk, hK, hD, hR, hnL, hXm, hXx, hkc, hks⟩ := C
  intro H locs ls hP hS hl
  exact lv_dup2_11 hx hb d rfl rfl (kk H locs ls hP hS hl)
theorem z_pop (C : zOK M K cc nL ret own Ts rm) {x : Int32} (d : decode cc pc = .ok (.pop, 1)) (kk : zGo M K σ lv (pc + 1) st) : zGo M K σ lv pc (.int x :: st) := by
  obtain ⟨⟨p, l, e, R, s⟩, ⟨m, args, below, meth, c⟩, ⟨Q, cA, ad, D, A⟩, nL', kc0, ks0⟩ := K
  obtain ⟨hx, hb, hml, hr, hown, hts, hlk, hK, hD, hR, hnL, hXm, hXx, hkc, hks⟩ := C
  intro H locs ls hP hS hl
  exact lv_pop hx hb d rfl (kk H locs ls hP hS hl)
theorem z_if_eq (C : zOK M K cc nL ret own Ts rm) {x : Int32} {off : Int} {tgt : Nat} (d : decode cc pc = .ok (.ifCond .eq off, 3)) (ht : (pc : Int) + off = (tgt : Int)) (kt : x = 0 → zGo M K σ lv tgt st) (kf : ¬ x = 0 → zGo M K σ lv (pc + 3) st) : zGo M K σ lv pc (.int x :: st) := by
  obtain ⟨⟨p, l, e, R, s⟩, ⟨m, args, below, meth, c⟩, ⟨Q, cA, ad, D, A⟩, nL', kc0, ks0⟩ := K
  obtain ⟨hx, hb, hml, hr, hown, hts, hlk, hK, hD, hR, hnL, hXm, hXx, hkc, hks⟩ := C
  intro H locs ls hP hS hl
  exact lv_if_eq hx hb d ht (fun h => kt h H locs ls hP hS hl) (fun h => kf h H locs ls hP hS hl)
theorem z_icmp_eq (C : zOK M K cc nL ret own Ts rm) {x y : Int32} {off : Int} {tgt : Nat} (d : decode cc pc = .ok (.if_icmp .eq off, 3)) (ht : (pc : Int) + off = (tgt : Int)) (kt : x = y → zGo M K σ lv tgt st) (kf : ¬ x = y → zGo M K σ lv (pc + 3) st) : zGo M K σ lv pc (.int y :: .int x :: st) := by
  obtain ⟨⟨p, l, e, R, s⟩, ⟨m, args, below, meth, c⟩, ⟨Q, cA, ad, D, A⟩, nL', kc0, ks0⟩ := K
  obtain ⟨hx, hb, hml, hr, hown, hts, hlk, hK, hD, hR, hnL, hXm, hXx, hkc, hks⟩ := C
  intro H locs ls hP hS hl
  exact lv_icmp_eq hx hb d ht (fun h => kt h H locs ls hP hS hl) (fun h => kf h H locs ls hP hS hl)
theorem z_if_ne (C : zOK M K cc nL ret own Ts rm) {x : Int32} {off : Int} {tgt : Nat} (d : decode cc pc = .ok (.ifCond .ne off, 3)) (ht : (pc : Int) + off = (tgt : Int)) (kt : ¬ x = 0 → zGo M K σ lv tgt st) (kf : x = 0 → zGo M K σ lv (pc + 3) st) : zGo M K σ lv pc (.int x :: st) := by
  obtain ⟨⟨p, l, e, R, s⟩, ⟨m, args, below, meth, c⟩, ⟨Q, cA, ad, D, A⟩, nL', kc0, ks0⟩ := K
  obtain ⟨hx, hb, hml, hr, hown, hts, hlk, hK, hD, hR, hnL, hXm, hXx, hkc, hks⟩ := C
  intro H locs ls hP hS hl
  exact lv_if_ne hx hb d ht (fun h => kt h H locs ls hP hS hl) (fun h => kf h H locs ls hP hS hl)
theorem z_icmp_ne (C : zOK M K cc nL ret own Ts rm) {x y : Int32} {off : Int} {tgt : Nat} (d : decode cc pc = .ok (.if_icmp .ne off, 3)) (ht : (pc : Int) + off = (tgt : Int)) (kt : ¬ x = y → zGo M K σ lv tgt st) (kf : x = y → zGo M K σ lv (pc + 3) st) : zGo M K σ lv pc (.int y :: .int x :: st) := by
  obtain ⟨⟨p, l, e, R, s⟩, ⟨m, args, below, meth, c⟩, ⟨Q, cA, ad, D, A⟩, nL', kc0, ks0⟩ := K
  obtain ⟨hx, hb, hml, hr, hown, hts, hlk, hK, hD, hR, hnL, hXm, hXx, hkc, hks⟩ := C
  intro H locs ls hP hS hl
  exact lv_icmp_ne hx hb d ht (fun h => kt h H locs ls hP hS hl) (fun h => kf h H locs ls hP hS hl)
theorem z_if_lt (C : zOK M K cc nL ret own Ts rm) {x : Int32} {off : Int} {tgt : Nat} (d : decode cc pc = .ok (.ifCond .lt off, 3)) (ht : (pc : Int) + off = (tgt : Int)) (kt : x < 0 → zGo M K σ lv tgt st) (kf : ¬ x < 0 → zGo M K σ lv (pc + 3) st) : zGo M K σ lv pc (.int x :: st) := by
  obtain ⟨⟨p, l, e, R, s⟩, ⟨m, args, below, meth, c⟩, ⟨Q, cA, ad, D, A⟩, nL', kc0, ks0⟩ := K
  obtain ⟨hx, hb, hml, hr, hown, hts, hlk, hK, hD, hR, hnL, hXm, hXx, hkc, hks⟩ := C
  intro H locs ls hP hS hl
  exact lv_if_lt hx hb d ht (fun h => kt h H locs ls hP hS hl) (fun h => kf h H locs ls hP hS hl)
theorem z_icmp_lt (C : zOK M K cc nL ret own Ts rm) {x y : Int32} {off : Int} {tgt : Nat} (d : decode cc pc = .ok (.if_icmp .lt off, 3)) (ht : (pc : Int) + off = (tgt : Int)) (kt : x < y → zGo M K σ lv tgt st) (kf : ¬ x < y → zGo M K σ lv (pc + 3) st) : zGo M K σ lv pc (.int y :: .int x :: st) := by
  obtain ⟨⟨p, l, e, R, s⟩, ⟨m, args, below, meth, c⟩, ⟨Q, cA, ad, D, A⟩, nL', kc0, ks0⟩ := K
  obtain ⟨hx, hb, hml, hr, hown, hts, hlk, hK, hD, hR, hnL, hXm, hXx, hkc, hks⟩ := C
  intro H locs ls hP hS hl
  exact lv_icmp_lt hx hb d ht (fun h => kt h H locs ls hP hS hl) (fun h => kf h H locs ls hP hS hl)
theorem z_if_ge (C : zOK M K cc nL ret own Ts rm) {x : Int32} {off : Int} {tgt : Nat} (d : decode cc pc = .ok (.ifCond .ge off, 3)) (ht : (pc : Int) + off = (tgt : Int)) (kt : 0 ≤ x → zGo M K σ lv tgt st) (kf : ¬ 0 ≤ x → zGo M K σ lv (pc + 3) st) : zGo M K σ lv pc (.int x :: st) := by
  obtain ⟨⟨p, l, e, R, s⟩, ⟨m, args, below, meth, c⟩, ⟨Q, cA, ad, D, A⟩, nL', kc0, ks0⟩ := K
  obtain ⟨hx, hb, hml, hr, hown, hts, hlk, hK, hD, hR, hnL, hXm, hXx, hkc, hks⟩ := C
  intro H locs ls hP hS hl
  exact lv_if_ge hx hb d ht (fun h => kt h H locs ls hP hS hl) (fun h => kf h H locs ls hP hS hl)
theorem z_icmp_ge (C : zOK M K cc nL ret own Ts rm) {x y : Int32} {off : Int} {tgt : Nat} (d : decode cc pc = .ok (.if_icmp .ge off, 3)) (ht : (pc : Int) + off = (tgt : Int)) (kt : y ≤ x → zGo M K σ lv tgt st) (kf : ¬ y ≤ x → zGo M K σ lv (pc + 3) st) : zGo M K σ lv pc (.int y :: .int x :: st) := by
  obtain ⟨⟨p, l, e, R, s⟩, ⟨m, args, below, meth, c⟩, ⟨Q, cA, ad, D, A⟩, nL', kc0, ks0⟩ := K
  obtain ⟨hx, hb, hml, hr, hown, hts, hlk, hK, hD, hR, hnL, hXm, hXx, hkc, hks⟩ := C
  intro H locs ls hP hS hl
  exact lv_icmp_ge hx hb d ht (fun h => kt h H locs ls hP hS hl) (fun h => kf h H locs ls hP hS hl)
theorem z_if_gt (C : zOK M K cc nL ret own Ts rm) {x : Int32} {off : Int} {tgt : Nat} (d : decode cc pc = .ok (.ifCond .gt off, 3)) (ht : (pc : Int) + off = (tgt : Int)) (kt : 0 < x → zGo M K σ lv tgt st) (kf : ¬ 0 < x → zGo M K σ lv (pc + 3) st) : zGo M K σ lv pc (.int x :: st) := by
  obtain ⟨⟨p, l, e, R, s⟩, ⟨m, args, below, meth, c⟩, ⟨Q, cA, ad, D, A⟩, nL', kc0, ks0⟩ := K
  obtain ⟨hx, hb, hml, hr, hown, hts, hlk, hK, hD, hR, hnL, hXm, hXx, hkc, hks⟩ := C
  intro H locs ls hP hS hl
  exact lv_if_gt hx hb d ht (fun h => kt h H locs ls hP hS hl) (fun h => kf h H locs ls hP hS hl)
theorem z_icmp_gt (C : zOK M K cc nL ret own Ts rm) {x y : Int32} {off : Int} {tgt : Nat} (d : decode cc pc = .ok (.if_icmp .gt off, 3)) (ht : (pc : Int) + off = (tgt : Int)) (kt : y < x → zGo M K σ lv tgt st) (kf : ¬ y < x → zGo M K σ lv (pc + 3) st) : zGo M K σ lv pc (.int y :: .int x :: st) := by
  obtain ⟨⟨p, l, e, R, s⟩, ⟨m, args, below, meth, c⟩, ⟨Q, cA, ad, D, A⟩, nL', kc0, ks0⟩ := K
  obtain ⟨hx, hb, hml, hr, hown, hts, hlk, hK, hD, hR, hnL, hXm, hXx, hkc, hks⟩ := C
  intro H locs ls hP hS hl
  exact lv_icmp_gt hx hb d ht (fun h => kt h H locs ls hP hS hl) (fun h => kf h H locs ls hP hS hl)
theorem z_if_le (C : zOK M K cc nL ret own Ts rm) {x : Int32} {off : Int} {tgt : Nat} (d : decode cc pc = .ok (.ifCond .le off, 3)) (ht : (pc : Int) + off = (tgt : Int)) (kt : x ≤ 0 → zGo M K σ lv tgt st) (kf : ¬ x ≤ 0 → zGo M K σ lv (pc + 3) st) : zGo M K σ lv pc (.int x :: st) := by
  obtain ⟨⟨p, l, e, R, s⟩, ⟨m, args, below, meth, c⟩, ⟨Q, cA, ad, D, A⟩, nL', kc0, ks0⟩ := K
  obtain ⟨hx, hb, hml, hr, hown, hts, hlk, hK, hD, hR, hnL, hXm, hXx, hkc, hks⟩ := C
  intro H locs ls hP hS hl
  exact lv_if_le hx hb d ht (fun h => kt h H locs ls hP hS hl) (fun h => kf h H locs ls hP hS hl)
theorem z_icmp_le (C : zOK M K cc nL ret own Ts rm) {x y : Int32} {off : Int} {tgt : Nat} (d : decode cc pc = .ok (.if_icmp .le off, 3)) (ht : (pc : Int) + off = (tgt : Int)) (kt : x ≤ y → zGo M K σ lv tgt st) (kf : ¬ x ≤ y → zGo M K σ lv (pc + 3) st) : zGo M K σ lv pc (.int y :: .int x :: st) := by
  obtain ⟨⟨p, l, e, R, s⟩, ⟨m, args, below, meth, c⟩, ⟨Q, cA, ad, D, A⟩, nL', kc0, ks0⟩ := K
  obtain ⟨hx, hb, hml, hr, hown, hts, hlk, hK, hD, hR, hnL, hXm, hXx, hkc, hks⟩ := C
  intro H locs ls hP hS hl
  exact lv_icmp_le hx hb d ht (fun h => kt h H locs ls hP hS hl) (fun h => kf h H locs ls hP hS hl)
theorem z_goto (C : zOK M K cc nL ret own Ts rm) {off : Int} {tgt : Nat} (d : decode cc pc = .ok (.goto off, 3)) (ht : (pc : Int) + off = (tgt : Int)) (kk : zGo M K σ lv tgt st) : zGo M K σ lv pc st := by
  obtain ⟨⟨p, l, e, R, s⟩, ⟨m, args, below, meth, c⟩, ⟨Q, cA, ad, D, A⟩, nL', kc0, ks0⟩ := K
  obtain ⟨hx, hb, hml, hr, hown, hts, hlk, hK, hD, hR, hnL, hXm, hXx, hkc, hks⟩ := C
  intro H locs ls hP hS hl
  exact lv_goto hx hb d ht (kk H locs ls hP hS hl)
theorem z_tab (C : zOK M K cc nL ret own Ts rm) {dflt lo hi : Int} {offs : Array Int} {len : Nat} {x v : Int32} {off : Int} {tgt : Nat} (hc : x = v) (d : decode cc pc = .ok (.tableswitch dflt lo hi offs, len)) (h1 : ¬ v.toInt < lo) (h2 : ¬ hi < v.toInt) (ho : offs[(v.toInt - lo).toNat]? = some off) (ht : (pc : Int) + off = (tgt : Int)) (kk : zGo M K σ lv tgt st) : zGo M K σ lv pc (.int x :: st) := by
  obtain ⟨⟨p, l, e, R, s⟩, ⟨m, args, below, meth, c⟩, ⟨Q, cA, ad, D, A⟩, nL', kc0, ks0⟩ := K
  obtain ⟨hx, hb, hml, hr, hown, hts, hlk, hK, hD, hR, hnL, hXm, hXx, hkc, hks⟩ := C
  intro H locs ls hP hS hl
  subst hc
  exact lv_tableIn hx hb d h1 h2 ho ht (kk H locs ls hP hS hl)
theorem z_tabd (C : zOK M K cc nL ret own Ts rm) {dflt lo hi : Int} {offs : Array Int} {len : Nat} {x : Int32} {tgt : Nat} (d : decode cc pc = .ok (.tableswitch dflt lo hi offs, len)) (h : x.toInt < lo ∨ hi < x.toInt) (ht : (pc : Int) + dflt = (tgt : Int)) (kk : zGo M K σ lv tgt st) : zGo M K σ lv pc (.int x :: st) := by
  obtain ⟨⟨p, l, e, R, s⟩, ⟨m, args, below, meth, c⟩, ⟨Q, cA, ad, D, A⟩, nL', kc0, ks0⟩ := K
  obtain ⟨hx, hb, hml, hr, hown, hts, hlk, hK, hD, hR, hnL, hXm, hXx, hkc, hks⟩ := C
  intro H locs ls hP hS hl
  exact lv_tableOut hx hb d h ht (kk H locs ls hP hS hl)
theorem z_lk (C : zOK M K cc nL ret own Ts rm) {dflt : Int} {ps : Array (Int × Int)} {len : Nat} {x : Int32} {off : Int} {tgt : Nat} (d : decode cc pc = .ok (.lookupswitch dflt ps, len)) (hp : (ps.toList.zip (ps.toList.drop 1)).all (fun (a, next) => a.1 < next.1) = true) (ho : Op.lookupswitch.offset ps.toList dflt x.toInt = off) (ht : (pc : Int) + off = (tgt : Int)) (kk : zGo M K σ lv tgt st) : zGo M K σ lv pc (.int x :: st) := by
  obtain ⟨⟨p, l, e, R, s⟩, ⟨m, args, below, meth, c⟩, ⟨Q, cA, ad, D, A⟩, nL', kc0, ks0⟩ := K
  obtain ⟨hx, hb, hml, hr, hown, hts, hlk, hK, hD, hR, hnL, hXm, hXx, hkc, hks⟩ := C
  intro H locs ls hP hS hl
  exact lv_lookup hx hb d hp ho ht (kk H locs ls hP hS hl)
theorem z_geti (C : zOK M K cc nL ret own Ts rm) {k ci : Nat} {cs : List Nat} (hk : k < M.2.1) (hL : M.1 k = .inr (ci, cs)) {Cn : String} {T : u_T} {n idx : Nat} (hc : vwCl[ci]? = some (Cn, T, n)) (j : Nat) (hj : j < n) (hcs : cs[j]? = some 0) (hin : ∀ w ∈ u_ws Cn T n, w ∈ Ts) (hlink : Cond.fieldLink own idx (T j).1 (T j).2.1 (T j).2.2.1 ∈ Ts) (d : decode cc pc = .ok (.getfield idx, 3)) (kk : zGo M K σ lv (pc + 3) (.int (σ k j) :: st)) : zGo M K σ lv pc (.ref ((zw K).2.1 k) :: st) := by
  obtain ⟨⟨p, l, e, R, s⟩, ⟨m, args, below, meth, c⟩, ⟨Q, cA, ad, D, A⟩, nL', kc0, ks0⟩ := K
  obtain ⟨hx, hb, hml, hr, hown, hts, hlk, hK, hD, hR, hnL, hXm, hXx, hkc, hks⟩ := C
  intro H locs ls hP hS hl
  refine va_get hx hb hts hin hown hK hP k (zwm_obj hk hL) hc j hj (hts _ hlink) (fun _ h9 => h9) (v := .int (σ k j)) ?_ d (kk H locs ls hP hS hl)
  rw [zfv_get cs 0 j _ hcs, Nat.zero_add]
  rfl
theorem z_getm (C : zOK M K cc nL ret own Ts rm) {k ci : Nat} {cs : List Nat} (hk : k < M.2.1) (hL : M.1 k = .inr (ci, cs)) {Cn : String} {T : u_T} {n idx : Nat} (hc : vwCl[ci]? = some (Cn, T, n)) (j : Nat) (hj : j < n) (hcs : cs[j]? = some 1) (hin : ∀ w ∈ u_ws Cn T n, w ∈ Ts) (hlink : Cond.fieldLink own idx (T j).1 (T j).2.1 (T j).2.2.1 ∈ Ts) (d : decode cc pc = .ok (.getfield idx, 3)) (kk : zGo M K σ lv (pc + 3) (zrv (zw K).2.1 (σ k j) :: st)) : zGo M K σ lv pc (.ref ((zw K).2.1 k) :: st) := by
  obtain ⟨⟨p, l, e, R, s⟩, ⟨m, args, below, meth, c⟩, ⟨Q, cA, ad, D, A⟩, nL', kc0, ks0⟩ := K
  obtain ⟨hx, hb, hml, hr, hown, hts, hlk, hK, hD, hR, hnL, hXm, hXx, hkc, hks⟩ := C
  intro H locs ls hP hS hl
  refine va_get hx hb hts hin hown hK hP k (zwm_obj hk hL) hc j hj (hts _ hlink) (fun _ h9 => h9) (v := zrv ad (σ k j)) ?_ d (kk H locs ls hP hS hl)
  rw [zfv_get cs 0 j _ hcs, Nat.zero_add]
  rfl
theorem z_getr (C : zOK M K cc nL ret own Ts rm) {k ci : Nat} {cs : List Nat} (hk : k < M.2.1) (hL : M.1 k = .inr (ci, cs)) {Cn : String} {T : u_T} {n idx : Nat} (hc : vwCl[ci]? = some (Cn, T, n)) (j : Nat) (hj : j < n) {t : Nat} (hcs : cs[j]? = some (t + 2)) (hin : ∀ w ∈ u_ws Cn T n, w ∈ Ts) (hlink : Cond.fieldLink own idx (T j).1 (T j).2.1 (T j).2.2.1 ∈ Ts) (d : decode cc pc = .ok (.getfield idx, 3)) (kk : zGo M K σ lv (pc + 3) (.ref ((zw K).2.1 t) :: st)) : zGo M K σ lv pc (.ref ((zw K).2.1 k) :: st) := by
  obtain ⟨⟨p, l, e, R, s⟩, ⟨m, args, below, meth, c⟩, ⟨Q, cA, ad, D, A⟩, nL', kc0, ks0⟩ := K
  obtain ⟨hx, hb, hml, hr, hown, hts, hlk, hK, hD, hR, hnL, hXm, hXx, hkc, hks⟩ := C
  intro H locs ls hP hS hl
  refine va_get hx hb hts hin hown hK hP k (zwm_obj hk hL) hc j hj (hts _ hlink) (fun _ h9 => h9) (v := .ref (ad t)) ?_ d (kk H locs ls hP hS hl)
  rw [zfv_get cs 0 j _ hcs]
  rfl
theorem z_getb (C : zOK M K cc nL ret own Ts rm) {k ci : Nat} {cs : List Nat} (hk : k < M.2.1) (hL : M.1 k = .inr (ci, cs)) {Cn : String} {T : u_T} {n idx : Nat} (hc : vwCl[ci]? = some (Cn, T, n)) (j : Nat) (hj : j < n) (hcs : cs[j]? = some 1) (hin : ∀ w ∈ u_ws Cn T n, w ∈ Ts) (hlink : Cond.fieldLink own idx (T j).1 (T j).2.1 (T j).2.2.1 ∈ Ts) {b : Nat} (hb2 : b < 2 ^ 31) (hbk : σ k j = nI b) (d : decode cc pc = .ok (.getfield idx, 3)) (kk : zGo M K σ lv (pc + 3) (.ref ((zw K).2.1 b) :: st)) : zGo M K σ lv pc (.ref ((zw K).2.1 k) :: st) := by
  obtain ⟨⟨p, l, e, R, s⟩, ⟨m, args, below, meth, c⟩, ⟨Q, cA, ad, D, A⟩, nL', kc0, ks0⟩ := K
  obtain ⟨hx, hb, hml, hr, hown, hts, hlk, hK, hD, hR, hnL, hXm, hXx, hkc, hks⟩ := C
  intro H locs ls hP hS hl
  refine va_get hx hb hts hin hown hK hP k (zwm_obj hk hL) hc j hj (hts _ hlink) (fun _ h9 => h9) (v := .ref (ad b)) ?_ d (kk H locs ls hP hS hl)
  rw [zfv_get cs 0 j _ hcs, Nat.zero_add]
  show some (zrv ad (σ k j)) = _
  rw [hbk, zrv, if_neg (nI_pos hb2), nI_clamp hb2]
theorem z_puti (C : zOK M K cc nL ret own Ts rm) {k ci : Nat} {cs : List Nat} (hk : k < M.2.1) (hL : M.1 k = .inr (ci, cs)) {Cn : String} {T : u_T} {n idx : Nat} (hc : vwCl[ci]? = some (Cn, T, n)) (j : Nat) (hj : j < n) (hcs : cs[j]? = some 0) (hin : ∀ w ∈ u_ws Cn T n, w ∈ Ts) (hlink : Cond.fieldLink own idx (T j).1 (T j).2.1 (T j).2.2.1 ∈ Ts) (ty0 : Nat → FieldType) (hty : ∀ k, k < n → parseFieldDescriptor (T k).2.2.1 = some (ty0 k)) (hnm : ∀ a, a < n → ∀ b, b < n → a ≠ b → (T a).2.1 ≠ (T b).2.1) (hfin : (T j).2.2.2 = false) {x : Int32} (h0 : ty0 j = .int) (d : decode cc pc = .ok (.putfield idx, 3)) (kk : zGo M K (sto σ k j x) lv (pc + 3) st) : zGo M K σ lv pc (.int x :: .ref ((zw K).2.1 k) :: st) := by
  obtain ⟨⟨p, l, e, R, s⟩, ⟨m, args, below, meth, c⟩, ⟨Q, cA, ad, D, A⟩, nL', kc0, ks0⟩ := K
  obtain ⟨hx, hb, hml, hr, hown, hts, hlk, hK, hD, hR, hnL, hXm, hXx, hkc, hks⟩ := C
  intro H locs ls hP hS hl
  refine va_put hx hb hts hin ty0 hty hnm hown hK hP (hD σ) hS k (zwm_obj hk hL) hc j hj (hts _ hlink) (fun _ h9 => h9) hfin (ty := .int) ((hty j hj).trans (congrArg some h0)) rfl rfl (by rw [zfv_len]; exact (List.getElem?_eq_some_iff.mp hcs).1) d (fun H1 locs1 hP1 _ hS1 => ?_)
  rw [zwm_sto_fld (c := 0) (x := x) hL hcs (by simp only [zcd, zrv]; rw [pk_us])] at hP1
  exact kk H1 locs1 ls hP1 hS1 hl
theorem z_putz (C : zOK M K cc nL ret own Ts rm) {k ci : Nat} {cs : List Nat} (hk : k < M.2.1) (hL : M.1 k = .inr (ci, cs)) {Cn : String} {T : u_T} {n idx : Nat} (hc : vwCl[ci]? = some (Cn, T, n)) (j : Nat) (hj : j < n) (hcs : cs[j]? = some 0) (hin : ∀ w ∈ u_ws Cn T n, w ∈ Ts) (hlink : Cond.fieldLink own idx (T j).1 (T j).2.1 (T j).2.2.1 ∈ Ts) (ty0 : Nat → FieldType) (hty : ∀ k, k < n → parseFieldDescriptor (T k).2.2.1 = some (ty0 k)) (hnm : ∀ a, a < n → ∀ b, b < n → a ≠ b → (T a).2.1 ≠ (T b).2.1) (hfin : (T j).2.2.2 = false) {x : Int32} (h0 : ty0 j = .boolean) (hz : x = 0 ∨ x = 1) (d : decode cc pc = .ok (.putfield idx, 3)) (kk : zGo M K (sto σ k j x) lv (pc + 3) st) : zGo M K σ lv pc (.int x :: .ref ((zw K).2.1 k) :: st) := by
  obtain ⟨⟨p, l, e, R, s⟩, ⟨m, args, below, meth, c⟩, ⟨Q, cA, ad, D, A⟩, nL', kc0, ks0⟩ := K
  obtain ⟨hx, hb, hml, hr, hown, hts, hlk, hK, hD, hR, hnL, hXm, hXx, hkc, hks⟩ := C
  intro H locs ls hP hS hl
  refine va_put hx hb hts hin ty0 hty hnm hown hK hP (hD σ) hS k (zwm_obj hk hL) hc j hj (hts _ hlink) (fun _ h9 => h9) hfin (ty := .boolean) ((hty j hj).trans (congrArg some h0)) (by rcases hz with rfl | rfl <;> rfl) (by rcases hz with rfl | rfl <;> rfl) (by rw [zfv_len]; exact (List.getElem?_eq_some_iff.mp hcs).1) d (fun H1 locs1 hP1 _ hS1 => ?_)
  rw [zwm_sto_fld (c := 0) (x := x) hL hcs (by simp only [zcd, zrv]; rw [pk_us])] at hP1
  exact kk H1 locs1 ls hP1 hS1 hl
theorem z_putb (C : zOK M K cc nL ret own Ts rm) {k ci : Nat} {cs : List Nat} (hk : k < M.2.1) (hL : M.1 k = .inr (ci, cs)) {Cn : String} {T : u_T} {n idx : Nat} (hc : vwCl[ci]? = some (Cn, T, n)) (j : Nat) (hj : j < n) (hcs : cs[j]? = some 1) (hin : ∀ w ∈ u_ws Cn T n, w ∈ Ts) (hlink : Cond.fieldLink own idx (T j).1 (T j).2.1 (T j).2.2.1 ∈ Ts) (ty0 : Nat → FieldType) (hty : ∀ k, k < n → parseFieldDescriptor (T k).2.2.1 = some (ty0 k)) (hnm : ∀ a, a < n → ∀ b, b < n → a ≠ b → (T a).2.1 ≠ (T b).2.1) (hfin : (T j).2.2.2 = false) {b : Nat} {Cr : String} (h0 : ty0 j = .object Cr) (hb2 : b < 2 ^ 31) (d : decode cc pc = .ok (.putfield idx, 3)) (kk : zGo M K (sto σ k j (nI b)) lv (pc + 3) st) : zGo M K σ lv pc (.ref ((zw K).2.1 b) :: .ref ((zw K).2.1 k) :: st) := by
  obtain ⟨⟨p, l, e, R, s⟩, ⟨m, args, below, meth, c⟩, ⟨Q, cA, ad, D, A⟩, nL', kc0, ks0⟩ := K
  obtain ⟨hx, hb, hml, hr, hown, hts, hlk, hK, hD, hR, hnL, hXm, hXx, hkc, hks⟩ := C
  intro H locs ls hP hS hl
  refine va_put hx hb hts hin ty0 hty hnm hown hK hP (hD σ) hS k (zwm_obj hk hL) hc j hj (hts _ hlink) (fun _ h9 => h9) hfin (ty := .object Cr) ((hty j hj).trans (congrArg some h0)) rfl rfl (by rw [zfv_len]; exact (List.getElem?_eq_some_iff.mp hcs).1) d (fun H1 locs1 hP1 _ hS1 => ?_)
  rw [zwm_sto_fld (c := 1) (x := nI b) hL hcs (by simp only [zcd, zrv]; rw [pk_us, if_neg (nI_pos hb2), nI_clamp hb2]; rfl)] at hP1
  exact kk H1 locs1 ls hP1 hS1 hl
theorem z_iald (C : zOK M K cc nL ret own Ts rm) {k n : Nat} (hk : k < M.2.1) (hL : M.1 k = .inl (0, n)) {i : Int32} (hi : zin i n = true) (d : decode cc pc = .ok (.iaload, 1)) (kk : zGo M K σ lv (pc + 1) (.int (σ k i.toNatClampNeg) :: st)) : zGo M K σ lv pc (.int i :: .ref ((zw K).2.1 k) :: st) := by
  obtain ⟨⟨p, l, e, R, s⟩, ⟨m, args, below, meth, c⟩, ⟨Q, cA, ad, D, A⟩, nL', kc0, ks0⟩ := K
  obtain ⟨hx, hb, hml, hr, hown, hts, hlk, hK, hD, hR, hnL, hXm, hXx, hkc, hks⟩ := C
  intro H locs ls hP hS hl
  exact va_iald hx hb hK hP k 0 (zwm_arr hk hL) rfl (zin_vp hi) d (kk H locs ls hP hS hl)
theorem z_zald (C : zOK M K cc nL ret own Ts rm) {k n : Nat} (hk : k < M.2.1) (hL : M.1 k = .inl (1, n)) {i : Int32} (hi : zin i n = true) (d : decode cc pc = .ok (.baload, 1)) (kk : zGo M K σ lv (pc + 1) (.int (σ k i.toNatClampNeg) :: st)) : zGo M K σ lv pc (.int i :: .ref ((zw K).2.1 k) :: st) := by
  obtain ⟨⟨p, l, e, R, s⟩, ⟨m, args, below, meth, c⟩, ⟨Q, cA, ad, D, A⟩, nL', kc0, ks0⟩ := K
  obtain ⟨hx, hb, hml, hr, hown, hts, hlk, hK, hD, hR, hnL, hXm, hXx, hkc, hks⟩ := C
  intro H locs ls hP hS hl
  exact va_zald hx hb hK hP k 1 (zwm_arr hk hL) rfl (zin_vp hi) d (kk H locs ls hP hS hl)
theorem z_bald (C : zOK M K cc nL ret own Ts rm) {k n : Nat} (hk : k < M.2.1) (hL : M.1 k = .inl (2, n)) {i : Int32} (hi : zin i n = true) (d : decode cc pc = .ok (.baload, 1)) (kk : zGo M K σ lv (pc + 1) (.int (σ k i.toNatClampNeg) :: st)) : zGo M K σ lv pc (.int i :: .ref ((zw K).2.1 k) :: st) := by
  obtain ⟨⟨p, l, e, R, s⟩, ⟨m, args, below, meth, c⟩, ⟨Q, cA, ad, D, A⟩, nL', kc0, ks0⟩ := K
  obtain ⟨hx, hb, hml, hr, hown, hts, hlk, hK, hD, hR, hnL, hXm, hXx, hkc, hks⟩ := C
  intro H locs ls hP hS hl
  exact va_bald hx hb hK hP k 2 (zwm_arr hk hL) rfl (zin_vp hi) d (kk H locs ls hP hS hl)
theorem z_iast (C : zOK M K cc nL ret own Ts rm) {k n : Nat} (hk : k < M.2.1) (hL : M.1 k = .inl (0, n)) {i : Int32} {x : Int32} (hi : zin i n = true) (d : decode cc pc = .ok (.iastore, 1)) (kk : zGo M K (sto σ k i.toNatClampNeg x) lv (pc + 1) st) : zGo M K σ lv pc (.int x :: .int i :: .ref ((zw K).2.1 k) :: st) := by
  obtain ⟨⟨p, l, e, R, s⟩, ⟨m, args, below, meth, c⟩, ⟨Q, cA, ad, D, A⟩, nL', kc0, ks0⟩ := K
  obtain ⟨hx, hb, hml, hr, hown, hts, hlk, hK, hD, hR, hnL, hXm, hXx, hkc, hks⟩ := C
  intro H locs ls hP hS hl
  refine va_iast hx hb hK hP (hD σ) hS k 0 (zwm_arr hk hL) rfl (zin_vp hi) d (fun H1 locs1 hP1 _ hS1 => ?_)
  rw [zwm_sto_arr hL] at hP1
  exact kk H1 locs1 ls hP1 hS1 hl
theorem z_zast (C : zOK M K cc nL ret own Ts rm) {k n : Nat} (hk : k < M.2.1) (hL : M.1 k = .inl (1, n)) {i : Int32} {x : Int32} (hi : zin i n = true) (d : decode cc pc = .ok (.bastore, 1)) (kk : zGo M K (sto σ k i.toNatClampNeg (vp_nar .boolean x)) lv (pc + 1) st) : zGo M K σ lv pc (.int x :: .int i :: .ref ((zw K).2.1 k) :: st) := by
  obtain ⟨⟨p, l, e, R, s⟩, ⟨m, args, below, meth, c⟩, ⟨Q, cA, ad, D, A⟩, nL', kc0, ks0⟩ := K
  obtain ⟨hx, hb, hml, hr, hown, hts, hlk, hK, hD, hR, hnL, hXm, hXx, hkc, hks⟩ := C
  intro H locs ls hP hS hl
  refine va_zast hx hb hK hP (hD σ) hS k 1 (zwm_arr hk hL) rfl (zin_vp hi) d (fun H1 locs1 hP1 _ hS1 => ?_)
  rw [zwm_sto_arr hL] at hP1
  exact kk H1 locs1 ls hP1 hS1 hl
theorem z_bast (C : zOK M K cc nL ret own Ts rm) {k n : Nat} (hk : k < M.2.1) (hL : M.1 k = .inl (2, n)) {i : Int32} {x : Int32} (hi : zin i n = true) (d : decode cc pc = .ok (.bastore, 1)) (kk : zGo M K (sto σ k i.toNatClampNeg (vp_nar .byte x)) lv (pc + 1) st) : zGo M K σ lv pc (.int x :: .int i :: .ref ((zw K).2.1 k) :: st) := by
  obtain ⟨⟨p, l, e, R, s⟩, ⟨m, args, below, meth, c⟩, ⟨Q, cA, ad, D, A⟩, nL', kc0, ks0⟩ := K
  obtain ⟨hx, hb, hml, hr, hown, hts, hlk, hK, hD, hR, hnL, hXm, hXx, hkc, hks⟩ := C
  intro H locs ls hP hS hl
  refine va_bast hx hb hK hP (hD σ) hS k 2 (zwm_arr hk hL) rfl (zin_vp hi) d (fun H1 locs1 hP1 _ hS1 => ?_)
  rw [zwm_sto_arr hL] at hP1
  exact kk H1 locs1 ls hP1 hS1 hl
theorem z_alen (C : zOK M K cc nL ret own Ts rm) {k n t : Nat} (hk : k < M.2.1) (hL : M.1 k = .inl (t, n)) {ty : FieldType} (ht : ∀ cA : Nat → ClassId, (zty cA)[t]? = some (cA t, ty)) {v : Int32} (hv : Int32.ofNat n = v) (d : decode cc pc = .ok (.arraylength, 1)) (kk : zGo M K σ lv (pc + 1) (.int v :: st)) : zGo M K σ lv pc (.ref ((zw K).2.1 k) :: st) := by
  obtain ⟨⟨p, l, e, R, s⟩, ⟨m, args, below, meth, c⟩, ⟨Q, cA, ad, D, A⟩, nL', kc0, ks0⟩ := K
  obtain ⟨hx, hb, hml, hr, hown, hts, hlk, hK, hD, hR, hnL, hXm, hXx, hkc, hks⟩ := C
  intro H locs ls hP hS hl
  exact va_alen hx hb hK hP k t (zwm_arr hk hL) (ht cA) hv d (kk H locs ls hP hS hl)
theorem z_cVi (C : zOK M K cc nL ret own Ts rm) {y : MethodName} {ws ws' : List Cond} {rmc : Room} {bytes : ByteArray} {maxL idx : Nat} {retc : Option FieldType} {Cn : String} {n k ci : Nat} {cs : List Nat} {q : vw_C} {as stk : List Value} {σ' : Mem} {r : Int32} (hM : zCi M (zl K) (zw K) y ws rmc (.ref ((zw K).2.1 k) :: as) σ σ' r) (hw : ws = .code y bytes maxL retc :: ws') (hG : GoodIn Ts (wsV own idx Cn y ws)) (hrc : rmc.cells = 0) (hrs : rmc.slots = 0) (hd : y.cls = Cn ∧ y.cls ≠ "java/lang/invoke/MethodHandle" ∧ y.cls ≠ "java/lang/invoke/VarHandle" ∧ (parseMethodDescriptor y.desc).map (fun d => d.parameters.length) = some n) (hn : as.length = n) (hk : k < M.2.1) (hL : M.1 k = .inr (ci, cs)) (hc : vwCl[ci]? = some q) (hq : q.1 = Cn) (hRm : rmc.frames + 1 ≤ rm.frames ∧ 8 + (maxL + 11) + rmc.locals ≤ rm.locals) (hcat : (st.map fun v => v.category).sum ≤ 8) (d : decode cc pc = .ok (.invokevirtual idx, 3)) (hst : stk = as.reverse ++ .ref ((zw K).2.1 k) :: st) (kk : zGo M K σ' lv (pc + 3) (.int r :: st)) : zGo M K σ lv pc stk := by
  obtain ⟨⟨p, l, e, R, s⟩, ⟨m, args, below, meth, c⟩, ⟨Q, cA, ad, D, A⟩, nL', kc0, ks0⟩ := K
  obtain ⟨hx, hb, hml, hr, hown, hts, hlk, hK, hD, hR, hnL, hXm, hXx, hkc, hks⟩ := C
  intro H locs ls hP hS hl
  subst hnL; subst hst; subst hR
  refine va_calli (va_runV (As := as) (rest := st) ⟨hx, hb, hml, hown, hts⟩ hM (cwV n hts hG hw hrc hrs hd hRm) ⟨fun a U g mk q => ⟨q.1, q.2.1, va_K.moved (u := U) (U := U.calling g mk a) (Vm.Alike.refl U.vm) q.2.2.1, q.2.2.2.1, hXm.2 ad A U g mk a q.2.2.2.2⟩, ?_, fun U hU hW => ⟨rfl, by rw [hU]; exact hP, va_K.moved hW.alike hK, hD, hXm.1 ad A s U hXx hW (by rw [hU]; exact hS.1) (fun q h1 h2 => by rw [hU]; exact hS.2.1 q h1 h2)⟩⟩ rfl hn hl.1 rfl (lv_room hcat) d ⟨hkc, hks⟩) hS (fun q _ h => h) (fun q h => h) (fun r1 u t H1 locs1 ht hvm hw1 hB hz1 hk1 hS1 => ?_)
  · have := va_recv hK hP hc (zwm_obj hk hL)
    rwa [hq] at this
  · obtain ⟨rfl, rfl⟩ := hw1
    have hP1 := hB.1
    rw [ht] at hP1
    exact kk H1 locs1 ls hP1 hS1 hl
theorem z_cSi (C : zOK M K cc nL ret own Ts rm) {y : MethodName} {ws ws' : List Cond} {rmc : Room} {bytes : ByteArray} {maxL idx : Nat} {retc : Option FieldType} {n : Nat} {as stk : List Value} {σ' : Mem} {r : Int32} (hM : zCi M (zl K) (zw K) y ws rmc as σ σ' r) (hw : ws = .code y bytes maxL retc :: ws') (hG : GoodIn Ts (va_wsS own idx y ws)) (hrc : rmc.cells = 0) (hrs : rmc.slots = 0) (hd : y.cls ≠ "java/lang/invoke/MethodHandle" ∧ y.cls ≠ "java/lang/invoke/VarHandle" ∧ (parseMethodDescriptor y.desc).map (fun d => d.parameters.length) = some n) (hn : as.length = n) (hRm : rmc.frames + 1 ≤ rm.frames ∧ 8 + (maxL + 11) + rmc.locals ≤ rm.locals) (hcat : (st.map fun v => v.category).sum ≤ 8) (d : decode cc pc = .ok (.invokestatic idx, 3)) (hst : stk = as.reverse ++ st) (kk : zGo M K σ' lv (pc + 3) (.int r :: st)) : zGo M K σ lv pc stk := by
  obtain ⟨⟨p, l, e, R, s⟩, ⟨m, args, below, meth, c⟩, ⟨Q, cA, ad, D, A⟩, nL', kc0, ks0⟩ := K
  obtain ⟨hx, hb, hml, hr, hown, hts, hlk, hK, hD, hR, hnL, hXm, hXx, hkc, hks⟩ := C
  intro H locs ls hP hS hl
  subst hnL; subst hst; subst hR
  refine va_calli (va_runS (As := as) (rest := st) ⟨hx, hb, hml, hown, hts⟩ hM (va_cwS n hts hG hw hrc hrs hd hRm) ⟨fun a U g mk q => ⟨q.1, q.2.1, va_K.moved (u := U) (U := U.calling g mk a) (Vm.Alike.refl U.vm) q.2.2.1, q.2.2.2.1, hXm.2 ad A U g mk a q.2.2.2.2⟩, fun U hU hW => ⟨rfl, by rw [hU]; exact hP, va_K.moved hW.alike hK, hD, hXm.1 ad A s U hXx hW (by rw [hU]; exact hS.1) (fun q h1 h2 => by rw [hU]; exact hS.2.1 q h1 h2)⟩⟩ rfl hn hl.1 rfl (lv_room hcat) d ⟨hkc, hks⟩) hS (fun q _ h => h) (fun q h => h) (fun r1 u t H1 locs1 ht hvm hw1 hB hz1 hk1 hS1 => ?_)
  obtain ⟨rfl, rfl⟩ := hw1
  have hP1 := hB.1
  rw [ht] at hP1
  exact kk H1 locs1 ls hP1 hS1 hl
theorem z_cVv (C : zOK M K cc nL ret own Ts rm) {y : MethodName} {ws ws' : List Cond} {rmc : Room} {bytes : ByteArray} {maxL idx : Nat} {retc : Option FieldType} {Cn : String} {n k ci : Nat} {cs : List Nat} {q : vw_C} {as stk : List Value} {σ' : Mem} (hM : zCv M (zl K) (zw K) y ws rmc (.ref ((zw K).2.1 k) :: as) σ σ' ) (hw : ws = .code y bytes maxL retc :: ws') (hG : GoodIn Ts (wsV own idx Cn y ws)) (hrc : rmc.cells = 0) (hrs : rmc.slots = 0) (hd : y.cls = Cn ∧ y.cls ≠ "java/lang/invoke/MethodHandle" ∧ y.cls ≠ "java/lang/invoke/VarHandle" ∧ (parseMethodDescriptor y.desc).map (fun d => d.parameters.length) = some n) (hn : as.length = n) (hk : k < M.2.1) (hL : M.1 k = .inr (ci, cs)) (hc : vwCl[ci]? = some q) (hq : q.1 = Cn) (hRm : rmc.frames + 1 ≤ rm.frames ∧ 8 + (maxL + 11) + rmc.locals ≤ rm.locals) (hcat : (st.map fun v => v.category).sum ≤ 8) (d : decode cc pc = .ok (.invokevirtual idx, 3)) (hst : stk = as.reverse ++ .ref ((zw K).2.1 k) :: st) (kk : zGo M K σ' lv (pc + 3) (st)) : zGo M K σ lv pc stk := by
  obtain ⟨⟨p, l, e, R, s⟩, ⟨m, args, below, meth, c⟩, ⟨Q, cA, ad, D, A⟩, nL', kc0, ks0⟩ := K
  obtain ⟨hx, hb, hml, hr, hown, hts, hlk, hK, hD, hR, hnL, hXm, hXx, hkc, hks⟩ := C
  intro H locs ls hP hS hl
  subst hnL; subst hst; subst hR
  refine va_callv (va_runV (As := as) (rest := st) ⟨hx, hb, hml, hown, hts⟩ hM (cwV n hts hG hw hrc hrs hd hRm) ⟨fun a U g mk q => ⟨q.1, q.2.1, va_K.moved (u := U) (U := U.calling g mk a) (Vm.Alike.refl U.vm) q.2.2.1, q.2.2.2.1, hXm.2 ad A U g mk a q.2.2.2.2⟩, ?_, fun U hU hW => ⟨rfl, by rw [hU]; exact hP, va_K.moved hW.alike hK, hD, hXm.1 ad A s U hXx hW (by rw [hU]; exact hS.1) (fun q h1 h2 => by rw [hU]; exact hS.2.1 q h1 h2)⟩⟩ rfl hn hl.1 rfl (lv_room hcat) d ⟨hkc, hks⟩) hS (fun q _ h => h) (fun q h => h) (fun u t H1 locs1 ht hvm hw1 hB hz1 hk1 hS1 => ?_)
  · have := va_recv hK hP hc (zwm_obj hk hL)
    rwa [hq] at this
  · cases hw1
    have hP1 := hB.1
    rw [ht] at hP1
    exact kk H1 locs1 ls hP1 hS1 hl
theorem z_cSv (C : zOK M K cc nL ret own Ts rm) {y : MethodName} {ws ws' : List Cond} {rmc : Room} {bytes : ByteArray} {maxL idx : Nat} {retc : Option FieldType} {n : Nat} {as stk : List Value} {σ' : Mem} (hM : zCv M (zl K) (zw K) y ws rmc as σ σ' ) (hw : ws = .code y bytes maxL retc :: ws') (hG : GoodIn Ts (va_wsS own idx y ws)) (hrc : rmc.cells = 0) (hrs : rmc.slots = 0) (hd : y.cls ≠ "java/lang/invoke/MethodHandle" ∧ y.cls ≠ "java/lang/invoke/VarHandle" ∧ (parseMethodDescriptor y.desc).map (fun d => d.parameters.length) = some n) (hn : as.length = n) (hRm : rmc.frames + 1 ≤ rm.frames ∧ 8 + (maxL + 11) + rmc.locals ≤ rm.locals) (hcat : (st.map fun v => v.category).sum ≤ 8) (d : decode cc pc = .ok (.invokestatic idx, 3)) (hst : stk = as.reverse ++ st) (kk : zGo M K σ' lv (pc + 3) (st)) : zGo M K σ lv pc stk := by
  obtain ⟨⟨p, l, e, R, s⟩, ⟨m, args, below, meth, c⟩, ⟨Q, cA, ad, D, A⟩, nL', kc0, ks0⟩ := K
  obtain ⟨hx, hb, hml, hr, hown, hts, hlk, hK, hD, hR, hnL, hXm, hXx, hkc, hks⟩ := C
  intro H locs ls hP hS hl
  subst hnL; subst hst; subst hR
  refine va_callv (va_runS (As := as) (rest := st) ⟨hx, hb, hml, hown, hts⟩ hM (va_cwS n hts hG hw hrc hrs hd hRm) ⟨fun a U g mk q => ⟨q.1, q.2.1, va_K.moved (u := U) (U := U.calling g mk a) (Vm.Alike.refl U.vm) q.2.2.1, q.2.2.2.1, hXm.2 ad A U g mk a q.2.2.2.2⟩, fun U hU hW => ⟨rfl, by rw [hU]; exact hP, va_K.moved hW.alike hK, hD, hXm.1 ad A s U hXx hW (by rw [hU]; exact hS.1) (fun q h1 h2 => by rw [hU]; exact hS.2.1 q h1 h2)⟩⟩ rfl hn hl.1 rfl (lv_room hcat) d ⟨hkc, hks⟩) hS (fun q _ h => h) (fun q h => h) (fun u t H1 locs1 ht hvm hw1 hB hz1 hk1 hS1 => ?_)
  cases hw1
  have hP1 := hB.1
  rw [ht] at hP1
  exact kk H1 locs1 ls hP1 hS1 hl
theorem z_sub {lv2 : List (Nat × Value)} (ks : List Nat) (h : lv_pick lv ks = lv2) (kk : zGo M K σ lv2 pc st) : zGo M K σ lv pc st := by
  obtain ⟨⟨p, l, e, R, s⟩, ⟨m, args, below, meth, c⟩, ⟨Q, cA, ad, D, A⟩, nL', kc0, ks0⟩ := K
  exact fun H locs ls hP hS hl => kk H locs ls hP hS (lv_sub hl ks h)
theorem z_topi {x : Int32} (kk : ∀ y : Int32, y = x → zGo M K σ lv pc (.int y :: st)) : zGo M K σ lv pc (.int x :: st) := kk x rfl
theorem z_nm (kk : ∀ τ : Mem, τ = σ → zGo M K τ lv pc st) : zGo M K σ lv pc st := kk σ rfl
theorem z_lkv (C : zOK M K cc nL ret own Ts rm) {dflt : Int} {ps : Array (Int × Int)} {len : Nat} {x v : Int32} {off : Int} {tgt : Nat} (hc : x = v) (d : decode cc pc = .ok (.lookupswitch dflt ps, len)) (hp : (ps.toList.zip (ps.toList.drop 1)).all (fun (a, next) => a.1 < next.1) = true) (ho : Op.lookupswitch.offset ps.toList dflt v.toInt = off) (ht : (pc : Int) + off = (tgt : Int)) (kk : zGo M K σ lv tgt st) : zGo M K σ lv pc (.int x :: st) := by
  obtain ⟨⟨p, l, e, R, s⟩, ⟨m, args, below, meth, c⟩, ⟨Q, cA, ad, D, A⟩, nL', kc0, ks0⟩ := K
  obtain ⟨hx, hb, hml, hr, hown, hts, hlk, hK, hD, hR, hnL, hXm, hXx, hkc, hks⟩ := C
  intro H locs ls hP hS hl
  subst hc
  exact lv_lookup hx hb d hp ho ht (kk H locs ls hP hS hl)
end ZROWS
