/-! making: the judgement of a method that makes cells; its layout has each reference as a number -/
def zLc (La : Lay) : Lay := fun k => match La k with
  | .inl a => .inl a
  | .inr o => .inr (o.1, o.2.map (fun c => if c = 0 then 0 else 1))
def zsm (La : Lay) : Prop := ∀ (k ci : Nat) (cs : List Nat) (j c : Nat), La k = .inr (ci, cs) → cs[j]? = some c → c = 0 ∨ c = 1
theorem zsm_zLc {La : Lay} : zsm (zLc La) := by
  intro k ci cs j c h hj
  unfold zLc at h
  split at h
  · cases h
  · cases h
    rw [List.getElem?_map] at hj
    rename_i o _
    cases h2 : o.2[j]? with
    | none => rw [h2] at hj; cases hj
    | some c0 =>
      rw [h2] at hj
      cases hj
      by_cases h3 : c0 = 0
      · exact Or.inl (if_pos h3)
      · exact Or.inr (if_neg h3)
def sg0 (La : Lay) : Mem := fun k j => match La k with
  | .inl _ => 0
  | .inr o => if o.2[j]? = some 1 then -1 else 0
def zal (La : Lay) (σ : Mem) (N : Nat) : Mem := fun k => if k = N then sg0 La N else σ k
def zwf (La : Lay) (N : Nat) (σ : Mem) : Prop := ∀ (k ci : Nat) (cs : List Nat) (j : Nat), k < N → La k = .inr (ci, cs) → cs[j]? = some 1 → (σ k j < 0 ∨ (σ k j).toNatClampNeg < N)
theorem zfv_cong2 {ad ad' : Nat → Nat} {f g : Nat → Int32} : ∀ (cs : List Nat) (b : Nat), (∀ j c, cs[j]? = some c → zcd ad f (b + j) c = zcd ad' g (b + j) c) → zfv ad f b cs = zfv ad' g b cs
  | [], _, _ => rfl
  | c :: cs, b, h => by
    have h0 := h 0 c (by simp)
    have h1 := zfv_cong2 (f := f) (g := g) cs (b + 1) (fun j c' hj => by
      have := h (j + 1) c' (by simpa using hj)
      rwa [show b + (j + 1) = b + 1 + j by omega] at this)
    simp only [zfv]
    rw [h1]
    congr 1
theorem zen_ext {La : Lay} {N : Nat} {cA : Nat → ClassId} {ad ad' : Nat → Nat} {σ τ : Mem} (hs : zsm La) (hf : zwf La N σ) {k : Nat} (hk : k < N) (ha : ∀ i, i < N → ad' i = ad i) (hm : τ k = σ k) : zen La cA ad' τ k = zen La cA ad σ k := by
  unfold zen
  rw [ha k hk, hm]
  cases hL : La k with
  | inl a => rfl
  | inr o =>
    obtain ⟨ci, cs⟩ := o
    simp only
    congr 3
    refine zfv_cong2 cs 0 (fun j c hj => ?_)
    rw [Nat.zero_add]
    rcases hs k ci cs j c hL hj with rfl | rfl
    · rfl
    · show zrv ad' (σ k j) = zrv ad (σ k j)
      unfold zrv
      rcases hf k ci cs j hk hL hj with h | h
      · rw [if_pos h, if_pos h]
      · rw [ha _ h]
theorem zwm_ext {La : Lay} {N : Nat} {cA : Nat → ClassId} {ad ad' : Nat → Nat} {σ τ : Mem} (hs : zsm La) (hf : zwf La N σ) (ha : ∀ i, i < N → ad' i = ad i) (hm : ∀ k, k < N → τ k = σ k) : zwm La N cA ad' τ = zwm La N cA ad σ := by
  refine List.ext_getElem? fun i => ?_
  rcases Nat.lt_or_ge i N with h1 | h1
  · rw [zwm_get h1, zwm_get h1, zen_ext hs hf h1 ha (hm i h1)]
  · rw [List.getElem?_eq_none (by simpa [zwm] using h1), List.getElem?_eq_none (by simpa [zwm] using h1)]
theorem zwm_push {La : Lay} {N : Nat} {cA : Nat → ClassId} {ad : Nat → Nat} {σ : Mem} {q : Nat} {e : va_E} (hs : zsm La) (hf : zwf La N σ) (he : zen La cA (va_up ad N q) (zal La σ N) N = (q, e)) : zwm La N cA ad σ ++ [(q, e)] = zwm La (N + 1) cA (va_up ad N q) (zal La σ N) := by
  have h1 : zwm La N cA (va_up ad N q) (zal La σ N) = zwm La N cA ad σ := zwm_ext hs hf (fun i hi => by unfold va_up; rw [if_neg (Nat.ne_of_lt hi)]) (fun k hk => by unfold zal; rw [if_neg (Nat.ne_of_lt hk)])
  rw [← h1, ← he]
  simp [zwm, List.range_succ]
theorem zwf_push {La : Lay} {N : Nat} {σ : Mem} (h : zwf La N σ) : zwf La (N + 1) (zal La σ N) := by
  intro k ci cs j hk hL hj
  unfold zal
  by_cases hN : k = N
  · subst hN
    rw [if_pos rfl]
    left
    unfold sg0
    rw [hL]
    simp only
    rw [if_pos hj]
    decide
  · rw [if_neg hN]
    rcases h k ci cs j (by omega) hL hj with h1 | h1
    · exact Or.inl h1
    · exact Or.inr (by omega)
theorem zwf_sto {La : Lay} {N : Nat} {σ : Mem} {k0 j0 : Nat} {x : Int32} (h : zwf La N σ) (hx : (∀ ci cs, La k0 = .inr (ci, cs) → cs[j0]? = some 1 → (x < 0 ∨ x.toNatClampNeg < N))) : zwf La N (sto σ k0 j0 x) := by
  intro k ci cs j hk hL hj
  by_cases hN : k = k0
  · subst hN
    rw [sto_same]
    by_cases hj0 : j = j0
    · subst hj0
      rw [pk_us]
      exact hx ci cs hL hj
    · rw [pk_un hj0]
      exact h k ci cs j hk hL hj
  · rw [sto_other hN]
    exact h k ci cs j hk hL hj
def zGc (La : Lay) (K : ZK) (N kc ks : Nat) (ad : Nat → Nat) (σ : Mem) (lv : List (Nat × Value)) (pc : Nat) (st : List Value) : Prop :=
  match K with
  | ((p, l, e, R, s), (m, args, below, meth, c), (Q, cA, _, D, A), nL, _, _) => ∀ (H : Heap) (locs : List Loc) (ls : Array Slot), va_P D vwCl (zwm La N cA ad σ) H → va_D A (zwm La N cA ad σ) → zwf La N σ → va_S A s.heap H locs → lv_has ls nL lv → W p l e R s m args below meth c H locs kc ks Q (F0 m pc ls st)
def zOKc (La : Lay) (K : ZK) (cc : ByteArray) (nL : Nat) (own : String) (Ts : List Cond) (rm : Room) (W2 : List Cond) : Prop :=
  match K with
  | ((p, l, e, R, s), (m, args, below, meth, c), (Q, cA, _, D, A), nL', _, _) => p.tables.exec = Jvm.exec ∧ c.code = cc ∧ c.maxLocals = nL ∧ meth.sig.returnType = none ∧ s.vm.findClass own = some m.cls ∧ (∀ w ∈ Ts, w.before args s = true) ∧ meth.locks = false ∧ va_K D vwCl (zty cA) s ∧ (∀ q, s.heap.size ≤ q → A q) ∧ R = rm ∧ nL' = nL ∧ meth.name = "<init>" ∧ zsm La ∧ ∀ w ∈ W2, va_Nw w s
def zcP (W2 : List Cond) (La : Lay) (cA : Nat → ClassId) (D : va_G) (N : Nat) (ad : Nat → Nat) (σ : Mem) (sz : Nat) (U : State) : Prop := U.heap.size = sz ∧ va_P D vwCl (zwm La N cA ad σ) U.heap ∧ va_K D vwCl (zty cA) U ∧ va_D (fun _ => True) (zwm La N cA ad σ) ∧ zwf La N σ ∧ ∀ w ∈ W2, va_Nw w U
def zCc (W2 : List Cond) (La : Lay) (l : Launch) (cA : Nat → ClassId) (D : va_G) (y : MethodName) (ws : List Cond) (rm : Room) (as : List Value) (N : Nat) (ad : Nat → Nat) (σ : Mem) (N' : Nat) (σ' : Mem) (mc ms : Nat) : Prop :=
  ∀ sz : Nat, Met l y ws rm (va_Pc as (zcP W2 La cA D N ad σ sz)) (va_Qv (fun ad' : Nat → Nat => ∀ k, k < N → ad' k = ad k) (fun ad' t => va_P D vwCl (zwm La N' cA ad' σ') t.heap ∧ va_D (va_A (zwm La N cA ad σ) sz) (zwm La N' cA ad' σ') ∧ zwf La N' σ') (va_A (zwm La N cA ad σ) sz)) mc ms (va_A (zwm La N cA ad σ) sz)
theorem zc_met {W2 : List Cond} {La : Lay} {l : Launch} {cA : Nat → ClassId} {D : va_G} {y : MethodName} {ws ws' : List Cond} {rm : Room} {cc : ByteArray} {nL : Nat} {own : String} {as : List Value} {N N' mc ms : Nat} {ad : Nat → Nat} {σ σ' : Mem}
    (hs : zsm La) (hy : plainName y.cls = true) (hw : ws = .code y cc nL none :: ws') (ho : y.cls = own) (hn : (lg_sl as).length ≤ nL) (hi : y.name = "<init>")
    (body : ∀ K : ZK, zOKc La K cc nL own ws rm W2 → (zw K).1 = cA → (zw K).2.2.1 = D → zl K = l → (∀ (lv : List (Nat × Value)) (pc : Nat) (ad' : Nat → Nat), (∀ k, k < N → ad' k = ad k) → decode cc pc = .ok (.return_, 1) → zGc La K N' mc ms ad' σ' lv pc []) → zGc La K N 0 0 ad σ (lv_args 0 as) 0 []) : zCc W2 La l cA D y ws rm as N ad σ N' σ' mc ms := by
  intro sz
  refine Met.ofW (cc := cc) (maxL := nL) (ret := none) hy hw ?_
  intro p e s m args below meth c s₁ B hml hv
  obtain ⟨rfl, hsz, hP, hK, hD0, hf, hW2⟩ := hv
  have hx := B.exec
  have hb := B.bytes
  have hr := B.returns
  have hts := atoms_spec (ws := ws) B.pre
  have hown : s.vm.findClass own = some m.cls := by rw [← ho]; exact findClass_of_methodNamed B.named
  have hlocks := B.notSynchronized
  have hin : meth.name = "<init>" := (name_of_methodNamed B.named B.method).1.trans hi
  subst hsz
  have hD := hD0.self (sz := s.heap.size)
  have hl := lv_entry as (n := nL) hn
  rw [lg_entry_eq]
  generalize (lg_sl as ++ List.replicate (nL - (lg_sl as).length) Slot.unset).toArray = ls at hl ⊢
  refine body ((p, l, e, (headSpec ws rm).room, s), (m, as.toArray, below, meth, c), (MQ below (va_Qv (fun ad' : Nat → Nat => ∀ k, k < N → ad' k = ad k) (fun ad' t => va_P D vwCl (zwm La N' cA ad' σ') t.heap ∧ va_D (va_A (zwm La N cA ad σ) s.heap.size) (zwm La N' cA ad' σ') ∧ zwf La N' σ') (va_A (zwm La N cA ad σ) s.heap.size)) as.toArray s mc ms (va_A (zwm La N cA ad σ) s.heap.size), cA, ad, D, va_A (zwm La N cA ad σ) s.heap.size), nL, 0, 0) ⟨hx, hb, hml, hr, hown, hts, hlocks, hK, fun q h => Or.inr h, rfl, rfl, hin, hs, hW2⟩ rfl rfl rfl ?_ s.heap [] ls hP hD hf va_S.rf hl
  intro lv pc ad' ha hdg H locs ls1 hP1 hD1 hf1 hS hl1
  exact W.vret hx hb hr (fun t ht hW => ⟨⟨ad', rfl, ha, by rw [ht]; exact hP1, hD1, hf1⟩, hS.F ht⟩) hS.2.2 hdg hlocks
section ZCROWS
variable {La : Lay} {K : ZK} {cc : ByteArray} {nL : Nat} {own : String} {Ts W2 : List Cond} {rm : Room} {N kc ks : Nat} {ad : Nat → Nat} {σ : Mem} {lv : List (Nat × Value)} {pc : Nat} {st : List Value}
theorem zc_iconst (C : zOKc La K cc nL own Ts rm W2) {n : Int} {v : Int32} (d : decode cc pc = .ok (.iconst n, 1)) (hv : Int32.ofInt n = v) (kk : zGc La K N kc ks ad σ lv (pc + 1) (.int v :: st)) : zGc La K N kc ks ad σ lv pc st := by
  obtain ⟨⟨p, l, e, R, s⟩, ⟨m, args, below, meth, c⟩, ⟨Q, cA, ad0, D, A⟩, nL', kc', ks'⟩ := K
  obtain ⟨hx, hb, hml, hr, hown, hts, hlk, hK, hA, hR, hnL, hin0, hsm, hW2⟩ := C
  intro H locs ls hP hD hwf hS hl
  exact lv_iconst hx hb d hv (kk H locs ls hP hD hwf hS hl)
theorem zc_bipush (C : zOKc La K cc nL own Ts rm W2) {n : Int} {v : Int32} (d : decode cc pc = .ok (.bipush n, 2)) (hv : (Int8.ofInt n).toInt32 = v) (kk : zGc La K N kc ks ad σ lv (pc + 2) (.int v :: st)) : zGc La K N kc ks ad σ lv pc st := by
  obtain ⟨⟨p, l, e, R, s⟩, ⟨m, args, below, meth, c⟩, ⟨Q, cA, ad0, D, A⟩, nL', kc', ks'⟩ := K
  obtain ⟨hx, hb, hml, hr, hown, hts, hlk, hK, hA, hR, hnL, hin0, hsm, hW2⟩ := C
  intro H locs ls hP hD hwf hS hl
  exact lv_bipush hx hb d hv (kk H locs ls hP hD hwf hS hl)
theorem zc_sipush (C : zOKc La K cc nL own Ts rm W2) {n : Int} {v : Int32} (d : decode cc pc = .ok (.sipush n, 3)) (hv : (Int16.ofInt n).toInt32 = v) (kk : zGc La K N kc ks ad σ lv (pc + 3) (.int v :: st)) : zGc La K N kc ks ad σ lv pc st := by
  obtain ⟨⟨p, l, e, R, s⟩, ⟨m, args, below, meth, c⟩, ⟨Q, cA, ad0, D, A⟩, nL', kc', ks'⟩ := K
  obtain ⟨hx, hb, hml, hr, hown, hts, hlk, hK, hA, hR, hnL, hin0, hsm, hW2⟩ := C
  intro H locs ls hP hD hwf hS hl
  exact lv_sipush hx hb d hv (kk H locs ls hP hD hwf hS hl)
theorem zc_iload_n (C : zOKc La K cc nL own Ts rm W2) {f : Fin 4} {i : Nat} {x : Int32} (k : Nat) (d : decode cc pc = .ok (.iload_n f, 1)) (hf : (f : Nat) = i) (hv : lv[k]? = some (i, .int x)) (kk : zGc La K N kc ks ad σ lv (pc + 1) (.int x :: st)) : zGc La K N kc ks ad σ lv pc st := by
  obtain ⟨⟨p, l, e, R, s⟩, ⟨m, args, below, meth, c⟩, ⟨Q, cA, ad0, D, A⟩, nL', kc', ks'⟩ := K
  obtain ⟨hx, hb, hml, hr, hown, hts, hlk, hK, hA, hR, hnL, hin0, hsm, hW2⟩ := C
  intro H locs ls hP hD hwf hS hl
  exact lv_iload_n hx hb d hf (lv_at hl k hv) (kk H locs ls hP hD hwf hS hl)
theorem zc_aload_n (C : zOKc La K cc nL own Ts rm W2) {f : Fin 4} {i : Nat} {x : Nat} (k : Nat) (d : decode cc pc = .ok (.aload_n f, 1)) (hf : (f : Nat) = i) (hv : lv[k]? = some (i, .ref x)) (kk : zGc La K N kc ks ad σ lv (pc + 1) (.ref x :: st)) : zGc La K N kc ks ad σ lv pc st := by
  obtain ⟨⟨p, l, e, R, s⟩, ⟨m, args, below, meth, c⟩, ⟨Q, cA, ad0, D, A⟩, nL', kc', ks'⟩ := K
  obtain ⟨hx, hb, hml, hr, hown, hts, hlk, hK, hA, hR, hnL, hin0, hsm, hW2⟩ := C
  intro H locs ls hP hD hwf hS hl
  exact lv_aload_n hx hb d hf (lv_at hl k hv) (kk H locs ls hP hD hwf hS hl)
theorem zc_istore_n (C : zOKc La K cc nL own Ts rm W2) {f : Fin 4} {i : Nat} {x : Int32} {lv2 : List (Nat × Value)} (ks0 : List Nat) (d : decode cc pc = .ok (.istore_n f, 1)) (hf : (f : Nat) = i) (hn : i < nL) (h2 : lv_pick ((i, Value.int x) :: lv.filter (fun q => !(q.1 == i) && !(q.1 + 1 == i && q.2.category == 2))) ks0 = lv2) (kk : zGc La K N kc ks ad σ lv2 (pc + 1) st) : zGc La K N kc ks ad σ lv pc (.int x :: st) := by
  obtain ⟨⟨p, l, e, R, s⟩, ⟨m, args, below, meth, c⟩, ⟨Q, cA, ad0, D, A⟩, nL', kc', ks'⟩ := K
  obtain ⟨hx, hb, hml, hr, hown, hts, hlk, hK, hA, hR, hnL, hin0, hsm, hW2⟩ := C
  intro H locs ls hP hD hwf hS hl
  subst hnL
  exact lv_istore_n hx hb d hf hl hn rfl (fun ls2 hl2 => kk H locs ls2 hP hD hwf hS (lv_sub hl2 ks0 h2))
theorem zc_iinc (C : zOKc La K cc nL own Ts rm W2) {i : Nat} {n : Int} {nv x v : Int32} {lv2 : List (Nat × Value)} (k : Nat) (ks0 : List Nat) (d : decode cc pc = .ok (.iinc i n, 3)) (hn : Int32.ofInt n = nv) (hk : lv[k]? = some (i, .int x)) (hi : i < nL) (hv : v = x + nv) (h2 : lv_pick ((i, Value.int v) :: lv.filter (fun q => !(q.1 == i) && !(q.1 + 1 == i && q.2.category == 2))) ks0 = lv2) (kk : zGc La K N kc ks ad σ lv2 (pc + 3) st) : zGc La K N kc ks ad σ lv pc st := by
  obtain ⟨⟨p, l, e, R, s⟩, ⟨m, args, below, meth, c⟩, ⟨Q, cA, ad0, D, A⟩, nL', kc', ks'⟩ := K
  obtain ⟨hx, hb, hml, hr, hown, hts, hlk, hK, hA, hR, hnL, hin0, hsm, hW2⟩ := C
  intro H locs ls hP hD hwf hS hl
  subst hnL
  exact lv_iinc (v := v) hx hb d hl hk (by rw [hn]; exact hv.symm) hi rfl (fun ls2 hl2 => kk H locs ls2 hP hD hwf hS (lv_sub hl2 ks0 h2))
theorem zc_dup (C : zOKc La K cc nL own Ts rm W2) {x : Nat} (d : decode cc pc = .ok (.dup, 1)) (kk : zGc La K N kc ks ad σ lv (pc + 1) (.ref x :: .ref x :: st)) : zGc La K N kc ks ad σ lv pc (.ref x :: st) := by
  obtain ⟨⟨p, l, e, R, s⟩, ⟨m, args, below, meth, c⟩, ⟨Q, cA, ad0, D, A⟩, nL', kc', ks'⟩ := K
  obtain ⟨hx, hb, hml, hr, hown, hts, hlk, hK, hA, hR, hnL, hin0, hsm, hW2⟩ := C
  intro H locs ls hP hD hwf hS hl
  exact lv_dup hx hb d rfl (kk H locs ls hP hD hwf hS hl)
theorem zc_goto (C : zOKc La K cc nL own Ts rm W2) {off : Int} {tgt : Nat} (d : decode cc pc = .ok (.goto off, 3)) (ht : (pc : Int) + off = (tgt : Int)) (kk : zGc La K N kc ks ad σ lv tgt st) : zGc La K N kc ks ad σ lv pc st := by
  obtain ⟨⟨p, l, e, R, s⟩, ⟨m, args, below, meth, c⟩, ⟨Q, cA, ad0, D, A⟩, nL', kc', ks'⟩ := K
  obtain ⟨hx, hb, hml, hr, hown, hts, hlk, hK, hA, hR, hnL, hin0, hsm, hW2⟩ := C
  intro H locs ls hP hD hwf hS hl
  exact lv_goto hx hb d ht (kk H locs ls hP hD hwf hS hl)
theorem zc_icmp_ge (C : zOKc La K cc nL own Ts rm W2) {x y : Int32} {off : Int} {tgt : Nat} (d : decode cc pc = .ok (.if_icmp .ge off, 3)) (ht : (pc : Int) + off = (tgt : Int)) (kt : y ≤ x → zGc La K N kc ks ad σ lv tgt st) (kf : ¬ y ≤ x → zGc La K N kc ks ad σ lv (pc + 3) st) : zGc La K N kc ks ad σ lv pc (.int y :: .int x :: st) := by
  obtain ⟨⟨p, l, e, R, s⟩, ⟨m, args, below, meth, c⟩, ⟨Q, cA, ad0, D, A⟩, nL', kc', ks'⟩ := K
  obtain ⟨hx, hb, hml, hr, hown, hts, hlk, hK, hA, hR, hnL, hin0, hsm, hW2⟩ := C
  intro H locs ls hP hD hwf hS hl
  exact lv_icmp_ge hx hb d ht (fun h => kt h H locs ls hP hD hwf hS hl) (fun h => kf h H locs ls hP hD hwf hS hl)
theorem zc_obj (C : zOKc La K cc nL own Ts rm W2) {x i : Nat} (h1 : Cond.methodLink own i Lib.objectInit ∈ Ts) (h2 : Cond.instanceMethod Lib.objectInit ∈ Ts) (h3 : Cond.code Lib.objectInit ⟨#[0xb1]⟩ 1 none ∈ Ts) (hf : 1 ≤ rm.frames) (hlo : (st.map fun v => v.category).sum + 12 ≤ rm.locals) (d : decode cc pc = .ok (.invokespecial i, 3)) (kk : zGc La K N kc ks ad σ lv (pc + 3) st) : zGc La K N kc ks ad σ lv pc (.ref x :: st) := by
  obtain ⟨⟨p, l, e, R, s⟩, ⟨m, args, below, meth, c⟩, ⟨Q, cA, ad0, D, A⟩, nL', kc', ks'⟩ := K
  obtain ⟨hx, hb, hml, hr, hown, hts, hlk, hK, hA, hR, hnL, hin0, hsm, hW2⟩ := C
  intro H locs ls hP hD hwf hS hl
  subst hR; subst hnL
  have hmr : 2 * (F0 m pc ls (.ref x :: st)).monitorRoom + (st.map fun v => v.category).sum + 12 ≤ R.locals := by
    have : (F0 m pc ls (.ref x :: st)).monitorRoom = 0 := rfl
    omega
  refine W.objInit hx hb hown (hts _ h1) (hts _ h2) (hts _ h3) rfl (by rw [hml]; exact hl.1) rfl d hf hmr ?_
  exact (kk H locs ls hP hD hwf hS hl)
theorem zc_getb (C : zOKc La K cc nL own Ts rm W2) {k ci : Nat} {cs : List Nat} (hk : k < N) (hL : La k = .inr (ci, cs)) {Cn : String} {T : u_T} {n idx : Nat} (hc : vwCl[ci]? = some (Cn, T, n)) (j : Nat) (hj : j < n) (hcs : cs[j]? = some 1) (hin : ∀ w ∈ u_ws Cn T n, w ∈ Ts) (hlink : Cond.fieldLink own idx (T j).1 (T j).2.1 (T j).2.2.1 ∈ Ts) {b : Nat} (hb2 : b < 2 ^ 31) (hbk : σ k j = nI b) (d : decode cc pc = .ok (.getfield idx, 3)) (kk : zGc La K N kc ks ad σ lv (pc + 3) (.ref (ad b) :: st)) : zGc La K N kc ks ad σ lv pc (.ref (ad k) :: st) := by
  obtain ⟨⟨p, l, e, R, s⟩, ⟨m, args, below, meth, c⟩, ⟨Q, cA, ad0, D, A⟩, nL', kc', ks'⟩ := K
  obtain ⟨hx, hb, hml, hr, hown, hts, hlk, hK, hA, hR, hnL, hin0, hsm, hW2⟩ := C
  intro H locs ls hP hD hwf hS hl
  refine va_get hx hb hts hin hown hK hP k (zwm_obj hk hL) hc j hj (hts _ hlink) (fun _ h9 => h9) (v := .ref (ad b)) ?_ d (kk H locs ls hP hD hwf hS hl)
  rw [zfv_get cs 0 j _ hcs, Nat.zero_add]
  show some (zrv ad (σ k j)) = _
  rw [hbk, zrv, if_neg (nI_pos hb2), nI_clamp hb2]
theorem zc_putb (C : zOKc La K cc nL own Ts rm W2) {k ci : Nat} {cs : List Nat} (hk : k < N) (hL : La k = .inr (ci, cs)) {Cn : String} {T : u_T} {n idx : Nat} (hc : vwCl[ci]? = some (Cn, T, n)) (j : Nat) (hj : j < n) (hcs : cs[j]? = some 1) (hin : ∀ w ∈ u_ws Cn T n, w ∈ Ts) (hlink : Cond.fieldLink own idx (T j).1 (T j).2.1 (T j).2.2.1 ∈ Ts) (ty0 : Nat → FieldType) (hty : ∀ k, k < n → parseFieldDescriptor (T k).2.2.1 = some (ty0 k)) (hnm : ∀ a, a < n → ∀ b, b < n → a ≠ b → (T a).2.1 ≠ (T b).2.1) (hfin : (T j).2.2.2 = false) {b : Nat} {Cr : String} (h0 : ty0 j = .object Cr) (hbN : b < N) (hb2 : b < 2 ^ 31) (d : decode cc pc = .ok (.putfield idx, 3)) (kk : zGc La K N kc ks ad (sto σ k j (nI b)) lv (pc + 3) st) : zGc La K N kc ks ad σ lv pc (.ref (ad b) :: .ref (ad k) :: st) := by
  obtain ⟨⟨p, l, e, R, s⟩, ⟨m, args, below, meth, c⟩, ⟨Q, cA, ad0, D, A⟩, nL', kc', ks'⟩ := K
  obtain ⟨hx, hb, hml, hr, hown, hts, hlk, hK, hA, hR, hnL, hin0, hsm, hW2⟩ := C
  intro H locs ls hP hD hwf hS hl
  refine va_put hx hb hts hin ty0 hty hnm hown hK hP hD hS k (zwm_obj hk hL) hc j hj (hts _ hlink) (fun _ h9 => h9) hfin (ty := .object Cr) ((hty j hj).trans (congrArg some h0)) rfl rfl (by rw [zfv_len]; exact (List.getElem?_eq_some_iff.mp hcs).1) d (fun H1 locs1 hP1 hD1 hS1 => ?_)
  rw [zwm_sto_fld (c := 1) (x := (nI b)) hL hcs (by simp only [zcd, zrv]; rw [pk_us, if_neg (nI_pos hb2), nI_clamp hb2])] at hP1 hD1
  exact kk H1 locs1 ls hP1 hD1 (zwf_sto hwf (fun ci2 cs2 e1 e2 => Or.inr (by rw [nI_clamp hb2]; exact hbN))) hS1 hl
theorem zc_putFb (C : zOKc La K cc nL own Ts rm W2) {k ci : Nat} {cs : List Nat} (hk : k < N) (hL : La k = .inr (ci, cs)) {Cn : String} {T : u_T} {n idx : Nat} (hc : vwCl[ci]? = some (Cn, T, n)) (j : Nat) (hj : j < n) (hcs : cs[j]? = some 1) (hin : ∀ w ∈ u_ws Cn T n, w ∈ Ts) (hlink : Cond.fieldLink own idx (T j).1 (T j).2.1 (T j).2.2.1 ∈ Ts) (ty0 : Nat → FieldType) (hty : ∀ k, k < n → parseFieldDescriptor (T k).2.2.1 = some (ty0 k)) (hnm : ∀ a, a < n → ∀ b, b < n → a ≠ b → (T a).2.1 ≠ (T b).2.1) (hfin : (T j).2.2.2 = true) (hdecl : (T j).1 = own) {b : Nat} {Cr : String} (h0 : ty0 j = .object Cr) (hbN : b < N) (hb2 : b < 2 ^ 31) (d : decode cc pc = .ok (.putfield idx, 3)) (kk : zGc La K N kc ks ad (sto σ k j (nI b)) lv (pc + 3) st) : zGc La K N kc ks ad σ lv pc (.ref (ad b) :: .ref (ad k) :: st) := by
  obtain ⟨⟨p, l, e, R, s⟩, ⟨m, args, below, meth, c⟩, ⟨Q, cA, ad0, D, A⟩, nL', kc', ks'⟩ := K
  obtain ⟨hx, hb, hml, hr, hown, hts, hlk, hK, hA, hR, hnL, hin0, hsm, hW2⟩ := C
  intro H locs ls hP hD hwf hS hl
  refine va_putF hx hb hts hin ty0 hty hnm hown hK hP hD hS k (zwm_obj hk hL) hc j hj (hts _ hlink) (fun _ h9 => h9) hfin hin0 hdecl (ty := .object Cr) ((hty j hj).trans (congrArg some h0)) rfl rfl (by rw [zfv_len]; exact (List.getElem?_eq_some_iff.mp hcs).1) d (fun H1 locs1 hP1 hD1 hS1 => ?_)
  rw [zwm_sto_fld (c := 1) (x := (nI b)) hL hcs (by simp only [zcd, zrv]; rw [pk_us, if_neg (nI_pos hb2), nI_clamp hb2])] at hP1 hD1
  exact kk H1 locs1 ls hP1 hD1 (zwf_sto hwf (fun ci2 cs2 e1 e2 => Or.inr (by rw [nI_clamp hb2]; exact hbN))) hS1 hl
theorem zc_putFa (C : zOKc La K cc nL own Ts rm W2) {k ci : Nat} {cs : List Nat} (hk : k < N) (hL : La k = .inr (ci, cs)) {Cn : String} {T : u_T} {n idx : Nat} (hc : vwCl[ci]? = some (Cn, T, n)) (j : Nat) (hj : j < n) (hcs : cs[j]? = some 1) (hin : ∀ w ∈ u_ws Cn T n, w ∈ Ts) (hlink : Cond.fieldLink own idx (T j).1 (T j).2.1 (T j).2.2.1 ∈ Ts) (ty0 : Nat → FieldType) (hty : ∀ k, k < n → parseFieldDescriptor (T k).2.2.1 = some (ty0 k)) (hnm : ∀ a, a < n → ∀ b, b < n → a ≠ b → (T a).2.1 ≠ (T b).2.1) (hfin : (T j).2.2.2 = true) (hdecl : (T j).1 = own) {b : Nat} {Cr : FieldType} (h0 : ty0 j = .array Cr) (hbN : b < N) (hb2 : b < 2 ^ 31) (d : decode cc pc = .ok (.putfield idx, 3)) (kk : zGc La K N kc ks ad (sto σ k j (nI b)) lv (pc + 3) st) : zGc La K N kc ks ad σ lv pc (.ref (ad b) :: .ref (ad k) :: st) := by
  obtain ⟨⟨p, l, e, R, s⟩, ⟨m, args, below, meth, c⟩, ⟨Q, cA, ad0, D, A⟩, nL', kc', ks'⟩ := K
  obtain ⟨hx, hb, hml, hr, hown, hts, hlk, hK, hA, hR, hnL, hin0, hsm, hW2⟩ := C
  intro H locs ls hP hD hwf hS hl
  refine va_putF hx hb hts hin ty0 hty hnm hown hK hP hD hS k (zwm_obj hk hL) hc j hj (hts _ hlink) (fun _ h9 => h9) hfin hin0 hdecl (ty := .array Cr) ((hty j hj).trans (congrArg some h0)) rfl rfl (by rw [zfv_len]; exact (List.getElem?_eq_some_iff.mp hcs).1) d (fun H1 locs1 hP1 hD1 hS1 => ?_)
  rw [zwm_sto_fld (c := 1) (x := (nI b)) hL hcs (by simp only [zcd, zrv]; rw [pk_us, if_neg (nI_pos hb2), nI_clamp hb2])] at hP1 hD1
  exact kk H1 locs1 ls hP1 hD1 (zwf_sto hwf (fun ci2 cs2 e1 e2 => Or.inr (by rw [nI_clamp hb2]; exact hbN))) hS1 hl
theorem zc_puti (C : zOKc La K cc nL own Ts rm W2) {k ci : Nat} {cs : List Nat} (hk : k < N) (hL : La k = .inr (ci, cs)) {Cn : String} {T : u_T} {n idx : Nat} (hc : vwCl[ci]? = some (Cn, T, n)) (j : Nat) (hj : j < n) (hcs : cs[j]? = some 0) (hin : ∀ w ∈ u_ws Cn T n, w ∈ Ts) (hlink : Cond.fieldLink own idx (T j).1 (T j).2.1 (T j).2.2.1 ∈ Ts) (ty0 : Nat → FieldType) (hty : ∀ k, k < n → parseFieldDescriptor (T k).2.2.1 = some (ty0 k)) (hnm : ∀ a, a < n → ∀ b, b < n → a ≠ b → (T a).2.1 ≠ (T b).2.1) (hfin : (T j).2.2.2 = false) {x : Int32} (h0 : ty0 j = .int) (d : decode cc pc = .ok (.putfield idx, 3)) (kk : zGc La K N kc ks ad (sto σ k j x) lv (pc + 3) st) : zGc La K N kc ks ad σ lv pc (.int x :: .ref (ad k) :: st) := by
  obtain ⟨⟨p, l, e, R, s⟩, ⟨m, args, below, meth, c⟩, ⟨Q, cA, ad0, D, A⟩, nL', kc', ks'⟩ := K
  obtain ⟨hx, hb, hml, hr, hown, hts, hlk, hK, hA, hR, hnL, hin0, hsm, hW2⟩ := C
  intro H locs ls hP hD hwf hS hl
  refine va_put hx hb hts hin ty0 hty hnm hown hK hP hD hS k (zwm_obj hk hL) hc j hj (hts _ hlink) (fun _ h9 => h9) hfin (ty := .int) ((hty j hj).trans (congrArg some h0)) rfl rfl (by rw [zfv_len]; exact (List.getElem?_eq_some_iff.mp hcs).1) d (fun H1 locs1 hP1 hD1 hS1 => ?_)
  rw [zwm_sto_fld (c := 0) (x := x) hL hcs (by simp only [zcd, zrv]; rw [pk_us])] at hP1 hD1
  exact kk H1 locs1 ls hP1 hD1 (zwf_sto hwf (fun ci2 cs2 e1 e2 => by rw [hL] at e1; cases e1; rw [hcs] at e2; cases e2)) hS1 hl
theorem zc_iast (C : zOKc La K cc nL own Ts rm W2) {k n : Nat} (hk : k < N) (hL : La k = .inl (0, n)) {i x : Int32} (hi : zin i n = true) (d : decode cc pc = .ok (.iastore, 1)) (kk : zGc La K N kc ks ad (sto σ k i.toNatClampNeg x) lv (pc + 1) st) : zGc La K N kc ks ad σ lv pc (.int x :: .int i :: .ref (ad k) :: st) := by
  obtain ⟨⟨p, l, e, R, s⟩, ⟨m, args, below, meth, c⟩, ⟨Q, cA, ad0, D, A⟩, nL', kc', ks'⟩ := K
  obtain ⟨hx, hb, hml, hr, hown, hts, hlk, hK, hA, hR, hnL, hin0, hsm, hW2⟩ := C
  intro H locs ls hP hD hwf hS hl
  refine va_iast hx hb hK hP hD hS k 0 (zwm_arr hk hL) rfl (zin_vp hi) d (fun H1 locs1 hP1 hD1 hS1 => ?_)
  rw [zwm_sto_arr hL] at hP1 hD1
  exact kk H1 locs1 ls hP1 hD1 (zwf_sto hwf (fun ci2 cs2 e1 e2 => by rw [hL] at e1; cases e1)) hS1 hl
theorem zc_newa (C : zOKc La K cc nL own Ts rm W2) {atype : ArrayType} {t n : Nat} {ty : FieldType} {x : Int32} (hL : La N = .inl (t, n)) (hty : newarray.typeOf atype = ty) (htt : ∀ cA : Nat → ClassId, (zty cA)[t]? = some (cA t, ty)) (hobj : ∀ Cr, ty ≠ .object Cr) (hdv : ∀ c : ClassId, vp_cell c (n, .inl (fun _ => 0)) = arrV c n (fun _ => defaultValue ty)) (hw : Cond.arrayClass ty ∈ Ts) (hn : ¬ x < 0) (hN : x.toNatClampNeg = n) (hbytes : n * componentBytes ty ≤ 536870912) (hrc : kc + 1 ≤ rm.cells) (hrs : ks + n ≤ rm.slots) (lvf : (Nat → Nat) → List (Nat × Value)) (stf : (Nat → Nat) → List Value) (hlv : lvf ad = lv) (hst : stf ad = st) (hex : ∀ ad2 : Nat → Nat, (∀ i, i < N → ad2 i = ad i) → lvf ad2 = lvf ad ∧ stf ad2 = stf ad) (d : decode cc pc = .ok (.newarray atype, 2)) (kk : ∀ ad2 : Nat → Nat, (∀ i, i < N → ad2 i = ad i) → zGc La K (N + 1) (kc + 1) (ks + n) ad2 (zal La σ N) (lvf ad2) (pc + 2) (.ref (ad2 N) :: stf ad2)) : zGc La K N kc ks ad σ lv pc (.int x :: st) := by
  obtain ⟨⟨p, l, e, R, s⟩, ⟨m, args, below, meth, c⟩, ⟨Q, cA, ad0, D, A⟩, nL', kc', ks'⟩ := K
  obtain ⟨hx, hb, hml, hr, hown, hts, hlk, hK, hA, hR, hnL, hin0, hsm, hW2⟩ := C
  intro H locs ls hP hD hwf hS hl
  subst hR
  subst hty
  refine va_newa hx hb (hts _ hw) rfl hK hP hD hS hA (a0 := (n, .inl (fun _ => 0))) hdv hn hN hbytes hrc hrs d (fun q c0 H1 hK1 hP1 hD1 hS1 => ?_)
  have hra := (hK1.2 (zty cA).length (c0, newarray.typeOf atype) (by simp)).2
  have hra2 := (hK.2 t _ (htt cA)).2
  have hcc : c0 = cA t := by
    have f1 : s.vm.findClass ("[" ++ (newarray.typeOf atype).toString) = some c0 := by
      cases atype <;> exact hra
    have f2 : s.vm.findClass ("[" ++ (newarray.typeOf atype).toString) = some (cA t) := by
      cases atype <;> exact hra2
    rw [f1] at f2
    exact Option.some.inj f2
  subst hcc
  have he : zen La cA (va_up ad N q) (zal La σ N) N = (q, .inl (cA t, n, .inl (fun _ => 0))) := by
    unfold zen zal va_up sg0
    rw [if_pos rfl, hL]
    simp only [if_pos]
  rw [zwm_push hsm hwf he] at hP1 hD1
  have hag : ∀ i, i < N → va_up ad N q i = ad i := fun i hi => by unfold va_up; rw [if_neg (Nat.ne_of_lt hi)]
  have hq : va_up ad N q N = q := by unfold va_up; rw [if_pos rfl]
  have k1 := kk (va_up ad N q) hag H1 locs ls hP1 hD1 (zwf_push hwf) hS1 (by rw [(hex _ hag).1, hlv]; exact hl)
  rw [hq, (hex _ hag).2, hst] at k1
  exact k1
theorem zc_new (C : zOKc La K cc nL own Ts rm W2) {ci n idx : Nat} {cs : List Nat} {Cn : String} {T : u_T} (hL : La N = .inr (ci, cs)) (hc : vwCl[ci]? = some (Cn, T, n)) (ty0 : Nat → FieldType) (hty : ∀ k, k < n → parseFieldDescriptor (T k).2.2.1 = some (ty0 k)) (hin : ∀ w ∈ u_ws Cn T n, w ∈ Ts) (h1 : Cond.classLink own idx Cn ∈ Ts) (h2 : Cond.instantiable Cn n ∈ Ts) (h3 : Cond.initialized Cn ∈ Ts) (hfs : ∀ (a2 : Nat → Nat) (j : Nat), j < n → defaultValue (ty0 j) = vp_V (zfv a2 (sg0 La N) 0 cs) j) (hrc : kc + 1 ≤ rm.cells) (hrs : ks + n ≤ rm.slots) (lvf : (Nat → Nat) → List (Nat × Value)) (stf : (Nat → Nat) → List Value) (hlv : lvf ad = lv) (hst : stf ad = st) (hex : ∀ ad2 : Nat → Nat, (∀ i, i < N → ad2 i = ad i) → lvf ad2 = lvf ad ∧ stf ad2 = stf ad) (d : decode cc pc = .ok (.new idx, 3)) (kk : ∀ ad2 : Nat → Nat, (∀ i, i < N → ad2 i = ad i) → zGc La K (N + 1) (kc + 1) (ks + n) ad2 (zal La σ N) (lvf ad2) (pc + 3) (.ref (ad2 N) :: stf ad2)) : zGc La K N kc ks ad σ lv pc st := by
  obtain ⟨⟨p, l, e, R, s⟩, ⟨m, args, below, meth, c⟩, ⟨Q, cA, ad0, D, A⟩, nL', kc', ks'⟩ := K
  obtain ⟨hx, hb, hml, hr, hown, hts, hlk, hK, hA, hR, hnL, hin0, hsm, hW2⟩ := C
  intro H locs ls hP hD hwf hS hl
  subst hR
  refine va_new (fs := zfv ad (sg0 La N) 0 cs) hx hb hts hin ty0 hty hown (hts _ h1) (hts _ h2) (hts _ h3) hK hP hD hS hA hc (hfs ad) hrc hrs d (fun q H1 hP1 hD1 hS1 => ?_)
  have hag : ∀ i, i < N → va_up ad N q i = ad i := fun i hi => by unfold va_up; rw [if_neg (Nat.ne_of_lt hi)]
  have hq : va_up ad N q N = q := by unfold va_up; rw [if_pos rfl]
  have he : zen La cA (va_up ad N q) (zal La σ N) N = (q, .inr (ci, zfv ad (sg0 La N) 0 cs)) := by
    unfold zen
    rw [hq, hL]
    have hz : zal La σ N N = sg0 La N := by unfold zal; rw [if_pos rfl]
    rw [hz]
    simp only
    congr 3
    refine zfv_cong2 cs 0 (fun j c2 hj => ?_)
    rw [Nat.zero_add]
    rcases hsm N ci cs j c2 hL hj with rfl | rfl
    · rfl
    · have hv : sg0 La N j = -1 := by unfold sg0; rw [hL]; simp only; rw [if_pos hj]
      show zrv _ (sg0 La N j) = zrv _ (sg0 La N j)
      unfold zrv
      rw [hv, if_pos (by decide), if_pos (by decide)]
  rw [zwm_push hsm hwf he] at hP1 hD1
  have k1 := kk (va_up ad N q) hag H1 locs ls hP1 hD1 (zwf_push hwf) hS1 (by rw [(hex _ hag).1, hlv]; exact hl)
  rw [hq, (hex _ hag).2, hst] at k1
  exact k1
theorem zc_call (C : zOKc La K cc nL own Ts rm W2) {y : MethodName} {ws ws' : List Cond} {rmc : Room} {bytes : ByteArray} {maxL idx n k mc ms N' : Nat} {as stk : List Value} {σ' : Mem} (hM : zCc [] La (zl K) (zw K).1 (zw K).2.2.1 y ws rmc (.ref (ad k) :: as) N ad σ N' σ' mc ms) (hw : ws = .code y bytes maxL none :: ws') (hG : GoodIn Ts ws) (hrc : rmc.cells = mc) (hrs : rmc.slots = ms) (h1 : Cond.initialized y.cls ∈ Ts) (h2 : Cond.methodLink own idx y ∈ Ts) (h3 : Cond.instanceMethod y ∈ Ts) (hi : y.name = "<init>") (hd : y.cls ≠ "java/lang/invoke/MethodHandle" ∧ y.cls ≠ "java/lang/invoke/VarHandle" ∧ (parseMethodDescriptor y.desc).map (fun d => d.parameters.length) = some n) (hn : as.length = n) (hRm : rmc.frames + 1 ≤ rm.frames ∧ 8 + (maxL + 11) + rmc.locals ≤ rm.locals) (hkc : kc + mc ≤ rm.cells) (hks : ks + ms ≤ rm.slots) (hcat : (st.map fun v => v.category).sum ≤ 8) (lvf : (Nat → Nat) → List (Nat × Value)) (stf : (Nat → Nat) → List Value) (hlv : lvf ad = lv) (hst : stf ad = st) (hex : ∀ ad2 : Nat → Nat, (∀ i, i < N → ad2 i = ad i) → lvf ad2 = lvf ad ∧ stf ad2 = stf ad) (d : decode cc pc = .ok (.invokespecial idx, 3)) (hstk : stk = as.reverse ++ .ref (ad k) :: st) (kk : ∀ ad2 : Nat → Nat, (∀ i, i < N → ad2 i = ad i) → zGc La K N' (kc + mc) (ks + ms) ad2 σ' (lvf ad2) (pc + 3) (stf ad2)) : zGc La K N kc ks ad σ lv pc stk := by
  obtain ⟨⟨p, l, e, R, s⟩, ⟨m, args, below, meth, c⟩, ⟨Q, cA, ad0, D, A⟩, nL', kc', ks'⟩ := K
  obtain ⟨hx, hb, hml, hr, hown, hts, hlk, hK, hA, hR, hnL, hin0, hsm, hW2⟩ := C
  intro H locs ls hP hD hwf hS hl
  subst hnL; subst hstk; subst hR
  have hfr : ∀ q, va_A (zwm La N cA ad σ) H.size q → A q := by
    intro q h
    rcases h with ⟨k2, e2, h⟩ | h
    · exact hD.2 k2 _ h
    · exact hA q (Nat.le_trans hS.1 h)
  refine va_callv (va_runI (As := as) (rest := st) ⟨hx, hb, hml, hown, hts⟩ (hM H.size) (cwI n hts hG hw hrc hrs (hts _ h1) (hts _ h2) (hts _ h3) hi hd hRm) ⟨fun a U g mk q => ⟨q.1, q.2.1, q.2.2.1, va_K.moved (u := U) (U := U.calling g mk a) (Vm.Alike.refl U.vm) q.2.2.2.1, q.2.2.2.2.1, q.2.2.2.2.2.1, fun w hw => by cases hw⟩, fun U hU hW => ⟨rfl, by rw [hU], by rw [hU]; exact hP, va_K.moved hW.alike hK, hD.weaken (fun _ _ _ _ => trivial), hwf, fun w hw => by cases hw⟩⟩ rfl hn hl.1 rfl (lv_room hcat) d ⟨hkc, hks⟩) hS (fun q _ h => hfr q h) hfr (fun ad2 t H1 locs1 ht hvm hw1 hB hz1 hk1 hS1 => ?_)
  obtain ⟨hP1, hD1, hwf1⟩ := hB
  rw [ht] at hP1
  have k1 := kk ad2 hw1 H1 locs1 ls hP1 (hD1.weaken (fun _ q _ h => hfr q.1 h)) hwf1 hS1 (by rw [(hex _ hw1).1, hlv]; exact hl)
  rw [(hex _ hw1).2, hst] at k1
  exact k1
theorem zc_callN (C : zOKc La K cc nL own Ts rm W2) {y : MethodName} {ws ws' : List Cond} {rmc : Room} {bytes : ByteArray} {maxL idx n k mc ms N' : Nat} {host : String} {as stk : List Value} {σ' : Mem} (hM : zCc [] La (zl K) (zw K).1 (zw K).2.2.1 y ws rmc (.ref (ad k) :: as) N ad σ N' σ' mc ms) (hw : ws = .code y bytes maxL none :: ws') (hG : GoodIn Ts ws) (hrc : rmc.cells = mc) (hrs : rmc.slots = ms) (h1 : Cond.initialized y.cls ∈ Ts) (h2 : Cond.methodLinkNest own idx y host ∈ W2) (h3 : Cond.instanceMethod y ∈ Ts) (hi : y.name = "<init>") (hd : y.cls ≠ "java/lang/invoke/MethodHandle" ∧ y.cls ≠ "java/lang/invoke/VarHandle" ∧ (parseMethodDescriptor y.desc).map (fun d => d.parameters.length) = some n) (hn : as.length = n) (hRm : rmc.frames + 1 ≤ rm.frames ∧ 8 + (maxL + 11) + rmc.locals ≤ rm.locals) (hkc : kc + mc ≤ rm.cells) (hks : ks + ms ≤ rm.slots) (hcat : (st.map fun v => v.category).sum ≤ 8) (lvf : (Nat → Nat) → List (Nat × Value)) (stf : (Nat → Nat) → List Value) (hlv : lvf ad = lv) (hst : stf ad = st) (hex : ∀ ad2 : Nat → Nat, (∀ i, i < N → ad2 i = ad i) → lvf ad2 = lvf ad ∧ stf ad2 = stf ad) (d : decode cc pc = .ok (.invokespecial idx, 3)) (hstk : stk = as.reverse ++ .ref (ad k) :: st) (kk : ∀ ad2 : Nat → Nat, (∀ i, i < N → ad2 i = ad i) → zGc La K N' (kc + mc) (ks + ms) ad2 σ' (lvf ad2) (pc + 3) (stf ad2)) : zGc La K N kc ks ad σ lv pc stk := by
  obtain ⟨⟨p, l, e, R, s⟩, ⟨m, args, below, meth, c⟩, ⟨Q, cA, ad0, D, A⟩, nL', kc', ks'⟩ := K
  obtain ⟨hx, hb, hml, hr, hown, hts, hlk, hK, hA, hR, hnL, hin0, hsm, hW2⟩ := C
  intro H locs ls hP hD hwf hS hl
  subst hnL; subst hstk; subst hR
  have hfr : ∀ q, va_A (zwm La N cA ad σ) H.size q → A q := by
    intro q h
    rcases h with ⟨k2, e2, h⟩ | h
    · exact hD.2 k2 _ h
    · exact hA q (Nat.le_trans hS.1 h)
  refine va_callv (va_runIN (As := as) (rest := st) ⟨hx, hb, hml, hown, hts⟩ (hM H.size) ⟨va_cnB n hts hG hw hrc hrs (hW2 _ h2) (hts _ h1) hd hRm, hi, hts _ h3⟩ ⟨fun a U g mk q => ⟨q.1, q.2.1, q.2.2.1, va_K.moved (u := U) (U := U.calling g mk a) (Vm.Alike.refl U.vm) q.2.2.2.1, q.2.2.2.2.1, q.2.2.2.2.2.1, fun w hw => by cases hw⟩, fun U hU hW => ⟨rfl, by rw [hU], by rw [hU]; exact hP, va_K.moved hW.alike hK, hD.weaken (fun _ _ _ _ => trivial), hwf, fun w hw => by cases hw⟩⟩ rfl hn hl.1 rfl (lv_room hcat) d ⟨hkc, hks⟩) hS (fun q _ h => hfr q h) hfr (fun ad2 t H1 locs1 ht hvm hw1 hB hz1 hk1 hS1 => ?_)
  obtain ⟨hP1, hD1, hwf1⟩ := hB
  rw [ht] at hP1
  have k1 := kk ad2 hw1 H1 locs1 ls hP1 (hD1.weaken (fun _ q _ h => hfr q.1 h)) hwf1 hS1 (by rw [(hex _ hw1).1, hlv]; exact hl)
  rw [(hex _ hw1).2, hst] at k1
  exact k1
end ZCROWS
