/-! A module's memory: cell k, place j; its layout; its world; a judgement over it -/
abbrev Mem : Type := Nat → Nat → Int32
def sto (σ : Mem) (k j : Nat) (x : Int32) : Mem := fun a => if a = k then upd (σ a) j x else σ a
theorem sto_same {σ : Mem} {k j : Nat} {x : Int32} : sto σ k j x k = upd (σ k) j x := if_pos rfl
theorem sto_other {σ : Mem} {k j a : Nat} {x : Int32} (h : a ≠ k) : sto σ k j x a = σ a := if_neg h
abbrev Lay : Type := Nat → (Nat × Nat) ⊕ (Nat × List Nat)
def zrv (ad : Nat → Nat) (x : Int32) : Value := if x < 0 then .null else .ref (ad x.toNatClampNeg)
def zcd (ad : Nat → Nat) (f : Nat → Int32) (j c : Nat) : Value := match c with
  | 0 => .int (f j)
  | 1 => zrv ad (f j)
  | t + 2 => .ref (ad t)
def zfv (ad : Nat → Nat) (f : Nat → Int32) : Nat → List Nat → List Value
  | _, [] => []
  | j, c :: cs => zcd ad f j c :: zfv ad f (j + 1) cs
theorem zfv_get {ad : Nat → Nat} {f : Nat → Int32} : ∀ (cs : List Nat) (b j c : Nat), cs[j]? = some c → (zfv ad f b cs)[j]? = some (zcd ad f (b + j) c)
  | [], b, j, c, h => by simp at h
  | c0 :: cs, b, 0, c, h => by
    simp at h
    subst h
    rfl
  | c0 :: cs, b, j + 1, c, h => by
    have h1 : cs[j]? = some c := by simpa using h
    have h2 := zfv_get (ad := ad) (f := f) cs (b + 1) j c h1
    rw [show b + (j + 1) = b + 1 + j by omega]
    simpa [zfv] using h2
theorem zfv_len {ad : Nat → Nat} {f : Nat → Int32} : ∀ (cs : List Nat) (b : Nat), (zfv ad f b cs).length = cs.length
  | [], _ => rfl
  | c :: cs, b => by simp [zfv, zfv_len cs (b + 1)]
theorem zfv_cong {ad : Nat → Nat} {f g : Nat → Int32} : ∀ (cs : List Nat) (b : Nat), (∀ j c, cs[j]? = some c → zcd ad f (b + j) c = zcd ad g (b + j) c) → zfv ad f b cs = zfv ad g b cs
  | [], _, _ => rfl
  | c :: cs, b, h => by
    have h0 := h 0 c (by simp)
    have h1 := zfv_cong (f := f) (g := g) cs (b + 1) (fun j c' hj => by
      have := h (j + 1) c' (by simpa using hj)
      rwa [show b + (j + 1) = b + 1 + j by omega] at this)
    simp only [zfv]
    rw [show b = b + 0 from rfl, h0, show b + 0 = b from rfl, h1]
theorem zfv_set {ad : Nat → Nat} {f g : Nat → Int32} {v : Value} : ∀ (cs : List Nat) (b j c : Nat), cs[j]? = some c → (∀ i c', cs[i]? = some c' → i ≠ j → zcd ad g (b + i) c' = zcd ad f (b + i) c') → zcd ad g (b + j) c = v → (zfv ad f b cs).set j v = zfv ad g b cs
  | [], b, j, c, h, _, _ => by simp at h
  | c0 :: cs, b, 0, c, h, ho, hv => by
    simp at h
    subst h
    simp only [zfv, List.set_cons_zero]
    rw [show b = b + 0 from rfl, hv]
    congr 1
    exact zfv_cong cs (b + 1) (fun j c' hj => by
      have := ho (j + 1) c' (by simpa using hj) (by omega)
      rw [show b + 1 + j = b + (j + 1) by omega]
      exact this.symm)
  | c0 :: cs, b, j + 1, c, h, ho, hv => by
    simp only [zfv, List.set_cons_succ]
    have h0 := ho 0 c0 (by simp) (by omega)
    rw [show b = b + 0 from rfl, h0, show b + 0 = b from rfl]
    congr 1
    refine zfv_set cs (b + 1) j c (by simpa using h) (fun i c' hi hne => ?_) ?_
    · have := ho (i + 1) c' (by simpa using hi) (by omega)
      rwa [show b + 1 + i = b + (i + 1) by omega]
    · rwa [show b + 1 + j = b + (j + 1) by omega]
theorem zcd_upd {ad : Nat → Nat} {f : Nat → Int32} {j i c : Nat} {x : Int32} (h : i ≠ j) : zcd ad (upd f j x) i c = zcd ad f i c := by
  match c with
  | 0 => simp only [zcd]; rw [pk_un h]
  | 1 => simp only [zcd]; rw [pk_un h]
  | t + 2 => rfl
/-- the entry of cell k -/
def zen (La : Lay) (cA : Nat → ClassId) (ad : Nat → Nat) (σ : Mem) (k : Nat) : Nat × va_E := (ad k, match La k with
  | .inl a => .inl (cA a.1, a.2, .inl (σ k))
  | .inr o => .inr (o.1, zfv ad (σ k) 0 o.2))
def zwm (La : Lay) (N : Nat) (cA : Nat → ClassId) (ad : Nat → Nat) (σ : Mem) : va_W := (List.range N).map (zen La cA ad σ)
theorem zwm_get {La : Lay} {N : Nat} {cA : Nat → ClassId} {ad : Nat → Nat} {σ : Mem} {k : Nat} (h : k < N) : (zwm La N cA ad σ)[k]? = some (zen La cA ad σ k) := by
  simp [zwm, h]
theorem zwm_lt {La : Lay} {N : Nat} {cA : Nat → ClassId} {ad : Nat → Nat} {σ : Mem} {k : Nat} {q : Nat × va_E} (h : (zwm La N cA ad σ)[k]? = some q) : k < N ∧ q = zen La cA ad σ k := by
  rcases Nat.lt_or_ge k N with h1 | h1
  · rw [zwm_get h1] at h
    exact ⟨h1, (Option.some.inj h).symm⟩
  · rw [List.getElem?_eq_none (by simpa [zwm] using h1)] at h
    cases h
theorem zwm_arr {La : Lay} {N : Nat} {cA : Nat → ClassId} {ad : Nat → Nat} {σ : Mem} {k t n : Nat} (h : k < N) (hL : La k = .inl (t, n)) : (zwm La N cA ad σ)[k]? = some (ad k, .inl (cA t, n, .inl (σ k))) := by
  rw [zwm_get h, zen, hL]
theorem zwm_obj {La : Lay} {N : Nat} {cA : Nat → ClassId} {ad : Nat → Nat} {σ : Mem} {k ci : Nat} {cs : List Nat} (h : k < N) (hL : La k = .inr (ci, cs)) : (zwm La N cA ad σ)[k]? = some (ad k, .inr (ci, zfv ad (σ k) 0 cs)) := by
  rw [zwm_get h, zen, hL]
theorem zwm_set {La : Lay} {N : Nat} {cA : Nat → ClassId} {ad : Nat → Nat} {σ τ : Mem} {k : Nat} {q : Nat × va_E} (hs : zen La cA ad τ k = q) (ho : ∀ a, a ≠ k → zen La cA ad τ a = zen La cA ad σ a) : (zwm La N cA ad σ).set k q = zwm La N cA ad τ := by
  refine List.ext_getElem? fun i => ?_
  rcases Nat.lt_or_ge i N with h1 | h1
  · rw [List.getElem?_set]
    by_cases hi : k = i
    · subst hi
      have h2 : k < (zwm La N cA ad σ).length := by simpa [zwm] using h1
      rw [if_pos rfl, if_pos h2, zwm_get h1, hs]
    · rw [if_neg hi, zwm_get h1, zwm_get h1, ho i (fun e => hi e.symm)]
  · rw [List.getElem?_eq_none (by simpa [zwm] using h1), List.getElem?_eq_none (by simpa [zwm] using h1)]
theorem zen_sto {La : Lay} {cA : Nat → ClassId} {ad : Nat → Nat} {σ : Mem} {k j a : Nat} {x : Int32} (h : a ≠ k) : zen La cA ad (sto σ k j x) a = zen La cA ad σ a := by
  simp only [zen, sto_other h]
theorem zwm_sto_arr {La : Lay} {N : Nat} {cA : Nat → ClassId} {ad : Nat → Nat} {σ : Mem} {k t n j : Nat} {x : Int32} (hL : La k = .inl (t, n)) : (zwm La N cA ad σ).set k (ad k, .inl (cA t, n, .inl (upd (σ k) j x))) = zwm La N cA ad (sto σ k j x) :=
  zwm_set (by rw [zen, hL, sto_same]) (fun _ h => zen_sto h)
theorem zwm_sto_fld {La : Lay} {N : Nat} {cA : Nat → ClassId} {ad : Nat → Nat} {σ : Mem} {k ci j c : Nat} {cs : List Nat} {x : Int32} {v : Value} (hL : La k = .inr (ci, cs)) (hc : cs[j]? = some c) (hv : zcd ad (upd (σ k) j x) j c = v) : (zwm La N cA ad σ).set k (ad k, .inr (ci, (zfv ad (σ k) 0 cs).set j v)) = zwm La N cA ad (sto σ k j x) := by
  refine zwm_set ?_ (fun _ h => zen_sto h)
  rw [zen, hL, sto_same]
  rw [zfv_set (g := upd (σ k) j x) cs 0 j c hc (fun i c' _ hne => by rw [Nat.zero_add]; exact zcd_upd hne) (by rw [Nat.zero_add]; exact hv)]
/-! the judgement -/
abbrev ZW : Type := (Nat → ClassId) × (Nat → Nat) × va_G × (Nat → Prop)
abbrev ZK : Type := (Program × Launch × Env × Room × State) × (MethodId × Array Value × List Frame × Method × Code) × ((State → Prop) × ZW) × Nat × Nat × Nat
abbrev ZM : Type := Lay × Nat × ((Nat → Nat) → (Nat → Prop) → State → Prop)
def zw (K : ZK) : ZW := K.2.2.1.2
def zl (K : ZK) : Launch := K.1.2.1
def zty (cA : Nat → ClassId) : List (ClassId × FieldType) := [(cA 0, .int), (cA 1, .boolean), (cA 2, .byte)]
def zGo (M : ZM) (K : ZK) (σ : Mem) (lv : List (Nat × Value)) (pc : Nat) (st : List Value) : Prop :=
  match K with
  | ((p, l, e, R, s), (m, args, below, meth, c), (Q, cA, ad, D, A), nL, kc, ks) => ∀ (H : Heap) (locs : List Loc) (ls : Array Slot), va_P D vwCl (zwm M.1 M.2.1 cA ad σ) H → va_S A s.heap H locs → lv_has ls nL lv → W p l e R s m args below meth c H locs kc ks Q (F0 m pc ls st)
/-- what stands beside the world, and stays while nothing outside A is written -/
def zXok (M : ZM) : Prop := (∀ (ad : Nat → Nat) (A : Nat → Prop) (s U : State), M.2.2 ad A s → s.WarmedH U.vm → s.heap.size ≤ U.heap.size → (∀ q : Nat, q < s.heap.size → ¬ A q → U.heap[q]? = s.heap[q]?) → M.2.2 ad A U) ∧ ∀ (ad : Nat → Nat) (A : Nat → Prop) (U : State) (g : JFrame) (mk : MethodId) (a : Array Value), M.2.2 ad A U → M.2.2 ad A (U.calling g mk a)
def zOK (M : ZM) (K : ZK) (cc : ByteArray) (nL : Nat) (ret : Option FieldType) (own : String) (Ts : List Cond) (rm : Room) : Prop :=
  match K with
  | ((p, l, e, R, s), (m, args, below, meth, c), (Q, cA, ad, D, A), nL', kc, ks) => p.tables.exec = Jvm.exec ∧ c.code = cc ∧ c.maxLocals = nL ∧ meth.sig.returnType = ret ∧ s.vm.findClass own = some m.cls ∧ (∀ w ∈ Ts, w.before args s = true) ∧ meth.locks = false ∧ va_K D vwCl (zty cA) s ∧ (∀ σ : Mem, va_D A (zwm M.1 M.2.1 cA ad σ)) ∧ R = rm ∧ nL' = nL ∧ zXok M ∧ M.2.2 ad A s ∧ kc ≤ R.cells ∧ ks ≤ R.slots
def zPre (M : ZM) (w : ZW) (σ : Mem) (U : State) : Prop := va_P w.2.2.1 vwCl (zwm M.1 M.2.1 w.1 w.2.1 σ) U.heap ∧ va_K w.2.2.1 vwCl (zty w.1) U ∧ (∀ τ : Mem, va_D w.2.2.2 (zwm M.1 M.2.1 w.1 w.2.1 τ)) ∧ M.2.2 w.2.1 w.2.2.2 U
def zCi (M : ZM) (l : Launch) (w : ZW) (y : MethodName) (ws : List Cond) (rm : Room) (as : List Value) (σ σ' : Mem) (r : Int32) : Prop :=
  Met l y ws rm (va_Pc as (zPre M w σ)) (va_Qi (fun (r1 : Int32) (τ : Mem) => r1 = r ∧ τ = σ') (fun τ t => zPre M w τ t) w.2.2.2) 0 0 w.2.2.2
def zCv (M : ZM) (l : Launch) (w : ZW) (y : MethodName) (ws : List Cond) (rm : Room) (as : List Value) (σ σ' : Mem) : Prop :=
  Met l y ws rm (va_Pc as (zPre M w σ)) (va_Qv (fun (τ : Mem) => τ = σ') (fun τ t => zPre M w τ t) w.2.2.2) 0 0 w.2.2.2
def zRi (M : ZM) (K : ZK) (cc : ByteArray) (σ : Mem) (r : Int32) : Prop := ∀ (lv : List (Nat × Value)) (pc : Nat), decode cc pc = .ok (.ireturn, 1) → zGo M K σ lv pc [.int r]
def zRz (M : ZM) (K : ZK) (cc : ByteArray) (σ : Mem) (r : Int32) : Prop := ∀ (lv : List (Nat × Value)) (pc : Nat), decode cc pc = .ok (.ireturn, 1) → (r = 0 ∨ r = 1) → zGo M K σ lv pc [.int r]
def zRv (M : ZM) (K : ZK) (cc : ByteArray) (σ : Mem) : Prop := ∀ (lv : List (Nat × Value)) (pc : Nat), decode cc pc = .ok (.return_, 1) → zGo M K σ lv pc []
/-! entries -/
theorem z_met_i {M : ZM} {l : Launch} {w : ZW} {y : MethodName} {ws ws' : List Cond} {rm : Room} {cc : ByteArray} {nL : Nat} {own : String} {as : List Value} {σ σ' : Mem} {r : Int32}
    (hXm : zXok M) (hy : plainName y.cls = true) (hw : ws = .code y cc nL (some .int) :: ws') (ho : y.cls = own)
    (hn : (lg_sl as).length ≤ nL)
    (body : ∀ K : ZK, zOK M K cc nL (some .int) own ws rm → zw K = w → zl K = l → zRi M K cc σ' r → zGo M K σ (lv_args 0 as) 0 []) : zCi M l w y ws rm as σ σ' r := by
  obtain ⟨cA, ad, D, A⟩ := w
  refine Met.ofW (cc := cc) (maxL := nL) (ret := some .int) hy hw ?_
  intro p e s m args below meth c s₁ B hml hv
  obtain ⟨rfl, hP, hK, hD, hXx⟩ := hv
  have hx := B.exec
  have hb := B.bytes
  have hr := B.returns
  have hts := atoms_spec (ws := ws) B.pre
  have hown : s.vm.findClass own = some m.cls := by rw [← ho]; exact findClass_of_methodNamed B.named
  have hlocks := B.notSynchronized
  have hl := lv_entry as (n := nL) hn
  rw [lg_entry_eq]
  generalize (lg_sl as ++ List.replicate (nL - (lg_sl as).length) Slot.unset).toArray = ls at hl ⊢
  have hfin : ∀ (H : Heap) (locs : List Loc), va_P D vwCl (zwm M.1 M.2.1 cA ad σ') H → va_S A s.heap H locs → ∀ t : State, t.heap = H → s.WarmedH t.vm → va_Qi (fun (r1 : Int32) (τ : Mem) => r1 = r ∧ τ = σ') (fun τ t => zPre M (cA, ad, D, A) τ t) A as.toArray s (.returned (some (.int r))) t := by
    intro H locs hP1 hS t ht hW
    refine ⟨⟨r, σ', rfl, ⟨rfl, rfl⟩, by rw [ht]; exact hP1, va_K.moved hW.alike hK, hD, ?_⟩, hS.F ht⟩
    exact hXm.1 ad A s t hXx hW (by rw [ht]; exact hS.1) (fun q h1 h2 => by rw [ht]; exact hS.2.1 q h1 h2)
  refine body ((p, l, e, (headSpec ws rm).room, s), (m, as.toArray, below, meth, c), (MQ below (va_Qi (fun (r1 : Int32) (τ : Mem) => r1 = r ∧ τ = σ') (fun τ t => zPre M (cA, ad, D, A) τ t) A) as.toArray s 0 0 A, cA, ad, D, A), nL, 0, 0) ⟨hx, hb, hml, hr, hown, hts, hlocks, hK, hD, rfl, rfl, hXm, hXx, Nat.zero_le _, Nat.zero_le _⟩ rfl rfl ?_ s.heap [] ls hP va_S.rf hl
  intro lv pc hdg H locs ls1 hP1 hS hl1
  exact W.iret hx hb hr (hfin H locs hP1 hS) hS.2.2 hdg hlocks
theorem z_met_z {M : ZM} {l : Launch} {w : ZW} {y : MethodName} {ws ws' : List Cond} {rm : Room} {cc : ByteArray} {nL : Nat} {own : String} {as : List Value} {σ σ' : Mem} {r : Int32}
    (hXm : zXok M) (hy : plainName y.cls = true) (hw : ws = .code y cc nL (some .boolean) :: ws') (ho : y.cls = own)
    (hn : (lg_sl as).length ≤ nL)
    (body : ∀ K : ZK, zOK M K cc nL (some .boolean) own ws rm → zw K = w → zl K = l → zRz M K cc σ' r → zGo M K σ (lv_args 0 as) 0 []) : zCi M l w y ws rm as σ σ' r := by
  obtain ⟨cA, ad, D, A⟩ := w
  refine Met.ofW (cc := cc) (maxL := nL) (ret := some .boolean) hy hw ?_
  intro p e s m args below meth c s₁ B hml hv
  obtain ⟨rfl, hP, hK, hD, hXx⟩ := hv
  have hx := B.exec
  have hb := B.bytes
  have hr := B.returns
  have hts := atoms_spec (ws := ws) B.pre
  have hown : s.vm.findClass own = some m.cls := by rw [← ho]; exact findClass_of_methodNamed B.named
  have hlocks := B.notSynchronized
  have hl := lv_entry as (n := nL) hn
  rw [lg_entry_eq]
  generalize (lg_sl as ++ List.replicate (nL - (lg_sl as).length) Slot.unset).toArray = ls at hl ⊢
  have hfin : ∀ (H : Heap) (locs : List Loc), va_P D vwCl (zwm M.1 M.2.1 cA ad σ') H → va_S A s.heap H locs → ∀ t : State, t.heap = H → s.WarmedH t.vm → va_Qi (fun (r1 : Int32) (τ : Mem) => r1 = r ∧ τ = σ') (fun τ t => zPre M (cA, ad, D, A) τ t) A as.toArray s (.returned (some (.int r))) t := by
    intro H locs hP1 hS t ht hW
    refine ⟨⟨r, σ', rfl, ⟨rfl, rfl⟩, by rw [ht]; exact hP1, va_K.moved hW.alike hK, hD, ?_⟩, hS.F ht⟩
    exact hXm.1 ad A s t hXx hW (by rw [ht]; exact hS.1) (fun q h1 h2 => by rw [ht]; exact hS.2.1 q h1 h2)
  refine body ((p, l, e, (headSpec ws rm).room, s), (m, as.toArray, below, meth, c), (MQ below (va_Qi (fun (r1 : Int32) (τ : Mem) => r1 = r ∧ τ = σ') (fun τ t => zPre M (cA, ad, D, A) τ t) A) as.toArray s 0 0 A, cA, ad, D, A), nL, 0, 0) ⟨hx, hb, hml, hr, hown, hts, hlocks, hK, hD, rfl, rfl, hXm, hXx, Nat.zero_le _, Nat.zero_le _⟩ rfl rfl ?_ s.heap [] ls hP va_S.rf hl
  intro lv pc hdg hz H locs ls1 hP1 hS hl1
  exact W.zret hx hb hr (by rcases hz with rfl | rfl <;> rfl) (hfin H locs hP1 hS) hS.2.2 hdg hlocks
theorem z_met_v {M : ZM} {l : Launch} {w : ZW} {y : MethodName} {ws ws' : List Cond} {rm : Room} {cc : ByteArray} {nL : Nat} {own : String} {as : List Value} {σ σ' : Mem}
    (hXm : zXok M) (hy : plainName y.cls = true) (hw : ws = .code y cc nL none :: ws') (ho : y.cls = own)
    (hn : (lg_sl as).length ≤ nL)
    (body : ∀ K : ZK, zOK M K cc nL none own ws rm → zw K = w → zl K = l → zRv M K cc σ' → zGo M K σ (lv_args 0 as) 0 []) : zCv M l w y ws rm as σ σ' := by
  obtain ⟨cA, ad, D, A⟩ := w
  refine Met.ofW (cc := cc) (maxL := nL) (ret := none) hy hw ?_
  intro p e s m args below meth c s₁ B hml hv
  obtain ⟨rfl, hP, hK, hD, hXx⟩ := hv
  have hx := B.exec
  have hb := B.bytes
  have hr := B.returns
  have hts := atoms_spec (ws := ws) B.pre
  have hown : s.vm.findClass own = some m.cls := by rw [← ho]; exact findClass_of_methodNamed B.named
  have hlocks := B.notSynchronized
  have hl := lv_entry as (n := nL) hn
  rw [lg_entry_eq]
  generalize (lg_sl as ++ List.replicate (nL - (lg_sl as).length) Slot.unset).toArray = ls at hl ⊢
  refine body ((p, l, e, (headSpec ws rm).room, s), (m, as.toArray, below, meth, c), (MQ below (va_Qv (fun (τ : Mem) => τ = σ') (fun τ t => zPre M (cA, ad, D, A) τ t) A) as.toArray s 0 0 A, cA, ad, D, A), nL, 0, 0) ⟨hx, hb, hml, hr, hown, hts, hlocks, hK, hD, rfl, rfl, hXm, hXx, Nat.zero_le _, Nat.zero_le _⟩ rfl rfl ?_ s.heap [] ls hP va_S.rf hl
  intro lv pc hdg H locs ls1 hP1 hS hl1
  refine W.vret hx hb hr (fun t ht hW => ?_) hS.2.2 hdg hlocks
  refine ⟨⟨σ', rfl, rfl, by rw [ht]; exact hP1, va_K.moved hW.alike hK, hD, ?_⟩, hS.F ht⟩
  exact hXm.1 ad A s t hXx hW (by rw [ht]; exact hS.1) (fun q h1 h2 => by rw [ht]; exact hS.2.1 q h1 h2)
