/-! rows for what is read beside the own cells -/
def clo (i : Nat) : Int32 := ([99, 108, 111, 115, 101, 100] : List Int32).getD i 0
section ZXROWS
variable {K : ZK} {cc : ByteArray} {nL : Nat} {ret : Option FieldType} {own : String} {Ts : List Cond} {rm : Room} {σ : Mem} {lv : List (Nat × Value)} {pc : Nat} {st : List Value}
theorem z_gapt (C : zOK MX K cc nL ret own Ts rm) {i : Nat} (hlink : Cond.fieldLink own i "ShapeJudge$Judge" "APART" "[I" ∈ Ts) (d : decode cc pc = .ok (.getstatic i, 3)) (kk : zGo MX K σ lv (pc + 3) (.ref ((zw K).2.1 100) :: st)) : zGo MX K σ lv pc st := by
  obtain ⟨⟨p, l, e, R, s⟩, ⟨m, args, below, meth, c⟩, ⟨Q, cA, ad, D, A⟩, nL', kc0, ks0⟩ := K
  obtain ⟨hx, hb, hml, hr, hown, hts, hlk, hK, hD, hR, hnL, hXm, hXx, hkc, hks⟩ := C
  obtain ⟨hZ, hT, hvR, hvS, hZc, hZq⟩ := id hXx
  intro H locs ls hP hS hl
  exact va_gets hx hb hZ hS hown (hts _ hlink) (fun _ h9 => h9) d (kk H locs ls hP hS hl)
theorem z_aptl (C : zOK MX K cc nL ret own Ts rm) {i : Int32} (hi : zin i 32 = true) (d : decode cc pc = .ok (.iaload, 1)) (kk : zGo MX K σ lv (pc + 1) (.int (apt i.toNatClampNeg) :: st)) : zGo MX K σ lv pc (.int i :: .ref ((zw K).2.1 100) :: st) := by
  obtain ⟨⟨p, l, e, R, s⟩, ⟨m, args, below, meth, c⟩, ⟨Q, cA, ad, D, A⟩, nL', kc0, ks0⟩ := K
  obtain ⟨hx, hb, hml, hr, hown, hts, hlk, hK, hD, hR, hnL, hXm, hXx, hkc, hks⟩ := C
  obtain ⟨hZ, hT, hvR, hvS, hZc, hZq⟩ := id hXx
  intro H locs ls hP hS hl
  exact va_ti hx hb hT hS (zin_vp hi) rfl d (kk H locs ls hP hS hl)
theorem z_aptn (C : zOK MX K cc nL ret own Ts rm) (d : decode cc pc = .ok (.arraylength, 1)) (kk : zGo MX K σ lv (pc + 1) (.int 32 :: st)) : zGo MX K σ lv pc (.ref ((zw K).2.1 100) :: st) := by
  obtain ⟨⟨p, l, e, R, s⟩, ⟨m, args, below, meth, c⟩, ⟨Q, cA, ad, D, A⟩, nL', kc0, ks0⟩ := K
  obtain ⟨hx, hb, hml, hr, hown, hts, hlk, hK, hD, hR, hnL, hXm, hXx, hkc, hks⟩ := C
  obtain ⟨hZ, hT, hvR, hvS, hZc, hZq⟩ := id hXx
  intro H locs ls hP hS hl
  exact va_tlen hx hb hT hS rfl d (kk H locs ls hP hS hl)
theorem z_gcom (C : zOK MX K cc nL ret own Ts rm) {i : Nat} (hlink : Cond.fieldLink own i "java/lang/String" "COMPACT_STRINGS" "Z" ∈ Ts) (d : decode cc pc = .ok (.getstatic i, 3)) (kk : zGo MX K σ lv (pc + 3) (.int 1 :: st)) : zGo MX K σ lv pc st := by
  obtain ⟨⟨p, l, e, R, s⟩, ⟨m, args, below, meth, c⟩, ⟨Q, cA, ad, D, A⟩, nL', kc0, ks0⟩ := K
  obtain ⟨hx, hb, hml, hr, hown, hts, hlk, hK, hD, hR, hnL, hXm, hXx, hkc, hks⟩ := C
  obtain ⟨hZ, hT, hvR, hvS, hZc, hZq⟩ := id hXx
  intro H locs ls hP hS hl
  exact va_gets hx hb hZc hS hown (hts _ hlink) (fun _ h9 => h9) d (kk H locs ls hP hS hl)
theorem z_gfmt (C : zOK MX K cc nL ret own Ts rm) {i : Nat} (hlink : Cond.fieldLink own i "jdk/internal/util/Preconditions" "SIOOBE_FORMATTER" "Ljava/util/function/BiFunction;" ∈ Ts) (d : decode cc pc = .ok (.getstatic i, 3)) (kk : ∀ v : Value, (v = .null ∨ ∃ t : Nat, v = .ref t) → zGo MX K σ lv (pc + 3) (v :: st)) : zGo MX K σ lv pc st := by
  obtain ⟨⟨p, l, e, R, s⟩, ⟨m, args, below, meth, c⟩, ⟨Q, cA, ad, D, A⟩, nL', kc0, ks0⟩ := K
  obtain ⟨hx, hb, hml, hr, hown, hts, hlk, hK, hD, hR, hnL, hXm, hXx, hkc, hks⟩ := C
  obtain ⟨hZ, hT, hvR, hvS, hZc, hZq⟩ := id hXx
  intro H locs ls hP hS hl
  rcases hZq with h | ⟨t, h⟩
  · exact va_gets hx hb h hS hown (hts _ hlink) (fun _ h9 => h9) d (kk _ (Or.inl rfl) H locs ls hP hS hl)
  · exact va_gets hx hb h hS hown (hts _ hlink) (fun _ h9 => h9) d (kk _ (Or.inr ⟨t, rfl⟩) H locs ls hP hS hl)
theorem z_ldcs (C : zOK MX K cc nL ret own Ts rm) (ho : own = "ShapeJudge$Tokens") (d : decode cc pc = .ok (.ldc 47, 2)) (kk : zGo MX K σ lv (pc + 2) (.ref ((zw K).2.1 101) :: st)) : zGo MX K σ lv pc st := by
  obtain ⟨⟨p, l, e, R, s⟩, ⟨m, args, below, meth, c⟩, ⟨Q, cA, ad, D, A⟩, nL', kc0, ks0⟩ := K
  obtain ⟨hx, hb, hml, hr, hown, hts, hlk, hK, hD, hR, hnL, hXm, hXx, hkc, hks⟩ := C
  obtain ⟨hZ, hT, hvR, hvS, hZc, hZq⟩ := id hXx
  intro H locs ls hP hS hl
  subst ho
  exact va_ldcS hx hb hown hvR d (kk H locs ls hP hS hl)
theorem z_strv (C : zOK MX K cc nL ret own Ts rm) {i : Nat} (hlink : Cond.fieldLink own i "java/lang/String" "value" "[B" ∈ Ts) (d : decode cc pc = .ok (.getfield i, 3)) (kk : zGo MX K σ lv (pc + 3) (.ref ((zw K).2.1 102) :: st)) : zGo MX K σ lv pc (.ref ((zw K).2.1 101) :: st) := by
  obtain ⟨⟨p, l, e, R, s⟩, ⟨m, args, below, meth, c⟩, ⟨Q, cA, ad, D, A⟩, nL', kc0, ks0⟩ := K
  obtain ⟨hx, hb, hml, hr, hown, hts, hlk, hK, hD, hR, hnL, hXm, hXx, hkc, hks⟩ := C
  obtain ⟨hZ, hT, hvR, hvS, hZc, hZq⟩ := id hXx
  intro H locs ls hP hS hl
  exact vk_getf hx hb (hvS.1 0 (by decide)).2.2.1 hS hown (hts _ hlink) (fun _ h9 => h9) d (kk H locs ls hP hS hl)
theorem z_strc (C : zOK MX K cc nL ret own Ts rm) {i : Nat} (hlink : Cond.fieldLink own i "java/lang/String" "coder" "B" ∈ Ts) (d : decode cc pc = .ok (.getfield i, 3)) (kk : zGo MX K σ lv (pc + 3) (.int 0 :: st)) : zGo MX K σ lv pc (.ref ((zw K).2.1 101) :: st) := by
  obtain ⟨⟨p, l, e, R, s⟩, ⟨m, args, below, meth, c⟩, ⟨Q, cA, ad, D, A⟩, nL', kc0, ks0⟩ := K
  obtain ⟨hx, hb, hml, hr, hown, hts, hlk, hK, hD, hR, hnL, hXm, hXx, hkc, hks⟩ := C
  obtain ⟨hZ, hT, hvR, hvS, hZc, hZq⟩ := id hXx
  intro H locs ls hP hS hl
  exact vk_getf hx hb (hvS.1 0 (by decide)).2.1 hS hown (hts _ hlink) (fun _ h9 => h9) d (kk H locs ls hP hS hl)
theorem z_strl (C : zOK MX K cc nL ret own Ts rm) {i : Int32} (hi : zin i 6 = true) (d : decode cc pc = .ok (.baload, 1)) (kk : zGo MX K σ lv (pc + 1) (.int (clo i.toNatClampNeg) :: st)) : zGo MX K σ lv pc (.int i :: .ref ((zw K).2.1 102) :: st) := by
  obtain ⟨⟨p, l, e, R, s⟩, ⟨m, args, below, meth, c⟩, ⟨Q, cA, ad, D, A⟩, nL', kc0, ks0⟩ := K
  obtain ⟨hx, hb, hml, hr, hown, hts, hlk, hK, hD, hR, hnL, hXm, hXx, hkc, hks⟩ := C
  obtain ⟨hZ, hT, hvR, hvS, hZc, hZq⟩ := id hXx
  intro H locs ls hP hS hl
  exact va_tb hx hb (hvS.1 0 (by decide)).2.2.2 hS (zin_vp hi) rfl d (kk H locs ls hP hS hl)
theorem z_strn (C : zOK MX K cc nL ret own Ts rm) (d : decode cc pc = .ok (.arraylength, 1)) (kk : zGo MX K σ lv (pc + 1) (.int 6 :: st)) : zGo MX K σ lv pc (.ref ((zw K).2.1 102) :: st) := by
  obtain ⟨⟨p, l, e, R, s⟩, ⟨m, args, below, meth, c⟩, ⟨Q, cA, ad, D, A⟩, nL', kc0, ks0⟩ := K
  obtain ⟨hx, hb, hml, hr, hown, hts, hlk, hK, hD, hR, hnL, hXm, hXx, hkc, hks⟩ := C
  obtain ⟨hZ, hT, hvR, hvS, hZc, hZq⟩ := id hXx
  intro H locs ls hP hS hl
  exact va_tlen hx hb (hvS.1 0 (by decide)).2.2.2 hS rfl d (kk H locs ls hP hS hl)
theorem z_i2c (C : zOK MX K cc nL ret own Ts rm) {x : Int32} (d : decode cc pc = .ok (.i2c, 1)) (kk : zGo MX K σ lv (pc + 1) (.int (x.toUInt32 % 65536).toInt32 :: st)) : zGo MX K σ lv pc (.int x :: st) := by
  obtain ⟨⟨p, l, e, R, s⟩, ⟨m, args, below, meth, c⟩, ⟨Q, cA, ad, D, A⟩, nL', kc0, ks0⟩ := K
  obtain ⟨hx, hb, hml, hr, hown, hts, hlk, hK, hD, hR, hnL, hXm, hXx, hkc, hks⟩ := C
  obtain ⟨hZ, hT, hvR, hvS, hZc, hZq⟩ := id hXx
  intro H locs ls hP hS hl
  exact lv_i2c hx hb d rfl (kk H locs ls hP hS hl)
theorem z_max (C : zOK MX K cc nL ret own Ts rm) {i : Nat} {x y : Int32} (h1 : Cond.methodLink own i Lib.Math.max.name ∈ Ts) (h2 : Cond.static Lib.Math.max.name ∈ Ts) (h3 : Cond.initialized "java/lang/Math" ∈ Ts) (h4 : Cond.code Lib.Math.max.name Lib.Math.max.code 2 (some .int) ∈ Ts) (hf : 1 ≤ rm.frames) (hlo : (st.map fun v => v.category).sum + 13 ≤ rm.locals) (d : decode cc pc = .ok (.invokestatic i, 3)) (kk : zGo MX K σ lv (pc + 3) (.int (if x < y then y else x) :: st)) : zGo MX K σ lv pc (.int y :: .int x :: st) := by
  obtain ⟨⟨p, l, e, R, s⟩, ⟨m, args, below, meth, c⟩, ⟨Q, cA, ad, D, A⟩, nL', kc0, ks0⟩ := K
  obtain ⟨hx, hb, hml, hr, hown, hts, hlk, hK, hD, hR, hnL, hXm, hXx, hkc, hks⟩ := C
  obtain ⟨hZ, hT, hvR, hvS, hZc, hZq⟩ := id hXx
  intro H locs ls hP hS hl
  subst hR; subst hnL
  exact va_mmax hx hb (hml.trans hl.1.symm) hown (hts _ h1) (hts _ h2) (hts _ h3) (hts _ h4) hf hlo hkc hks d (kk H locs ls hP hS hl)
theorem z_cVs (C : zOK MX K cc nL ret own Ts rm) {y : MethodName} {ws ws' : List Cond} {rmc : Room} {bytes : ByteArray} {maxL idx : Nat} {retc : Option FieldType} {Cn : String} {n : Nat} {as stk : List Value} {σ' : Mem} {r : Int32} (hM : zCi MX (zl K) (zw K) y ws rmc (.ref ((zw K).2.1 101) :: as) σ σ' r) (hw : ws = .code y bytes maxL retc :: ws') (hG : GoodIn Ts (wsV own idx Cn y ws)) (hrc : rmc.cells = 0) (hrs : rmc.slots = 0) (hd : y.cls = Cn ∧ y.cls ≠ "java/lang/invoke/MethodHandle" ∧ y.cls ≠ "java/lang/invoke/VarHandle" ∧ (parseMethodDescriptor y.desc).map (fun d => d.parameters.length) = some n) (hn : as.length = n) (hq : Cn = "java/lang/String") (hRm : rmc.frames + 1 ≤ rm.frames ∧ 8 + (maxL + 11) + rmc.locals ≤ rm.locals) (hcat : (st.map fun v => v.category).sum ≤ 8) (d : decode cc pc = .ok (.invokevirtual idx, 3)) (hst : stk = as.reverse ++ .ref ((zw K).2.1 101) :: st) (kk : zGo MX K σ' lv (pc + 3) (.int r :: st)) : zGo MX K σ lv pc stk := by
  obtain ⟨⟨p, l, e, R, s⟩, ⟨m, args, below, meth, c⟩, ⟨Q, cA, ad, D, A⟩, nL', kc0, ks0⟩ := K
  obtain ⟨hx, hb, hml, hr, hown, hts, hlk, hK, hD, hR, hnL, hXm, hXx, hkc, hks⟩ := C
  intro H locs ls hP hS hl
  subst hnL; subst hst; subst hR
  refine va_calli (va_runV (As := as) (rest := st) ⟨hx, hb, hml, hown, hts⟩ hM (cwV n hts hG hw hrc hrs hd hRm) ⟨fun a U g mk q => ⟨q.1, q.2.1, va_K.moved (u := U) (U := U.calling g mk a) (Vm.Alike.refl U.vm) q.2.2.1, q.2.2.2.1, hXm.2 ad A U g mk a q.2.2.2.2⟩, ?_, fun U hU hW => ⟨rfl, by rw [hU]; exact hP, va_K.moved hW.alike hK, hD, hXm.1 ad A s U hXx hW (by rw [hU]; exact hS.1) (fun q h1 h2 => by rw [hU]; exact hS.2.1 q h1 h2)⟩⟩ rfl hn hl.1 rfl (lv_room hcat) d ⟨hkc, hks⟩) hS (fun q _ h => h) (fun q h => h) (fun r1 u t H1 locs1 ht hvm hw1 hB hz1 hk1 hS1 => ?_)
  · subst hq
    exact vk_recv (N := 1) (i := 0) (adK := fun _ => ad 101) hXx.2.2.2.1 (by decide) hS
  · obtain ⟨rfl, rfl⟩ := hw1
    have hP1 := hB.1
    rw [ht] at hP1
    exact kk H1 locs1 ls hP1 hS1 hl
end ZXROWS
def zRt (ty : FieldType) (M : ZM) (K : ZK) (cc : ByteArray) (σ : Mem) (r : Int32) : Prop := ∀ (lv : List (Nat × Value)) (pc : Nat), decode cc pc = .ok (.ireturn, 1) → narrow ty (.int r) = .int r → zGo M K σ lv pc [.int r]
theorem z_met_t {M : ZM} {ty : FieldType} {l : Launch} {w : ZW} {y : MethodName} {ws ws' : List Cond} {rm : Room} {cc : ByteArray} {nL : Nat} {own : String} {as : List Value} {σ σ' : Mem} {r : Int32}
    (hXm : zXok M) (hy : plainName y.cls = true) (hw : ws = .code y cc nL (some ty) :: ws') (ho : y.cls = own)
    (hn : (lg_sl as).length ≤ nL)
    (body : ∀ K : ZK, zOK M K cc nL (some ty) own ws rm → zw K = w → zl K = l → zRt ty M K cc σ' r → zGo M K σ (lv_args 0 as) 0 []) : zCi M l w y ws rm as σ σ' r := by
  obtain ⟨cA, ad, D, A⟩ := w
  refine Met.ofW (cc := cc) (maxL := nL) (ret := some ty) hy hw ?_
  intro p e s m args below meth c s₁ B hml hv
  obtain ⟨rfl, hP, hK, hD, hXx⟩ := hv
  have hx := B.exec
  have hb := B.bytes
  have hr := B.returns
  have hts := atoms_spec (ws := ws) B.pre
  have hown : s.vm.findClass own = some m.cls := by rw [← ho]; exact findClass_of_methodNamed B.named
  have hlocks := B.notSynchronized
  have hl := lv_entry as (n := nL) hn
  rw [lg_entry_eq]
  generalize (lg_sl as ++ List.replicate (nL - (lg_sl as).length) Slot.unset).toArray = ls at hl ⊢
  have hfin : ∀ (H : Heap) (locs : List Loc), va_P D vwCl (zwm M.1 M.2.1 cA ad σ') H → va_S A s.heap H locs → ∀ t : State, t.heap = H → s.WarmedH t.vm → va_Qi (fun (r1 : Int32) (τ : Mem) => r1 = r ∧ τ = σ') (fun τ t => zPre M (cA, ad, D, A) τ t) A as.toArray s (.returned (some (.int r))) t := by
    intro H locs hP1 hS t ht hW
    refine ⟨⟨r, σ', rfl, ⟨rfl, rfl⟩, by rw [ht]; exact hP1, va_K.moved hW.alike hK, hD, ?_⟩, hS.F ht⟩
    exact hXm.1 ad A s t hXx hW (by rw [ht]; exact hS.1) (fun q h1 h2 => by rw [ht]; exact hS.2.1 q h1 h2)
  refine body ((p, l, e, (headSpec ws rm).room, s), (m, as.toArray, below, meth, c), (MQ below (va_Qi (fun (r1 : Int32) (τ : Mem) => r1 = r ∧ τ = σ') (fun τ t => zPre M (cA, ad, D, A) τ t) A) as.toArray s 0 0 A, cA, ad, D, A), nL, 0, 0) ⟨hx, hb, hml, hr, hown, hts, hlocks, hK, hD, rfl, rfl, hXm, hXx, Nat.zero_le _, Nat.zero_le _⟩ rfl rfl ?_ s.heap [] ls hP va_S.rf hl
  intro lv pc hdg hz H locs ls1 hP1 hS hl1
  exact W.zret hx hb hr hz (hfin H locs hP1 hS) hS.2.2 hdg hlocks
