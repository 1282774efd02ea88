/-! the law: both modules in one world -/
def LaM0 : List Nat := [0, 3, 4, 5, 6, 7, 0, 0, 8, 9, 10, 11, 12, 13, 14, 15, 16, 17, 18, 19, 20, 0, 21, 22, 23, 24, 25, 26, 27, 28, 29, 30, 31, 32, 33, 34, 35, 0, 0, 0, 0, 0, 0, 0, 0, 36, 37, 38, 39, 40, 41, 42, 43, 0, 0, 44, 45]
def LaL : Lay := fun k => if k < 44 then LaX k else match LaM (k - 44) with
  | .inl a => .inl a
  | .inr o => .inr (o.1, o.2.map (fun c => if c < 2 then c else c + 44))
def jn (a b : Mem) : Mem := fun k => if k < 44 then a k else b (k - 44)
def ML : ZM := (LaL, 88, XX)
theorem ML_ok : zXok ML := MX_ok
def adM (ad : Nat → Nat) : Nat → Nat := fun k => ad (k + 44)
def wX (w : ZW) : ZW := (w.1, w.2.1, w.2.2.1, fun q => ∃ k, k < 44 ∧ q = w.2.1 k)
def wM (w : ZW) : ZW := (w.1, adM w.2.1, w.2.2.1, fun q => ∃ k, k < 44 ∧ q = adM w.2.1 k)
def zlo (La : Lay) : Prop := ∀ (k ci : Nat) (cs : List Nat), La k = .inr (ci, cs) → ∀ j : Nat, ¬ cs[j]? = some 1
theorem LaM_lo : ∀ (k ci : Nat) (cs : List Nat), k < 44 → LaM k = .inr (ci, cs) → ∀ c ∈ cs, c ≠ 1 := by
  intro k ci cs hk hL c hc
  by_cases h0 : k = 0
  · subst h0
    have h1 : cs = LaM0 := by
      have : LaM 0 = .inr (7, LaM0) := rfl
      rw [this] at hL
      cases hL
      rfl
    subst h1
    exact (by decide +kernel : ∀ c ∈ LaM0, c ≠ 1) c hc
  · exfalso
    revert hL
    revert cs
    revert ci
    rcases (show k = 1 ∨ k = 2 ∨ k = 3 ∨ k = 4 ∨ k = 5 ∨ k = 6 ∨ k = 7 ∨ k = 8 ∨ k = 9 ∨ k = 10 ∨ k = 11 ∨ k = 12 ∨ k = 13 ∨ k = 14 ∨ k = 15 ∨ k = 16 ∨ k = 17 ∨ k = 18 ∨ k = 19 ∨ k = 20 ∨ k = 21 ∨ k = 22 ∨ k = 23 ∨ k = 24 ∨ k = 25 ∨ k = 26 ∨ k = 27 ∨ k = 28 ∨ k = 29 ∨ k = 30 ∨ k = 31 ∨ k = 32 ∨ k = 33 ∨ k = 34 ∨ k = 35 ∨ k = 36 ∨ k = 37 ∨ k = 38 ∨ k = 39 ∨ k = 40 ∨ k = 41 ∨ k = 42 ∨ k = 43 by omega) with rfl | rfl | rfl | rfl | rfl | rfl | rfl | rfl | rfl | rfl | rfl | rfl | rfl | rfl | rfl | rfl | rfl | rfl | rfl | rfl | rfl | rfl | rfl | rfl | rfl | rfl | rfl | rfl | rfl | rfl | rfl | rfl | rfl | rfl | rfl | rfl | rfl | rfl | rfl | rfl | rfl | rfl | rfl <;> intro ci cs _ hL <;> cases hL
theorem zfv_shift {ad : Nat → Nat} {f : Nat → Int32} : ∀ (cs : List Nat) (b : Nat), (∀ c ∈ cs, c ≠ 1) → zfv ad f b (cs.map (fun c => if c < 2 then c else c + 44)) = zfv (adM ad) f b cs
  | [], _, _ => rfl
  | c :: cs, b, h => by
    have h1 := zfv_shift (ad := ad) (f := f) cs (b + 1) (fun c2 h2 => h c2 (List.mem_cons_of_mem _ h2))
    simp only [List.map_cons, zfv]
    rw [h1]
    congr 1
    match c, h c List.mem_cons_self with
    | 0, _ => rfl
    | 1, h2 => exact absurd rfl h2
    | t + 2, _ =>
      have h3 : ¬ (t + 2 < 2) := by omega
      rw [if_neg h3]
      rfl
theorem zwm_jn {cA : Nat → ClassId} {ad : Nat → Nat} {a b : Mem} : zwm LaL 88 cA ad (jn a b) = zwm LaX 44 cA ad a ++ zwm LaM 44 cA (adM ad) b := by
  refine List.ext_getElem? fun i => ?_
  have hl : (zwm LaX 44 cA ad a).length = 44 := by simp [zwm]
  rcases Nat.lt_or_ge i 44 with h1 | h1
  · rw [List.getElem?_append_left (by rw [hl]; exact h1), zwm_get (by omega), zwm_get h1]
    simp only [zen, LaL, jn, if_pos h1]
  · rw [List.getElem?_append_right (by rw [hl]; exact h1), hl]
    rcases Nat.lt_or_ge i 88 with h2 | h2
    · rw [zwm_get h2, zwm_get (by omega)]
      have h3 : ¬ i < 44 := by omega
      have h4 : i - 44 + 44 = i := by omega
      simp only [zen, LaL, jn, if_neg h3, adM, h4]
      cases hL : LaM (i - 44) with
      | inl x => rfl
      | inr x =>
        obtain ⟨ci, cs⟩ := x
        simp only
        rw [zfv_shift cs 0 (LaM_lo _ ci cs (by omega) hL)]
    · rw [List.getElem?_eq_none (by simpa [zwm] using h2), List.getElem?_eq_none (by simp [zwm]; omega)]
section ZLROWS
variable {K : ZK} {cc : ByteArray} {nL : Nat} {ret : Option FieldType} {own : String} {Ts : List Cond} {rm : Room} {σ : Mem} {lv : List (Nat × Value)} {pc : Nat} {st : List Value}
theorem z_slen (C : zOK ML K cc nL ret own Ts rm) {b L : Nat} {xs : Nat → Int32} (hX : va_X b L xs K.1.2.2.2.2 K.1.2.2.2.2.heap) (hbl : b < K.1.2.2.2.2.heap.size) (hbA : ¬ (zw K).2.2.2 b) (d : decode cc pc = .ok (.arraylength, 1)) (kk : zGo ML K σ lv (pc + 1) (.int (nI L) :: st)) : zGo ML K σ lv pc (.ref b :: st) := by
  obtain ⟨⟨p, l, e, R, s⟩, ⟨m, args, below, meth, c⟩, ⟨Q, cA, ad, D, A⟩, nL', kc0, ks0⟩ := K
  obtain ⟨hx, hb, hml, hr, hown, hts, hlk, hK, hD, hR, hnL, hXm, hXx, hkc, hks⟩ := C
  intro H locs ls hP hS hl
  exact va_slen hx hb hX hbl hbA hS d (kk H locs ls hP hS hl)
theorem z_sld (C : zOK ML K cc nL ret own Ts rm) {b L : Nat} {xs : Nat → Int32} (hX : va_X b L xs K.1.2.2.2.2 K.1.2.2.2.2.heap) (hbl : b < K.1.2.2.2.2.heap.size) (hbA : ¬ (zw K).2.2.2 b) {i : Int32} (hi : zin i L = true) (d : decode cc pc = .ok (.iaload, 1)) (kk : zGo ML K σ lv (pc + 1) (.int (xs i.toNatClampNeg) :: st)) : zGo ML K σ lv pc (.int i :: .ref b :: st) := by
  obtain ⟨⟨p, l, e, R, s⟩, ⟨m, args, below, meth, c⟩, ⟨Q, cA, ad, D, A⟩, nL', kc0, ks0⟩ := K
  obtain ⟨hx, hb, hml, hr, hown, hts, hlk, hK, hD, hR, hnL, hXm, hXx, hkc, hks⟩ := C
  intro H locs ls hP hS hl
  exact va_sld hx hb hX hbl hbA hS (zin_vp hi) d (kk H locs ls hP hS hl)
theorem zl_split {K : ZK} {cc : ByteArray} {nL : Nat} {ret : Option FieldType} {own : String} {Ts : List Cond} {rm : Room} (C : zOK ML K cc nL ret own Ts rm) : (∀ k, k < 88 → (zw K).2.2.2 ((zw K).2.1 k)) ∧ (∀ i j, i < 88 → j < 88 → (zw K).2.1 i = (zw K).2.1 j → i = j) := by
  obtain ⟨⟨p, l, e, R, s⟩, ⟨m, args, below, meth, c⟩, ⟨Q, cA, ad, D, A⟩, nL', kc0, ks0⟩ := K
  obtain ⟨hx, hb, hml, hr, hown, hts, hlk, hK, hD, hR, hnL, hXm, hXx, hkc, hks⟩ := C
  have h := hD (fun _ _ => 0)
  refine ⟨fun k hk => ?_, fun i j hi hj hij => ?_⟩
  · exact h.2 k _ (zwm_get hk)
  · exact h.1 i j _ _ (zwm_get hi) (zwm_get hj) hij
theorem z_lXi {σa σb : Mem} (C : zOK ML K cc nL ret own Ts rm) {y : MethodName} {ws ws' : List Cond} {rmc : Room} {bytes : ByteArray} {maxL idx : Nat} {retc : Option FieldType} {Cn : String} {n : Nat} {as stk : List Value} {σ' : Mem} {r : Int32} (hM : zCi MX (zl K) (wX (zw K)) y ws rmc (.ref ((zw K).2.1 0) :: as) σa σ' r) (hw : ws = .code y bytes maxL retc :: ws') (hG : GoodIn Ts (wsV own idx Cn y ws)) (hrc : rmc.cells = 0) (hrs : rmc.slots = 0) (hd : y.cls = Cn ∧ y.cls ≠ "java/lang/invoke/MethodHandle" ∧ y.cls ≠ "java/lang/invoke/VarHandle" ∧ (parseMethodDescriptor y.desc).map (fun d => d.parameters.length) = some n) (hn : as.length = n) (hq : Cn = RX6) (hRm : rmc.frames + 1 ≤ rm.frames ∧ 8 + (maxL + 11) + rmc.locals ≤ rm.locals) (hS0 : ∀ q, (zw K).2.2.2 q → K.1.2.2.2.2.heap.size ≤ q) (hcat : (st.map fun v => v.category).sum ≤ 8) (d : decode cc pc = .ok (.invokevirtual idx, 3)) (hst : stk = as.reverse ++ .ref ((zw K).2.1 0) :: st) (kk : zGo ML K (jn σ' σb) lv (pc + 3) (.int r :: st)) : zGo ML K (jn σa σb) lv pc stk := by
  have hsp := zl_split C
  have hne : ∀ k : Nat, k < 44 → (zw K).2.2.2 ((zw K).2.1 (k)) := fun k hk => hsp.1 _ (by omega)
  obtain ⟨⟨p, l, e, R, s⟩, ⟨m, args, below, meth, c⟩, ⟨Q, cA, ad, D, A⟩, nL', kc0, ks0⟩ := K
  obtain ⟨hx, hb, hml, hr, hown, hts, hlk, hK, hD, hR, hnL, hXm, hXx, hkc, hks⟩ := C
  intro H locs ls hP hS hl
  subst hnL; subst hst; subst hR
  have hPx : va_P D vwCl (zwm LaX 44 cA ad σa) H := fun k q hq => by
    refine hP k q ?_
    show (zwm LaL 88 cA ad (jn σa σb))[k]? = some q
    rw [zwm_jn, List.getElem?_append_left (List.getElem?_eq_some_iff.mp hq).1]
    exact hq
  have hPm : va_P D vwCl (zwm LaM 44 cA (adM ad) σb) H := fun k q hq => by
    refine hP (44 + k) q ?_
    show (zwm LaL 88 cA ad (jn σa σb))[44 + k]? = some q
    have hl : (zwm LaX 44 cA ad σa).length = 44 := by simp [zwm]
    rw [zwm_jn, List.getElem?_append_right (by rw [hl]; omega), hl, show 44 + k - 44 = k by omega]
    exact hq
  have hAA : ∀ q : Nat, (∃ k, k < 44 ∧ q = ad k) → A q := by
    rintro q ⟨k, hk, rfl⟩
    exact hne k hk
  have hDx : ∀ τ : Mem, va_D (fun q => ∃ k, k < 44 ∧ q = ad k) (zwm LaX 44 cA ad τ) := by
    intro τ
    refine ⟨fun i j p2 q2 hi hj hpq => ?_, fun k q2 hk => ?_⟩
    · obtain ⟨h1, rfl⟩ := zwm_lt hi
      obtain ⟨h2, rfl⟩ := zwm_lt hj
      have := hsp.2 _ _ (by omega) (by omega) (show ad (i) = ad (j) from hpq)
      omega
    · obtain ⟨h1, rfl⟩ := zwm_lt hk
      exact ⟨k, h1, rfl⟩
  have hXn : MX.2.2 ad (fun q => ∃ k, k < 44 ∧ q = ad k) s := ⟨hXx.1.narrow hAA, hXx.2.1.narrow hAA, hXx.2.2.1, hXx.2.2.2.1.narrow hAA, hXx.2.2.2.2.1.narrow hAA, hXx.2.2.2.2.2.narrow hAA⟩
  refine va_calli (va_runV (As := as) (rest := st) ⟨hx, hb, hml, hown, hts⟩ hM (cwV n hts hG hw hrc hrs hd hRm) ⟨fun a U g mk q => ⟨q.1, q.2.1, va_K.moved (u := U) (U := U.calling g mk a) (Vm.Alike.refl U.vm) q.2.2.1, q.2.2.2.1, MX_ok.2 _ _ U g mk a q.2.2.2.2⟩, ?_, fun U hU hW => ⟨rfl, by rw [hU]; exact hPx, va_K.moved hW.alike hK, hDx, MX_ok.1 _ _ s U hXn hW (by rw [hU]; exact hS.1) (fun q h1 h2 => by rw [hU]; exact (hS.2.1 q h1 (fun z => absurd (hS0 q z) (Nat.not_le.mpr h1))))⟩⟩ rfl hn hl.1 rfl (lv_room hcat) d ⟨hkc, hks⟩) hS (fun q _ h => hAA q h) (fun q h => hAA q h) (fun r1 u t H1 locs1 ht hvm hw1 hB hz1 hk1 hS1 => ?_)
  · have hv := va_recv hK hPx (ci := 6) (q0 := 0) rfl (zwm_obj (by decide) rfl)
    subst hq
    exact hv
  · obtain ⟨rfl, rfl⟩ := hw1
    have hP1 := hB.1
    rw [ht] at hP1
    refine kk H1 locs1 ls ?_ hS1 hl
    show va_P D vwCl (zwm LaL 88 cA ad _) H1
    rw [zwm_jn]
    have hkeep : va_P D vwCl (zwm LaM 44 cA (adM ad) σb) H1 := by
      refine hPm.kept (fun k q hk => hk1 q.1 (hPm k q hk).lt ?_)
      rintro ⟨k2, hk2, he⟩
      obtain ⟨h1, rfl⟩ := zwm_lt hk
      have := hsp.2 (k + 44) (k2) (by omega) (by omega) he
      omega
    exact hP1.app hkeep
theorem z_lMi {σa σb : Mem} (C : zOK ML K cc nL ret own Ts rm) {y : MethodName} {ws ws' : List Cond} {rmc : Room} {bytes : ByteArray} {maxL idx : Nat} {retc : Option FieldType} {Cn : String} {n : Nat} {as stk : List Value} {σ' : Mem} {r : Int32} (hM : zCi MM (zl K) (wM (zw K)) y ws rmc (.ref ((zw K).2.1 44) :: as) σb σ' r) (hw : ws = .code y bytes maxL retc :: ws') (hG : GoodIn Ts (wsV own idx Cn y ws)) (hrc : rmc.cells = 0) (hrs : rmc.slots = 0) (hd : y.cls = Cn ∧ y.cls ≠ "java/lang/invoke/MethodHandle" ∧ y.cls ≠ "java/lang/invoke/VarHandle" ∧ (parseMethodDescriptor y.desc).map (fun d => d.parameters.length) = some n) (hn : as.length = n) (hq : Cn = RX7) (hRm : rmc.frames + 1 ≤ rm.frames ∧ 8 + (maxL + 11) + rmc.locals ≤ rm.locals) (hS0 : ∀ q, (zw K).2.2.2 q → K.1.2.2.2.2.heap.size ≤ q) (hcat : (st.map fun v => v.category).sum ≤ 8) (d : decode cc pc = .ok (.invokevirtual idx, 3)) (hst : stk = as.reverse ++ .ref ((zw K).2.1 44) :: st) (kk : zGo ML K (jn σa σ') lv (pc + 3) (.int r :: st)) : zGo ML K (jn σa σb) lv pc stk := by
  have hsp := zl_split C
  have hne : ∀ k : Nat, k < 44 → (zw K).2.2.2 ((zw K).2.1 (k + 44)) := fun k hk => hsp.1 _ (by omega)
  obtain ⟨⟨p, l, e, R, s⟩, ⟨m, args, below, meth, c⟩, ⟨Q, cA, ad, D, A⟩, nL', kc0, ks0⟩ := K
  obtain ⟨hx, hb, hml, hr, hown, hts, hlk, hK, hD, hR, hnL, hXm, hXx, hkc, hks⟩ := C
  intro H locs ls hP hS hl
  subst hnL; subst hst; subst hR
  have hPx : va_P D vwCl (zwm LaX 44 cA ad σa) H := fun k q hq => by
    refine hP k q ?_
    show (zwm LaL 88 cA ad (jn σa σb))[k]? = some q
    rw [zwm_jn, List.getElem?_append_left (List.getElem?_eq_some_iff.mp hq).1]
    exact hq
  have hPm : va_P D vwCl (zwm LaM 44 cA (adM ad) σb) H := fun k q hq => by
    refine hP (44 + k) q ?_
    show (zwm LaL 88 cA ad (jn σa σb))[44 + k]? = some q
    have hl : (zwm LaX 44 cA ad σa).length = 44 := by simp [zwm]
    rw [zwm_jn, List.getElem?_append_right (by rw [hl]; omega), hl, show 44 + k - 44 = k by omega]
    exact hq
  have hAA : ∀ q : Nat, (∃ k, k < 44 ∧ q = (adM ad) k) → A q := by
    rintro q ⟨k, hk, rfl⟩
    exact hne k hk
  have hDx : ∀ τ : Mem, va_D (fun q => ∃ k, k < 44 ∧ q = (adM ad) k) (zwm LaM 44 cA (adM ad) τ) := by
    intro τ
    refine ⟨fun i j p2 q2 hi hj hpq => ?_, fun k q2 hk => ?_⟩
    · obtain ⟨h1, rfl⟩ := zwm_lt hi
      obtain ⟨h2, rfl⟩ := zwm_lt hj
      have := hsp.2 _ _ (by omega) (by omega) (show ad (i + 44) = ad (j + 44) from hpq)
      omega
    · obtain ⟨h1, rfl⟩ := zwm_lt hk
      exact ⟨k, h1, rfl⟩
  have hXn : MM.2.2 (adM ad) (fun q => ∃ k, k < 44 ∧ q = (adM ad) k) s := trivial
  refine va_calli (va_runV (As := as) (rest := st) ⟨hx, hb, hml, hown, hts⟩ hM (cwV n hts hG hw hrc hrs hd hRm) ⟨fun a U g mk q => ⟨q.1, q.2.1, va_K.moved (u := U) (U := U.calling g mk a) (Vm.Alike.refl U.vm) q.2.2.1, q.2.2.2.1, MM_ok.2 _ _ U g mk a q.2.2.2.2⟩, ?_, fun U hU hW => ⟨rfl, by rw [hU]; exact hPm, va_K.moved hW.alike hK, hDx, MM_ok.1 _ _ s U hXn hW (by rw [hU]; exact hS.1) (fun q h1 h2 => by rw [hU]; exact (hS.2.1 q h1 (fun z => absurd (hS0 q z) (Nat.not_le.mpr h1))))⟩⟩ rfl hn hl.1 rfl (lv_room hcat) d ⟨hkc, hks⟩) hS (fun q _ h => hAA q h) (fun q h => hAA q h) (fun r1 u t H1 locs1 ht hvm hw1 hB hz1 hk1 hS1 => ?_)
  · have hv := va_recv hK hPm (ci := 7) (q0 := 0) rfl (zwm_obj (by decide) rfl)
    subst hq
    exact hv
  · obtain ⟨rfl, rfl⟩ := hw1
    have hP1 := hB.1
    rw [ht] at hP1
    refine kk H1 locs1 ls ?_ hS1 hl
    show va_P D vwCl (zwm LaL 88 cA ad _) H1
    rw [zwm_jn]
    have hkeep : va_P D vwCl (zwm LaX 44 cA ad σa) H1 := by
      refine hPx.kept (fun k q hk => hk1 q.1 (hPx k q hk).lt ?_)
      rintro ⟨k2, hk2, he⟩
      obtain ⟨h1, rfl⟩ := zwm_lt hk
      have := hsp.2 (k) (k2 + 44) (by omega) (by omega) he
      omega
    exact hkeep.app hP1
theorem z_lXv {σa σb : Mem} (C : zOK ML K cc nL ret own Ts rm) {y : MethodName} {ws ws' : List Cond} {rmc : Room} {bytes : ByteArray} {maxL idx : Nat} {retc : Option FieldType} {Cn : String} {n : Nat} {as stk : List Value} {σ' : Mem} (hM : zCv MX (zl K) (wX (zw K)) y ws rmc (.ref ((zw K).2.1 0) :: as) σa σ' ) (hw : ws = .code y bytes maxL retc :: ws') (hG : GoodIn Ts (wsV own idx Cn y ws)) (hrc : rmc.cells = 0) (hrs : rmc.slots = 0) (hd : y.cls = Cn ∧ y.cls ≠ "java/lang/invoke/MethodHandle" ∧ y.cls ≠ "java/lang/invoke/VarHandle" ∧ (parseMethodDescriptor y.desc).map (fun d => d.parameters.length) = some n) (hn : as.length = n) (hq : Cn = RX6) (hRm : rmc.frames + 1 ≤ rm.frames ∧ 8 + (maxL + 11) + rmc.locals ≤ rm.locals) (hS0 : ∀ q, (zw K).2.2.2 q → K.1.2.2.2.2.heap.size ≤ q) (hcat : (st.map fun v => v.category).sum ≤ 8) (d : decode cc pc = .ok (.invokevirtual idx, 3)) (hst : stk = as.reverse ++ .ref ((zw K).2.1 0) :: st) (kk : zGo ML K (jn σ' σb) lv (pc + 3) (st)) : zGo ML K (jn σa σb) lv pc stk := by
  have hsp := zl_split C
  have hne : ∀ k : Nat, k < 44 → (zw K).2.2.2 ((zw K).2.1 (k)) := fun k hk => hsp.1 _ (by omega)
  obtain ⟨⟨p, l, e, R, s⟩, ⟨m, args, below, meth, c⟩, ⟨Q, cA, ad, D, A⟩, nL', kc0, ks0⟩ := K
  obtain ⟨hx, hb, hml, hr, hown, hts, hlk, hK, hD, hR, hnL, hXm, hXx, hkc, hks⟩ := C
  intro H locs ls hP hS hl
  subst hnL; subst hst; subst hR
  have hPx : va_P D vwCl (zwm LaX 44 cA ad σa) H := fun k q hq => by
    refine hP k q ?_
    show (zwm LaL 88 cA ad (jn σa σb))[k]? = some q
    rw [zwm_jn, List.getElem?_append_left (List.getElem?_eq_some_iff.mp hq).1]
    exact hq
  have hPm : va_P D vwCl (zwm LaM 44 cA (adM ad) σb) H := fun k q hq => by
    refine hP (44 + k) q ?_
    show (zwm LaL 88 cA ad (jn σa σb))[44 + k]? = some q
    have hl : (zwm LaX 44 cA ad σa).length = 44 := by simp [zwm]
    rw [zwm_jn, List.getElem?_append_right (by rw [hl]; omega), hl, show 44 + k - 44 = k by omega]
    exact hq
  have hAA : ∀ q : Nat, (∃ k, k < 44 ∧ q = ad k) → A q := by
    rintro q ⟨k, hk, rfl⟩
    exact hne k hk
  have hDx : ∀ τ : Mem, va_D (fun q => ∃ k, k < 44 ∧ q = ad k) (zwm LaX 44 cA ad τ) := by
    intro τ
    refine ⟨fun i j p2 q2 hi hj hpq => ?_, fun k q2 hk => ?_⟩
    · obtain ⟨h1, rfl⟩ := zwm_lt hi
      obtain ⟨h2, rfl⟩ := zwm_lt hj
      have := hsp.2 _ _ (by omega) (by omega) (show ad (i) = ad (j) from hpq)
      omega
    · obtain ⟨h1, rfl⟩ := zwm_lt hk
      exact ⟨k, h1, rfl⟩
  have hXn : MX.2.2 ad (fun q => ∃ k, k < 44 ∧ q = ad k) s := ⟨hXx.1.narrow hAA, hXx.2.1.narrow hAA, hXx.2.2.1, hXx.2.2.2.1.narrow hAA, hXx.2.2.2.2.1.narrow hAA, hXx.2.2.2.2.2.narrow hAA⟩
  refine va_callv (va_runV (As := as) (rest := st) ⟨hx, hb, hml, hown, hts⟩ hM (cwV n hts hG hw hrc hrs hd hRm) ⟨fun a U g mk q => ⟨q.1, q.2.1, va_K.moved (u := U) (U := U.calling g mk a) (Vm.Alike.refl U.vm) q.2.2.1, q.2.2.2.1, MX_ok.2 _ _ U g mk a q.2.2.2.2⟩, ?_, fun U hU hW => ⟨rfl, by rw [hU]; exact hPx, va_K.moved hW.alike hK, hDx, MX_ok.1 _ _ s U hXn hW (by rw [hU]; exact hS.1) (fun q h1 h2 => by rw [hU]; exact (hS.2.1 q h1 (fun z => absurd (hS0 q z) (Nat.not_le.mpr h1))))⟩⟩ rfl hn hl.1 rfl (lv_room hcat) d ⟨hkc, hks⟩) hS (fun q _ h => hAA q h) (fun q h => hAA q h) (fun u t H1 locs1 ht hvm hw1 hB hz1 hk1 hS1 => ?_)
  · have hv := va_recv hK hPx (ci := 6) (q0 := 0) rfl (zwm_obj (by decide) rfl)
    subst hq
    exact hv
  · cases hw1
    have hP1 := hB.1
    rw [ht] at hP1
    refine kk H1 locs1 ls ?_ hS1 hl
    show va_P D vwCl (zwm LaL 88 cA ad _) H1
    rw [zwm_jn]
    have hkeep : va_P D vwCl (zwm LaM 44 cA (adM ad) σb) H1 := by
      refine hPm.kept (fun k q hk => hk1 q.1 (hPm k q hk).lt ?_)
      rintro ⟨k2, hk2, he⟩
      obtain ⟨h1, rfl⟩ := zwm_lt hk
      have := hsp.2 (k + 44) (k2) (by omega) (by omega) he
      omega
    exact hP1.app hkeep
theorem z_lMv {σa σb : Mem} (C : zOK ML K cc nL ret own Ts rm) {y : MethodName} {ws ws' : List Cond} {rmc : Room} {bytes : ByteArray} {maxL idx : Nat} {retc : Option FieldType} {Cn : String} {n : Nat} {as stk : List Value} {σ' : Mem} (hM : zCv MM (zl K) (wM (zw K)) y ws rmc (.ref ((zw K).2.1 44) :: as) σb σ' ) (hw : ws = .code y bytes maxL retc :: ws') (hG : GoodIn Ts (wsV own idx Cn y ws)) (hrc : rmc.cells = 0) (hrs : rmc.slots = 0) (hd : y.cls = Cn ∧ y.cls ≠ "java/lang/invoke/MethodHandle" ∧ y.cls ≠ "java/lang/invoke/VarHandle" ∧ (parseMethodDescriptor y.desc).map (fun d => d.parameters.length) = some n) (hn : as.length = n) (hq : Cn = RX7) (hRm : rmc.frames + 1 ≤ rm.frames ∧ 8 + (maxL + 11) + rmc.locals ≤ rm.locals) (hS0 : ∀ q, (zw K).2.2.2 q → K.1.2.2.2.2.heap.size ≤ q) (hcat : (st.map fun v => v.category).sum ≤ 8) (d : decode cc pc = .ok (.invokevirtual idx, 3)) (hst : stk = as.reverse ++ .ref ((zw K).2.1 44) :: st) (kk : zGo ML K (jn σa σ') lv (pc + 3) (st)) : zGo ML K (jn σa σb) lv pc stk := by
  have hsp := zl_split C
  have hne : ∀ k : Nat, k < 44 → (zw K).2.2.2 ((zw K).2.1 (k + 44)) := fun k hk => hsp.1 _ (by omega)
  obtain ⟨⟨p, l, e, R, s⟩, ⟨m, args, below, meth, c⟩, ⟨Q, cA, ad, D, A⟩, nL', kc0, ks0⟩ := K
  obtain ⟨hx, hb, hml, hr, hown, hts, hlk, hK, hD, hR, hnL, hXm, hXx, hkc, hks⟩ := C
  intro H locs ls hP hS hl
  subst hnL; subst hst; subst hR
  have hPx : va_P D vwCl (zwm LaX 44 cA ad σa) H := fun k q hq => by
    refine hP k q ?_
    show (zwm LaL 88 cA ad (jn σa σb))[k]? = some q
    rw [zwm_jn, List.getElem?_append_left (List.getElem?_eq_some_iff.mp hq).1]
    exact hq
  have hPm : va_P D vwCl (zwm LaM 44 cA (adM ad) σb) H := fun k q hq => by
    refine hP (44 + k) q ?_
    show (zwm LaL 88 cA ad (jn σa σb))[44 + k]? = some q
    have hl : (zwm LaX 44 cA ad σa).length = 44 := by simp [zwm]
    rw [zwm_jn, List.getElem?_append_right (by rw [hl]; omega), hl, show 44 + k - 44 = k by omega]
    exact hq
  have hAA : ∀ q : Nat, (∃ k, k < 44 ∧ q = (adM ad) k) → A q := by
    rintro q ⟨k, hk, rfl⟩
    exact hne k hk
  have hDx : ∀ τ : Mem, va_D (fun q => ∃ k, k < 44 ∧ q = (adM ad) k) (zwm LaM 44 cA (adM ad) τ) := by
    intro τ
    refine ⟨fun i j p2 q2 hi hj hpq => ?_, fun k q2 hk => ?_⟩
    · obtain ⟨h1, rfl⟩ := zwm_lt hi
      obtain ⟨h2, rfl⟩ := zwm_lt hj
      have := hsp.2 _ _ (by omega) (by omega) (show ad (i + 44) = ad (j + 44) from hpq)
      omega
    · obtain ⟨h1, rfl⟩ := zwm_lt hk
      exact ⟨k, h1, rfl⟩
  have hXn : MM.2.2 (adM ad) (fun q => ∃ k, k < 44 ∧ q = (adM ad) k) s := trivial
  refine va_callv (va_runV (As := as) (rest := st) ⟨hx, hb, hml, hown, hts⟩ hM (cwV n hts hG hw hrc hrs hd hRm) ⟨fun a U g mk q => ⟨q.1, q.2.1, va_K.moved (u := U) (U := U.calling g mk a) (Vm.Alike.refl U.vm) q.2.2.1, q.2.2.2.1, MM_ok.2 _ _ U g mk a q.2.2.2.2⟩, ?_, fun U hU hW => ⟨rfl, by rw [hU]; exact hPm, va_K.moved hW.alike hK, hDx, MM_ok.1 _ _ s U hXn hW (by rw [hU]; exact hS.1) (fun q h1 h2 => by rw [hU]; exact (hS.2.1 q h1 (fun z => absurd (hS0 q z) (Nat.not_le.mpr h1))))⟩⟩ rfl hn hl.1 rfl (lv_room hcat) d ⟨hkc, hks⟩) hS (fun q _ h => hAA q h) (fun q h => hAA q h) (fun u t H1 locs1 ht hvm hw1 hB hz1 hk1 hS1 => ?_)
  · have hv := va_recv hK hPm (ci := 7) (q0 := 0) rfl (zwm_obj (by decide) rfl)
    subst hq
    exact hv
  · cases hw1
    have hP1 := hB.1
    rw [ht] at hP1
    refine kk H1 locs1 ls ?_ hS1 hl
    show va_P D vwCl (zwm LaL 88 cA ad _) H1
    rw [zwm_jn]
    have hkeep : va_P D vwCl (zwm LaX 44 cA ad σa) H1 := by
      refine hPx.kept (fun k q hk => hk1 q.1 (hPx k q hk).lt ?_)
      rintro ⟨k2, hk2, he⟩
      obtain ⟨h1, rfl⟩ := zwm_lt hk
      have := hsp.2 (k) (k2 + 44) (by omega) (by omega) he
      omega
    exact hkeep.app hP1
end ZLROWS
