/-! the law's loop, out of what each call does -/
def lwP (I : Mem → Mem → Prop) (i : Int32) (o : Option ((Int32 × Mem × Mem) ⊕ Int32)) : Prop := ∃ mx mm, o = some (.inl (i + 6, mx, mm)) ∧ I mx mm
theorem lw_ck {I : Mem → Mem → Prop} {i : Int32} {b : Prop} [Decidable b] {k : Option ((Int32 × Mem × Mem) ⊕ Int32)} (h : b) (hk : lwP I i k) : lwP I i (ck b k) := by unfold ck; rw [if_pos h]; exact hk
theorem lw_t {I : Mem → Mem → Prop} {i : Int32} {c : Prop} [Decidable c] {x y : Option ((Int32 × Mem × Mem) ⊕ Int32)} (h : c) (hk : lwP I i x) : lwP I i (if c then x else y) := by rw [if_pos h]; exact hk
theorem lw_f {I : Mem → Mem → Prop} {i : Int32} {c : Prop} [Decidable c] {x y : Option ((Int32 × Mem × Mem) ⊕ Int32)} (h : ¬ c) (hk : lwP I i y) : lwP I i (if c then x else y) := by rw [if_neg h]; exact hk
theorem lw_if {I : Mem → Mem → Prop} {i : Int32} {c : Prop} [Decidable c] {x y : Option ((Int32 × Mem × Mem) ⊕ Int32)} (h1 : lwP I i x) (h2 : lwP I i y) : lwP I i (if c then x else y) := by
  by_cases h : c
  · rw [if_pos h]; exact h1
  · rw [if_neg h]; exact h2
theorem lw_zb {I : Mem → Mem → Prop} {i : Int32} {c : Prop} [Decidable c] {x y : Option ((Int32 × Mem × Mem) ⊕ Int32)} (h1 : c → lwP I i x) (h2 : ¬ c → lwP I i y) : lwP I i (if c then x else y) := by
  by_cases h : c
  · rw [if_pos h]; exact h1 h
  · rw [if_neg h]; exact h2 h
theorem lw_b {I : Mem → Mem → Prop} {i : Int32} {α : Type} {o : Option α} {a : α} {k : α → Option ((Int32 × Mem × Mem) ⊕ Int32)} (h : o = some a) (hk : lwP I i (k a)) : lwP I i (o.bind k) := by rw [h]; exact hk
theorem lw_2 {I : Mem → Mem → Prop} {i : Int32} {α β : Type} {o : Option (α × β)} {a : α} {b : β} {k : α → β → Option ((Int32 × Mem × Mem) ⊕ Int32)} (h : o = some (a, b)) (hk : lwP I i (k a b)) : lwP I i (zb2 o k) := by rw [h]; exact hk
theorem lw_n {I : Mem → Mem → Prop} {i : Int32} {α : Type} {a : α} {k : α → Option ((Int32 × Mem × Mem) ⊕ Int32)} (hk : lwP I i (k a)) : lwP I i (bn a k) := hk
def zbo (v : Int32) : Int32 := if v = 0 then 0 else 1
theorem zbo_e (v : Int32) : (if v = 0 then some (0 : Int32) else some 1) = some (zbo v) := by unfold zbo; by_cases h : v = 0 <;> simp [h]
theorem zbo_z (v : Int32) : zbo v = 0 ∨ zbo v = 1 := by unfold zbo; by_cases h : v = 0 <;> simp [h]
theorem zbo_0 {v : Int32} (h : v = 0) : zbo v = 0 := if_pos h
theorem zbo_1 {v : Int32} (h : ¬ v = 0) : zbo v = 1 := if_neg h
def Hc_node (cmp : Prop) (I : Mem → Mem → Prop) (mx mm : Mem) : Prop := ∀ v1 v2 : Int32, (v1 = 0 ∨ v1 = 1) →∃ (r : Int32) (mx2 : Mem) (q : Int32) (mm2 : Mem), s_X6_node mx v1 v2 = some (r, mx2) ∧ s_X7_node mm v1 v2 = some (q, mm2) ∧ (cmp → r = q) ∧ I mx2 mm2
def Hc_value (cmp : Prop) (I : Mem → Mem → Prop) (mx mm : Mem) : Prop := ∀ v1 v2 v3 : Int32, (v2 = 0 ∨ v2 = 1) →∃ (r : Int32) (mx2 : Mem) (q : Int32) (mm2 : Mem), s_X6_value mx v1 v2 v3 = some (r, mx2) ∧ s_X7_value mm v1 v2 v3 = some (q, mm2) ∧ (cmp → r = q) ∧ I mx2 mm2
def Hc_edge (cmp : Prop) (I : Mem → Mem → Prop) (mx mm : Mem) : Prop := ∀ v1 v2 v3 : Int32, ∃ (r : Int32) (mx2 : Mem) (q : Int32) (mm2 : Mem), s_X6_edge mx v1 v2 v3 = some (r, mx2) ∧ s_X7_edge mm v1 v2 v3 = some (q, mm2) ∧ (cmp → r = q) ∧ I mx2 mm2
def Hc_cut (cmp : Prop) (I : Mem → Mem → Prop) (mx mm : Mem) : Prop := ∀ v1 v2 v3 : Int32, ∃ (r : Int32) (mx2 : Mem) (q : Int32) (mm2 : Mem), s_X6_cut mx v1 v2 v3 = some (r, mx2) ∧ s_X7_cut mm v1 v2 v3 = some (q, mm2) ∧ (cmp → r = q) ∧ I mx2 mm2
def Hc_feed (cmp : Prop) (I : Mem → Mem → Prop) (mx mm : Mem) : Prop := ∀ v1 v2 v3 v4 v5 : Int32, ∃ (r : Int32) (mx2 : Mem) (q : Int32) (mm2 : Mem), s_X6_feed mx v1 v2 v3 v4 v5 = some (r, mx2) ∧ s_X7_feed mm v1 v2 v3 v4 v5 = some (q, mm2) ∧ (cmp → r = q) ∧ I mx2 mm2
def Hc_end (cmp : Prop) (I : Mem → Mem → Prop) (mx mm : Mem) : Prop := ∀ v1 : Int32, ∃ (r : Int32) (mx2 : Mem) (q : Int32) (mm2 : Mem), s_X6_end mx v1 = some (r, mx2) ∧ s_X7_end mm v1 = some (q, mm2) ∧ (cmp → r = q) ∧ I mx2 mm2
def Hc_shapes (cmp : Prop) (I : Mem → Mem → Prop) (mx mm : Mem) : Prop := ∃ (r : Int32) (mx2 : Mem) (q : Int32) (mm2 : Mem), s_X6_shapes mx = some (r, mx2) ∧ s_X7_shapes mm = some (q, mm2) ∧ (cmp → r = q) ∧ I mx2 mm2
def Hc_fault (cmp : Prop) (I : Mem → Mem → Prop) (mx mm : Mem) : Prop := ∃ (r : Int32) (mx2 : Mem) (q : Int32) (mm2 : Mem), s_X6_fault mx = some r ∧ s_X7_fault mm = some q ∧ mx2 = mx ∧ mm2 = mm ∧ (cmp → r = q) ∧ I mx2 mm2
def Hc_fits (cmp : Prop) (I : Mem → Mem → Prop) (mx mm : Mem) : Prop := ∀ v1 v2 : Int32, ∃ (r : Int32) (mx2 : Mem) (q : Int32) (mm2 : Mem), s_X6_fits mx v1 v2 = some (r, mx2) ∧ s_X7_fits mm v1 v2 = some (q, mm2) ∧ (cmp → r = q) ∧ I mx2 mm2
def Hc_surely (cmp : Prop) (I : Mem → Mem → Prop) (mx mm : Mem) : Prop := ∀ v1 v2 : Int32, ∃ (r : Int32) (mx2 : Mem) (q : Int32) (mm2 : Mem), s_X6_surely mx v1 v2 = some (r, mx2) ∧ s_X7_surely mm v1 v2 = some (q, mm2) ∧ (cmp → r = q) ∧ I mx2 mm2
def Hc_all (cmp : Prop) (I : Mem → Mem → Prop) (mx mm : Mem) : Prop := ∀ v1 : Int32, ∃ (r : Int32) (mx2 : Mem) (q : Int32) (mm2 : Mem), s_X6_all mx v1 = some (r, mx2) ∧ s_X7_all mm v1 = some (q, mm2) ∧ (cmp → r = q) ∧ I mx2 mm2
def Hc_wanted (cmp : Prop) (I : Mem → Mem → Prop) (mx mm : Mem) : Prop := ∀ v1 v2 : Int32, ∃ (r : Int32) (mx2 : Mem) (q : Int32) (mm2 : Mem), s_X6_wanted mx v1 v2 = some r ∧ s_X7_wanted mm v1 v2 = some q ∧ mx2 = mx ∧ mm2 = mm ∧ (cmp → r = q) ∧ I mx2 mm2
def Hc_dealt (cmp : Prop) (I : Mem → Mem → Prop) (mx mm : Mem) : Prop := ∀ v1 v2 v3 : Int32, ∃ (r : Int32) (mx2 : Mem) (q : Int32) (mm2 : Mem), s_X6_dealt mx v1 v2 v3 = some (r, mx2) ∧ s_X7_dealt mm v1 v2 v3 = some (q, mm2) ∧ (cmp → r = q) ∧ I mx2 mm2
def Hc_tooMany (cmp : Prop) (I : Mem → Mem → Prop) (mx mm : Mem) : Prop := ∀ v1 v2 : Int32, ∃ (r : Int32) (mx2 : Mem) (q : Int32) (mm2 : Mem), s_X6_tooMany mx v1 v2 = some (r, mx2) ∧ s_X7_tooMany mm v1 v2 = some (q, mm2) ∧ (cmp → r = q) ∧ I mx2 mm2
def Hc_which (cmp : Prop) (I : Mem → Mem → Prop) (mx mm : Mem) : Prop := ∀ v1 v2 : Int32, ∃ (r : Int32) (mx2 : Mem) (q : Int32) (mm2 : Mem), s_X6_which mx v1 v2 = some (r, mx2) ∧ s_X7_which mm v1 v2 = some (q, mm2) ∧ (cmp → r = q) ∧ I mx2 mm2
def Hc_depends (cmp : Prop) (I : Mem → Mem → Prop) (mx mm : Mem) : Prop := ∀ v1 v2 : Int32, ∃ (r : Int32) (mx2 : Mem) (q : Int32) (mm2 : Mem), s_X6_depends mx v1 v2 = some r ∧ s_X7_depends mm v1 v2 = some (q, mm2) ∧ mx2 = mx ∧ (cmp → r = q) ∧ I mx2 mm2
def Hc_part (cmp : Prop) (I : Mem → Mem → Prop) (mx mm : Mem) : Prop := ∀ v1 v2 v3 : Int32, ∃ (r : Int32) (mx2 : Mem) (q : Int32) (mm2 : Mem), s_X6_part mx v1 v2 v3 = some r ∧ s_X7_part mm v1 v2 v3 = some q ∧ mx2 = mx ∧ mm2 = mm ∧ (cmp → r = q) ∧ I mx2 mm2
def Hc_told (cmp : Prop) (I : Mem → Mem → Prop) (mx mm : Mem) : Prop := ∀ v1 v2 : Int32, ∃ (r : Int32) (mx2 : Mem) (q : Int32) (mm2 : Mem), s_X6_told mx v1 v2 = some r ∧ s_X7_told mm v1 v2 = some q ∧ mx2 = mx ∧ mm2 = mm ∧ (cmp → r = q) ∧ I mx2 mm2
def Hc_from (cmp : Prop) (I : Mem → Mem → Prop) (mx mm : Mem) : Prop := ∀ v1 v2 v3 : Int32, ∃ (r : Int32) (mx2 : Mem) (q : Int32) (mm2 : Mem), s_X6_from mx v1 v2 v3 = some r ∧ s_X7_from mm v1 v2 v3 = some q ∧ mx2 = mx ∧ mm2 = mm ∧ (cmp → r = q) ∧ I mx2 mm2
def Hc_reset (cmp : Prop) (I : Mem → Mem → Prop) (mx mm : Mem) : Prop := ∃ (r : Int32) (mx2 : Mem) (q : Int32) (mm2 : Mem), s_X6_reset mx = some (r, mx2) ∧ s_X7_reset mm = some (q, mm2) ∧ (cmp → r = q) ∧ I mx2 mm2
def Hc_count (cmp : Prop) (I : Mem → Mem → Prop) (mx mm : Mem) : Prop := ∀ v1 : Int32, ∃ (r : Int32) (mx2 : Mem) (q : Int32) (mm2 : Mem), s_X6_count mx v1 = some (r, mx2) ∧ s_X7_count mm v1 = some (q, mm2) ∧ (cmp → r = q) ∧ I mx2 mm2
def Hall (I : Mem → Mem → Prop) (mx mm : Mem) : Prop := Hc_node False I mx mm ∧ Hc_value False I mx mm ∧ Hc_edge False I mx mm ∧ Hc_cut False I mx mm ∧ Hc_feed False I mx mm ∧ Hc_end False I mx mm ∧ Hc_shapes False I mx mm ∧ Hc_fault False I mx mm ∧ Hc_fits False I mx mm ∧ Hc_surely False I mx mm ∧ Hc_all False I mx mm ∧ Hc_wanted False I mx mm ∧ Hc_dealt False I mx mm ∧ Hc_tooMany False I mx mm ∧ Hc_which True I mx mm ∧ Hc_depends False I mx mm ∧ Hc_part False I mx mm ∧ Hc_told False I mx mm ∧ Hc_from False I mx mm ∧ Hc_reset False I mx mm ∧ Hc_count False I mx mm
set_option maxRecDepth 100000 in
set_option maxHeartbeats 8000000 in
theorem lw_step {I : Mem → Mem → Prop} {xs : Nat → Int32} {L : Nat} {i : Int32} {mx mm : Mem} (h0 : ¬ nI L - 6 < i) (z0 : zin i L = true) (z1 : zin (i + 1) L = true) (z2 : zin (i + 2) L = true) (z3 : zin (i + 3) L = true) (z4 : zin (i + 4) L = true) (z5 : zin (i + 5) L = true) (hH : Hall I mx mm) (h_same : I mx mm) : lwP I i (t_law xs L i mx mm) := by
  obtain ⟨h_node, h_value, h_edge, h_cut, h_feed, h_end, h_shapes, h_fault, h_fits, h_surely, h_all, h_wanted, h_dealt, h_tooMany, h_which, h_depends, h_part, h_told, h_from, h_reset, h_count⟩ := hH
  unfold t_law
  refine lw_f h0 ?_
  refine lw_ck z0 ?_
  refine lw_if ?_ ?_
  · obtain ⟨r, mx2, q, mm2, e1, e2, e3, e4⟩ := h_node (zbo (xs (Int32.toNatClampNeg (i + 1)))) (xs (Int32.toNatClampNeg (i + 2))) (zbo_z _)
    refine lw_ck z1 ?_
    refine lw_b (zbo_e _) ?_
    refine lw_ck z2 ?_
    refine lw_2 e1 ?_
    refine lw_ck z1 ?_
    refine lw_zb (fun hz => ?_) (fun hz => ?_)
    · rw [zbo_0 hz] at e2
      refine lw_ck z2 ?_
      refine lw_2 e2 ?_
      exact lw_n ⟨_, _, rfl, e4⟩
    · rw [zbo_1 hz] at e2
      refine lw_ck z2 ?_
      refine lw_2 e2 ?_
      exact lw_n ⟨_, _, rfl, e4⟩
  refine lw_if ?_ ?_
  · obtain ⟨r, mx2, q, mm2, e1, e2, e3, e4⟩ := h_value (xs (Int32.toNatClampNeg (i + 1))) (zbo (xs (Int32.toNatClampNeg (i + 2)))) (xs (Int32.toNatClampNeg (i + 3))) (zbo_z _)
    refine lw_ck z1 ?_
    refine lw_ck z2 ?_
    refine lw_b (zbo_e _) ?_
    refine lw_ck z3 ?_
    refine lw_2 e1 ?_
    refine lw_ck z1 ?_
    refine lw_ck z2 ?_
    refine lw_zb (fun hz => ?_) (fun hz => ?_)
    · rw [zbo_0 hz] at e2
      refine lw_ck z3 ?_
      refine lw_2 e2 ?_
      exact lw_n ⟨_, _, rfl, e4⟩
    · rw [zbo_1 hz] at e2
      refine lw_ck z3 ?_
      refine lw_2 e2 ?_
      exact lw_n ⟨_, _, rfl, e4⟩
  refine lw_if ?_ ?_
  · obtain ⟨r, mx2, q, mm2, e1, e2, e3, e4⟩ := h_edge (xs (Int32.toNatClampNeg (i + 1))) (xs (Int32.toNatClampNeg (i + 2))) (xs (Int32.toNatClampNeg (i + 3)))
    refine lw_ck z1 ?_
    refine lw_ck z2 ?_
    refine lw_ck z3 ?_
    refine lw_2 e1 ?_
    refine lw_ck z1 ?_
    refine lw_ck z2 ?_
    refine lw_ck z3 ?_
    refine lw_2 e2 ?_
    exact lw_n ⟨_, _, rfl, e4⟩
  refine lw_if ?_ ?_
  · obtain ⟨r, mx2, q, mm2, e1, e2, e3, e4⟩ := h_cut (xs (Int32.toNatClampNeg (i + 1))) (xs (Int32.toNatClampNeg (i + 2))) (xs (Int32.toNatClampNeg (i + 3)))
    refine lw_ck z1 ?_
    refine lw_ck z2 ?_
    refine lw_ck z3 ?_
    refine lw_2 e1 ?_
    refine lw_ck z1 ?_
    refine lw_ck z2 ?_
    refine lw_ck z3 ?_
    refine lw_2 e2 ?_
    exact lw_n ⟨_, _, rfl, e4⟩
  refine lw_if ?_ ?_
  · obtain ⟨r, mx2, q, mm2, e1, e2, e3, e4⟩ := h_feed (xs (Int32.toNatClampNeg (i + 1))) (xs (Int32.toNatClampNeg (i + 2))) (xs (Int32.toNatClampNeg (i + 3))) (xs (Int32.toNatClampNeg (i + 4))) (xs (Int32.toNatClampNeg (i + 5)))
    refine lw_ck z1 ?_
    refine lw_ck z2 ?_
    refine lw_ck z3 ?_
    refine lw_ck z4 ?_
    refine lw_ck z5 ?_
    refine lw_2 e1 ?_
    refine lw_ck z1 ?_
    refine lw_ck z2 ?_
    refine lw_ck z3 ?_
    refine lw_ck z4 ?_
    refine lw_ck z5 ?_
    refine lw_2 e2 ?_
    exact lw_n ⟨_, _, rfl, e4⟩
  refine lw_if ?_ ?_
  · obtain ⟨r, mx2, q, mm2, e1, e2, e3, e4⟩ := h_end (xs (Int32.toNatClampNeg (i + 1)))
    refine lw_ck z1 ?_
    refine lw_2 e1 ?_
    refine lw_ck z1 ?_
    refine lw_2 e2 ?_
    exact lw_n ⟨_, _, rfl, e4⟩
  refine lw_if ?_ ?_
  · obtain ⟨r, mx2, q, mm2, e1, e2, e3, e4⟩ := h_shapes 
    refine lw_2 e1 ?_
    refine lw_2 e2 ?_
    exact lw_n ⟨_, _, rfl, e4⟩
  refine lw_if ?_ ?_
  · obtain ⟨r, mx2, q, mm2, e1, e2, rfl, rfl, e3, e4⟩ := h_fault 
    refine lw_b e1 ?_
    refine lw_b e2 ?_
    exact lw_n ⟨_, _, rfl, e4⟩
  refine lw_if ?_ ?_
  · obtain ⟨r, mx2, q, mm2, e1, e2, e3, e4⟩ := h_fits (xs (Int32.toNatClampNeg (i + 1))) (xs (Int32.toNatClampNeg (i + 2)))
    refine lw_ck z1 ?_
    refine lw_ck z2 ?_
    refine lw_2 e1 ?_
    refine lw_ck z1 ?_
    refine lw_ck z2 ?_
    refine lw_2 e2 ?_
    exact lw_n ⟨_, _, rfl, e4⟩
  refine lw_if ?_ ?_
  · obtain ⟨r, mx2, q, mm2, e1, e2, e3, e4⟩ := h_surely (xs (Int32.toNatClampNeg (i + 1))) (xs (Int32.toNatClampNeg (i + 2)))
    refine lw_ck z1 ?_
    refine lw_ck z2 ?_
    refine lw_2 e1 ?_
    refine lw_ck z1 ?_
    refine lw_ck z2 ?_
    refine lw_2 e2 ?_
    exact lw_n ⟨_, _, rfl, e4⟩
  refine lw_if ?_ ?_
  · obtain ⟨r, mx2, q, mm2, e1, e2, e3, e4⟩ := h_all (xs (Int32.toNatClampNeg (i + 1)))
    refine lw_ck z1 ?_
    refine lw_2 e1 ?_
    refine lw_ck z1 ?_
    refine lw_2 e2 ?_
    exact lw_n ⟨_, _, rfl, e4⟩
  refine lw_if ?_ ?_
  · obtain ⟨r, mx2, q, mm2, e1, e2, rfl, rfl, e3, e4⟩ := h_wanted (xs (Int32.toNatClampNeg (i + 1))) (xs (Int32.toNatClampNeg (i + 2)))
    refine lw_ck z1 ?_
    refine lw_ck z2 ?_
    refine lw_b e1 ?_
    refine lw_ck z1 ?_
    refine lw_ck z2 ?_
    refine lw_b e2 ?_
    exact lw_n ⟨_, _, rfl, e4⟩
  refine lw_if ?_ ?_
  · obtain ⟨r, mx2, q, mm2, e1, e2, e3, e4⟩ := h_dealt (xs (Int32.toNatClampNeg (i + 1))) (xs (Int32.toNatClampNeg (i + 2))) (xs (Int32.toNatClampNeg (i + 3)))
    refine lw_ck z1 ?_
    refine lw_ck z2 ?_
    refine lw_ck z3 ?_
    refine lw_2 e1 ?_
    refine lw_ck z1 ?_
    refine lw_ck z2 ?_
    refine lw_ck z3 ?_
    refine lw_2 e2 ?_
    exact lw_n ⟨_, _, rfl, e4⟩
  refine lw_if ?_ ?_
  · obtain ⟨r, mx2, q, mm2, e1, e2, e3, e4⟩ := h_tooMany (xs (Int32.toNatClampNeg (i + 1))) (xs (Int32.toNatClampNeg (i + 2)))
    refine lw_ck z1 ?_
    refine lw_ck z2 ?_
    refine lw_2 e1 ?_
    refine lw_ck z1 ?_
    refine lw_ck z2 ?_
    refine lw_2 e2 ?_
    exact lw_n ⟨_, _, rfl, e4⟩
  refine lw_if ?_ ?_
  · obtain ⟨r, mx2, q, mm2, e1, e2, e3, e4⟩ := h_which (xs (Int32.toNatClampNeg (i + 1))) (xs (Int32.toNatClampNeg (i + 2)))
    refine lw_ck z1 ?_
    refine lw_ck z2 ?_
    refine lw_2 e1 ?_
    refine lw_ck z1 ?_
    refine lw_ck z2 ?_
    refine lw_2 e2 ?_
    refine lw_t (e3 trivial) ?_
    exact lw_n ⟨_, _, rfl, e4⟩
  refine lw_if ?_ ?_
  · obtain ⟨r, mx2, q, mm2, e1, e2, rfl, e3, e4⟩ := h_depends (xs (Int32.toNatClampNeg (i + 1))) (xs (Int32.toNatClampNeg (i + 2)))
    refine lw_ck z1 ?_
    refine lw_ck z2 ?_
    refine lw_b e1 ?_
    refine lw_ck z1 ?_
    refine lw_ck z2 ?_
    refine lw_2 e2 ?_
    exact lw_n ⟨_, _, rfl, e4⟩
  refine lw_if ?_ ?_
  · obtain ⟨r, mx2, q, mm2, e1, e2, rfl, rfl, e3, e4⟩ := h_part (xs (Int32.toNatClampNeg (i + 1))) (xs (Int32.toNatClampNeg (i + 2))) (xs (Int32.toNatClampNeg (i + 3)))
    refine lw_ck z1 ?_
    refine lw_ck z2 ?_
    refine lw_ck z3 ?_
    refine lw_b e1 ?_
    refine lw_ck z1 ?_
    refine lw_ck z2 ?_
    refine lw_ck z3 ?_
    refine lw_b e2 ?_
    exact lw_n ⟨_, _, rfl, e4⟩
  refine lw_if ?_ ?_
  · obtain ⟨r, mx2, q, mm2, e1, e2, rfl, rfl, e3, e4⟩ := h_told (xs (Int32.toNatClampNeg (i + 1))) (xs (Int32.toNatClampNeg (i + 2)))
    refine lw_ck z1 ?_
    refine lw_ck z2 ?_
    refine lw_b e1 ?_
    refine lw_ck z1 ?_
    refine lw_ck z2 ?_
    refine lw_b e2 ?_
    exact lw_n ⟨_, _, rfl, e4⟩
  refine lw_if ?_ ?_
  · obtain ⟨r, mx2, q, mm2, e1, e2, rfl, rfl, e3, e4⟩ := h_from (xs (Int32.toNatClampNeg (i + 1))) (xs (Int32.toNatClampNeg (i + 2))) (xs (Int32.toNatClampNeg (i + 3)))
    refine lw_ck z1 ?_
    refine lw_ck z2 ?_
    refine lw_ck z3 ?_
    refine lw_b e1 ?_
    refine lw_ck z1 ?_
    refine lw_ck z2 ?_
    refine lw_ck z3 ?_
    refine lw_b e2 ?_
    exact lw_n ⟨_, _, rfl, e4⟩
  refine lw_if ?_ ?_
  · obtain ⟨r, mx2, q, mm2, e1, e2, e3, e4⟩ := h_reset 
    refine lw_2 e1 ?_
    refine lw_2 e2 ?_
    exact lw_n ⟨_, _, rfl, e4⟩
  refine lw_if ?_ ?_
  · obtain ⟨r, mx2, q, mm2, e1, e2, e3, e4⟩ := h_count (xs (Int32.toNatClampNeg (i + 1)))
    refine lw_ck z1 ?_
    refine lw_2 e1 ?_
    refine lw_ck z1 ?_
    refine lw_2 e2 ?_
    exact lw_n ⟨_, _, rfl, e4⟩
  exact lw_n ⟨mx, mm, rfl, h_same⟩
theorem lw_exit {xs : Nat → Int32} {L n : Nat} {i : Int32} {mx mm : Mem} (h : nI L - 6 < i) : l_law xs L (n + 1) i mx mm = some 1 := by
  have ht : t_law xs L i mx mm = some (.inr 1) := by unfold t_law; rw [if_pos h]
  unfold l_law zlp
  simp only [ht]
theorem lw_on {xs : Nat → Int32} {L n : Nat} {i i2 : Int32} {mx mm mx2 mm2 : Mem} (h : t_law xs L i mx mm = some (.inl (i2, mx2, mm2))) : l_law xs L (n + 1) i mx mm = l_law xs L n i2 mx2 mm2 := by
  unfold l_law
  rw [zlp]
  simp only [h]
