/-! the two modules -/
def LaX : Lay := fun k => match k with
  | 0 => .inr (6, [3, 9, 11, 41, 1, 1, 0])
  | 1 => .inr (1, [0, 0, 4, 5, 6, 7, 8])
  | 2 => .inl (1, 10)
  | 3 => .inl (0, 10)
  | 4 => .inl (0, 10)
  | 5 => .inl (0, 50)
  | 6 => .inl (0, 50)
  | 7 => .inr (3, [10, 0])
  | 8 => .inl (2, 400)
  | 9 => .inr (4, [12, 1, 0, 0, 0, 0, 0, 0, 0, 0])
  | 10 => .inr (5, [9, 0, 0, 0, 0])
  | 11 => .inr (0, [0, 0, 0, 14, 15, 16, 17, 18, 19, 20, 21, 22, 23, 24, 25, 26])
  | 12 => .inl (0, 6)
  | 13 => .inl (0, 6)
  | 14 => .inl (1, 6)
  | 15 => .inl (0, 6)
  | 16 => .inl (0, 6)
  | 17 => .inl (0, 6)
  | 18 => .inl (0, 7)
  | 19 => .inl (0, 146)
  | 20 => .inl (0, 36)
  | 21 => .inl (0, 36)
  | 22 => .inl (0, 36)
  | 23 => .inl (0, 36)
  | 24 => .inl (0, 36)
  | 25 => .inr (0, [0, 0, 0, 28, 29, 30, 31, 32, 33, 34, 35, 36, 37, 38, 39, 40])
  | 26 => .inl (0, 6)
  | 27 => .inl (0, 6)
  | 28 => .inl (1, 6)
  | 29 => .inl (0, 6)
  | 30 => .inl (0, 6)
  | 31 => .inl (0, 6)
  | 32 => .inl (0, 7)
  | 33 => .inl (0, 146)
  | 34 => .inl (0, 36)
  | 35 => .inl (0, 36)
  | 36 => .inl (0, 36)
  | 37 => .inl (0, 36)
  | 38 => .inl (0, 36)
  | 39 => .inr (2, [3, 1, 42, 43, 0, 0, 44, 45, 0, 0])
  | 40 => .inl (0, 6)
  | 41 => .inl (0, 6)
  | 42 => .inl (0, 5)
  | 43 => .inl (0, 6)
  | _ => .inl (0, 0)
def LaM : Lay := fun k => match k with
  | 0 => .inr (7, [0, 3, 4, 5, 6, 7, 0, 0, 8, 9, 10, 11, 12, 13, 14, 15, 16, 17, 18, 19, 20, 0, 21, 22, 23, 24, 25, 26, 27, 28, 29, 30, 31, 32, 33, 34, 35, 0, 0, 0, 0, 0, 0, 0, 0, 36, 37, 38, 39, 40, 41, 42, 43, 0, 0, 44, 45])
  | 1 => .inl (1, 10)
  | 2 => .inl (0, 10)
  | 3 => .inl (0, 10)
  | 4 => .inl (0, 50)
  | 5 => .inl (0, 50)
  | 6 => .inl (0, 6)
  | 7 => .inl (1, 6)
  | 8 => .inl (0, 6)
  | 9 => .inl (0, 36)
  | 10 => .inl (0, 36)
  | 11 => .inl (0, 36)
  | 12 => .inl (0, 36)
  | 13 => .inl (0, 6)
  | 14 => .inl (0, 960)
  | 15 => .inl (0, 960)
  | 16 => .inl (0, 960)
  | 17 => .inl (0, 960)
  | 18 => .inl (0, 960)
  | 19 => .inl (0, 6)
  | 20 => .inl (1, 6)
  | 21 => .inl (0, 6)
  | 22 => .inl (0, 36)
  | 23 => .inl (0, 36)
  | 24 => .inl (0, 36)
  | 25 => .inl (0, 36)
  | 26 => .inl (0, 36)
  | 27 => .inl (0, 6)
  | 28 => .inl (0, 960)
  | 29 => .inl (0, 960)
  | 30 => .inl (0, 960)
  | 31 => .inl (0, 960)
  | 32 => .inl (0, 960)
  | 33 => .inl (0, 400)
  | 34 => .inl (0, 8)
  | 35 => .inl (0, 8)
  | 36 => .inl (1, 36)
  | 37 => .inl (1, 60)
  | 38 => .inl (1, 60)
  | 39 => .inl (0, 5)
  | 40 => .inl (0, 160)
  | 41 => .inl (0, 6)
  | 42 => .inl (0, 5)
  | 43 => .inl (0, 5)
  | _ => .inl (0, 0)
def isb (b : Nat) : Prop := b = 11 ∨ b = 25
theorem isb_lt {b : Nat} (h : isb b) : b < 2 ^ 31 := by rcases h with rfl | rfl <;> exact Nat.le_of_ble_eq_true rfl
def istr (b : Nat) : Prop := b = 40 ∨ b = 41
theorem isb_L0 {b : Nat} (h : isb b) : LaX b = .inr (0, [0, 0, 0, b + 1 + 2, b + 2 + 2, b + 3 + 2, b + 4 + 2, b + 5 + 2, b + 6 + 2, b + 7 + 2, b + 8 + 2, b + 9 + 2, b + 10 + 2, b + 11 + 2, b + 12 + 2, b + 13 + 2]) := by rcases h with rfl | rfl <;> rfl
theorem isb_k0 {b : Nat} (h : isb b) : b < 44 := by rcases h with rfl | rfl <;> exact Nat.le_of_ble_eq_true rfl
theorem isb_L1 {b : Nat} (h : isb b) : LaX (b + 1) = .inl (0, 6) := by rcases h with rfl | rfl <;> rfl
theorem isb_k1 {b : Nat} (h : isb b) : b + 1 < 44 := by rcases h with rfl | rfl <;> exact Nat.le_of_ble_eq_true rfl
theorem isb_L2 {b : Nat} (h : isb b) : LaX (b + 2) = .inl (0, 6) := by rcases h with rfl | rfl <;> rfl
theorem isb_k2 {b : Nat} (h : isb b) : b + 2 < 44 := by rcases h with rfl | rfl <;> exact Nat.le_of_ble_eq_true rfl
theorem isb_L3 {b : Nat} (h : isb b) : LaX (b + 3) = .inl (1, 6) := by rcases h with rfl | rfl <;> rfl
theorem isb_k3 {b : Nat} (h : isb b) : b + 3 < 44 := by rcases h with rfl | rfl <;> exact Nat.le_of_ble_eq_true rfl
theorem isb_L4 {b : Nat} (h : isb b) : LaX (b + 4) = .inl (0, 6) := by rcases h with rfl | rfl <;> rfl
theorem isb_k4 {b : Nat} (h : isb b) : b + 4 < 44 := by rcases h with rfl | rfl <;> exact Nat.le_of_ble_eq_true rfl
theorem isb_L5 {b : Nat} (h : isb b) : LaX (b + 5) = .inl (0, 6) := by rcases h with rfl | rfl <;> rfl
theorem isb_k5 {b : Nat} (h : isb b) : b + 5 < 44 := by rcases h with rfl | rfl <;> exact Nat.le_of_ble_eq_true rfl
theorem isb_L6 {b : Nat} (h : isb b) : LaX (b + 6) = .inl (0, 6) := by rcases h with rfl | rfl <;> rfl
theorem isb_k6 {b : Nat} (h : isb b) : b + 6 < 44 := by rcases h with rfl | rfl <;> exact Nat.le_of_ble_eq_true rfl
theorem isb_L7 {b : Nat} (h : isb b) : LaX (b + 7) = .inl (0, 7) := by rcases h with rfl | rfl <;> rfl
theorem isb_k7 {b : Nat} (h : isb b) : b + 7 < 44 := by rcases h with rfl | rfl <;> exact Nat.le_of_ble_eq_true rfl
theorem isb_L8 {b : Nat} (h : isb b) : LaX (b + 8) = .inl (0, 146) := by rcases h with rfl | rfl <;> rfl
theorem isb_k8 {b : Nat} (h : isb b) : b + 8 < 44 := by rcases h with rfl | rfl <;> exact Nat.le_of_ble_eq_true rfl
theorem isb_L9 {b : Nat} (h : isb b) : LaX (b + 9) = .inl (0, 36) := by rcases h with rfl | rfl <;> rfl
theorem isb_k9 {b : Nat} (h : isb b) : b + 9 < 44 := by rcases h with rfl | rfl <;> exact Nat.le_of_ble_eq_true rfl
theorem isb_L10 {b : Nat} (h : isb b) : LaX (b + 10) = .inl (0, 36) := by rcases h with rfl | rfl <;> rfl
theorem isb_k10 {b : Nat} (h : isb b) : b + 10 < 44 := by rcases h with rfl | rfl <;> exact Nat.le_of_ble_eq_true rfl
theorem isb_L11 {b : Nat} (h : isb b) : LaX (b + 11) = .inl (0, 36) := by rcases h with rfl | rfl <;> rfl
theorem isb_k11 {b : Nat} (h : isb b) : b + 11 < 44 := by rcases h with rfl | rfl <;> exact Nat.le_of_ble_eq_true rfl
theorem isb_L12 {b : Nat} (h : isb b) : LaX (b + 12) = .inl (0, 36) := by rcases h with rfl | rfl <;> rfl
theorem isb_k12 {b : Nat} (h : isb b) : b + 12 < 44 := by rcases h with rfl | rfl <;> exact Nat.le_of_ble_eq_true rfl
theorem isb_L13 {b : Nat} (h : isb b) : LaX (b + 13) = .inl (0, 36) := by rcases h with rfl | rfl <;> rfl
theorem isb_k13 {b : Nat} (h : isb b) : b + 13 < 44 := by rcases h with rfl | rfl <;> exact Nat.le_of_ble_eq_true rfl
theorem istr_L {b : Nat} (h : istr b) : LaX b = .inl (0, 6) := by rcases h with rfl | rfl <;> rfl
theorem istr_k {b : Nat} (h : istr b) : b < 44 := by rcases h with rfl | rfl <;> exact Nat.le_of_ble_eq_true rfl
def zbk {α : Type} (x : Int32) (k : Nat → Option α) : Option α := if x = 11 then k 11 else if x = 25 then k 25 else none
theorem zbk_el {α : Type} {x : Int32} {k : Nat → Option α} {y : α} (h : zbk x k = some y) : ∃ b, isb b ∧ x = nI b ∧ k b = some y := by
  unfold zbk at h
  by_cases h1 : x = 11
  · rw [if_pos h1] at h; exact ⟨11, Or.inl rfl, h1, h⟩
  · rw [if_neg h1] at h
    by_cases h2 : x = 25
    · rw [if_pos h2] at h; exact ⟨25, Or.inr rfl, h2, h⟩
    · rw [if_neg h2] at h; cases h
def apt (i : Nat) : Int32 := ([(-1), 1431655765, 858993459, 286331153, 252645135, 84215045, 50529027, 16843009, 16711935, 5570645, 3342387, 1114129, 983055, 327685, 196611, 65537, 65535, 21845, 13107, 4369, 3855, 1285, 771, 257, 255, 85, 51, 17, 15, 5, 3, 1] : List Int32).getD i 0
/-- what is read beside the own cells: APART, the text "closed", two of the JDK's -/
def XX (ad : Nat → Nat) (A : Nat → Prop) (U : State) : Prop := va_Z "ShapeJudge$Judge" "APART" "[I" (.ref (ad 100)) A U U.heap ∧ va_T .int (ad 100) 32 (fun j => .int (apt j)) A U U.heap ∧ vk_R "ShapeJudge$Tokens" 47 "closed" (ad 101) U ∧ vk_S 1 [6] [[99, 108, 111, 115, 101, 100]] (fun _ => ad 101) (fun _ => ad 102) A U U.heap ∧ va_Z "java/lang/String" "COMPACT_STRINGS" "Z" (.int 1) A U U.heap ∧ va_Zq "jdk/internal/util/Preconditions" "SIOOBE_FORMATTER" "Ljava/util/function/BiFunction;" A U U.heap
def MX : ZM := (LaX, 44, XX)
def MM : ZM := (LaM, 44, fun _ _ _ => True)
theorem MM_ok : zXok MM := ⟨fun _ _ _ _ _ _ _ _ => trivial, fun _ _ _ _ _ _ _ => trivial⟩
theorem MX_ok : zXok MX := by
  refine ⟨fun ad A s U h hW hz hq => ?_, fun ad A U g mk a h => ?_⟩
  · obtain ⟨h1, h2, h3, h4, h5, h6⟩ := h
    exact ⟨(h1.moved hW.alike).kept hq, (h2.moved hW.alike).kept hq, h3.warm hW, (h4.moved hW.alike).kept hq, (h5.moved hW.alike).kept hq, (h6.moved hW.alike).kept hq⟩
  · obtain ⟨h1, h2, h3, h4, h5, h6⟩ := h
    have hv : U.vm.Alike (U.calling g mk a).vm := Vm.Alike.refl U.vm
    exact ⟨h1.moved hv, h2.moved hv, h3.same rfl, h4.moved hv, h5.moved hv, h6.moved hv⟩
