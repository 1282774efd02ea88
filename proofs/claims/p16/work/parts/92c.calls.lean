/-! the readings that stand, from call to call -/
def CX (mx mm : Mem) (c k : Nat) (d Z P : Nat → Nat) : Prop := CLX mx ∨ (¬ mx 39 4 = 0 ∧ GRD (nrm (img mx mm) P) c k d Z (Jr mm P 6) ∧ NB mx 40 c k ∧ (mx 39 5 = 0 ∨ (SRD (nrm (img mx mm) P) c k d Z ∧ NB mx 41 c k)))
def CM (mm : Mem) (c k : Nat) (d Z P : Nat → Nat) : Prop := mm 0 6 = 0 ∨ (GRD (nrm mm P) c k d Z (Jr mm P 6) ∧ SRD (nrm mm P) c k d Z ∧ ∀ i, i < 5 → mm 39 i = -4)
def HB (mm : Mem) (k : Nat) (d N T : Nat → Nat) (c : Nat) (P Z : Nat → Nat) : Prop := GG k d N T ∧ GM mm k d N T ∧ SH mm c P Z
def EX (mx mm : Mem) : Prop := ∀ (k : Nat) (d N T : Nat → Nat) (c : Nat) (P Z : Nat → Nat), HB mm k d N T c P Z → CX mx mm c k d Z P ∧ CM mm c k d Z P
/-- nothing that a reading looks at has changed -/
def KPX (m a : Mem) : Prop := a 39 4 = m 39 4 ∧ a 39 5 = m 39 5 ∧ a 40 = m 40 ∧ a 41 = m 41
def KPM (m b : Mem) : Prop := (∀ r, 1 ≤ r → r ≤ 18 → b r = m r) ∧ b 0 0 = m 0 0 ∧ b 0 7 = m 0 7
def KPR (m b : Mem) : Prop := b 0 6 = m 0 6 ∧ b 37 = m 37 ∧ b 38 = m 38 ∧ b 39 = m 39
theorem HB_k {mm b : Mem} {k c : Nat} {d N T P Z : Nat → Nat} (h : KPM mm b) (g : HB b k d N T c P Z) : HB mm k d N T c P Z := by
  obtain ⟨h1, h2, h3⟩ := h
  obtain ⟨g1, g2, g3⟩ := g
  refine ⟨g1, ?_, SH_c (fun a a1 a2 => (h1 a (by omega) (by omega)).symm) h3.symm g3⟩
  unfold GM at *
  rw [h2, h1 3 (by decide) (by decide), h1 4 (by decide) (by decide), h1 5 (by decide) (by decide)] at g2
  exact g2
theorem CX_k {mx mm a b : Mem} {c k : Nat} {d Z P : Nat → Nat} (hx : KPX mx a) (hm : KPM mm b) (h : CX mx mm c k d Z P) : CX a b c k d Z P := by
  obtain ⟨x1, x2, x3, x4⟩ := hx
  have ei : nrm (img a b) P = nrm (img mx mm) P := by
    funext r
    by_cases r1 : r = 37
    · rw [nrm_3 (Or.inl r1), nrm_3 (Or.inl r1), r1]
      show (fun j => if bt (a 40 (j / 10)) (j % 10) = true then (1 : Int32) else 0) = (fun j => if bt (mx 40 (j / 10)) (j % 10) = true then (1 : Int32) else 0)
      rw [x3]
    · by_cases r2 : r = 38
      · rw [nrm_3 (Or.inr r2), nrm_3 (Or.inr r2), r2]
        show (fun j => if bt (a 41 (j / 10)) (j % 10) = true then (1 : Int32) else 0) = (fun j => if bt (mx 41 (j / 10)) (j % 10) = true then (1 : Int32) else 0)
        rw [x4]
      · rw [nrm_img r r1 r2, nrm_img r r1 r2]
        exact nrm_e hm.1 hm.2.1 hm.2.2 r r1 r2
  have ej : Jr b P 6 = Jr mm P 6 := Jr_e (hm.1 10 (by decide) (by decide)) (hm.1 11 (by decide) (by decide)) 6
  unfold CX CLX NB at *
  rw [ei, ej, x1, x2, x3, x4]
  exact h
theorem CM_k {mm b : Mem} {c k : Nat} {d Z P : Nat → Nat} (hm : KPM mm b) (hr : KPR mm b) (h : CM mm c k d Z P) : CM b c k d Z P := by
  obtain ⟨r1, r2, r3, r4⟩ := hr
  have ei : nrm b P = nrm mm P := by
    funext r
    by_cases q1 : r = 37
    · rw [nrm_3 (Or.inl q1), nrm_3 (Or.inl q1), q1, r2]
    · by_cases q2 : r = 38
      · rw [nrm_3 (Or.inr q2), nrm_3 (Or.inr q2), q2, r3]
      · exact nrm_e hm.1 hm.2.1 hm.2.2 r q1 q2
  have ej : Jr b P 6 = Jr mm P 6 := Jr_e (hm.1 10 (by decide) (by decide)) (hm.1 11 (by decide) (by decide)) 6
  unfold CM at *
  rw [ei, ej, r1, r4]
  exact h
def CH (mx mm a b : Mem) : Prop := (KPX mx a ∧ KPM mm b ∧ KPR mm b) ∨ (CLX a ∧ b 0 6 = 0)
theorem KPX_r {m : Mem} : KPX m m := ⟨rfl, rfl, rfl, rfl⟩
theorem KPM_r {m : Mem} : KPM m m := ⟨fun _ _ _ => rfl, rfl, rfl⟩
theorem KPR_r {m : Mem} : KPR m m := ⟨rfl, rfl, rfl, rfl⟩
theorem CH_r {mx mm : Mem} : CH mx mm mx mm := Or.inl ⟨KPX_r, KPM_r, KPR_r⟩
theorem EX_ch {mx mm a b : Mem} (h : EX mx mm) (ch : CH mx mm a b) : EX a b := fun k d N T c P Z hb => by
  rcases ch with ⟨h1, h2, h3⟩ | ⟨h1, h2⟩
  · obtain ⟨e1, e2⟩ := h k d N T c P Z (HB_k h2 hb)
    exact ⟨CX_k h1 h2 e1, CM_k h2 h3 e2⟩
  · exact ⟨Or.inl h1, Or.inl h2⟩
/-- both, with the readings that stand, and no edge bound -/
def A63 (mx : Mem) : Prop := ∀ i, i < 5 → mx 42 i = 63
def JC (mx mm : Mem) : Prop := JW mx mm ∧ A63 mx ∧ EX mx mm
theorem A63_of {m m2 : Mem} (h : A63 m) (e : m2 42 = m 42) : A63 m2 := by
  unfold A63 at *
  rw [e]
  exact h
