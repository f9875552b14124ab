/-! the start: what the two constructors make -/
noncomputable def hA : HP := alc hz (11, 6)
noncomputable def oBs : Option (Unit × HP) := X11_init 60000 1 hA
noncomputable def hB : HP := (oBs.getD ((), hz)).2
noncomputable def hC : HP := alc hB (12, 31)
noncomputable def oD : Option (Unit × HP) := X12_init 60000 113 hC
noncomputable def hD : HP := (oD.getD ((), hz)).2
noncomputable def hE : HP := alc hD (101, 1)
theorem oB_e : oBs = some ((), hB) := by
  have h : oBs.isSome = true := by decide +kernel
  unfold hB
  cases e : oBs with
  | none => rw [e] at h; cases h
  | some p => rfl
theorem oD_e : oD = some ((), hD) := by
  have h : oD.isSome = true := by decide +kernel
  unfold hD
  cases e : oD with
  | none => rw [e] at h; cases h
  | some p => rfl
theorem gn_hB : gn hB = 112 := by decide +kernel
theorem gn_hD : gn hD = 125 := by decide +kernel
theorem st_law (sl : Nat) (sc : Nat → Int) : XL_law 60000 sl sc hz = XL_law_L23 60000 sl sc 60000 (some 1) (some 113) (some 126) 0 hE := by
  unfold XL_law
  have e1 : xnw hz 11 6 = some hA := rfl
  have e2 : X11_init 60000 (gn hA) hA = some ((), hB) := oB_e
  have e3 : xnw hB 12 31 = some hC := by unfold xnw; rw [gn_hB]; rfl
  have g3 : gn hC = 113 := by show gn hB + 1 = 113; rw [gn_hB]
  have e4 : X12_init 60000 (gn hC) hC = some ((), hD) := by rw [g3]; exact oD_e
  have e5 : xna hD 101 1 = some hE := by unfold xna; rw [gn_hD]; rfl
  have g5 : gn hE = 126 := by show gn hD + 1 = 126; rw [gn_hD]
  rw [e1, Option.bind_some, b_xb _ _ _ _ e2, e3, Option.bind_some, b_xb _ _ _ _ e4, e5, Option.bind_some, g3, g5]
  rfl
set_option maxRecDepth 100000 in
theorem st_LayC : LayC hE := by unfold LayC; (repeat' (refine And.intro ?_ ?_)) <;> decide +kernel
set_option maxRecDepth 100000 in
theorem st_LayK : LayK hE := by unfold LayK; (repeat' (refine And.intro ?_ ?_)) <;> decide +kernel
set_option maxRecDepth 100000 in
theorem st_LayM : LayM hE := by unfold LayM; decide +kernel
set_option maxRecDepth 100000 in
theorem st_w : (∀ i : Nat, i < 64 → gI hE 12 i = 0 ∧ gI hE 13 i = 0 ∧ gI hE 114 (9 + i) = 0 ∧ gI hE 114 (73 + i) = 0) ∧ (∀ i : Nat, i < 16 → gI hE 14 i = 0 ∧ gI hE 15 i = 0 ∧ gI hE 114 (137 + 2 * i) = 0 ∧ gI hE 114 (138 + 2 * i) = 0) := by decide +kernel
set_option maxRecDepth 100000 in
theorem st_b : (∀ g : Nat, g < 4 → gI hE 43 g = 1 ∧ gI hE 44 g = 1 ∧ gI hE 45 g = 1 ∧ gI hE 46 g = 0 ∧ gI hE 114 (11254 + 4 * g) = 1 ∧ gI hE 114 (11254 + 4 * g + 1) = 1 ∧ gI hE 114 (11254 + 4 * g + 2) = 1 ∧ gI hE 114 (11254 + 4 * g + 3) = 0) ∧ (∀ k : Nat, k < 3 → gI hE 47 k = 0 ∧ gI hE 114 (11270 + k) = 0 ∧ gI hE 48 k = 0) ∧ gI hE 42 6 = 0 ∧ gI hE 42 7 = 0 ∧ gI hE 114 11273 = 0 ∧ gI hE 114 11274 = 0 := by decide +kernel
set_option maxRecDepth 100000 in
theorem st_s : gI hE 9 6 = 0 ∧ gI hE 9 7 = 0 ∧ gI hE 9 8 = 0 ∧ gI hE 9 9 = 0 ∧ gI hE 9 10 = -1 ∧ gI hE 9 11 = 0 ∧ gI hE 51 5 = 0 ∧ gI hE 11 8 = 0 ∧ gI hE 19 5 = 0 ∧ gI hE 114 0 = 0 ∧ gI hE 114 1 = 0 ∧ gI hE 114 2 = 0 ∧ gI hE 114 3 = 0 ∧ gI hE 114 4 = -1 ∧ gI hE 114 5 = 0 ∧ gI hE 114 6 = 0 ∧ gI hE 114 7 = 0 ∧ gI hE 114 8 = 0 ∧ gI hE 37 4 = 0 ∧ gI hE 114 10753 = 0 ∧ gI hE 51 4 = 0 ∧ gI hE 114 11275 = 0 ∧ gI hE 11 7 = 0 ∧ gI hE 114 11356 = 0 ∧ gI hE 19 4 = 1 ∧ gI hE 10 5 = -1 ∧ gI hE 1 4 = 0 ∧ gI hE 113 3 = 0 ∧ gI hE 107 0 = 0 ∧ gI hE 108 0 = 0 ∧ gI hE 109 0 = 0 ∧ gI hE 110 0 = 0 ∧ gI hE 111 0 = 0 ∧ gI hE 2 1 = 0 ∧ gI hE 113 5 = 0 ∧ gI hE 1 1 = -1 ∧ gI hE 113 10 = -1 ∧ gn hE = 126 ∧ gS hE 126 = (101, 1) ∧ gc hE ≤ 1000 ∧ gs hE ≤ 300000 := by decide +kernel
set_option maxRecDepth 100000 in
theorem st_z : (∀ k : Nat, k < 3 → gI hE 95 k = 0) ∧ (∀ j : Nat, j < 12 → gI hE (25 + j) 4 = 0 ∧ gI hE (72 + j) 4 = 0) := by decide +kernel
theorem aI_nat (h : HP) (a : Nat) (i : Int) : aI h a i = gI h a i.toNat := rfl
theorem st_RA : RA 0 hE := by
  obtain ⟨s1, s2, s3, s4, s5, s6, s7, s8, s9, w0, w1, w2, w3, w4, w5, w6, w7, w8, p1, p2, p3, p4, p5, p6, p7, p8, p9, p10, p11, p12, p13, p14, p15, p16, p17, p18, p19, p20, p21, p22, p23⟩ := st_s
  obtain ⟨a1, a2⟩ := st_w
  obtain ⟨b1, b2, b3, b4, b5, b6⟩ := st_b
  have W : ∀ k : Nat, aI hE 114 (k : Int) = gI hE 114 k := fun k => rfl
  have e0 : aI hE 114 0 = 0 := w0
  have e1 : aI hE 114 1 = 0 := w1
  have e2 : aI hE 114 2 = 0 := w2
  have e3 : aI hE 114 3 = 0 := w3
  have e4 : aI hE 114 4 = -1 := w4
  have e5 : aI hE 114 5 = 0 := w5
  have e6 : aI hE 114 6 = 0 := w6
  have e7 : aI hE 114 7 = 0 := w7
  have e8 : aI hE 114 8 = 0 := w8
  have f1 : aI hE 114 10753 = 0 := p2
  have f2 : aI hE 114 11275 = 0 := p4
  have f3 : aI hE 114 11356 = 0 := p6
  have f4 : aI hE 114 11273 = 0 := b5
  have f5 : aI hE 114 11274 = 0 := b6
  refine ⟨st_LayC, st_LayK, st_LayM, by omega, by omega, p21, p8, by rw [p9, p10], Or.inl p10, p11, p12, p13, p14, p15, ?_, ?_, ?_, fun q => ?_, by omega, by omega, fun k h0 h1 => st_z.1 k.toNat (by omega), fun j hj => ⟨Or.inl (st_z.2 j hj).1, Or.inl (st_z.2 j hj).2⟩⟩
  · refine ⟨by rw [p16, p17], by omega, by omega, by rw [p18, p19], fun i h0 h1 => by omega⟩
  · refine ⟨?_, ?_, fun i h0 h1 => ?_, fun i h0 h1 => ?_, ?_, ⟨fun g h0 h1 => ?_, fun k h0 h1 => ?_, ?_⟩, ?_, ?_, fun j hj => ?_, ⟨fun j h0 h1 => ?_, ?_⟩, fun q => ?_⟩
    · unfold RSc; simp only [Nat.add_zero]; rw [e0, e1, e2, e3, e4, e5, e6, e7, e8]; exact ⟨s1, s2, s3, s4, s5, s6, s7, s8, s9⟩
    · unfold GSc; rw [e0, e1, e2, e3, e4, e5, e6, e8]; decide
    · obtain ⟨i, rfl⟩ := Int.eq_ofNat_of_zero_le h0
      obtain ⟨q1, q2, q3, q4⟩ := a1 i (by omega)
      rw [show (9 : Int) + i = ((9 + i : Nat) : Int) by omega, show (73 : Int) + i = ((73 + i : Nat) : Int) by omega, W, W, q3, q4]
      exact ⟨q1, q2, in32_0, in32_0⟩
    · obtain ⟨i, rfl⟩ := Int.eq_ofNat_of_zero_le h0
      obtain ⟨q1, q2, q3, q4⟩ := a2 i (by omega)
      rw [show (137 : Int) + 2 * i = ((137 + 2 * i : Nat) : Int) by omega, show (138 : Int) + 2 * i = ((138 + 2 * i : Nat) : Int) by omega, W, W, q3, q4]
      exact ⟨q1, q2, in32_0⟩
    · unfold RWt; rw [f1]; exact ⟨p1, by decide, by decide, fun k h0 h1 => by omega⟩
    · obtain ⟨i, rfl⟩ := Int.eq_ofNat_of_zero_le h0
      obtain ⟨q1, q2, q3, q4, q5, q6, q7, q8⟩ := b1 i (by omega)
      rw [show (11254 : Int) + 4 * i = ((11254 + 4 * i : Nat) : Int) by omega, show ((11254 + 4 * i : Nat) : Int) + 1 = ((11254 + 4 * i + 1 : Nat) : Int) by omega, show ((11254 + 4 * i : Nat) : Int) + 2 = ((11254 + 4 * i + 2 : Nat) : Int) by omega, show ((11254 + 4 * i : Nat) : Int) + 3 = ((11254 + 4 * i + 3 : Nat) : Int) by omega, W, W, W, W, q5, q6, q7, q8]
      exact ⟨q1, q2, q3, q4, by decide, by decide, by decide, by decide, by decide, by decide, by decide, by decide⟩
    · obtain ⟨i, rfl⟩ := Int.eq_ofNat_of_zero_le h0
      obtain ⟨q1, q2, q3⟩ := b2 i (by omega)
      rw [show (11270 : Int) + i = ((11270 + i : Nat) : Int) by omega, W, q2]
      exact ⟨q1, by decide, by decide, q3⟩
    · rw [f4, f5]; exact ⟨b3, b4, by decide, by decide, by decide, by decide⟩
    · unfold RPy; rw [f2]; exact ⟨p3, by decide, by decide, fun k h0 h1 => by omega⟩
    · unfold RRw; rw [f3]; exact ⟨p5, by decide, by decide, fun k h0 h1 => by omega⟩
    · omega
    · omega
    · refine Or.inl ⟨p7, ⟨0, by rw [e8]; rfl⟩, fun n hn => by omega⟩
    · omega
  · unfold ptl; rw [f3, e8]; decide
  · omega
