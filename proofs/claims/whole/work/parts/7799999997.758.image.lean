/-! the image -/
/-- the cells of a night that are copied, and those that must be -/
def CqN (R : Int) (a k : Nat) : Prop := (a = 12 ∨ a = 13) ∧ k < 64 ∨ (a = 14 ∨ a = 15) ∧ k < 16 ∨ (a = 16 ∨ a = 17 ∨ a = 18) ∧ (k : Int) < R ∨ a = 11 ∧ (k = 7 ∨ k = 8) ∨ 25 ≤ a ∧ a ≤ 36 ∧ k < 18 ∧ k ≠ 5 ∨ (a = 21 ∨ a = 22) ∧ k < 12 ∨ a = 19 ∧ (k = 4 ∨ k = 5) ∨ 38 ≤ a ∧ a ≤ 41 ∧ k < 100 ∨ a = 37 ∧ k = 4 ∨ 43 ≤ a ∧ a ≤ 46 ∧ k < 4 ∨ a = 47 ∧ k < 3 ∨ a = 42 ∧ (k = 6 ∨ k = 7) ∨ 52 ≤ a ∧ a ≤ 55 ∧ k < 20 ∨ a = 51 ∧ (k = 4 ∨ k = 5) ∨ a = 9 ∧ 6 ≤ k ∧ k ≤ 11
theorem cq0 {R : Int} {a k : Nat} (h : (a = 12 ∨ a = 13) ∧ k < 64) : CqN R a k := Or.inl h
theorem cq1 {R : Int} {a k : Nat} (h : (a = 14 ∨ a = 15) ∧ k < 16) : CqN R a k := Or.inr (Or.inl h)
theorem cq2 {R : Int} {a k : Nat} (h : (a = 16 ∨ a = 17 ∨ a = 18) ∧ (k : Int) < R) : CqN R a k := Or.inr (Or.inr (Or.inl h))
theorem cq3 {R : Int} {a k : Nat} (h : a = 11 ∧ (k = 7 ∨ k = 8)) : CqN R a k := Or.inr (Or.inr (Or.inr (Or.inl h)))
theorem cq4 {R : Int} {a k : Nat} (h : 25 ≤ a ∧ a ≤ 36 ∧ k < 18 ∧ k ≠ 5) : CqN R a k := Or.inr (Or.inr (Or.inr (Or.inr (Or.inl h))))
theorem cq5 {R : Int} {a k : Nat} (h : (a = 21 ∨ a = 22) ∧ k < 12) : CqN R a k := Or.inr (Or.inr (Or.inr (Or.inr (Or.inr (Or.inl h)))))
theorem cq6 {R : Int} {a k : Nat} (h : a = 19 ∧ (k = 4 ∨ k = 5)) : CqN R a k := Or.inr (Or.inr (Or.inr (Or.inr (Or.inr (Or.inr (Or.inl h))))))
theorem cq7 {R : Int} {a k : Nat} (h : 38 ≤ a ∧ a ≤ 41 ∧ k < 100) : CqN R a k := Or.inr (Or.inr (Or.inr (Or.inr (Or.inr (Or.inr (Or.inr (Or.inl h)))))))
theorem cq8 {R : Int} {a k : Nat} (h : a = 37 ∧ k = 4) : CqN R a k := Or.inr (Or.inr (Or.inr (Or.inr (Or.inr (Or.inr (Or.inr (Or.inr (Or.inl h))))))))
theorem cq9 {R : Int} {a k : Nat} (h : 43 ≤ a ∧ a ≤ 46 ∧ k < 4) : CqN R a k := Or.inr (Or.inr (Or.inr (Or.inr (Or.inr (Or.inr (Or.inr (Or.inr (Or.inr (Or.inl h)))))))))
theorem cq10 {R : Int} {a k : Nat} (h : a = 47 ∧ k < 3) : CqN R a k := Or.inr (Or.inr (Or.inr (Or.inr (Or.inr (Or.inr (Or.inr (Or.inr (Or.inr (Or.inr (Or.inl h))))))))))
theorem cq11 {R : Int} {a k : Nat} (h : a = 42 ∧ (k = 6 ∨ k = 7)) : CqN R a k := Or.inr (Or.inr (Or.inr (Or.inr (Or.inr (Or.inr (Or.inr (Or.inr (Or.inr (Or.inr (Or.inr (Or.inl h)))))))))))
theorem cq12 {R : Int} {a k : Nat} (h : 52 ≤ a ∧ a ≤ 55 ∧ k < 20) : CqN R a k := Or.inr (Or.inr (Or.inr (Or.inr (Or.inr (Or.inr (Or.inr (Or.inr (Or.inr (Or.inr (Or.inr (Or.inr (Or.inl h))))))))))))
theorem cq13 {R : Int} {a k : Nat} (h : a = 51 ∧ (k = 4 ∨ k = 5)) : CqN R a k := Or.inr (Or.inr (Or.inr (Or.inr (Or.inr (Or.inr (Or.inr (Or.inr (Or.inr (Or.inr (Or.inr (Or.inr (Or.inr (Or.inl h)))))))))))))
theorem cq14 {R : Int} {a k : Nat} (h : a = 9 ∧ 6 ≤ k ∧ k ≤ 11) : CqN R a k := Or.inr (Or.inr (Or.inr (Or.inr (Or.inr (Or.inr (Or.inr (Or.inr (Or.inr (Or.inr (Or.inr (Or.inr (Or.inr (Or.inr (h))))))))))))))
theorem RN.cp {h h' : HP} {s d : Nat} {W : Int → Int} (r : RN h s W) (f : ∀ a k, 9 ≤ a → a ≤ 55 → CqN (W 11356) a k → gI h' (a + d) k = gI h (a + s) k) (z : ∀ k : Int, 0 ≤ k → k < 3 → aI h' (48 + d) k = 0) (p : ∀ j, j < 12 → gP h' (25 + d + j) 5 = gP h (25 + s + j) 5) (t : ∀ t, 126 < t → t ≤ gn h → gI h' t = gI h t ∧ gJ h' t = gJ h t ∧ gP h' t = gP h t ∧ gS h' t = gS h t) (gl : gn h ≤ gn h') : RN h' d W := by
  obtain ⟨r1, r2, r3, r4, r5, r6, r7, r8, r9, r10, r11⟩ := r
  have g := r2.2.2.2.2.2.2.2.2.2.2.2.2.2
  have fa : ∀ (a : Nat) (i : Int), 9 ≤ a → a ≤ 55 → CqN (W 11356) a i.toNat → aI h' (a + d) i = aI h (a + s) i := fun a i h1 h2 q => f a i.toNat h1 h2 q
  have sx : SmX (fun _ _ => true) h h' s d := ⟨(fun a k h1 h2 h3 h4 => by cases h4), p, t, gl⟩
  refine ⟨?_, r2, ?_, ?_, ?_, ?_, ?_, ?_, ?_, ?_, r11⟩
  · unfold RSc at *
    rw [f 9 6 (by decide) (by decide) (cq14 (by omega)), f 9 7 (by decide) (by decide) (cq14 (by omega)), f 9 8 (by decide) (by decide) (cq14 (by omega)), f 9 9 (by decide) (by decide) (cq14 (by omega)), f 9 10 (by decide) (by decide) (cq14 (by omega)), f 9 11 (by decide) (by decide) (cq14 (by omega)), f 51 5 (by decide) (by decide) (cq13 (by omega)), f 11 8 (by decide) (by decide) (cq3 (by omega)), f 19 5 (by decide) (by decide) (cq6 (by omega))]
    exact r1
  · intro i i0 i1
    rw [fa 12 i (by decide) (by decide) (cq0 (by omega)), fa 13 i (by decide) (by decide) (cq0 (by omega))]
    exact r3 i i0 i1
  · intro i i0 i1
    rw [fa 14 i (by decide) (by decide) (cq1 (by omega)), fa 15 i (by decide) (by decide) (cq1 (by omega))]
    exact r4 i i0 i1
  · obtain ⟨a1, a2, a3, a4⟩ := r5
    refine ⟨by rw [f 37 4 (by decide) (by decide) (cq8 (by omega))]; exact a1, a2, a3, fun k k0 k1 => ?_⟩
    rw [fa 38 k (by decide) (by decide) (cq7 (by omega)), fa 39 k (by decide) (by decide) (cq7 (by omega)), fa 40 k (by decide) (by decide) (cq7 (by omega)), fa 41 k (by decide) (by decide) (cq7 (by omega))]
    exact a4 k k0 k1
  · obtain ⟨a1, a2, a3, a4, a5⟩ := r6
    refine ⟨fun k k0 k1 => ?_, fun k k0 k1 => ?_, by rw [f 42 6 (by decide) (by decide) (cq11 (by omega))]; exact a3, by rw [f 42 7 (by decide) (by decide) (cq11 (by omega))]; exact a4, a5⟩
    · rw [fa 43 k (by decide) (by decide) (cq9 (by omega)), fa 44 k (by decide) (by decide) (cq9 (by omega)), fa 45 k (by decide) (by decide) (cq9 (by omega)), fa 46 k (by decide) (by decide) (cq9 (by omega))]
      exact a1 k k0 k1
    · rw [fa 47 k (by decide) (by decide) (cq10 (by omega)), z k k0 k1]
      obtain ⟨b1, b2, b3, b4⟩ := a2 k k0 k1
      exact ⟨b1, b2, b3, rfl⟩
  · obtain ⟨a1, a2, a3, a4⟩ := r7
    refine ⟨by rw [f 51 4 (by decide) (by decide) (cq13 (by omega))]; exact a1, a2, a3, fun k k0 k1 => ?_⟩
    rw [fa 52 k (by decide) (by decide) (cq12 (by omega)), fa 53 k (by decide) (by decide) (cq12 (by omega)), fa 54 k (by decide) (by decide) (cq12 (by omega)), fa 55 k (by decide) (by decide) (cq12 (by omega))]
    exact a4 k k0 k1
  · obtain ⟨a1, a2, a3, a4⟩ := r8
    refine ⟨by rw [f 11 7 (by decide) (by decide) (cq3 (by omega))]; exact a1, a2, a3, fun k k0 k1 => ?_⟩
    unfold RR1
    rw [fa 16 k (by decide) (by decide) (cq2 (by omega)), fa 17 k (by decide) (by decide) (cq2 (by omega)), fa 18 k (by decide) (by decide) (cq2 (by omega))]
    exact a4 k k0 k1
  · intro j hj
    obtain ⟨a1, a2, tt, a3, a4⟩ := r9 j hj
    have fj : ∀ k, k < 18 → k ≠ 5 → gI h' (25 + d + j) k = gI h (25 + s + j) k := fun k k1 k2 => by
      have := f (25 + j) k (by omega) (by omega) (cq4 (by omega))
      rw [show 25 + d + j = 25 + j + d by omega, show 25 + s + j = 25 + j + s by omega]; exact this
    refine ⟨?_, a2, tt, by rw [p j (by omega)]; exact a3, a4.cg sx (fun i _ _ _ => rfl)⟩
    unfold JBf at *
    rw [fj 0 (by decide) (by decide), fj 1 (by decide) (by decide), fj 2 (by decide) (by decide), fj 3 (by decide) (by decide), fj 4 (by decide) (by decide), fj 6 (by decide) (by decide), fj 7 (by decide) (by decide), fj 8 (by decide) (by decide), fj 9 (by decide) (by decide), fj 12 (by decide) (by decide), fj 13 (by decide) (by decide), fj 10 (by decide) (by decide), fj 14 (by decide) (by decide), fj 15 (by decide) (by decide), fj 16 (by decide) (by decide), fj 17 (by decide) (by decide), fj 11 (by decide) (by decide)]
    exact a1
  · obtain ⟨a1, a2⟩ := r10
    refine ⟨fun j j0 j1 => ?_, ?_⟩
    · rw [fa 21 j (by decide) (by decide) (cq5 (by omega))]; exact a1 j j0 j1
    · rw [f 19 4 (by decide) (by decide) (cq6 (by omega))]
      rcases a2 with ⟨b1, b2, b3⟩ | b
      · refine Or.inl ⟨b1, b2, fun n hn => ?_⟩
        rw [fa 22 n (by decide) (by decide) (cq5 (by omega))]; exact b3 n hn
      · exact Or.inr b
section IM
variable {F : Nat}
theorem E_imM {R : Int} (h0 : 0 ≤ R) (h1 : R ≤ 5120) : ∀ (m i k : Nat) (h : HP), m < k → ((i + m : Nat) : Int) = 11357 + 7 * R → LayM h → aI h 114 11356 = R → (∀ j : Nat, j < i → aI h 115 j = aI h 114 j) → ∃ h', X12_image_L7 F k 113 i h = some ((), sI h' 113 3 1) ∧ Oi 115 h h' ∧ ∀ j : Nat, (j : Int) < 11357 + 7 * R → aI h' 115 j = aI h 114 j := by
  intro m
  induction m with
  | zero =>
    intro i k h hk hi L e r
    obtain ⟨k, rfl⟩ : ∃ k', k = k' + 1 := ⟨k - 1, by omega⟩
    have e2 : w32 (11357 + w32 (7 * R)) = 11357 + 7 * R := by rw [w32i (7 * R) (by omega) (by omega), w32i _ (by omega) (by omega)]
    refine ⟨h, ?_, Oi.rf _ _, fun j hj => r j (by omega)⟩
    rw [X12_image_L7_s]
    simp (disch := (first | assumption | with_reducible rfl | (simp only [LayC_sI, LayC_sJ, LayC_sA, LayC_sB, LayC_sIr, LayC_exc, LayM_sI, LayM_sJ, LayM_sA, LayM_sB, LayM_sIr, LayM_exc, LayK_sI, LayK_sJ, LayK_sA, LayK_sB, LayK_sIr, LayK_exc]; assumption) | omega | decide | (simp (disch := (first | decide | omega)) only [gI_sJ, gI_sB, gI_sP, gI_exc, gI_sIe, aI_sJ, aI_sB, aI_sP, aI_exc, aI_sAe, aJ_sI, aJ_sA, aJ_sP, aJ_sIr, aJ_exc, aJ_sBe, gJ_sI, gJ_sA, gJ_sP, gJ_sIr, gJ_exc, gP_sI, gP_sJ, gP_sA, gP_sB, gP_sIr, gP_exc, gI_sIn, gI_sIk, gI_sAn, gI_sIrn, aI_sIn, aI_sAn, aI_sIrn, aI_sAk, aJ_sJn, aJ_sBn, gJ_sJn, gJ_sBn, gJ_sJe, gS_sI, gS_sJ, gS_sP, gS_sA, gS_sB, gS_sIr, gS_exc, w32i, w64i]; first | done | assumption | omega))) only [↓b_xbs, ↓b_xthr, ↓b_xthl, ↓b_xctr, ↓b_xctl, ↓b_xz, ↓b_xzX, ↓b_xd, ↓if_pos, ↓if_neg, ↓mI113, ↓mW113, ↓mZ113, ↓mJ113, ↓mV113, ↓mR113, ↓mA114, ↓mS114, ↓mL114, ↓mA115, ↓mS115, ↓mL115, ↓mA116, ↓mS116, ↓mL116, ↓mA117, ↓mS117, ↓mL117, ↓mA118, ↓mS118, ↓mL118, ↓mA119, ↓mS119, ↓mL119, ↓mA120, ↓mS120, ↓mL120, ↓mA121, ↓mS121, ↓mL121, ↓mA122, ↓mS122, ↓mL122, ↓mA123, ↓mS123, ↓mL123, ↓mA124, ↓mS124, ↓mL124, ↓mA125, ↓mS125, ↓mL125, ↓mA126, ↓mS126, ↓mL126, ↓mP113_1, ↓mP113_2, ↓mP113_4, ↓mP113_11, ↓mP113_12, ↓mP113_16, ↓mP113_17, ↓mP113_18, ↓mP113_24, ↓mP113_25, ↓mP113_29, ↓mP113_30, e, e2]
  | succ m ih =>
    intro i k h hk hi L e r
    obtain ⟨k, rfl⟩ : ∃ k', k = k' + 1 := ⟨k - 1, by omega⟩
    have e1 : w32 ((i : Int) + 1) = ((i + 1 : Nat) : Int) := by rw [w32i _ (by omega) (by omega)]; omega
    have e2 : w32 (11357 + w32 (7 * R)) = 11357 + 7 * R := by rw [w32i (7 * R) (by omega) (by omega), w32i _ (by omega) (by omega)]
    have w : aI (sA h 115 i (aI h 114 i)) 114 = aI h 114 := aI_sAn _ _ _ _ _ (by decide)
    obtain ⟨h', a, o, z⟩ := ih (i + 1) k (sA h 115 i (aI h 114 i)) (by omega) (by omega) L (by rw [w]; exact e) (fun j hj => by
      rw [aI_sA _ _ _ _ _ (by omega) (by omega), w]
      by_cases c : j = i
      · subst c; rw [if_pos rfl]
      · rw [if_neg (by omega)]; exact r j (by omega))
    refine ⟨h', ?_, (Oi.A 115 h _ _).tr o, fun j hj => by rw [z j hj, w]⟩
    rw [← a, X12_image_L7_s]
    simp (disch := (first | assumption | with_reducible rfl | (simp only [LayC_sI, LayC_sJ, LayC_sA, LayC_sB, LayC_sIr, LayC_exc, LayM_sI, LayM_sJ, LayM_sA, LayM_sB, LayM_sIr, LayM_exc, LayK_sI, LayK_sJ, LayK_sA, LayK_sB, LayK_sIr, LayK_exc]; assumption) | omega | decide | (simp (disch := (first | decide | omega)) only [gI_sJ, gI_sB, gI_sP, gI_exc, gI_sIe, aI_sJ, aI_sB, aI_sP, aI_exc, aI_sAe, aJ_sI, aJ_sA, aJ_sP, aJ_sIr, aJ_exc, aJ_sBe, gJ_sI, gJ_sA, gJ_sP, gJ_sIr, gJ_exc, gP_sI, gP_sJ, gP_sA, gP_sB, gP_sIr, gP_exc, gI_sIn, gI_sIk, gI_sAn, gI_sIrn, aI_sIn, aI_sAn, aI_sIrn, aI_sAk, aJ_sJn, aJ_sBn, gJ_sJn, gJ_sBn, gJ_sJe, gS_sI, gS_sJ, gS_sP, gS_sA, gS_sB, gS_sIr, gS_exc, w32i, w64i]; first | done | assumption | omega))) only [↓b_xbs, ↓b_xthr, ↓b_xthl, ↓b_xctr, ↓b_xctl, ↓b_xz, ↓b_xzX, ↓b_xd, ↓if_pos, ↓if_neg, ↓mI113, ↓mW113, ↓mZ113, ↓mJ113, ↓mV113, ↓mR113, ↓mA114, ↓mS114, ↓mL114, ↓mA115, ↓mS115, ↓mL115, ↓mA116, ↓mS116, ↓mL116, ↓mA117, ↓mS117, ↓mL117, ↓mA118, ↓mS118, ↓mL118, ↓mA119, ↓mS119, ↓mL119, ↓mA120, ↓mS120, ↓mL120, ↓mA121, ↓mS121, ↓mL121, ↓mA122, ↓mS122, ↓mL122, ↓mA123, ↓mS123, ↓mL123, ↓mA124, ↓mS124, ↓mL124, ↓mA125, ↓mS125, ↓mL125, ↓mA126, ↓mS126, ↓mL126, ↓mP113_1, ↓mP113_2, ↓mP113_4, ↓mP113_11, ↓mP113_12, ↓mP113_16, ↓mP113_17, ↓mP113_18, ↓mP113_24, ↓mP113_25, ↓mP113_29, ↓mP113_30, e, e2, e1]
theorem E_baM2 {R : Int} (h0 : 0 ≤ R) (h1 : R ≤ 5120) : ∀ (m i k : Nat) (h : HP), m < k → ((i + m : Nat) : Int) = 11357 + 7 * R → LayM h → aI h 115 11356 = R → (∀ j : Nat, j < i → aI h 114 j = aI h 115 j) → ∃ h', X12_back_L16 F k 113 i h = some (1, h') ∧ Oi 114 h h' ∧ ∀ j : Nat, (j : Int) < 11357 + 7 * R → aI h' 114 j = aI h 115 j := by
  intro m
  induction m with
  | zero =>
    intro i k h hk hi L e r
    obtain ⟨k, rfl⟩ : ∃ k', k = k' + 1 := ⟨k - 1, by omega⟩
    have e2 : w32 (11357 + w32 (7 * R)) = 11357 + 7 * R := by rw [w32i (7 * R) (by omega) (by omega), w32i _ (by omega) (by omega)]
    refine ⟨h, ?_, Oi.rf _ _, fun j hj => r j (by omega)⟩
    rw [X12_back_L16_s]
    simp (disch := (first | assumption | with_reducible rfl | (simp only [LayC_sI, LayC_sJ, LayC_sA, LayC_sB, LayC_sIr, LayC_exc, LayM_sI, LayM_sJ, LayM_sA, LayM_sB, LayM_sIr, LayM_exc, LayK_sI, LayK_sJ, LayK_sA, LayK_sB, LayK_sIr, LayK_exc]; assumption) | omega | decide | (simp (disch := (first | decide | omega)) only [gI_sJ, gI_sB, gI_sP, gI_exc, gI_sIe, aI_sJ, aI_sB, aI_sP, aI_exc, aI_sAe, aJ_sI, aJ_sA, aJ_sP, aJ_sIr, aJ_exc, aJ_sBe, gJ_sI, gJ_sA, gJ_sP, gJ_sIr, gJ_exc, gP_sI, gP_sJ, gP_sA, gP_sB, gP_sIr, gP_exc, gI_sIn, gI_sIk, gI_sAn, gI_sIrn, aI_sIn, aI_sAn, aI_sIrn, aI_sAk, aJ_sJn, aJ_sBn, gJ_sJn, gJ_sBn, gJ_sJe, gS_sI, gS_sJ, gS_sP, gS_sA, gS_sB, gS_sIr, gS_exc, w32i, w64i]; first | done | assumption | omega))) only [↓b_xbs, ↓b_xthr, ↓b_xthl, ↓b_xctr, ↓b_xctl, ↓b_xz, ↓b_xzX, ↓b_xd, ↓if_pos, ↓if_neg, ↓mI113, ↓mW113, ↓mZ113, ↓mJ113, ↓mV113, ↓mR113, ↓mA114, ↓mS114, ↓mL114, ↓mA115, ↓mS115, ↓mL115, ↓mA116, ↓mS116, ↓mL116, ↓mA117, ↓mS117, ↓mL117, ↓mA118, ↓mS118, ↓mL118, ↓mA119, ↓mS119, ↓mL119, ↓mA120, ↓mS120, ↓mL120, ↓mA121, ↓mS121, ↓mL121, ↓mA122, ↓mS122, ↓mL122, ↓mA123, ↓mS123, ↓mL123, ↓mA124, ↓mS124, ↓mL124, ↓mA125, ↓mS125, ↓mL125, ↓mA126, ↓mS126, ↓mL126, ↓mP113_1, ↓mP113_2, ↓mP113_4, ↓mP113_11, ↓mP113_12, ↓mP113_16, ↓mP113_17, ↓mP113_18, ↓mP113_24, ↓mP113_25, ↓mP113_29, ↓mP113_30, e, e2]
  | succ m ih =>
    intro i k h hk hi L e r
    obtain ⟨k, rfl⟩ : ∃ k', k = k' + 1 := ⟨k - 1, by omega⟩
    have e1 : w32 ((i : Int) + 1) = ((i + 1 : Nat) : Int) := by rw [w32i _ (by omega) (by omega)]; omega
    have e2 : w32 (11357 + w32 (7 * R)) = 11357 + 7 * R := by rw [w32i (7 * R) (by omega) (by omega), w32i _ (by omega) (by omega)]
    have w : aI (sA h 114 i (aI h 115 i)) 115 = aI h 115 := aI_sAn _ _ _ _ _ (by decide)
    obtain ⟨h', a, o, z⟩ := ih (i + 1) k (sA h 114 i (aI h 115 i)) (by omega) (by omega) L (by rw [w]; exact e) (fun j hj => by
      rw [aI_sA _ _ _ _ _ (by omega) (by omega), w]
      by_cases c : j = i
      · subst c; rw [if_pos rfl]
      · rw [if_neg (by omega)]; exact r j (by omega))
    refine ⟨h', ?_, (Oi.A 114 h _ _).tr o, fun j hj => by rw [z j hj, w]⟩
    rw [← a, X12_back_L16_s]
    simp (disch := (first | assumption | with_reducible rfl | (simp only [LayC_sI, LayC_sJ, LayC_sA, LayC_sB, LayC_sIr, LayC_exc, LayM_sI, LayM_sJ, LayM_sA, LayM_sB, LayM_sIr, LayM_exc, LayK_sI, LayK_sJ, LayK_sA, LayK_sB, LayK_sIr, LayK_exc]; assumption) | omega | decide | (simp (disch := (first | decide | omega)) only [gI_sJ, gI_sB, gI_sP, gI_exc, gI_sIe, aI_sJ, aI_sB, aI_sP, aI_exc, aI_sAe, aJ_sI, aJ_sA, aJ_sP, aJ_sIr, aJ_exc, aJ_sBe, gJ_sI, gJ_sA, gJ_sP, gJ_sIr, gJ_exc, gP_sI, gP_sJ, gP_sA, gP_sB, gP_sIr, gP_exc, gI_sIn, gI_sIk, gI_sAn, gI_sIrn, aI_sIn, aI_sAn, aI_sIrn, aI_sAk, aJ_sJn, aJ_sBn, gJ_sJn, gJ_sBn, gJ_sJe, gS_sI, gS_sJ, gS_sP, gS_sA, gS_sB, gS_sIr, gS_exc, w32i, w64i]; first | done | assumption | omega))) only [↓b_xbs, ↓b_xthr, ↓b_xthl, ↓b_xctr, ↓b_xctl, ↓b_xz, ↓b_xzX, ↓b_xd, ↓if_pos, ↓if_neg, ↓mI113, ↓mW113, ↓mZ113, ↓mJ113, ↓mV113, ↓mR113, ↓mA114, ↓mS114, ↓mL114, ↓mA115, ↓mS115, ↓mL115, ↓mA116, ↓mS116, ↓mL116, ↓mA117, ↓mS117, ↓mL117, ↓mA118, ↓mS118, ↓mL118, ↓mA119, ↓mS119, ↓mL119, ↓mA120, ↓mS120, ↓mL120, ↓mA121, ↓mS121, ↓mL121, ↓mA122, ↓mS122, ↓mL122, ↓mA123, ↓mS123, ↓mL123, ↓mA124, ↓mS124, ↓mL124, ↓mA125, ↓mS125, ↓mL125, ↓mA126, ↓mS126, ↓mL126, ↓mP113_1, ↓mP113_2, ↓mP113_4, ↓mP113_11, ↓mP113_12, ↓mP113_16, ↓mP113_17, ↓mP113_18, ↓mP113_24, ↓mP113_25, ↓mP113_29, ↓mP113_30, e, e2, e1]
theorem J_image (hF : 60000 ≤ F) {h : HP} {n : Int} (r : RA n h) : ∃ h1 h2, X11_image F 1 h = some ((), h1) ∧ X12_image F 113 h1 = some ((), h2) ∧ RA (n + 1) h2 := by
  obtain ⟨L, LK, LM, r4, r5, r6, r7, r8, r9, r10, r11, r12, r13, r14, r15, r16, r17, r18, r19, r20, r21, r22⟩ := id r
  obtain ⟨n1, n2, n3, n4, n5, n6, n7, n8, n9, n10, n11⟩ := id r16
  have g := n2.g8
  obtain ⟨p1, p2, p3, p4⟩ := id n8
  have hz : gI h 19 4 = 0 ∨ gI h 19 4 = 1 := by
    rcases n10.2 with ⟨a, _⟩ | ⟨a, _⟩
    · exact Or.inr a
    · exact Or.inl a
  have hp : gI h 51 5 = 0 ∨ gI h 51 5 = 1 := by
    have := n1.2.2.2.2.2.2.1
    rw [Nat.add_zero] at this
    rw [this]; exact n2.g6
  obtain ⟨ha, ea, qa⟩ := cpiX4 (F := F) (by omega) L LK (by rw [show gI h 11 7 = aI h 114 11356 from p1]; exact ⟨p2, p3⟩) (fun j hj => (r22 j hj).1) hz hp
  have La := qa.C (Or.inl ⟨rfl, rfl⟩) L
  have Ka := qa.K (Or.inl ⟨rfl, rfl⟩) LK
  have Ma := qa.M (Or.inl ⟨rfl, rfl⟩) LM
  obtain ⟨a1, a2, a3, a4, a5, a6, a7, a8, a9, a10, a11⟩ := qa
  have w0 : aI (sI (sI ha 1 4 1) 113 0 0) 114 = aI h 114 := by
    rw [aI_sIn _ _ _ _ _ (by decide), aI_sIn _ _ _ _ _ (by decide)]
    funext i; exact a3 114 _ (by decide)
  obtain ⟨hb, eb, ob, zb⟩ := E_imM (F := F) p2 p3 (11357 + 7 * aI h 114 11356).toNat 0 F (sI (sI ha 1 4 1) 113 0 0) (by omega) (by omega) Ma (by rw [w0]) (fun j hj => absurd hj (by omega))
  rw [w0] at zb
  have G : ∀ a k, (a < 56 ∨ 102 < a) → a ≠ 115 → ¬ (a = 1 ∧ k = 4) → ¬ (a = 113 ∧ (k = 0 ∨ k = 3)) → gI (sI hb 113 3 1) a k = gI h a k := by
    intro a k q1 q2 q3 q4
    rw [gI_sI, if_neg (by omega), ob.1 a q2, gI_sI, if_neg (by omega), gI_sI, if_neg q3]
    exact a3 a k (by omega)
  have GA : ∀ a, (a < 56 ∨ 102 < a) → a ≠ 115 → a ≠ 1 → a ≠ 113 → aI (sI hb 113 3 1) a = aI h a := fun a q1 q2 q3 q4 => by funext i; exact G a _ q1 q2 (fun q => q3 q.1) (fun q => q4 q.1)
  have GK : ∀ a k, 56 ≤ a → a ≤ 102 → gI (sI hb 113 3 1) a k = gI ha a k := by
    intro a k q1 q2
    rw [gI_sI, if_neg (by omega), ob.1 a (by omega), gI_sI, if_neg (by omega), gI_sI, if_neg (by omega)]
  have eS : gS (sI hb 113 3 1) = gS h := by show gS hb = _; rw [ob.2.2.2.1]; exact a5
  have eJ : gJ (sI hb 113 3 1) = gJ h := by show gJ hb = _; rw [ob.2.1]; exact a4
  have eP : gP (sI hb 113 3 1) = gP ha := by show gP hb = _; rw [ob.2.2.1]; rfl
  have eS' : gS (sI hb 113 3 1) = gS ha := by rw [eS, a5]
  have en : gn (sI hb 113 3 1) = gn h := by show gn hb = _; rw [ob.2.2.2.2.1]; exact a6
  have ec : gc (sI hb 113 3 1) = gc h := by show gc hb = _; rw [ob.2.2.2.2.2.1]; exact a7
  have es : gs (sI hb 113 3 1) = gs h := by show gs hb = _; rw [ob.2.2.2.2.2.2]; exact a8
  have g34 : gI (sI hb 113 3 1) 1 4 = 1 := by
    rw [gI_sI, if_neg (by decide), ob.1 1 (by decide), gI_sI, if_neg (by decide), gI_sIe]
  have w5 : ∀ i : Int, 0 ≤ i → i < 11357 + 7 * aI h 114 11356 → aI (sI hb 113 3 1) 115 i = aI h 114 i := by
    intro i i0 i1
    have := zb i.toNat (by omega)
    rw [show ((i.toNat : Nat) : Int) = i by omega] at this
    rw [aI_sIn _ _ _ _ _ (by decide)]; exact this
  have tx : ∀ t, 126 < t → t ≤ gn h → gI (sI hb 113 3 1) t = gI h t ∧ gJ (sI hb 113 3 1) t = gJ h t ∧ gP (sI hb 113 3 1) t = gP h t ∧ gS (sI hb 113 3 1) t = gS h t := fun t t1 t2 => ⟨by funext k; exact G t k (by omega) (by omega) (by omega) (by omega), by rw [eJ], by rw [eP]; funext k; exact a11 t k (by omega), by rw [eS]⟩
  refine ⟨sI ha 1 4 1, sI hb 113 3 1, ?_, ?_, ?_⟩
  · unfold X11_image
    simp (disch := (first | assumption | with_reducible rfl | (simp only [LayC_sI, LayC_sJ, LayC_sA, LayC_sB, LayC_sIr, LayC_exc, LayM_sI, LayM_sJ, LayM_sA, LayM_sB, LayM_sIr, LayM_exc, LayK_sI, LayK_sJ, LayK_sA, LayK_sB, LayK_sIr, LayK_exc]; assumption) | omega | decide | (simp (disch := (first | decide | omega)) only [gI_sJ, gI_sB, gI_sP, gI_exc, gI_sIe, aI_sJ, aI_sB, aI_sP, aI_exc, aI_sAe, aJ_sI, aJ_sA, aJ_sP, aJ_sIr, aJ_exc, aJ_sBe, gJ_sI, gJ_sA, gJ_sP, gJ_sIr, gJ_exc, gP_sI, gP_sJ, gP_sA, gP_sB, gP_sIr, gP_exc, gI_sIn, gI_sIk, gI_sAn, gI_sIrn, aI_sIn, aI_sAn, aI_sIrn, aI_sAk, aJ_sJn, aJ_sBn, gJ_sJn, gJ_sBn, gJ_sJe, gS_sI, gS_sJ, gS_sP, gS_sA, gS_sB, gS_sIr, gS_exc, w32i, w64i]; first | done | assumption | omega))) only [↓b_xbs, ↓b_xthr, ↓b_xthl, ↓b_xctr, ↓b_xctl, ↓b_xz, ↓b_xzX, ↓b_xd, ↓if_pos, ↓if_neg, ↓cI1, ↓cW1, ↓cZ1, ↓cR1, ↓cI2, ↓cW2, ↓cJ2, ↓cV2, ↓cR2, ↓cA3, ↓cS3, ↓cL3, ↓cA4, ↓cS4, ↓cL4, ↓cA5, ↓cS5, ↓cL5, ↓cA6, ↓cS6, ↓cL6, ↓cA7, ↓cS7, ↓cL7, ↓cA8, ↓cS8, ↓cL8, ↓cI9, ↓cW9, ↓cR9, ↓cI10, ↓cW10, ↓cJ10, ↓cV10, ↓cR10, ↓cI11, ↓cW11, ↓cR11, ↓cA12, ↓cS12, ↓cL12, ↓cA13, ↓cS13, ↓cL13, ↓cA14, ↓cS14, ↓cL14, ↓cA15, ↓cS15, ↓cL15, ↓cA16, ↓cS16, ↓cL16, ↓cA17, ↓cS17, ↓cL17, ↓cA18, ↓cS18, ↓cL18, ↓cI19, ↓cW19, ↓cZ19, ↓cR19, ↓cA21, ↓cS21, ↓cL21, ↓cA22, ↓cS22, ↓cL22, ↓cA23, ↓cS23, ↓cL23, ↓cI24, ↓cW24, ↓cZ24, ↓cR24, ↓cI37, ↓cW37, ↓cR37, ↓cA38, ↓cS38, ↓cL38, ↓cA39, ↓cS39, ↓cL39, ↓cA40, ↓cS40, ↓cL40, ↓cA41, ↓cS41, ↓cL41, ↓cI42, ↓cW42, ↓cR42, ↓cA43, ↓cS43, ↓cL43, ↓cA44, ↓cS44, ↓cL44, ↓cA45, ↓cS45, ↓cL45, ↓cA46, ↓cS46, ↓cL46, ↓cA47, ↓cS47, ↓cL47, ↓cA48, ↓cS48, ↓cL48, ↓cA49, ↓cS49, ↓cL49, ↓cA50, ↓cS50, ↓cL50, ↓cI51, ↓cW51, ↓cZ51, ↓cR51, ↓cA52, ↓cS52, ↓cL52, ↓cA53, ↓cS53, ↓cL53, ↓cA54, ↓cS54, ↓cL54, ↓cA55, ↓cS55, ↓cL55, ↓cI103, ↓cW103, ↓cR103, ↓cA104, ↓cS104, ↓cL104, ↓cA105, ↓cS105, ↓cL105, ↓cA106, ↓cS106, ↓cL106, ↓cA107, ↓cS107, ↓cL107, ↓cA108, ↓cS108, ↓cL108, ↓cA109, ↓cS109, ↓cL109, ↓cA110, ↓cS110, ↓cL110, ↓cA111, ↓cS111, ↓cL111, ↓cA112, ↓cS112, ↓cL112, ↓cP1_0, ↓cP1_2, ↓cP1_3, ↓cP1_5, ↓cP2_0, ↓cP2_2, ↓cP2_3, ↓cP2_4, ↓cP2_8, ↓cP2_10, ↓cP9_0, ↓cP9_1, ↓cP9_2, ↓cP9_3, ↓cP9_4, ↓cP9_5, ↓cP10_0, ↓cP11_0, ↓cP11_1, ↓cP11_2, ↓cP11_3, ↓cP11_4, ↓cP11_5, ↓cP11_6, ↓cP19_0, ↓cP19_1, ↓cP19_2, ↓cP19_3, ↓cP19_6, ↓cP37_0, ↓cP37_1, ↓cP37_2, ↓cP37_3, ↓cP42_0, ↓cP42_1, ↓cP42_2, ↓cP42_3, ↓cP42_4, ↓cP42_5, ↓cP42_8, ↓cP42_9, ↓cP51_0, ↓cP51_1, ↓cP51_2, ↓cP51_3, ↓cP103_0, ↓cP103_1, ↓cP103_2, ↓cP103_3, ↓cP103_4, ↓cP103_5, ↓cP103_6, ↓cP103_7, ↓cP103_8, ↓cIj, ↓cWj, ↓cZj, ↓cPj, ↓cQj, ↓cRj, ↓cAj, ↓kI56, ↓kW56, ↓kR56, ↓kI57, ↓kW57, ↓kJ57, ↓kV57, ↓kR57, ↓kI58, ↓kW58, ↓kR58, ↓kA59, ↓kS59, ↓kL59, ↓kA60, ↓kS60, ↓kL60, ↓kA61, ↓kS61, ↓kL61, ↓kA62, ↓kS62, ↓kL62, ↓kA63, ↓kS63, ↓kL63, ↓kA64, ↓kS64, ↓kL64, ↓kA65, ↓kS65, ↓kL65, ↓kI66, ↓kW66, ↓kZ66, ↓kR66, ↓kA68, ↓kS68, ↓kL68, ↓kA69, ↓kS69, ↓kL69, ↓kA70, ↓kS70, ↓kL70, ↓kI71, ↓kW71, ↓kZ71, ↓kR71, ↓kI84, ↓kW84, ↓kR84, ↓kA85, ↓kS85, ↓kL85, ↓kA86, ↓kS86, ↓kL86, ↓kA87, ↓kS87, ↓kL87, ↓kA88, ↓kS88, ↓kL88, ↓kI89, ↓kW89, ↓kR89, ↓kA90, ↓kS90, ↓kL90, ↓kA91, ↓kS91, ↓kL91, ↓kA92, ↓kS92, ↓kL92, ↓kA93, ↓kS93, ↓kL93, ↓kA94, ↓kS94, ↓kL94, ↓kA95, ↓kS95, ↓kL95, ↓kA96, ↓kS96, ↓kL96, ↓kA97, ↓kS97, ↓kL97, ↓kI98, ↓kW98, ↓kZ98, ↓kR98, ↓kA99, ↓kS99, ↓kL99, ↓kA100, ↓kS100, ↓kL100, ↓kA101, ↓kS101, ↓kL101, ↓kA102, ↓kS102, ↓kL102, ↓kP56_0, ↓kP56_1, ↓kP56_2, ↓kP56_3, ↓kP56_4, ↓kP56_5, ↓kP57_0, ↓kP58_0, ↓kP58_1, ↓kP58_2, ↓kP58_3, ↓kP58_4, ↓kP58_5, ↓kP58_6, ↓kP66_0, ↓kP66_1, ↓kP66_2, ↓kP66_3, ↓kP66_6, ↓kP84_0, ↓kP84_1, ↓kP84_2, ↓kP84_3, ↓kP89_0, ↓kP89_1, ↓kP89_2, ↓kP89_3, ↓kP89_4, ↓kP89_5, ↓kP89_8, ↓kP89_9, ↓kP98_0, ↓kP98_1, ↓kP98_2, ↓kP98_3, ↓kIj, ↓kWj, ↓kZj, ↓kPj, ↓kQj, ↓kRj, ↓kAj, ↓b_xb _ _ _ _ ea]
  · unfold X12_image
    simp (disch := (first | assumption | with_reducible rfl | (simp only [LayC_sI, LayC_sJ, LayC_sA, LayC_sB, LayC_sIr, LayC_exc, LayM_sI, LayM_sJ, LayM_sA, LayM_sB, LayM_sIr, LayM_exc, LayK_sI, LayK_sJ, LayK_sA, LayK_sB, LayK_sIr, LayK_exc]; assumption) | omega | decide | (simp (disch := (first | decide | omega)) only [gI_sJ, gI_sB, gI_sP, gI_exc, gI_sIe, aI_sJ, aI_sB, aI_sP, aI_exc, aI_sAe, aJ_sI, aJ_sA, aJ_sP, aJ_sIr, aJ_exc, aJ_sBe, gJ_sI, gJ_sA, gJ_sP, gJ_sIr, gJ_exc, gP_sI, gP_sJ, gP_sA, gP_sB, gP_sIr, gP_exc, gI_sIn, gI_sIk, gI_sAn, gI_sIrn, aI_sIn, aI_sAn, aI_sIrn, aI_sAk, aJ_sJn, aJ_sBn, gJ_sJn, gJ_sBn, gJ_sJe, gS_sI, gS_sJ, gS_sP, gS_sA, gS_sB, gS_sIr, gS_exc, w32i, w64i]; first | done | assumption | omega))) only [↓b_xbs, ↓b_xthr, ↓b_xthl, ↓b_xctr, ↓b_xctl, ↓b_xz, ↓b_xzX, ↓b_xd, ↓if_pos, ↓if_neg, ↓mI113, ↓mW113, ↓mZ113, ↓mJ113, ↓mV113, ↓mR113, ↓mA114, ↓mS114, ↓mL114, ↓mA115, ↓mS115, ↓mL115, ↓mA116, ↓mS116, ↓mL116, ↓mA117, ↓mS117, ↓mL117, ↓mA118, ↓mS118, ↓mL118, ↓mA119, ↓mS119, ↓mL119, ↓mA120, ↓mS120, ↓mL120, ↓mA121, ↓mS121, ↓mL121, ↓mA122, ↓mS122, ↓mL122, ↓mA123, ↓mS123, ↓mL123, ↓mA124, ↓mS124, ↓mL124, ↓mA125, ↓mS125, ↓mL125, ↓mA126, ↓mS126, ↓mL126, ↓mP113_1, ↓mP113_2, ↓mP113_4, ↓mP113_11, ↓mP113_12, ↓mP113_16, ↓mP113_17, ↓mP113_18, ↓mP113_24, ↓mP113_25, ↓mP113_29, ↓mP113_30]
    exact eb
  · have s0 : SmN h (sI hb 113 3 1) 0 0 := ⟨fun a k h1 h2 _ _ => G _ _ (by omega) (by omega) (by omega) (by omega), fun j hj => by rw [eP]; exact a11 _ _ (by omega), tx, by omega⟩
    refine ⟨La.of eS' eP, Ka.of eS' eP, Ma.of eS' eP, by omega, by omega, by rw [eS]; exact r6, (G 10 5 (by decide) (by decide) (by decide) (by decide)).trans r7, by rw [g34, gI_sIe], by rw [gI_sIe]; exact Or.inr rfl, (G 107 0 (by decide) (by decide) (by decide) (by decide)).trans r10, (G 108 0 (by decide) (by decide) (by decide) (by decide)).trans r11, (G 109 0 (by decide) (by decide) (by decide) (by decide)).trans r12, (G 110 0 (by decide) (by decide) (by decide) (by decide)).trans r13, (G 111 0 (by decide) (by decide) (by decide) (by decide)).trans r14, ?_, ?_, ?_, fun _ => ⟨?_, ?_⟩, by rw [ec]; omega, by rw [es]; omega, fun k k0 k1 => ?_, fun j hj => ⟨?_, ?_⟩⟩
    · unfold RTp at *
      rw [G 2 1 (by decide) (by decide) (by decide) (by decide), G 113 5 (by decide) (by decide) (by decide) (by decide), G 1 1 (by decide) (by decide) (by decide) (by decide), G 113 10 (by decide) (by decide) (by decide) (by decide), GA 3 (by decide) (by decide) (by decide) (by decide), GA 116 (by decide) (by decide) (by decide) (by decide)]
      exact r15
    · rw [GA 114 (by decide) (by decide) (by decide) (by decide)]; exact r16.cg s0 (fun i _ _ => rfl)
    · rw [GA 114 (by decide) (by decide) (by decide) (by decide)]; omega
    · have rw1 : RN h 0 (aI (sI hb 113 3 1) 115) := r16.cg (SmX.rf noX h 0) (fun i i0 i1 => w5 i i0 i1)
      have wR : aI (sI hb 113 3 1) 115 11356 = aI h 114 11356 := w5 _ (by omega) (by omega)
      refine rw1.cp (fun a k h1 h2 q => ?_) (fun k k0 k1 => ?_) (fun j hj => by rw [eP]; exact a10 j hj hj) tx (by omega)
      · rw [wR, ← show gI h 11 7 = aI h 114 11356 from p1] at q
        rw [GK _ _ (by omega) (by omega)]; exact a2 a k h1 h2 q
      · show gI _ (48 + 47) _ = 0
        rw [GK _ _ (by omega) (by omega)]
        rcases a1 48 k.toNat (by decide) (by decide) with y | y
        · rw [y]; exact r21 k k0 k1
        · rw [y]; exact (n6.2.1 k k0 k1).2.2.2
    · have := ptl_w (W := aI h 114) (W' := aI (sI hb 113 3 1) 115) g (w5 8 (by omega) (by omega)) (w5 11356 (by omega) (by omega)) (fun i a c => w5 i (by omega) (by omega))
      rw [this]; omega
    · show gI _ 95 _ = 0
      rw [GK _ _ (by omega) (by omega)]
      rcases a1 48 k.toNat (by decide) (by decide) with y | y
      · exact y.trans (r21 k k0 k1)
      · exact y.trans (n6.2.1 k k0 k1).2.2.2
    · rw [G _ _ (by omega) (by omega) (by omega) (by omega)]; exact (r22 j hj).1
    · rw [GK _ _ (by omega) (by omega)]
      rcases a1 (25 + j) 4 (by omega) (by omega) with y | y
      · rw [show 25 + j + 47 = 72 + j by omega] at y; rw [y]; exact (r22 j hj).2
      · rw [show 25 + j + 47 = 72 + j by omega] at y; rw [y]; exact (r22 j hj).1
theorem J_back (hF : 60000 ≤ F) {h : HP} {n : Int} (r : RA n h) : ∃ v h1 h2, X11_back F 1 h = some (v, h1) ∧ X12_back F 113 h1 = some (v, h2) ∧ RA (n + 1) h2 := by
  obtain ⟨L, LK, LM, r4, r5, r6, r7, r8, r9, r10, r11, r12, r13, r14, r15, r16, r17, r18, r19, r20, r21, r22⟩ := id r
  rcases r9 with c | c
  · have c1 : gI h 1 4 = 0 := by rw [r8]; exact c
    refine ⟨0, h, sI h 113 0 0, ?_, ?_, r.Q (Or.inl (Qs.sI rfl (Qs.rf h)))⟩
    · unfold X11_back; simp (disch := (first | assumption | with_reducible rfl | (simp only [LayC_sI, LayC_sJ, LayC_sA, LayC_sB, LayC_sIr, LayC_exc, LayM_sI, LayM_sJ, LayM_sA, LayM_sB, LayM_sIr, LayM_exc, LayK_sI, LayK_sJ, LayK_sA, LayK_sB, LayK_sIr, LayK_exc]; assumption) | omega | decide | (simp (disch := (first | decide | omega)) only [gI_sJ, gI_sB, gI_sP, gI_exc, gI_sIe, aI_sJ, aI_sB, aI_sP, aI_exc, aI_sAe, aJ_sI, aJ_sA, aJ_sP, aJ_sIr, aJ_exc, aJ_sBe, gJ_sI, gJ_sA, gJ_sP, gJ_sIr, gJ_exc, gP_sI, gP_sJ, gP_sA, gP_sB, gP_sIr, gP_exc, gI_sIn, gI_sIk, gI_sAn, gI_sIrn, aI_sIn, aI_sAn, aI_sIrn, aI_sAk, aJ_sJn, aJ_sBn, gJ_sJn, gJ_sBn, gJ_sJe, gS_sI, gS_sJ, gS_sP, gS_sA, gS_sB, gS_sIr, gS_exc, w32i, w64i]; first | done | assumption | omega))) only [↓b_xbs, ↓b_xthr, ↓b_xthl, ↓b_xctr, ↓b_xctl, ↓b_xz, ↓b_xzX, ↓b_xd, ↓if_pos, ↓if_neg, ↓cI1, ↓cW1, ↓cZ1, ↓cR1, ↓cI2, ↓cW2, ↓cJ2, ↓cV2, ↓cR2, ↓cA3, ↓cS3, ↓cL3, ↓cA4, ↓cS4, ↓cL4, ↓cA5, ↓cS5, ↓cL5, ↓cA6, ↓cS6, ↓cL6, ↓cA7, ↓cS7, ↓cL7, ↓cA8, ↓cS8, ↓cL8, ↓cI9, ↓cW9, ↓cR9, ↓cI10, ↓cW10, ↓cJ10, ↓cV10, ↓cR10, ↓cI11, ↓cW11, ↓cR11, ↓cA12, ↓cS12, ↓cL12, ↓cA13, ↓cS13, ↓cL13, ↓cA14, ↓cS14, ↓cL14, ↓cA15, ↓cS15, ↓cL15, ↓cA16, ↓cS16, ↓cL16, ↓cA17, ↓cS17, ↓cL17, ↓cA18, ↓cS18, ↓cL18, ↓cI19, ↓cW19, ↓cZ19, ↓cR19, ↓cA21, ↓cS21, ↓cL21, ↓cA22, ↓cS22, ↓cL22, ↓cA23, ↓cS23, ↓cL23, ↓cI24, ↓cW24, ↓cZ24, ↓cR24, ↓cI37, ↓cW37, ↓cR37, ↓cA38, ↓cS38, ↓cL38, ↓cA39, ↓cS39, ↓cL39, ↓cA40, ↓cS40, ↓cL40, ↓cA41, ↓cS41, ↓cL41, ↓cI42, ↓cW42, ↓cR42, ↓cA43, ↓cS43, ↓cL43, ↓cA44, ↓cS44, ↓cL44, ↓cA45, ↓cS45, ↓cL45, ↓cA46, ↓cS46, ↓cL46, ↓cA47, ↓cS47, ↓cL47, ↓cA48, ↓cS48, ↓cL48, ↓cA49, ↓cS49, ↓cL49, ↓cA50, ↓cS50, ↓cL50, ↓cI51, ↓cW51, ↓cZ51, ↓cR51, ↓cA52, ↓cS52, ↓cL52, ↓cA53, ↓cS53, ↓cL53, ↓cA54, ↓cS54, ↓cL54, ↓cA55, ↓cS55, ↓cL55, ↓cI103, ↓cW103, ↓cR103, ↓cA104, ↓cS104, ↓cL104, ↓cA105, ↓cS105, ↓cL105, ↓cA106, ↓cS106, ↓cL106, ↓cA107, ↓cS107, ↓cL107, ↓cA108, ↓cS108, ↓cL108, ↓cA109, ↓cS109, ↓cL109, ↓cA110, ↓cS110, ↓cL110, ↓cA111, ↓cS111, ↓cL111, ↓cA112, ↓cS112, ↓cL112, ↓cP1_0, ↓cP1_2, ↓cP1_3, ↓cP1_5, ↓cP2_0, ↓cP2_2, ↓cP2_3, ↓cP2_4, ↓cP2_8, ↓cP2_10, ↓cP9_0, ↓cP9_1, ↓cP9_2, ↓cP9_3, ↓cP9_4, ↓cP9_5, ↓cP10_0, ↓cP11_0, ↓cP11_1, ↓cP11_2, ↓cP11_3, ↓cP11_4, ↓cP11_5, ↓cP11_6, ↓cP19_0, ↓cP19_1, ↓cP19_2, ↓cP19_3, ↓cP19_6, ↓cP37_0, ↓cP37_1, ↓cP37_2, ↓cP37_3, ↓cP42_0, ↓cP42_1, ↓cP42_2, ↓cP42_3, ↓cP42_4, ↓cP42_5, ↓cP42_8, ↓cP42_9, ↓cP51_0, ↓cP51_1, ↓cP51_2, ↓cP51_3, ↓cP103_0, ↓cP103_1, ↓cP103_2, ↓cP103_3, ↓cP103_4, ↓cP103_5, ↓cP103_6, ↓cP103_7, ↓cP103_8, ↓cIj, ↓cWj, ↓cZj, ↓cPj, ↓cQj, ↓cRj, ↓cAj, c1]
    · have c2 : gI (sI h 113 0 0) 113 3 = 0 := by rw [gI_sI, if_neg (by decide)]; exact c
      unfold X12_back; simp (disch := (first | assumption | with_reducible rfl | (simp only [LayC_sI, LayC_sJ, LayC_sA, LayC_sB, LayC_sIr, LayC_exc, LayM_sI, LayM_sJ, LayM_sA, LayM_sB, LayM_sIr, LayM_exc, LayK_sI, LayK_sJ, LayK_sA, LayK_sB, LayK_sIr, LayK_exc]; assumption) | omega | decide | (simp (disch := (first | decide | omega)) only [gI_sJ, gI_sB, gI_sP, gI_exc, gI_sIe, aI_sJ, aI_sB, aI_sP, aI_exc, aI_sAe, aJ_sI, aJ_sA, aJ_sP, aJ_sIr, aJ_exc, aJ_sBe, gJ_sI, gJ_sA, gJ_sP, gJ_sIr, gJ_exc, gP_sI, gP_sJ, gP_sA, gP_sB, gP_sIr, gP_exc, gI_sIn, gI_sIk, gI_sAn, gI_sIrn, aI_sIn, aI_sAn, aI_sIrn, aI_sAk, aJ_sJn, aJ_sBn, gJ_sJn, gJ_sBn, gJ_sJe, gS_sI, gS_sJ, gS_sP, gS_sA, gS_sB, gS_sIr, gS_exc, w32i, w64i]; first | done | assumption | omega))) only [↓b_xbs, ↓b_xthr, ↓b_xthl, ↓b_xctr, ↓b_xctl, ↓b_xz, ↓b_xzX, ↓b_xd, ↓if_pos, ↓if_neg, ↓mI113, ↓mW113, ↓mZ113, ↓mJ113, ↓mV113, ↓mR113, ↓mA114, ↓mS114, ↓mL114, ↓mA115, ↓mS115, ↓mL115, ↓mA116, ↓mS116, ↓mL116, ↓mA117, ↓mS117, ↓mL117, ↓mA118, ↓mS118, ↓mL118, ↓mA119, ↓mS119, ↓mL119, ↓mA120, ↓mS120, ↓mL120, ↓mA121, ↓mS121, ↓mL121, ↓mA122, ↓mS122, ↓mL122, ↓mA123, ↓mS123, ↓mL123, ↓mA124, ↓mS124, ↓mL124, ↓mA125, ↓mS125, ↓mL125, ↓mA126, ↓mS126, ↓mL126, ↓mP113_1, ↓mP113_2, ↓mP113_4, ↓mP113_11, ↓mP113_12, ↓mP113_16, ↓mP113_17, ↓mP113_18, ↓mP113_24, ↓mP113_25, ↓mP113_29, ↓mP113_30, c2]
  · have c1 : gI h 1 4 = 1 := by rw [r8]; exact c
    obtain ⟨rk, rp⟩ := r18 c
    obtain ⟨n1, n2, n3, n4, n5, n6, n7, n8, n9, n10, n11⟩ := id rk
    have g := n2.g8
    obtain ⟨p1, p2, p3, p4⟩ := id n8
    have hz : gI h 66 4 = 0 ∨ gI h 66 4 = 1 := by
      rcases n10.2 with ⟨a, _⟩ | ⟨a, _⟩
      · exact Or.inr a
      · exact Or.inl a
    have hp : gI h 98 5 = 0 ∨ gI h 98 5 = 1 := by
      have := n1.2.2.2.2.2.2.1
      rw [show gI h 98 5 = aI h 115 6 from this]; exact n2.g6
    obtain ⟨ha, ea, qa⟩ := cpbX4 (F := F) (by omega) L LK (by rw [show gI h 58 7 = aI h 115 11356 from p1]; exact ⟨p2, p3⟩) (fun j hj => (r22 j hj).2) hz hp
    have La := qa.C (Or.inr ⟨rfl, rfl⟩) L
    have Ka := qa.K (Or.inr ⟨rfl, rfl⟩) LK
    have Ma := qa.M (Or.inr ⟨rfl, rfl⟩) LM
    obtain ⟨a1, a2, a3, a4, a5, a6, a7, a8, a9, a10, a11⟩ := qa
    have w0 : aI (sI ha 113 0 0) 115 = aI h 115 := by
      rw [aI_sIn _ _ _ _ _ (by decide)]
      funext i; exact a3 115 _ (by decide)
    obtain ⟨hb, eb, ob, zb⟩ := E_baM2 (F := F) p2 p3 (11357 + 7 * aI h 115 11356).toNat 0 F (sI ha 113 0 0) (by omega) (by omega) Ma (by rw [w0]) (fun j hj => absurd hj (by omega))
    rw [w0] at zb
    have G : ∀ a k, (a < 9 ∨ 55 < a) → a ≠ 114 → ¬ (a = 113 ∧ k = 0) → gI hb a k = gI h a k := by
      intro a k q1 q2 q3
      rw [ob.1 a q2, gI_sI, if_neg q3]
      exact a3 a k (by omega)
    have GA : ∀ a, (a < 9 ∨ 55 < a) → a ≠ 114 → a ≠ 113 → aI hb a = aI h a := fun a q1 q2 q3 => by funext i; exact G a _ q1 q2 (fun q => q3 q.1)
    have GK : ∀ a k, 9 ≤ a → a ≤ 55 → gI hb a k = gI ha a k := by
      intro a k q1 q2
      rw [ob.1 a (by omega), gI_sI, if_neg (by omega)]
    have eS : gS hb = gS h := by rw [ob.2.2.2.1]; exact a5
    have eJ : gJ hb = gJ h := by rw [ob.2.1]; exact a4
    have eP : gP hb = gP ha := by rw [ob.2.2.1]; rfl
    have eS' : gS hb = gS ha := by rw [eS, a5]
    have en : gn hb = gn h := by rw [ob.2.2.2.2.1]; exact a6
    have ec : gc hb = gc h := by rw [ob.2.2.2.2.2.1]; exact a7
    have es : gs hb = gs h := by rw [ob.2.2.2.2.2.2]; exact a8
    have w5 : ∀ i : Int, 0 ≤ i → i < 11357 + 7 * aI h 115 11356 → aI hb 114 i = aI h 115 i := by
      intro i i0 i1
      have := zb i.toNat (by omega)
      rw [show ((i.toNat : Nat) : Int) = i by omega] at this
      exact this
    have tx : ∀ t, 126 < t → t ≤ gn h → gI hb t = gI h t ∧ gJ hb t = gJ h t ∧ gP hb t = gP h t ∧ gS hb t = gS h t := fun t t1 t2 => ⟨by funext k; exact G t k (by omega) (by omega) (by omega), by rw [eJ], by rw [eP]; funext k; exact a11 t k (by omega), by rw [eS]⟩
    refine ⟨1, ha, hb, ?_, ?_, ?_⟩
    · unfold X11_back
      simp (disch := (first | assumption | with_reducible rfl | (simp only [LayC_sI, LayC_sJ, LayC_sA, LayC_sB, LayC_sIr, LayC_exc, LayM_sI, LayM_sJ, LayM_sA, LayM_sB, LayM_sIr, LayM_exc, LayK_sI, LayK_sJ, LayK_sA, LayK_sB, LayK_sIr, LayK_exc]; assumption) | omega | decide | (simp (disch := (first | decide | omega)) only [gI_sJ, gI_sB, gI_sP, gI_exc, gI_sIe, aI_sJ, aI_sB, aI_sP, aI_exc, aI_sAe, aJ_sI, aJ_sA, aJ_sP, aJ_sIr, aJ_exc, aJ_sBe, gJ_sI, gJ_sA, gJ_sP, gJ_sIr, gJ_exc, gP_sI, gP_sJ, gP_sA, gP_sB, gP_sIr, gP_exc, gI_sIn, gI_sIk, gI_sAn, gI_sIrn, aI_sIn, aI_sAn, aI_sIrn, aI_sAk, aJ_sJn, aJ_sBn, gJ_sJn, gJ_sBn, gJ_sJe, gS_sI, gS_sJ, gS_sP, gS_sA, gS_sB, gS_sIr, gS_exc, w32i, w64i]; first | done | assumption | omega))) only [↓b_xbs, ↓b_xthr, ↓b_xthl, ↓b_xctr, ↓b_xctl, ↓b_xz, ↓b_xzX, ↓b_xd, ↓if_pos, ↓if_neg, ↓cI1, ↓cW1, ↓cZ1, ↓cR1, ↓cI2, ↓cW2, ↓cJ2, ↓cV2, ↓cR2, ↓cA3, ↓cS3, ↓cL3, ↓cA4, ↓cS4, ↓cL4, ↓cA5, ↓cS5, ↓cL5, ↓cA6, ↓cS6, ↓cL6, ↓cA7, ↓cS7, ↓cL7, ↓cA8, ↓cS8, ↓cL8, ↓cI9, ↓cW9, ↓cR9, ↓cI10, ↓cW10, ↓cJ10, ↓cV10, ↓cR10, ↓cI11, ↓cW11, ↓cR11, ↓cA12, ↓cS12, ↓cL12, ↓cA13, ↓cS13, ↓cL13, ↓cA14, ↓cS14, ↓cL14, ↓cA15, ↓cS15, ↓cL15, ↓cA16, ↓cS16, ↓cL16, ↓cA17, ↓cS17, ↓cL17, ↓cA18, ↓cS18, ↓cL18, ↓cI19, ↓cW19, ↓cZ19, ↓cR19, ↓cA21, ↓cS21, ↓cL21, ↓cA22, ↓cS22, ↓cL22, ↓cA23, ↓cS23, ↓cL23, ↓cI24, ↓cW24, ↓cZ24, ↓cR24, ↓cI37, ↓cW37, ↓cR37, ↓cA38, ↓cS38, ↓cL38, ↓cA39, ↓cS39, ↓cL39, ↓cA40, ↓cS40, ↓cL40, ↓cA41, ↓cS41, ↓cL41, ↓cI42, ↓cW42, ↓cR42, ↓cA43, ↓cS43, ↓cL43, ↓cA44, ↓cS44, ↓cL44, ↓cA45, ↓cS45, ↓cL45, ↓cA46, ↓cS46, ↓cL46, ↓cA47, ↓cS47, ↓cL47, ↓cA48, ↓cS48, ↓cL48, ↓cA49, ↓cS49, ↓cL49, ↓cA50, ↓cS50, ↓cL50, ↓cI51, ↓cW51, ↓cZ51, ↓cR51, ↓cA52, ↓cS52, ↓cL52, ↓cA53, ↓cS53, ↓cL53, ↓cA54, ↓cS54, ↓cL54, ↓cA55, ↓cS55, ↓cL55, ↓cI103, ↓cW103, ↓cR103, ↓cA104, ↓cS104, ↓cL104, ↓cA105, ↓cS105, ↓cL105, ↓cA106, ↓cS106, ↓cL106, ↓cA107, ↓cS107, ↓cL107, ↓cA108, ↓cS108, ↓cL108, ↓cA109, ↓cS109, ↓cL109, ↓cA110, ↓cS110, ↓cL110, ↓cA111, ↓cS111, ↓cL111, ↓cA112, ↓cS112, ↓cL112, ↓cP1_0, ↓cP1_2, ↓cP1_3, ↓cP1_5, ↓cP2_0, ↓cP2_2, ↓cP2_3, ↓cP2_4, ↓cP2_8, ↓cP2_10, ↓cP9_0, ↓cP9_1, ↓cP9_2, ↓cP9_3, ↓cP9_4, ↓cP9_5, ↓cP10_0, ↓cP11_0, ↓cP11_1, ↓cP11_2, ↓cP11_3, ↓cP11_4, ↓cP11_5, ↓cP11_6, ↓cP19_0, ↓cP19_1, ↓cP19_2, ↓cP19_3, ↓cP19_6, ↓cP37_0, ↓cP37_1, ↓cP37_2, ↓cP37_3, ↓cP42_0, ↓cP42_1, ↓cP42_2, ↓cP42_3, ↓cP42_4, ↓cP42_5, ↓cP42_8, ↓cP42_9, ↓cP51_0, ↓cP51_1, ↓cP51_2, ↓cP51_3, ↓cP103_0, ↓cP103_1, ↓cP103_2, ↓cP103_3, ↓cP103_4, ↓cP103_5, ↓cP103_6, ↓cP103_7, ↓cP103_8, ↓cIj, ↓cWj, ↓cZj, ↓cPj, ↓cQj, ↓cRj, ↓cAj, ↓kI56, ↓kW56, ↓kR56, ↓kI57, ↓kW57, ↓kJ57, ↓kV57, ↓kR57, ↓kI58, ↓kW58, ↓kR58, ↓kA59, ↓kS59, ↓kL59, ↓kA60, ↓kS60, ↓kL60, ↓kA61, ↓kS61, ↓kL61, ↓kA62, ↓kS62, ↓kL62, ↓kA63, ↓kS63, ↓kL63, ↓kA64, ↓kS64, ↓kL64, ↓kA65, ↓kS65, ↓kL65, ↓kI66, ↓kW66, ↓kZ66, ↓kR66, ↓kA68, ↓kS68, ↓kL68, ↓kA69, ↓kS69, ↓kL69, ↓kA70, ↓kS70, ↓kL70, ↓kI71, ↓kW71, ↓kZ71, ↓kR71, ↓kI84, ↓kW84, ↓kR84, ↓kA85, ↓kS85, ↓kL85, ↓kA86, ↓kS86, ↓kL86, ↓kA87, ↓kS87, ↓kL87, ↓kA88, ↓kS88, ↓kL88, ↓kI89, ↓kW89, ↓kR89, ↓kA90, ↓kS90, ↓kL90, ↓kA91, ↓kS91, ↓kL91, ↓kA92, ↓kS92, ↓kL92, ↓kA93, ↓kS93, ↓kL93, ↓kA94, ↓kS94, ↓kL94, ↓kA95, ↓kS95, ↓kL95, ↓kA96, ↓kS96, ↓kL96, ↓kA97, ↓kS97, ↓kL97, ↓kI98, ↓kW98, ↓kZ98, ↓kR98, ↓kA99, ↓kS99, ↓kL99, ↓kA100, ↓kS100, ↓kL100, ↓kA101, ↓kS101, ↓kL101, ↓kA102, ↓kS102, ↓kL102, ↓kP56_0, ↓kP56_1, ↓kP56_2, ↓kP56_3, ↓kP56_4, ↓kP56_5, ↓kP57_0, ↓kP58_0, ↓kP58_1, ↓kP58_2, ↓kP58_3, ↓kP58_4, ↓kP58_5, ↓kP58_6, ↓kP66_0, ↓kP66_1, ↓kP66_2, ↓kP66_3, ↓kP66_6, ↓kP84_0, ↓kP84_1, ↓kP84_2, ↓kP84_3, ↓kP89_0, ↓kP89_1, ↓kP89_2, ↓kP89_3, ↓kP89_4, ↓kP89_5, ↓kP89_8, ↓kP89_9, ↓kP98_0, ↓kP98_1, ↓kP98_2, ↓kP98_3, ↓kIj, ↓kWj, ↓kZj, ↓kPj, ↓kQj, ↓kRj, ↓kAj, c1, ↓b_xb _ _ _ _ ea]
    · have c2 : gI (sI ha 113 0 0) 113 3 = 1 := by rw [gI_sI, if_neg (by decide), a3 113 3 (by decide)]; exact c
      unfold X12_back
      simp (disch := (first | assumption | with_reducible rfl | (simp only [LayC_sI, LayC_sJ, LayC_sA, LayC_sB, LayC_sIr, LayC_exc, LayM_sI, LayM_sJ, LayM_sA, LayM_sB, LayM_sIr, LayM_exc, LayK_sI, LayK_sJ, LayK_sA, LayK_sB, LayK_sIr, LayK_exc]; assumption) | omega | decide | (simp (disch := (first | decide | omega)) only [gI_sJ, gI_sB, gI_sP, gI_exc, gI_sIe, aI_sJ, aI_sB, aI_sP, aI_exc, aI_sAe, aJ_sI, aJ_sA, aJ_sP, aJ_sIr, aJ_exc, aJ_sBe, gJ_sI, gJ_sA, gJ_sP, gJ_sIr, gJ_exc, gP_sI, gP_sJ, gP_sA, gP_sB, gP_sIr, gP_exc, gI_sIn, gI_sIk, gI_sAn, gI_sIrn, aI_sIn, aI_sAn, aI_sIrn, aI_sAk, aJ_sJn, aJ_sBn, gJ_sJn, gJ_sBn, gJ_sJe, gS_sI, gS_sJ, gS_sP, gS_sA, gS_sB, gS_sIr, gS_exc, w32i, w64i]; first | done | assumption | omega))) only [↓b_xbs, ↓b_xthr, ↓b_xthl, ↓b_xctr, ↓b_xctl, ↓b_xz, ↓b_xzX, ↓b_xd, ↓if_pos, ↓if_neg, ↓mI113, ↓mW113, ↓mZ113, ↓mJ113, ↓mV113, ↓mR113, ↓mA114, ↓mS114, ↓mL114, ↓mA115, ↓mS115, ↓mL115, ↓mA116, ↓mS116, ↓mL116, ↓mA117, ↓mS117, ↓mL117, ↓mA118, ↓mS118, ↓mL118, ↓mA119, ↓mS119, ↓mL119, ↓mA120, ↓mS120, ↓mL120, ↓mA121, ↓mS121, ↓mL121, ↓mA122, ↓mS122, ↓mL122, ↓mA123, ↓mS123, ↓mL123, ↓mA124, ↓mS124, ↓mL124, ↓mA125, ↓mS125, ↓mL125, ↓mA126, ↓mS126, ↓mL126, ↓mP113_1, ↓mP113_2, ↓mP113_4, ↓mP113_11, ↓mP113_12, ↓mP113_16, ↓mP113_17, ↓mP113_18, ↓mP113_24, ↓mP113_25, ↓mP113_29, ↓mP113_30, c2]
      exact eb
    · have sk : SmN h hb 47 47 := ⟨fun a k h1 h2 _ _ => G _ _ (by omega) (by omega) (by omega), fun j hj => by rw [eP]; exact a11 _ _ (by omega), tx, by omega⟩
      have e113 : gI hb 113 3 = gI h 113 3 := G 113 3 (by decide) (by decide) (by decide)
      have w15 : aI hb 115 = aI h 115 := GA 115 (by decide) (by decide) (by decide)
      refine ⟨La.of eS' eP, Ka.of eS' eP, Ma.of eS' eP, by omega, by omega, by rw [eS]; exact r6, (GK 10 5 (by decide) (by decide)).trans ((a3 10 5 (by decide)).trans r7), by rw [G 1 4 (by decide) (by decide) (by decide), e113]; exact r8, by rw [e113]; exact Or.inr c, (G 107 0 (by decide) (by decide) (by decide)).trans r10, (G 108 0 (by decide) (by decide) (by decide)).trans r11, (G 109 0 (by decide) (by decide) (by decide)).trans r12, (G 110 0 (by decide) (by decide) (by decide)).trans r13, (G 111 0 (by decide) (by decide) (by decide)).trans r14, ?_, ?_, ?_, fun _ => ⟨?_, ?_⟩, by rw [ec]; omega, by rw [es]; omega, fun k k0 k1 => ?_, fun j hj => ⟨?_, ?_⟩⟩
      · unfold RTp at *
        rw [G 2 1 (by decide) (by decide) (by decide), G 113 5 (by decide) (by decide) (by decide), G 1 1 (by decide) (by decide) (by decide), G 113 10 (by decide) (by decide) (by decide), GA 3 (by decide) (by decide) (by decide), GA 116 (by decide) (by decide) (by decide)]
        exact r15
      · have rw1 : RN h 47 (aI hb 114) := rk.cg (SmX.rf noX h 47) (fun i i0 i1 => w5 i i0 i1)
        have wR : aI hb 114 11356 = aI h 115 11356 := w5 _ (by omega) (by omega)
        refine rw1.cp (fun a k h1 h2 q => ?_) (fun k k0 k1 => ?_) (fun j hj => by rw [eP]; exact a10 j hj hj) tx (by omega)
        · rw [wR, ← show gI h 58 7 = aI h 115 11356 from p1] at q
          rw [GK _ _ (by omega) (by omega)]; exact a2 a k h1 h2 q
        · show gI _ (48 + 0) _ = 0
          rw [GK _ _ (by omega) (by omega)]
          rcases a1 48 k.toNat (by decide) (by decide) with y | y
          · rw [y]; exact (r16.2.2.2.2.2.1.2.1 k k0 k1).2.2.2
          · rw [y]; exact r21 k k0 k1
      · have := ptl_w (W := aI h 115) (W' := aI hb 114) g (w5 8 (by omega) (by omega)) (w5 11356 (by omega) (by omega)) (fun i a c => w5 i (by omega) (by omega))
        rw [this]; omega
      · rw [w15]; exact rk.cg sk (fun i _ _ => rfl)
      · rw [w15]; omega
      · rw [GA 95 (by decide) (by decide) (by decide)]; exact r21 k k0 k1
      · rw [GK _ _ (by omega) (by omega)]
        rcases a1 (25 + j) 4 (by omega) (by omega) with y | y
        · exact (r22 j hj).1.imp (y.trans ·) (y.trans ·)
        · rw [show 25 + j + 47 = 72 + j by omega] at y
          exact (r22 j hj).2.imp (y.trans ·) (y.trans ·)
      · rw [G _ _ (by omega) (by omega) (by omega)]; exact (r22 j hj).2
end IM
