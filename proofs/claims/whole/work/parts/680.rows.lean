/-! the rows: what their tags say; the latest one of a word -/
theorem RR1.dec {h : HP} {W : Int → Int} {k : Int} (g : W 8 ≤ 12) (r : RR1 h 0 W k) : 0 ≤ aI h 18 k ∧ aI h 18 k < 16777216 ∧ xand (aI h 18 k) 63 = W (11357 + 7 * k + 1) ∧ xand (xush (aI h 18 k) 10) 511 = W (11357 + 7 * k) ∧ w32 (xand (xush (aI h 18 k) 6) 15 - 1) = W (11357 + 7 * k + 4) ∧ xand (aI h 18 k) 524288 = 524288 * (W (11357 + 7 * k + 6) % 2) ∧ xand (aI h 18 k) 1048576 = 1048576 * (W (11357 + 7 * k + 6) / 2 % 2) ∧ (xand (aI h 18 k) 2097152 = 0 ↔ W (11357 + 7 * k + 5) ≠ k) ∧ (W (11357 + 7 * k + 6) % 2 = 1 → xand (aI h 18 k) 4194304 = 4194304 * (W (11357 + 7 * k + 6) / 4 % 2) ∧ xand (aI h 18 k) 8388608 = 8388608 * (W (11357 + 7 * k + 6) / 8)) ∧ (W (11357 + 7 * k + 6) % 2 = 0 → xand (aI h 18 k) 4194304 = 0 ∧ xand (aI h 18 k) 8388608 = 0) := by
  obtain ⟨te, ca, r1, r2, r3, r4, r5, r6, r7, ⟨r8, r9, r10, r11⟩, r12, r13, r14, r15, r16, r17, r18, r19, r20⟩ := r
  simp only [Nat.add_zero] at r5
  obtain ⟨f, hf, hf1, hf2⟩ : ∃ f : Int, (if W (11357 + 7 * k + 5) = k then (1 : Int) else 0) = f ∧ (f = 0 ∨ f = 1) ∧ (f = 0 ↔ W (11357 + 7 * k + 5) ≠ k) := by
    by_cases c : W (11357 + 7 * k + 5) = k
    · exact ⟨1, if_pos c, Or.inr rfl, ⟨fun q => by omega, fun q => absurd c q⟩⟩
    · exact ⟨0, if_neg c, Or.inl rfl, ⟨fun _ => c, fun _ => rfl⟩⟩
  rw [hf] at r5
  unfold tgO at r5
  generalize aI h 18 k = t at *
  generalize W (11357 + 7 * k + 1) = w at *
  generalize W (11357 + 7 * k + 4) = j at *
  generalize W (11357 + 7 * k + 6) = how at *
  generalize W (11357 + 7 * k) = mi at *
  have t0 : 0 ≤ t := by omega
  have t1 : t < 16777216 := by omega
  have b19 := tg_bit t 19 t0 (by omega) (by decide)
  have b20 := tg_bit t 20 t0 (by omega) (by decide)
  have b21 := tg_bit t 21 t0 (by omega) (by decide)
  have b22 := tg_bit t 22 t0 (by omega) (by decide)
  have b23 := tg_bit t 23 t0 (by omega) (by decide)
  rw [show ((2 ^ 19 : Nat) : Int) = 524288 from rfl] at b19
  rw [show ((2 ^ 20 : Nat) : Int) = 1048576 from rfl] at b20
  rw [show ((2 ^ 21 : Nat) : Int) = 2097152 from rfl] at b21
  rw [show ((2 ^ 22 : Nat) : Int) = 4194304 from rfl] at b22
  rw [show ((2 ^ 23 : Nat) : Int) = 8388608 from rfl] at b23
  refine ⟨t0, t1, ?_, ?_, ?_, ?_, ?_, ?_, ?_, ?_⟩
  · rw [tg_word t t0 (by omega)]; omega
  · rw [tg_min t t0 (by omega)]; omega
  · rw [tg_job t t0 (by omega)]; omega
  · rw [b19]; omega
  · rw [b20]; omega
  · rw [b21, ← hf2]; omega
  · intro q; have q2 := r6 q; rw [b22, b23]; omega
  · intro q; have q2 := r7 q; rw [b22, b23]; omega
theorem GSc.g8 {W : Int → Int} (r : GSc W) : 0 ≤ W 8 ∧ W 8 ≤ 12 := r.2.2.2.2.2.2.2.2.2.2.2.2.2
theorem GSc.g6 {W : Int → Int} (r : GSc W) : W 6 = 0 ∨ W 6 = 1 := r.2.2.2.2.2.2.2.2.2.2.2.2.1
def latN (W : Int → Int) (w m : Int) : Nat → Int
  | 0 => -1
  | k + 1 => if W (11357 + 7 * k + 1) = w ∧ W (11357 + 7 * k) ≤ m then k else latN W w m k
theorem latN_lt (W : Int → Int) (w m : Int) : ∀ n : Nat, -1 ≤ latN W w m n ∧ latN W w m n < n := by
  intro n
  induction n with
  | zero => exact ⟨Int.le_refl _, by show (-1 : Int) < 0; decide⟩
  | succ n ih => unfold latN; split <;> omega
section LT
variable {F : Nat} {h : HP}
theorem E_latM (L : LayM h) (w m : Int) : ∀ (n k : Nat), n < k → (n : Int) ≤ 6000 → X12_latest_L7 F k 113 w m ((n : Int) - 1) h = some (latN (aI h 114) w m n, h) := by
  intro n
  induction n with
  | zero =>
    intro k hk _
    obtain ⟨k, rfl⟩ : ∃ k', k = k' + 1 := ⟨k - 1, by omega⟩
    rw [X12_latest_L7_s, if_pos (by omega)]; rfl
  | succ n ih =>
    intro k hk h6
    obtain ⟨k, rfl⟩ : ∃ k', k = k' + 1 := ⟨k - 1, by omega⟩
    have e : ((n + 1 : Nat) : Int) - 1 = n := by omega
    have hr : X12_latest_L7 F k 113 w m (w32 ((n : Int) + (-1))) h = some (latN (aI h 114) w m n, h) := by
      rw [w32i _ (by omega) (by omega)]; exact ih k (by omega) (by omega)
    rw [X12_latest_L7_s, e]
    unfold latN X12_latest_L31
    have e0 : (11357 : Int) + 7 * n + 0 = 11357 + 7 * n := by omega
    by_cases c1 : aI h 114 (11357 + 7 * (n : Int) + 1) = w
    · by_cases c2 : aI h 114 (11357 + 7 * (n : Int)) ≤ m
      · rw [if_pos (And.intro c1 c2)]
        have c3 : aI h 114 (11357 + 7 * (n : Int) + 0) ≤ m := by rw [e0]; exact c2
        simp (disch := (first | assumption | with_reducible rfl | (simp only [LayC_sI, LayC_sJ, LayC_sA, LayC_sB, LayC_sIr, LayC_exc, LayM_sI, LayM_sJ, LayM_sA, LayM_sB, LayM_sIr, LayM_exc, LayK_sI, LayK_sJ, LayK_sA, LayK_sB, LayK_sIr, LayK_exc]; assumption) | omega | decide | (simp (disch := (first | decide | omega)) only [gI_sJ, gI_sB, gI_sP, gI_exc, gI_sIe, aI_sJ, aI_sB, aI_sP, aI_exc, aI_sAe, aJ_sI, aJ_sA, aJ_sP, aJ_sIr, aJ_exc, aJ_sBe, gJ_sI, gJ_sA, gJ_sP, gJ_sIr, gJ_exc, gP_sI, gP_sJ, gP_sA, gP_sB, gP_sIr, gP_exc, gI_sIn, gI_sIk, gI_sAn, gI_sIrn, aI_sIn, aI_sAn, aI_sIrn, aI_sAk, aJ_sJn, aJ_sBn, gJ_sJn, gJ_sBn, gJ_sJe, gS_sI, gS_sJ, gS_sP, gS_sA, gS_sB, gS_sIr, gS_exc, w32i, w64i]; first | done | assumption | omega))) only [↓b_xbs, ↓b_xthr, ↓b_xthl, ↓b_xctr, ↓b_xctl, ↓b_xz, ↓b_xzX, ↓b_xd, ↓if_pos, ↓if_neg, ↓mI113, ↓mW113, ↓mZ113, ↓mJ113, ↓mV113, ↓mR113, ↓mA114, ↓mS114, ↓mL114, ↓mA115, ↓mS115, ↓mL115, ↓mA116, ↓mS116, ↓mL116, ↓mA117, ↓mS117, ↓mL117, ↓mA118, ↓mS118, ↓mL118, ↓mA119, ↓mS119, ↓mL119, ↓mA120, ↓mS120, ↓mL120, ↓mA121, ↓mS121, ↓mL121, ↓mA122, ↓mS122, ↓mL122, ↓mA123, ↓mS123, ↓mL123, ↓mA124, ↓mS124, ↓mL124, ↓mA125, ↓mS125, ↓mL125, ↓mA126, ↓mS126, ↓mL126, ↓mP113_1, ↓mP113_2, ↓mP113_4, ↓mP113_11, ↓mP113_12, ↓mP113_16, ↓mP113_17, ↓mP113_18, ↓mP113_24, ↓mP113_25, ↓mP113_29, ↓mP113_30, ↓bE_of]
      · rw [if_neg (show ¬ (aI h 114 (11357 + 7 * (n : Int) + 1) = w ∧ aI h 114 (11357 + 7 * (n : Int)) ≤ m) from fun q => c2 q.2)]
        have c3 : ¬ aI h 114 (11357 + 7 * (n : Int) + 0) ≤ m := by rw [e0]; exact c2
        simp (disch := (first | assumption | with_reducible rfl | (simp only [LayC_sI, LayC_sJ, LayC_sA, LayC_sB, LayC_sIr, LayC_exc, LayM_sI, LayM_sJ, LayM_sA, LayM_sB, LayM_sIr, LayM_exc, LayK_sI, LayK_sJ, LayK_sA, LayK_sB, LayK_sIr, LayK_exc]; assumption) | omega | decide | (simp (disch := (first | decide | omega)) only [gI_sJ, gI_sB, gI_sP, gI_exc, gI_sIe, aI_sJ, aI_sB, aI_sP, aI_exc, aI_sAe, aJ_sI, aJ_sA, aJ_sP, aJ_sIr, aJ_exc, aJ_sBe, gJ_sI, gJ_sA, gJ_sP, gJ_sIr, gJ_exc, gP_sI, gP_sJ, gP_sA, gP_sB, gP_sIr, gP_exc, gI_sIn, gI_sIk, gI_sAn, gI_sIrn, aI_sIn, aI_sAn, aI_sIrn, aI_sAk, aJ_sJn, aJ_sBn, gJ_sJn, gJ_sBn, gJ_sJe, gS_sI, gS_sJ, gS_sP, gS_sA, gS_sB, gS_sIr, gS_exc, w32i, w64i]; first | done | assumption | omega))) only [↓b_xbs, ↓b_xthr, ↓b_xthl, ↓b_xctr, ↓b_xctl, ↓b_xz, ↓b_xzX, ↓b_xd, ↓if_pos, ↓if_neg, ↓mI113, ↓mW113, ↓mZ113, ↓mJ113, ↓mV113, ↓mR113, ↓mA114, ↓mS114, ↓mL114, ↓mA115, ↓mS115, ↓mL115, ↓mA116, ↓mS116, ↓mL116, ↓mA117, ↓mS117, ↓mL117, ↓mA118, ↓mS118, ↓mL118, ↓mA119, ↓mS119, ↓mL119, ↓mA120, ↓mS120, ↓mL120, ↓mA121, ↓mS121, ↓mL121, ↓mA122, ↓mS122, ↓mL122, ↓mA123, ↓mS123, ↓mL123, ↓mA124, ↓mS124, ↓mL124, ↓mA125, ↓mS125, ↓mL125, ↓mA126, ↓mS126, ↓mL126, ↓mP113_1, ↓mP113_2, ↓mP113_4, ↓mP113_11, ↓mP113_12, ↓mP113_16, ↓mP113_17, ↓mP113_18, ↓mP113_24, ↓mP113_25, ↓mP113_29, ↓mP113_30, ↓bE_of]; exact hr
    · rw [if_neg (show ¬ (aI h 114 (11357 + 7 * (n : Int) + 1) = w ∧ aI h 114 (11357 + 7 * (n : Int)) ≤ m) from fun q => c1 q.1)]
      simp (disch := (first | assumption | with_reducible rfl | (simp only [LayC_sI, LayC_sJ, LayC_sA, LayC_sB, LayC_sIr, LayC_exc, LayM_sI, LayM_sJ, LayM_sA, LayM_sB, LayM_sIr, LayM_exc, LayK_sI, LayK_sJ, LayK_sA, LayK_sB, LayK_sIr, LayK_exc]; assumption) | omega | decide | (simp (disch := (first | decide | omega)) only [gI_sJ, gI_sB, gI_sP, gI_exc, gI_sIe, aI_sJ, aI_sB, aI_sP, aI_exc, aI_sAe, aJ_sI, aJ_sA, aJ_sP, aJ_sIr, aJ_exc, aJ_sBe, gJ_sI, gJ_sA, gJ_sP, gJ_sIr, gJ_exc, gP_sI, gP_sJ, gP_sA, gP_sB, gP_sIr, gP_exc, gI_sIn, gI_sIk, gI_sAn, gI_sIrn, aI_sIn, aI_sAn, aI_sIrn, aI_sAk, aJ_sJn, aJ_sBn, gJ_sJn, gJ_sBn, gJ_sJe, gS_sI, gS_sJ, gS_sP, gS_sA, gS_sB, gS_sIr, gS_exc, w32i, w64i]; first | done | assumption | omega))) only [↓b_xbs, ↓b_xthr, ↓b_xthl, ↓b_xctr, ↓b_xctl, ↓b_xz, ↓b_xzX, ↓b_xd, ↓if_pos, ↓if_neg, ↓mI113, ↓mW113, ↓mZ113, ↓mJ113, ↓mV113, ↓mR113, ↓mA114, ↓mS114, ↓mL114, ↓mA115, ↓mS115, ↓mL115, ↓mA116, ↓mS116, ↓mL116, ↓mA117, ↓mS117, ↓mL117, ↓mA118, ↓mS118, ↓mL118, ↓mA119, ↓mS119, ↓mL119, ↓mA120, ↓mS120, ↓mL120, ↓mA121, ↓mS121, ↓mL121, ↓mA122, ↓mS122, ↓mL122, ↓mA123, ↓mS123, ↓mL123, ↓mA124, ↓mS124, ↓mL124, ↓mA125, ↓mS125, ↓mL125, ↓mA126, ↓mS126, ↓mL126, ↓mP113_1, ↓mP113_2, ↓mP113_4, ↓mP113_11, ↓mP113_12, ↓mP113_16, ↓mP113_17, ↓mP113_18, ↓mP113_24, ↓mP113_25, ↓mP113_29, ↓mP113_30, ↓bE_of]; exact hr
theorem E_latC (L : LayC h) (W : Int → Int) (w m : Int) : ∀ (n k : Nat), n < k → (n : Int) ≤ 5120 → (∀ i : Int, 0 ≤ i → i < n → xand (aI h 18 i) 63 = W (11357 + 7 * i + 1) ∧ xand (xush (aI h 18 i) 10) 511 = W (11357 + 7 * i)) → X7_latestRow_L13 F k 11 w m ((n : Int) - 1) h = some (latN W w m n, h) := by
  intro n
  induction n with
  | zero =>
    intro k hk _ _
    obtain ⟨k, rfl⟩ : ∃ k', k = k' + 1 := ⟨k - 1, by omega⟩
    rw [X7_latestRow_L13_s, if_pos (by omega)]; rfl
  | succ n ih =>
    intro k hk h6 hd
    obtain ⟨k, rfl⟩ : ∃ k', k = k' + 1 := ⟨k - 1, by omega⟩
    have e : ((n + 1 : Nat) : Int) - 1 = n := by omega
    have hr : X7_latestRow_L13 F k 11 w m (w32 ((n : Int) + (-1))) h = some (latN W w m n, h) := by
      rw [w32i _ (by omega) (by omega)]; exact ih k (by omega) (by omega) (fun i a b => hd i a (by omega))
    obtain ⟨d1, d2⟩ := hd n (by omega) (by omega)
    rw [X7_latestRow_L13_s, e]
    unfold latN X7_latestRow_L45
    by_cases c1 : W (11357 + 7 * (n : Int) + 1) = w
    · by_cases c2 : W (11357 + 7 * (n : Int)) ≤ m
      · rw [if_pos (And.intro c1 c2)]
        simp (disch := (first | assumption | with_reducible rfl | (simp only [LayC_sI, LayC_sJ, LayC_sA, LayC_sB, LayC_sIr, LayC_exc, LayM_sI, LayM_sJ, LayM_sA, LayM_sB, LayM_sIr, LayM_exc, LayK_sI, LayK_sJ, LayK_sA, LayK_sB, LayK_sIr, LayK_exc]; assumption) | omega | decide | (simp (disch := (first | decide | omega)) only [gI_sJ, gI_sB, gI_sP, gI_exc, gI_sIe, aI_sJ, aI_sB, aI_sP, aI_exc, aI_sAe, aJ_sI, aJ_sA, aJ_sP, aJ_sIr, aJ_exc, aJ_sBe, gJ_sI, gJ_sA, gJ_sP, gJ_sIr, gJ_exc, gP_sI, gP_sJ, gP_sA, gP_sB, gP_sIr, gP_exc, gI_sIn, gI_sIk, gI_sAn, gI_sIrn, aI_sIn, aI_sAn, aI_sIrn, aI_sAk, aJ_sJn, aJ_sBn, gJ_sJn, gJ_sBn, gJ_sJe, gS_sI, gS_sJ, gS_sP, gS_sA, gS_sB, gS_sIr, gS_exc, w32i, w64i]; first | done | assumption | omega))) only [↓b_xbs, ↓b_xthr, ↓b_xthl, ↓b_xctr, ↓b_xctl, ↓b_xz, ↓b_xzX, ↓b_xd, ↓if_pos, ↓if_neg, ↓cI1, ↓cW1, ↓cZ1, ↓cR1, ↓cI2, ↓cW2, ↓cJ2, ↓cV2, ↓cR2, ↓cA3, ↓cS3, ↓cL3, ↓cA4, ↓cS4, ↓cL4, ↓cA5, ↓cS5, ↓cL5, ↓cA6, ↓cS6, ↓cL6, ↓cA7, ↓cS7, ↓cL7, ↓cA8, ↓cS8, ↓cL8, ↓cI9, ↓cW9, ↓cR9, ↓cI10, ↓cW10, ↓cJ10, ↓cV10, ↓cR10, ↓cI11, ↓cW11, ↓cR11, ↓cA12, ↓cS12, ↓cL12, ↓cA13, ↓cS13, ↓cL13, ↓cA14, ↓cS14, ↓cL14, ↓cA15, ↓cS15, ↓cL15, ↓cA16, ↓cS16, ↓cL16, ↓cA17, ↓cS17, ↓cL17, ↓cA18, ↓cS18, ↓cL18, ↓cI19, ↓cW19, ↓cZ19, ↓cR19, ↓cA21, ↓cS21, ↓cL21, ↓cA22, ↓cS22, ↓cL22, ↓cA23, ↓cS23, ↓cL23, ↓cI24, ↓cW24, ↓cZ24, ↓cR24, ↓cI37, ↓cW37, ↓cR37, ↓cA38, ↓cS38, ↓cL38, ↓cA39, ↓cS39, ↓cL39, ↓cA40, ↓cS40, ↓cL40, ↓cA41, ↓cS41, ↓cL41, ↓cI42, ↓cW42, ↓cR42, ↓cA43, ↓cS43, ↓cL43, ↓cA44, ↓cS44, ↓cL44, ↓cA45, ↓cS45, ↓cL45, ↓cA46, ↓cS46, ↓cL46, ↓cA47, ↓cS47, ↓cL47, ↓cA48, ↓cS48, ↓cL48, ↓cA49, ↓cS49, ↓cL49, ↓cA50, ↓cS50, ↓cL50, ↓cI51, ↓cW51, ↓cZ51, ↓cR51, ↓cA52, ↓cS52, ↓cL52, ↓cA53, ↓cS53, ↓cL53, ↓cA54, ↓cS54, ↓cL54, ↓cA55, ↓cS55, ↓cL55, ↓cI103, ↓cW103, ↓cR103, ↓cA104, ↓cS104, ↓cL104, ↓cA105, ↓cS105, ↓cL105, ↓cA106, ↓cS106, ↓cL106, ↓cA107, ↓cS107, ↓cL107, ↓cA108, ↓cS108, ↓cL108, ↓cA109, ↓cS109, ↓cL109, ↓cA110, ↓cS110, ↓cL110, ↓cA111, ↓cS111, ↓cL111, ↓cA112, ↓cS112, ↓cL112, ↓cP1_0, ↓cP1_2, ↓cP1_3, ↓cP1_5, ↓cP2_0, ↓cP2_2, ↓cP2_3, ↓cP2_4, ↓cP2_8, ↓cP2_10, ↓cP9_0, ↓cP9_1, ↓cP9_2, ↓cP9_3, ↓cP9_4, ↓cP9_5, ↓cP10_0, ↓cP11_0, ↓cP11_1, ↓cP11_2, ↓cP11_3, ↓cP11_4, ↓cP11_5, ↓cP11_6, ↓cP19_0, ↓cP19_1, ↓cP19_2, ↓cP19_3, ↓cP19_6, ↓cP37_0, ↓cP37_1, ↓cP37_2, ↓cP37_3, ↓cP42_0, ↓cP42_1, ↓cP42_2, ↓cP42_3, ↓cP42_4, ↓cP42_5, ↓cP42_8, ↓cP42_9, ↓cP51_0, ↓cP51_1, ↓cP51_2, ↓cP51_3, ↓cP103_0, ↓cP103_1, ↓cP103_2, ↓cP103_3, ↓cP103_4, ↓cP103_5, ↓cP103_6, ↓cP103_7, ↓cP103_8, ↓cIj, ↓cWj, ↓cZj, ↓cPj, ↓cQj, ↓cRj, ↓cAj, ↓bE_wordIn, ↓bE_minuteIn]
      · rw [if_neg (show ¬ (W (11357 + 7 * (n : Int) + 1) = w ∧ W (11357 + 7 * (n : Int)) ≤ m) from fun q => c2 q.2)]
        simp (disch := (first | assumption | with_reducible rfl | (simp only [LayC_sI, LayC_sJ, LayC_sA, LayC_sB, LayC_sIr, LayC_exc, LayM_sI, LayM_sJ, LayM_sA, LayM_sB, LayM_sIr, LayM_exc, LayK_sI, LayK_sJ, LayK_sA, LayK_sB, LayK_sIr, LayK_exc]; assumption) | omega | decide | (simp (disch := (first | decide | omega)) only [gI_sJ, gI_sB, gI_sP, gI_exc, gI_sIe, aI_sJ, aI_sB, aI_sP, aI_exc, aI_sAe, aJ_sI, aJ_sA, aJ_sP, aJ_sIr, aJ_exc, aJ_sBe, gJ_sI, gJ_sA, gJ_sP, gJ_sIr, gJ_exc, gP_sI, gP_sJ, gP_sA, gP_sB, gP_sIr, gP_exc, gI_sIn, gI_sIk, gI_sAn, gI_sIrn, aI_sIn, aI_sAn, aI_sIrn, aI_sAk, aJ_sJn, aJ_sBn, gJ_sJn, gJ_sBn, gJ_sJe, gS_sI, gS_sJ, gS_sP, gS_sA, gS_sB, gS_sIr, gS_exc, w32i, w64i]; first | done | assumption | omega))) only [↓b_xbs, ↓b_xthr, ↓b_xthl, ↓b_xctr, ↓b_xctl, ↓b_xz, ↓b_xzX, ↓b_xd, ↓if_pos, ↓if_neg, ↓cI1, ↓cW1, ↓cZ1, ↓cR1, ↓cI2, ↓cW2, ↓cJ2, ↓cV2, ↓cR2, ↓cA3, ↓cS3, ↓cL3, ↓cA4, ↓cS4, ↓cL4, ↓cA5, ↓cS5, ↓cL5, ↓cA6, ↓cS6, ↓cL6, ↓cA7, ↓cS7, ↓cL7, ↓cA8, ↓cS8, ↓cL8, ↓cI9, ↓cW9, ↓cR9, ↓cI10, ↓cW10, ↓cJ10, ↓cV10, ↓cR10, ↓cI11, ↓cW11, ↓cR11, ↓cA12, ↓cS12, ↓cL12, ↓cA13, ↓cS13, ↓cL13, ↓cA14, ↓cS14, ↓cL14, ↓cA15, ↓cS15, ↓cL15, ↓cA16, ↓cS16, ↓cL16, ↓cA17, ↓cS17, ↓cL17, ↓cA18, ↓cS18, ↓cL18, ↓cI19, ↓cW19, ↓cZ19, ↓cR19, ↓cA21, ↓cS21, ↓cL21, ↓cA22, ↓cS22, ↓cL22, ↓cA23, ↓cS23, ↓cL23, ↓cI24, ↓cW24, ↓cZ24, ↓cR24, ↓cI37, ↓cW37, ↓cR37, ↓cA38, ↓cS38, ↓cL38, ↓cA39, ↓cS39, ↓cL39, ↓cA40, ↓cS40, ↓cL40, ↓cA41, ↓cS41, ↓cL41, ↓cI42, ↓cW42, ↓cR42, ↓cA43, ↓cS43, ↓cL43, ↓cA44, ↓cS44, ↓cL44, ↓cA45, ↓cS45, ↓cL45, ↓cA46, ↓cS46, ↓cL46, ↓cA47, ↓cS47, ↓cL47, ↓cA48, ↓cS48, ↓cL48, ↓cA49, ↓cS49, ↓cL49, ↓cA50, ↓cS50, ↓cL50, ↓cI51, ↓cW51, ↓cZ51, ↓cR51, ↓cA52, ↓cS52, ↓cL52, ↓cA53, ↓cS53, ↓cL53, ↓cA54, ↓cS54, ↓cL54, ↓cA55, ↓cS55, ↓cL55, ↓cI103, ↓cW103, ↓cR103, ↓cA104, ↓cS104, ↓cL104, ↓cA105, ↓cS105, ↓cL105, ↓cA106, ↓cS106, ↓cL106, ↓cA107, ↓cS107, ↓cL107, ↓cA108, ↓cS108, ↓cL108, ↓cA109, ↓cS109, ↓cL109, ↓cA110, ↓cS110, ↓cL110, ↓cA111, ↓cS111, ↓cL111, ↓cA112, ↓cS112, ↓cL112, ↓cP1_0, ↓cP1_2, ↓cP1_3, ↓cP1_5, ↓cP2_0, ↓cP2_2, ↓cP2_3, ↓cP2_4, ↓cP2_8, ↓cP2_10, ↓cP9_0, ↓cP9_1, ↓cP9_2, ↓cP9_3, ↓cP9_4, ↓cP9_5, ↓cP10_0, ↓cP11_0, ↓cP11_1, ↓cP11_2, ↓cP11_3, ↓cP11_4, ↓cP11_5, ↓cP11_6, ↓cP19_0, ↓cP19_1, ↓cP19_2, ↓cP19_3, ↓cP19_6, ↓cP37_0, ↓cP37_1, ↓cP37_2, ↓cP37_3, ↓cP42_0, ↓cP42_1, ↓cP42_2, ↓cP42_3, ↓cP42_4, ↓cP42_5, ↓cP42_8, ↓cP42_9, ↓cP51_0, ↓cP51_1, ↓cP51_2, ↓cP51_3, ↓cP103_0, ↓cP103_1, ↓cP103_2, ↓cP103_3, ↓cP103_4, ↓cP103_5, ↓cP103_6, ↓cP103_7, ↓cP103_8, ↓cIj, ↓cWj, ↓cZj, ↓cPj, ↓cQj, ↓cRj, ↓cAj, ↓bE_wordIn, ↓bE_minuteIn]; exact hr
    · rw [if_neg (show ¬ (W (11357 + 7 * (n : Int) + 1) = w ∧ W (11357 + 7 * (n : Int)) ≤ m) from fun q => c1 q.1)]
      simp (disch := (first | assumption | with_reducible rfl | (simp only [LayC_sI, LayC_sJ, LayC_sA, LayC_sB, LayC_sIr, LayC_exc, LayM_sI, LayM_sJ, LayM_sA, LayM_sB, LayM_sIr, LayM_exc, LayK_sI, LayK_sJ, LayK_sA, LayK_sB, LayK_sIr, LayK_exc]; assumption) | omega | decide | (simp (disch := (first | decide | omega)) only [gI_sJ, gI_sB, gI_sP, gI_exc, gI_sIe, aI_sJ, aI_sB, aI_sP, aI_exc, aI_sAe, aJ_sI, aJ_sA, aJ_sP, aJ_sIr, aJ_exc, aJ_sBe, gJ_sI, gJ_sA, gJ_sP, gJ_sIr, gJ_exc, gP_sI, gP_sJ, gP_sA, gP_sB, gP_sIr, gP_exc, gI_sIn, gI_sIk, gI_sAn, gI_sIrn, aI_sIn, aI_sAn, aI_sIrn, aI_sAk, aJ_sJn, aJ_sBn, gJ_sJn, gJ_sBn, gJ_sJe, gS_sI, gS_sJ, gS_sP, gS_sA, gS_sB, gS_sIr, gS_exc, w32i, w64i]; first | done | assumption | omega))) only [↓b_xbs, ↓b_xthr, ↓b_xthl, ↓b_xctr, ↓b_xctl, ↓b_xz, ↓b_xzX, ↓b_xd, ↓if_pos, ↓if_neg, ↓cI1, ↓cW1, ↓cZ1, ↓cR1, ↓cI2, ↓cW2, ↓cJ2, ↓cV2, ↓cR2, ↓cA3, ↓cS3, ↓cL3, ↓cA4, ↓cS4, ↓cL4, ↓cA5, ↓cS5, ↓cL5, ↓cA6, ↓cS6, ↓cL6, ↓cA7, ↓cS7, ↓cL7, ↓cA8, ↓cS8, ↓cL8, ↓cI9, ↓cW9, ↓cR9, ↓cI10, ↓cW10, ↓cJ10, ↓cV10, ↓cR10, ↓cI11, ↓cW11, ↓cR11, ↓cA12, ↓cS12, ↓cL12, ↓cA13, ↓cS13, ↓cL13, ↓cA14, ↓cS14, ↓cL14, ↓cA15, ↓cS15, ↓cL15, ↓cA16, ↓cS16, ↓cL16, ↓cA17, ↓cS17, ↓cL17, ↓cA18, ↓cS18, ↓cL18, ↓cI19, ↓cW19, ↓cZ19, ↓cR19, ↓cA21, ↓cS21, ↓cL21, ↓cA22, ↓cS22, ↓cL22, ↓cA23, ↓cS23, ↓cL23, ↓cI24, ↓cW24, ↓cZ24, ↓cR24, ↓cI37, ↓cW37, ↓cR37, ↓cA38, ↓cS38, ↓cL38, ↓cA39, ↓cS39, ↓cL39, ↓cA40, ↓cS40, ↓cL40, ↓cA41, ↓cS41, ↓cL41, ↓cI42, ↓cW42, ↓cR42, ↓cA43, ↓cS43, ↓cL43, ↓cA44, ↓cS44, ↓cL44, ↓cA45, ↓cS45, ↓cL45, ↓cA46, ↓cS46, ↓cL46, ↓cA47, ↓cS47, ↓cL47, ↓cA48, ↓cS48, ↓cL48, ↓cA49, ↓cS49, ↓cL49, ↓cA50, ↓cS50, ↓cL50, ↓cI51, ↓cW51, ↓cZ51, ↓cR51, ↓cA52, ↓cS52, ↓cL52, ↓cA53, ↓cS53, ↓cL53, ↓cA54, ↓cS54, ↓cL54, ↓cA55, ↓cS55, ↓cL55, ↓cI103, ↓cW103, ↓cR103, ↓cA104, ↓cS104, ↓cL104, ↓cA105, ↓cS105, ↓cL105, ↓cA106, ↓cS106, ↓cL106, ↓cA107, ↓cS107, ↓cL107, ↓cA108, ↓cS108, ↓cL108, ↓cA109, ↓cS109, ↓cL109, ↓cA110, ↓cS110, ↓cL110, ↓cA111, ↓cS111, ↓cL111, ↓cA112, ↓cS112, ↓cL112, ↓cP1_0, ↓cP1_2, ↓cP1_3, ↓cP1_5, ↓cP2_0, ↓cP2_2, ↓cP2_3, ↓cP2_4, ↓cP2_8, ↓cP2_10, ↓cP9_0, ↓cP9_1, ↓cP9_2, ↓cP9_3, ↓cP9_4, ↓cP9_5, ↓cP10_0, ↓cP11_0, ↓cP11_1, ↓cP11_2, ↓cP11_3, ↓cP11_4, ↓cP11_5, ↓cP11_6, ↓cP19_0, ↓cP19_1, ↓cP19_2, ↓cP19_3, ↓cP19_6, ↓cP37_0, ↓cP37_1, ↓cP37_2, ↓cP37_3, ↓cP42_0, ↓cP42_1, ↓cP42_2, ↓cP42_3, ↓cP42_4, ↓cP42_5, ↓cP42_8, ↓cP42_9, ↓cP51_0, ↓cP51_1, ↓cP51_2, ↓cP51_3, ↓cP103_0, ↓cP103_1, ↓cP103_2, ↓cP103_3, ↓cP103_4, ↓cP103_5, ↓cP103_6, ↓cP103_7, ↓cP103_8, ↓cIj, ↓cWj, ↓cZj, ↓cPj, ↓cQj, ↓cRj, ↓cAj, ↓bE_wordIn, ↓bE_minuteIn]; exact hr
theorem E_latestM (w m : Int) (L : LayM h) (hF : 6001 ≤ F) (c : 0 ≤ aI h 114 11356 ∧ aI h 114 11356 ≤ 5120)  : X12_latest F 113 w m h = some (latN (aI h 114) w m (aI h 114 11356).toNat, h) := by
  unfold X12_latest
  simp (disch := (first | assumption | with_reducible rfl | (simp only [LayC_sI, LayC_sJ, LayC_sA, LayC_sB, LayC_sIr, LayC_exc, LayM_sI, LayM_sJ, LayM_sA, LayM_sB, LayM_sIr, LayM_exc, LayK_sI, LayK_sJ, LayK_sA, LayK_sB, LayK_sIr, LayK_exc]; assumption) | omega | decide | (simp (disch := (first | decide | omega)) only [gI_sJ, gI_sB, gI_sP, gI_exc, gI_sIe, aI_sJ, aI_sB, aI_sP, aI_exc, aI_sAe, aJ_sI, aJ_sA, aJ_sP, aJ_sIr, aJ_exc, aJ_sBe, gJ_sI, gJ_sA, gJ_sP, gJ_sIr, gJ_exc, gP_sI, gP_sJ, gP_sA, gP_sB, gP_sIr, gP_exc, gI_sIn, gI_sIk, gI_sAn, gI_sIrn, aI_sIn, aI_sAn, aI_sIrn, aI_sAk, aJ_sJn, aJ_sBn, gJ_sJn, gJ_sBn, gJ_sJe, gS_sI, gS_sJ, gS_sP, gS_sA, gS_sB, gS_sIr, gS_exc, w32i, w64i]; first | done | assumption | omega))) only [↓b_xbs, ↓b_xthr, ↓b_xthl, ↓b_xctr, ↓b_xctl, ↓b_xz, ↓b_xzX, ↓b_xd, ↓if_pos, ↓if_neg, ↓mI113, ↓mW113, ↓mZ113, ↓mJ113, ↓mV113, ↓mR113, ↓mA114, ↓mS114, ↓mL114, ↓mA115, ↓mS115, ↓mL115, ↓mA116, ↓mS116, ↓mL116, ↓mA117, ↓mS117, ↓mL117, ↓mA118, ↓mS118, ↓mL118, ↓mA119, ↓mS119, ↓mL119, ↓mA120, ↓mS120, ↓mL120, ↓mA121, ↓mS121, ↓mL121, ↓mA122, ↓mS122, ↓mL122, ↓mA123, ↓mS123, ↓mL123, ↓mA124, ↓mS124, ↓mL124, ↓mA125, ↓mS125, ↓mL125, ↓mA126, ↓mS126, ↓mL126, ↓mP113_1, ↓mP113_2, ↓mP113_4, ↓mP113_11, ↓mP113_12, ↓mP113_16, ↓mP113_17, ↓mP113_18, ↓mP113_24, ↓mP113_25, ↓mP113_29, ↓mP113_30, ↓bE_writings, w32i]
  have q := E_latM (F := F) L w m (aI h 114 11356).toNat F (by omega) (by omega)
  rw [Int.toNat_of_nonneg c.1] at q
  exact q
theorem bE_latestM {γ : Type} (w m : Int) (L : LayM h) (hF : 6001 ≤ F) (c : 0 ≤ aI h 114 11356 ∧ aI h 114 11356 ≤ 5120)  (f : _ → HP → Option γ) : xb (X12_latest F 113 w m h) f = f (latN (aI h 114) w m (aI h 114 11356).toNat) (h) := b_xb _ f _ _ (by apply E_latestM <;> assumption)

theorem E_latestC (W : Int → Int) (w m : Int) (L : LayC h) (hF : 6001 ≤ F) (g : W 8 ≤ 12) (r : RRw h 0 W)  : X7_latestRow F 11 w m h = some (latN W w m (W 11356).toNat, h) := by
  obtain ⟨r1, r2, r3, r4⟩ := r
  simp only [Nat.add_zero] at r1
  unfold X7_latestRow
  have e : min (gI h 11 7) 5120 = W 11356 := by rw [r1]; omega
  simp (disch := (first | assumption | with_reducible rfl | (simp only [LayC_sI, LayC_sJ, LayC_sA, LayC_sB, LayC_sIr, LayC_exc, LayM_sI, LayM_sJ, LayM_sA, LayM_sB, LayM_sIr, LayM_exc, LayK_sI, LayK_sJ, LayK_sA, LayK_sB, LayK_sIr, LayK_exc]; assumption) | omega | decide | (simp (disch := (first | decide | omega)) only [gI_sJ, gI_sB, gI_sP, gI_exc, gI_sIe, aI_sJ, aI_sB, aI_sP, aI_exc, aI_sAe, aJ_sI, aJ_sA, aJ_sP, aJ_sIr, aJ_exc, aJ_sBe, gJ_sI, gJ_sA, gJ_sP, gJ_sIr, gJ_exc, gP_sI, gP_sJ, gP_sA, gP_sB, gP_sIr, gP_exc, gI_sIn, gI_sIk, gI_sAn, gI_sIrn, aI_sIn, aI_sAn, aI_sIrn, aI_sAk, aJ_sJn, aJ_sBn, gJ_sJn, gJ_sBn, gJ_sJe, gS_sI, gS_sJ, gS_sP, gS_sA, gS_sB, gS_sIr, gS_exc, w32i, w64i]; first | done | assumption | omega))) only [↓b_xbs, ↓b_xthr, ↓b_xthl, ↓b_xctr, ↓b_xctl, ↓b_xz, ↓b_xzX, ↓b_xd, ↓if_pos, ↓if_neg, ↓cI1, ↓cW1, ↓cZ1, ↓cR1, ↓cI2, ↓cW2, ↓cJ2, ↓cV2, ↓cR2, ↓cA3, ↓cS3, ↓cL3, ↓cA4, ↓cS4, ↓cL4, ↓cA5, ↓cS5, ↓cL5, ↓cA6, ↓cS6, ↓cL6, ↓cA7, ↓cS7, ↓cL7, ↓cA8, ↓cS8, ↓cL8, ↓cI9, ↓cW9, ↓cR9, ↓cI10, ↓cW10, ↓cJ10, ↓cV10, ↓cR10, ↓cI11, ↓cW11, ↓cR11, ↓cA12, ↓cS12, ↓cL12, ↓cA13, ↓cS13, ↓cL13, ↓cA14, ↓cS14, ↓cL14, ↓cA15, ↓cS15, ↓cL15, ↓cA16, ↓cS16, ↓cL16, ↓cA17, ↓cS17, ↓cL17, ↓cA18, ↓cS18, ↓cL18, ↓cI19, ↓cW19, ↓cZ19, ↓cR19, ↓cA21, ↓cS21, ↓cL21, ↓cA22, ↓cS22, ↓cL22, ↓cA23, ↓cS23, ↓cL23, ↓cI24, ↓cW24, ↓cZ24, ↓cR24, ↓cI37, ↓cW37, ↓cR37, ↓cA38, ↓cS38, ↓cL38, ↓cA39, ↓cS39, ↓cL39, ↓cA40, ↓cS40, ↓cL40, ↓cA41, ↓cS41, ↓cL41, ↓cI42, ↓cW42, ↓cR42, ↓cA43, ↓cS43, ↓cL43, ↓cA44, ↓cS44, ↓cL44, ↓cA45, ↓cS45, ↓cL45, ↓cA46, ↓cS46, ↓cL46, ↓cA47, ↓cS47, ↓cL47, ↓cA48, ↓cS48, ↓cL48, ↓cA49, ↓cS49, ↓cL49, ↓cA50, ↓cS50, ↓cL50, ↓cI51, ↓cW51, ↓cZ51, ↓cR51, ↓cA52, ↓cS52, ↓cL52, ↓cA53, ↓cS53, ↓cL53, ↓cA54, ↓cS54, ↓cL54, ↓cA55, ↓cS55, ↓cL55, ↓cI103, ↓cW103, ↓cR103, ↓cA104, ↓cS104, ↓cL104, ↓cA105, ↓cS105, ↓cL105, ↓cA106, ↓cS106, ↓cL106, ↓cA107, ↓cS107, ↓cL107, ↓cA108, ↓cS108, ↓cL108, ↓cA109, ↓cS109, ↓cL109, ↓cA110, ↓cS110, ↓cL110, ↓cA111, ↓cS111, ↓cL111, ↓cA112, ↓cS112, ↓cL112, ↓cP1_0, ↓cP1_2, ↓cP1_3, ↓cP1_5, ↓cP2_0, ↓cP2_2, ↓cP2_3, ↓cP2_4, ↓cP2_8, ↓cP2_10, ↓cP9_0, ↓cP9_1, ↓cP9_2, ↓cP9_3, ↓cP9_4, ↓cP9_5, ↓cP10_0, ↓cP11_0, ↓cP11_1, ↓cP11_2, ↓cP11_3, ↓cP11_4, ↓cP11_5, ↓cP11_6, ↓cP19_0, ↓cP19_1, ↓cP19_2, ↓cP19_3, ↓cP19_6, ↓cP37_0, ↓cP37_1, ↓cP37_2, ↓cP37_3, ↓cP42_0, ↓cP42_1, ↓cP42_2, ↓cP42_3, ↓cP42_4, ↓cP42_5, ↓cP42_8, ↓cP42_9, ↓cP51_0, ↓cP51_1, ↓cP51_2, ↓cP51_3, ↓cP103_0, ↓cP103_1, ↓cP103_2, ↓cP103_3, ↓cP103_4, ↓cP103_5, ↓cP103_6, ↓cP103_7, ↓cP103_8, ↓cIj, ↓cWj, ↓cZj, ↓cPj, ↓cQj, ↓cRj, ↓cAj, e, w32i]
  have q := E_latC (F := F) L W w m (W 11356).toNat F (by omega) (by omega) (fun i a b => by
    have d := (r4 i a (by omega)).dec g
    exact ⟨d.2.2.1, d.2.2.2.1⟩)
  rw [Int.toNat_of_nonneg r2] at q
  exact q
theorem bE_latestC {γ : Type} (W : Int → Int) (w m : Int) (L : LayC h) (hF : 6001 ≤ F) (g : W 8 ≤ 12) (r : RRw h 0 W)  (f : _ → HP → Option γ) : xb (X7_latestRow F 11 w m h) f = f (latN W w m (W 11356).toNat) (h) := b_xb _ f _ _ (by apply E_latestC <;> assumption)

end LT
