/-! beside: by clerks alone, with two machines -/
/-- the HAND MINUTES together: none, if a job from i on (of m) has none -/
def clN (W : Int → Int) : Nat → Nat → Int → Int
  | 0, _, s => s
  | m + 1, i, s => if W (169 + 882 * i + 2) = 0 then -1 else clN W m (i + 1) (w32 (s + W (169 + 882 * i + 2)))
section BS
variable {F : Nat} {h : HP} {n : Int}
theorem E_clC {W : Int → Int} (L : LayC h) (g : 0 ≤ W 8 ∧ W 8 ≤ 12) (e8 : gI h 19 5 = W 8) (r : RJb h 0 W) : ∀ (m i k : Nat) (s : Int), m < k → ((i + m : Nat) : Int) = W 8 → X3_byClerksAlone_L4 F k 19 s i h = some (clN W m i s, h) := by
  intro m
  induction m with
  | zero =>
    intro i k s hk hi
    obtain ⟨k, rfl⟩ : ∃ k', k = k' + 1 := ⟨k - 1, by omega⟩
    rw [X3_byClerksAlone_L4_s]
    simp (disch := (first | assumption | with_reducible rfl | (simp only [LayC_sI, LayC_sJ, LayC_sA, LayC_sB, LayC_sIr, LayC_exc, LayM_sI, LayM_sJ, LayM_sA, LayM_sB, LayM_sIr, LayM_exc, LayK_sI, LayK_sJ, LayK_sA, LayK_sB, LayK_sIr, LayK_exc]; assumption) | omega | decide | (simp (disch := (first | decide | omega)) only [gI_sJ, gI_sB, gI_sP, gI_exc, gI_sIe, aI_sJ, aI_sB, aI_sP, aI_exc, aI_sAe, aJ_sI, aJ_sA, aJ_sP, aJ_sIr, aJ_exc, aJ_sBe, gJ_sI, gJ_sA, gJ_sP, gJ_sIr, gJ_exc, gP_sI, gP_sJ, gP_sA, gP_sB, gP_sIr, gP_exc, gI_sIn, gI_sIk, gI_sAn, gI_sIrn, aI_sIn, aI_sAn, aI_sIrn, aI_sAk, aJ_sJn, aJ_sBn, gJ_sJn, gJ_sBn, gJ_sJe, gS_sI, gS_sJ, gS_sP, gS_sA, gS_sB, gS_sIr, gS_exc, w32i, w64i]; first | done | assumption | omega))) only [↓b_xbs, ↓b_xthr, ↓b_xthl, ↓b_xctr, ↓b_xctl, ↓b_xz, ↓b_xzX, ↓b_xd, ↓if_pos, ↓if_neg, ↓cI1, ↓cW1, ↓cZ1, ↓cR1, ↓cI2, ↓cW2, ↓cJ2, ↓cV2, ↓cR2, ↓cA3, ↓cS3, ↓cL3, ↓cA4, ↓cS4, ↓cL4, ↓cA5, ↓cS5, ↓cL5, ↓cA6, ↓cS6, ↓cL6, ↓cA7, ↓cS7, ↓cL7, ↓cA8, ↓cS8, ↓cL8, ↓cI9, ↓cW9, ↓cR9, ↓cI10, ↓cW10, ↓cJ10, ↓cV10, ↓cR10, ↓cI11, ↓cW11, ↓cR11, ↓cA12, ↓cS12, ↓cL12, ↓cA13, ↓cS13, ↓cL13, ↓cA14, ↓cS14, ↓cL14, ↓cA15, ↓cS15, ↓cL15, ↓cA16, ↓cS16, ↓cL16, ↓cA17, ↓cS17, ↓cL17, ↓cA18, ↓cS18, ↓cL18, ↓cI19, ↓cW19, ↓cZ19, ↓cR19, ↓cA21, ↓cS21, ↓cL21, ↓cA22, ↓cS22, ↓cL22, ↓cA23, ↓cS23, ↓cL23, ↓cI24, ↓cW24, ↓cZ24, ↓cR24, ↓cI37, ↓cW37, ↓cR37, ↓cA38, ↓cS38, ↓cL38, ↓cA39, ↓cS39, ↓cL39, ↓cA40, ↓cS40, ↓cL40, ↓cA41, ↓cS41, ↓cL41, ↓cI42, ↓cW42, ↓cR42, ↓cA43, ↓cS43, ↓cL43, ↓cA44, ↓cS44, ↓cL44, ↓cA45, ↓cS45, ↓cL45, ↓cA46, ↓cS46, ↓cL46, ↓cA47, ↓cS47, ↓cL47, ↓cA48, ↓cS48, ↓cL48, ↓cA49, ↓cS49, ↓cL49, ↓cA50, ↓cS50, ↓cL50, ↓cI51, ↓cW51, ↓cZ51, ↓cR51, ↓cA52, ↓cS52, ↓cL52, ↓cA53, ↓cS53, ↓cL53, ↓cA54, ↓cS54, ↓cL54, ↓cA55, ↓cS55, ↓cL55, ↓cI103, ↓cW103, ↓cR103, ↓cA104, ↓cS104, ↓cL104, ↓cA105, ↓cS105, ↓cL105, ↓cA106, ↓cS106, ↓cL106, ↓cA107, ↓cS107, ↓cL107, ↓cA108, ↓cS108, ↓cL108, ↓cA109, ↓cS109, ↓cL109, ↓cA110, ↓cS110, ↓cL110, ↓cA111, ↓cS111, ↓cL111, ↓cA112, ↓cS112, ↓cL112, ↓cP1_0, ↓cP1_2, ↓cP1_3, ↓cP1_5, ↓cP2_0, ↓cP2_2, ↓cP2_3, ↓cP2_4, ↓cP2_8, ↓cP2_10, ↓cP9_0, ↓cP9_1, ↓cP9_2, ↓cP9_3, ↓cP9_4, ↓cP9_5, ↓cP10_0, ↓cP11_0, ↓cP11_1, ↓cP11_2, ↓cP11_3, ↓cP11_4, ↓cP11_5, ↓cP11_6, ↓cP19_0, ↓cP19_1, ↓cP19_2, ↓cP19_3, ↓cP19_6, ↓cP37_0, ↓cP37_1, ↓cP37_2, ↓cP37_3, ↓cP42_0, ↓cP42_1, ↓cP42_2, ↓cP42_3, ↓cP42_4, ↓cP42_5, ↓cP42_8, ↓cP42_9, ↓cP51_0, ↓cP51_1, ↓cP51_2, ↓cP51_3, ↓cP103_0, ↓cP103_1, ↓cP103_2, ↓cP103_3, ↓cP103_4, ↓cP103_5, ↓cP103_6, ↓cP103_7, ↓cP103_8, ↓cIj, ↓cWj, ↓cZj, ↓cPj, ↓cQj, ↓cRj, ↓cAj]; rfl
  | succ m ih =>
    intro i k s hk hi
    obtain ⟨k, rfl⟩ : ∃ k', k = k' + 1 := ⟨k - 1, by omega⟩
    have hr := ih (i + 1) k (w32 (s + W (169 + 882 * i + 2))) (by omega) (by omega)
    have e1 : w32 ((i : Int) + 1) = ((i + 1 : Nat) : Int) := by rw [w32i _ (by omega) (by omega)]; omega
    have f := (r.f i (by omega)).2.2.1
    rw [X3_byClerksAlone_L4_s]
    show _ = some (if W (169 + 882 * (i : Int) + 2) = 0 then -1 else clN W m (i + 1) (w32 (s + W (169 + 882 * (i : Int) + 2))), h)
    by_cases c : W (169 + 882 * (i : Int) + 2) = 0
    · rw [if_pos c]
      simp (disch := (first | assumption | with_reducible rfl | (simp only [LayC_sI, LayC_sJ, LayC_sA, LayC_sB, LayC_sIr, LayC_exc, LayM_sI, LayM_sJ, LayM_sA, LayM_sB, LayM_sIr, LayM_exc, LayK_sI, LayK_sJ, LayK_sA, LayK_sB, LayK_sIr, LayK_exc]; assumption) | omega | decide | (simp (disch := (first | decide | omega)) only [gI_sJ, gI_sB, gI_sP, gI_exc, gI_sIe, aI_sJ, aI_sB, aI_sP, aI_exc, aI_sAe, aJ_sI, aJ_sA, aJ_sP, aJ_sIr, aJ_exc, aJ_sBe, gJ_sI, gJ_sA, gJ_sP, gJ_sIr, gJ_exc, gP_sI, gP_sJ, gP_sA, gP_sB, gP_sIr, gP_exc, gI_sIn, gI_sIk, gI_sAn, gI_sIrn, aI_sIn, aI_sAn, aI_sIrn, aI_sAk, aJ_sJn, aJ_sBn, gJ_sJn, gJ_sBn, gJ_sJe, gS_sI, gS_sJ, gS_sP, gS_sA, gS_sB, gS_sIr, gS_exc, w32i, w64i]; first | done | assumption | omega))) only [↓b_xbs, ↓b_xthr, ↓b_xthl, ↓b_xctr, ↓b_xctl, ↓b_xz, ↓b_xzX, ↓b_xd, ↓if_pos, ↓if_neg, ↓cI1, ↓cW1, ↓cZ1, ↓cR1, ↓cI2, ↓cW2, ↓cJ2, ↓cV2, ↓cR2, ↓cA3, ↓cS3, ↓cL3, ↓cA4, ↓cS4, ↓cL4, ↓cA5, ↓cS5, ↓cL5, ↓cA6, ↓cS6, ↓cL6, ↓cA7, ↓cS7, ↓cL7, ↓cA8, ↓cS8, ↓cL8, ↓cI9, ↓cW9, ↓cR9, ↓cI10, ↓cW10, ↓cJ10, ↓cV10, ↓cR10, ↓cI11, ↓cW11, ↓cR11, ↓cA12, ↓cS12, ↓cL12, ↓cA13, ↓cS13, ↓cL13, ↓cA14, ↓cS14, ↓cL14, ↓cA15, ↓cS15, ↓cL15, ↓cA16, ↓cS16, ↓cL16, ↓cA17, ↓cS17, ↓cL17, ↓cA18, ↓cS18, ↓cL18, ↓cI19, ↓cW19, ↓cZ19, ↓cR19, ↓cA21, ↓cS21, ↓cL21, ↓cA22, ↓cS22, ↓cL22, ↓cA23, ↓cS23, ↓cL23, ↓cI24, ↓cW24, ↓cZ24, ↓cR24, ↓cI37, ↓cW37, ↓cR37, ↓cA38, ↓cS38, ↓cL38, ↓cA39, ↓cS39, ↓cL39, ↓cA40, ↓cS40, ↓cL40, ↓cA41, ↓cS41, ↓cL41, ↓cI42, ↓cW42, ↓cR42, ↓cA43, ↓cS43, ↓cL43, ↓cA44, ↓cS44, ↓cL44, ↓cA45, ↓cS45, ↓cL45, ↓cA46, ↓cS46, ↓cL46, ↓cA47, ↓cS47, ↓cL47, ↓cA48, ↓cS48, ↓cL48, ↓cA49, ↓cS49, ↓cL49, ↓cA50, ↓cS50, ↓cL50, ↓cI51, ↓cW51, ↓cZ51, ↓cR51, ↓cA52, ↓cS52, ↓cL52, ↓cA53, ↓cS53, ↓cL53, ↓cA54, ↓cS54, ↓cL54, ↓cA55, ↓cS55, ↓cL55, ↓cI103, ↓cW103, ↓cR103, ↓cA104, ↓cS104, ↓cL104, ↓cA105, ↓cS105, ↓cL105, ↓cA106, ↓cS106, ↓cL106, ↓cA107, ↓cS107, ↓cL107, ↓cA108, ↓cS108, ↓cL108, ↓cA109, ↓cS109, ↓cL109, ↓cA110, ↓cS110, ↓cL110, ↓cA111, ↓cS111, ↓cL111, ↓cA112, ↓cS112, ↓cL112, ↓cP1_0, ↓cP1_2, ↓cP1_3, ↓cP1_5, ↓cP2_0, ↓cP2_2, ↓cP2_3, ↓cP2_4, ↓cP2_8, ↓cP2_10, ↓cP9_0, ↓cP9_1, ↓cP9_2, ↓cP9_3, ↓cP9_4, ↓cP9_5, ↓cP10_0, ↓cP11_0, ↓cP11_1, ↓cP11_2, ↓cP11_3, ↓cP11_4, ↓cP11_5, ↓cP11_6, ↓cP19_0, ↓cP19_1, ↓cP19_2, ↓cP19_3, ↓cP19_6, ↓cP37_0, ↓cP37_1, ↓cP37_2, ↓cP37_3, ↓cP42_0, ↓cP42_1, ↓cP42_2, ↓cP42_3, ↓cP42_4, ↓cP42_5, ↓cP42_8, ↓cP42_9, ↓cP51_0, ↓cP51_1, ↓cP51_2, ↓cP51_3, ↓cP103_0, ↓cP103_1, ↓cP103_2, ↓cP103_3, ↓cP103_4, ↓cP103_5, ↓cP103_6, ↓cP103_7, ↓cP103_8, ↓cIj, ↓cWj, ↓cZj, ↓cPj, ↓cQj, ↓cRj, ↓cAj, ↓bE_at, Int.toNat_natCast]
    · rw [if_neg c]
      simp (disch := (first | assumption | with_reducible rfl | (simp only [LayC_sI, LayC_sJ, LayC_sA, LayC_sB, LayC_sIr, LayC_exc, LayM_sI, LayM_sJ, LayM_sA, LayM_sB, LayM_sIr, LayM_exc, LayK_sI, LayK_sJ, LayK_sA, LayK_sB, LayK_sIr, LayK_exc]; assumption) | omega | decide | (simp (disch := (first | decide | omega)) only [gI_sJ, gI_sB, gI_sP, gI_exc, gI_sIe, aI_sJ, aI_sB, aI_sP, aI_exc, aI_sAe, aJ_sI, aJ_sA, aJ_sP, aJ_sIr, aJ_exc, aJ_sBe, gJ_sI, gJ_sA, gJ_sP, gJ_sIr, gJ_exc, gP_sI, gP_sJ, gP_sA, gP_sB, gP_sIr, gP_exc, gI_sIn, gI_sIk, gI_sAn, gI_sIrn, aI_sIn, aI_sAn, aI_sIrn, aI_sAk, aJ_sJn, aJ_sBn, gJ_sJn, gJ_sBn, gJ_sJe, gS_sI, gS_sJ, gS_sP, gS_sA, gS_sB, gS_sIr, gS_exc, w32i, w64i]; first | done | assumption | omega))) only [↓b_xbs, ↓b_xthr, ↓b_xthl, ↓b_xctr, ↓b_xctl, ↓b_xz, ↓b_xzX, ↓b_xd, ↓if_pos, ↓if_neg, ↓cI1, ↓cW1, ↓cZ1, ↓cR1, ↓cI2, ↓cW2, ↓cJ2, ↓cV2, ↓cR2, ↓cA3, ↓cS3, ↓cL3, ↓cA4, ↓cS4, ↓cL4, ↓cA5, ↓cS5, ↓cL5, ↓cA6, ↓cS6, ↓cL6, ↓cA7, ↓cS7, ↓cL7, ↓cA8, ↓cS8, ↓cL8, ↓cI9, ↓cW9, ↓cR9, ↓cI10, ↓cW10, ↓cJ10, ↓cV10, ↓cR10, ↓cI11, ↓cW11, ↓cR11, ↓cA12, ↓cS12, ↓cL12, ↓cA13, ↓cS13, ↓cL13, ↓cA14, ↓cS14, ↓cL14, ↓cA15, ↓cS15, ↓cL15, ↓cA16, ↓cS16, ↓cL16, ↓cA17, ↓cS17, ↓cL17, ↓cA18, ↓cS18, ↓cL18, ↓cI19, ↓cW19, ↓cZ19, ↓cR19, ↓cA21, ↓cS21, ↓cL21, ↓cA22, ↓cS22, ↓cL22, ↓cA23, ↓cS23, ↓cL23, ↓cI24, ↓cW24, ↓cZ24, ↓cR24, ↓cI37, ↓cW37, ↓cR37, ↓cA38, ↓cS38, ↓cL38, ↓cA39, ↓cS39, ↓cL39, ↓cA40, ↓cS40, ↓cL40, ↓cA41, ↓cS41, ↓cL41, ↓cI42, ↓cW42, ↓cR42, ↓cA43, ↓cS43, ↓cL43, ↓cA44, ↓cS44, ↓cL44, ↓cA45, ↓cS45, ↓cL45, ↓cA46, ↓cS46, ↓cL46, ↓cA47, ↓cS47, ↓cL47, ↓cA48, ↓cS48, ↓cL48, ↓cA49, ↓cS49, ↓cL49, ↓cA50, ↓cS50, ↓cL50, ↓cI51, ↓cW51, ↓cZ51, ↓cR51, ↓cA52, ↓cS52, ↓cL52, ↓cA53, ↓cS53, ↓cL53, ↓cA54, ↓cS54, ↓cL54, ↓cA55, ↓cS55, ↓cL55, ↓cI103, ↓cW103, ↓cR103, ↓cA104, ↓cS104, ↓cL104, ↓cA105, ↓cS105, ↓cL105, ↓cA106, ↓cS106, ↓cL106, ↓cA107, ↓cS107, ↓cL107, ↓cA108, ↓cS108, ↓cL108, ↓cA109, ↓cS109, ↓cL109, ↓cA110, ↓cS110, ↓cL110, ↓cA111, ↓cS111, ↓cL111, ↓cA112, ↓cS112, ↓cL112, ↓cP1_0, ↓cP1_2, ↓cP1_3, ↓cP1_5, ↓cP2_0, ↓cP2_2, ↓cP2_3, ↓cP2_4, ↓cP2_8, ↓cP2_10, ↓cP9_0, ↓cP9_1, ↓cP9_2, ↓cP9_3, ↓cP9_4, ↓cP9_5, ↓cP10_0, ↓cP11_0, ↓cP11_1, ↓cP11_2, ↓cP11_3, ↓cP11_4, ↓cP11_5, ↓cP11_6, ↓cP19_0, ↓cP19_1, ↓cP19_2, ↓cP19_3, ↓cP19_6, ↓cP37_0, ↓cP37_1, ↓cP37_2, ↓cP37_3, ↓cP42_0, ↓cP42_1, ↓cP42_2, ↓cP42_3, ↓cP42_4, ↓cP42_5, ↓cP42_8, ↓cP42_9, ↓cP51_0, ↓cP51_1, ↓cP51_2, ↓cP51_3, ↓cP103_0, ↓cP103_1, ↓cP103_2, ↓cP103_3, ↓cP103_4, ↓cP103_5, ↓cP103_6, ↓cP103_7, ↓cP103_8, ↓cIj, ↓cWj, ↓cZj, ↓cPj, ↓cQj, ↓cRj, ↓cAj, ↓bE_at, Int.toNat_natCast, f, e1]
      rw [hr]
theorem E_clM (L : LayM h) (g : 0 ≤ aI h 114 8 ∧ aI h 114 8 ≤ 12) : ∀ (m i k : Nat) (s : Int), m < k → ((i + m : Nat) : Int) = aI h 114 8 → X12_beside_L13 F k 113 s i h = some (clN (aI h 114) m i s, h) := by
  intro m
  induction m with
  | zero =>
    intro i k s hk hi
    obtain ⟨k, rfl⟩ : ∃ k', k = k' + 1 := ⟨k - 1, by omega⟩
    rw [X12_beside_L13_s]
    simp (disch := (first | assumption | with_reducible rfl | (simp only [LayC_sI, LayC_sJ, LayC_sA, LayC_sB, LayC_sIr, LayC_exc, LayM_sI, LayM_sJ, LayM_sA, LayM_sB, LayM_sIr, LayM_exc, LayK_sI, LayK_sJ, LayK_sA, LayK_sB, LayK_sIr, LayK_exc]; assumption) | omega | decide | (simp (disch := (first | decide | omega)) only [gI_sJ, gI_sB, gI_sP, gI_exc, gI_sIe, aI_sJ, aI_sB, aI_sP, aI_exc, aI_sAe, aJ_sI, aJ_sA, aJ_sP, aJ_sIr, aJ_exc, aJ_sBe, gJ_sI, gJ_sA, gJ_sP, gJ_sIr, gJ_exc, gP_sI, gP_sJ, gP_sA, gP_sB, gP_sIr, gP_exc, gI_sIn, gI_sIk, gI_sAn, gI_sIrn, aI_sIn, aI_sAn, aI_sIrn, aI_sAk, aJ_sJn, aJ_sBn, gJ_sJn, gJ_sBn, gJ_sJe, gS_sI, gS_sJ, gS_sP, gS_sA, gS_sB, gS_sIr, gS_exc, w32i, w64i]; first | done | assumption | omega))) only [↓b_xbs, ↓b_xthr, ↓b_xthl, ↓b_xctr, ↓b_xctl, ↓b_xz, ↓b_xzX, ↓b_xd, ↓if_pos, ↓if_neg, ↓mI113, ↓mW113, ↓mZ113, ↓mJ113, ↓mV113, ↓mR113, ↓mA114, ↓mS114, ↓mL114, ↓mA115, ↓mS115, ↓mL115, ↓mA116, ↓mS116, ↓mL116, ↓mA117, ↓mS117, ↓mL117, ↓mA118, ↓mS118, ↓mL118, ↓mA119, ↓mS119, ↓mL119, ↓mA120, ↓mS120, ↓mL120, ↓mA121, ↓mS121, ↓mL121, ↓mA122, ↓mS122, ↓mL122, ↓mA123, ↓mS123, ↓mL123, ↓mA124, ↓mS124, ↓mL124, ↓mA125, ↓mS125, ↓mL125, ↓mA126, ↓mS126, ↓mL126, ↓mP113_1, ↓mP113_2, ↓mP113_4, ↓mP113_11, ↓mP113_12, ↓mP113_16, ↓mP113_17, ↓mP113_18, ↓mP113_24, ↓mP113_25, ↓mP113_29, ↓mP113_30]; rfl
  | succ m ih =>
    intro i k s hk hi
    obtain ⟨k, rfl⟩ : ∃ k', k = k' + 1 := ⟨k - 1, by omega⟩
    have hr := ih (i + 1) k (w32 (s + aI h 114 (169 + 882 * i + 2))) (by omega) (by omega)
    have e1 : w32 ((i : Int) + 1) = ((i + 1 : Nat) : Int) := by rw [w32i _ (by omega) (by omega)]; omega
    rw [X12_beside_L13_s]
    show _ = some (if aI h 114 (169 + 882 * (i : Int) + 2) = 0 then -1 else clN (aI h 114) m (i + 1) (w32 (s + aI h 114 (169 + 882 * (i : Int) + 2))), h)
    by_cases c : aI h 114 (169 + 882 * (i : Int) + 2) = 0
    · rw [if_pos c]
      simp (disch := (first | assumption | with_reducible rfl | (simp only [LayC_sI, LayC_sJ, LayC_sA, LayC_sB, LayC_sIr, LayC_exc, LayM_sI, LayM_sJ, LayM_sA, LayM_sB, LayM_sIr, LayM_exc, LayK_sI, LayK_sJ, LayK_sA, LayK_sB, LayK_sIr, LayK_exc]; assumption) | omega | decide | (simp (disch := (first | decide | omega)) only [gI_sJ, gI_sB, gI_sP, gI_exc, gI_sIe, aI_sJ, aI_sB, aI_sP, aI_exc, aI_sAe, aJ_sI, aJ_sA, aJ_sP, aJ_sIr, aJ_exc, aJ_sBe, gJ_sI, gJ_sA, gJ_sP, gJ_sIr, gJ_exc, gP_sI, gP_sJ, gP_sA, gP_sB, gP_sIr, gP_exc, gI_sIn, gI_sIk, gI_sAn, gI_sIrn, aI_sIn, aI_sAn, aI_sIrn, aI_sAk, aJ_sJn, aJ_sBn, gJ_sJn, gJ_sBn, gJ_sJe, gS_sI, gS_sJ, gS_sP, gS_sA, gS_sB, gS_sIr, gS_exc, w32i, w64i]; first | done | assumption | omega))) only [↓b_xbs, ↓b_xthr, ↓b_xthl, ↓b_xctr, ↓b_xctl, ↓b_xz, ↓b_xzX, ↓b_xd, ↓if_pos, ↓if_neg, ↓mI113, ↓mW113, ↓mZ113, ↓mJ113, ↓mV113, ↓mR113, ↓mA114, ↓mS114, ↓mL114, ↓mA115, ↓mS115, ↓mL115, ↓mA116, ↓mS116, ↓mL116, ↓mA117, ↓mS117, ↓mL117, ↓mA118, ↓mS118, ↓mL118, ↓mA119, ↓mS119, ↓mL119, ↓mA120, ↓mS120, ↓mL120, ↓mA121, ↓mS121, ↓mL121, ↓mA122, ↓mS122, ↓mL122, ↓mA123, ↓mS123, ↓mL123, ↓mA124, ↓mS124, ↓mL124, ↓mA125, ↓mS125, ↓mL125, ↓mA126, ↓mS126, ↓mL126, ↓mP113_1, ↓mP113_2, ↓mP113_4, ↓mP113_11, ↓mP113_12, ↓mP113_16, ↓mP113_17, ↓mP113_18, ↓mP113_24, ↓mP113_25, ↓mP113_29, ↓mP113_30, ↓bE_its]
    · rw [if_neg c]
      simp (disch := (first | assumption | with_reducible rfl | (simp only [LayC_sI, LayC_sJ, LayC_sA, LayC_sB, LayC_sIr, LayC_exc, LayM_sI, LayM_sJ, LayM_sA, LayM_sB, LayM_sIr, LayM_exc, LayK_sI, LayK_sJ, LayK_sA, LayK_sB, LayK_sIr, LayK_exc]; assumption) | omega | decide | (simp (disch := (first | decide | omega)) only [gI_sJ, gI_sB, gI_sP, gI_exc, gI_sIe, aI_sJ, aI_sB, aI_sP, aI_exc, aI_sAe, aJ_sI, aJ_sA, aJ_sP, aJ_sIr, aJ_exc, aJ_sBe, gJ_sI, gJ_sA, gJ_sP, gJ_sIr, gJ_exc, gP_sI, gP_sJ, gP_sA, gP_sB, gP_sIr, gP_exc, gI_sIn, gI_sIk, gI_sAn, gI_sIrn, aI_sIn, aI_sAn, aI_sIrn, aI_sAk, aJ_sJn, aJ_sBn, gJ_sJn, gJ_sBn, gJ_sJe, gS_sI, gS_sJ, gS_sP, gS_sA, gS_sB, gS_sIr, gS_exc, w32i, w64i]; first | done | assumption | omega))) only [↓b_xbs, ↓b_xthr, ↓b_xthl, ↓b_xctr, ↓b_xctl, ↓b_xz, ↓b_xzX, ↓b_xd, ↓if_pos, ↓if_neg, ↓mI113, ↓mW113, ↓mZ113, ↓mJ113, ↓mV113, ↓mR113, ↓mA114, ↓mS114, ↓mL114, ↓mA115, ↓mS115, ↓mL115, ↓mA116, ↓mS116, ↓mL116, ↓mA117, ↓mS117, ↓mL117, ↓mA118, ↓mS118, ↓mL118, ↓mA119, ↓mS119, ↓mL119, ↓mA120, ↓mS120, ↓mL120, ↓mA121, ↓mS121, ↓mL121, ↓mA122, ↓mS122, ↓mL122, ↓mA123, ↓mS123, ↓mL123, ↓mA124, ↓mS124, ↓mL124, ↓mA125, ↓mS125, ↓mL125, ↓mA126, ↓mS126, ↓mL126, ↓mP113_1, ↓mP113_2, ↓mP113_4, ↓mP113_11, ↓mP113_12, ↓mP113_16, ↓mP113_17, ↓mP113_18, ↓mP113_24, ↓mP113_25, ↓mP113_29, ↓mP113_30, ↓bE_its, e1]
      rw [hr]
/-! two machines: when the jobs that j leans on (of m, from i on) are done, at the latest; D tells when a job is done -/
def ldN (W : Int → Int) (D : Int → Int) (j : Int) : Nat → Nat → Int → Int
  | 0, _, s => s
  | m + 1, i, s => ldN W D j m (i + 1) (if xand (xush (lns W j) i) 1 = 0 then s else max s (D i))
theorem ldN_max (W D : Int → Int) (j : Int) : ∀ (m i : Nat) (s t : Int), ldN W D j m i (max s t) = max s (ldN W D j m i t) := by
  intro m
  induction m with
  | zero => intro i s t; rfl
  | succ m ih =>
    intro i s t
    unfold ldN
    split
    · exact ih _ _ _
    · rw [Int.max_assoc, ih]
theorem ldN_cg (W D D' : Int → Int) (j : Int) : ∀ (m i : Nat) (s : Int), (∀ k : Nat, i ≤ k → k < i + m → xand (xush (lns W j) k) 1 ≠ 0 → D' k = D k) → ldN W D' j m i s = ldN W D j m i s := by
  intro m
  induction m with
  | zero => intro i s _; rfl
  | succ m ih =>
    intro i s hd
    unfold ldN
    by_cases c : xand (xush (lns W j) i) 1 = 0
    · rw [if_pos c, if_pos c]; exact ih _ _ (fun k a b => hd k (by omega) (by omega))
    · rw [if_neg c, if_neg c, hd i (Nat.le_refl i) (by omega) c]; exact ih _ _ (fun k a b => hd k (by omega) (by omega))
end BS
