section PS
variable {F : Nat} {W : Int → Int} {J : List Nat} {M C : Int}
theorem mstF_b {mo : Nat → Int} (h : ∀ p, 0 ≤ mo p ∧ mo p ≤ 1000) : ∀ r p : Nat, 0 ≤ mstF mo r p ∧ mstF mo r p ≤ r * 1000 := by
  intro r
  induction r with
  | zero => intro p; exact ⟨Int.le_refl _, by show (0 : Int) ≤ _; omega⟩
  | succ r ih =>
    intro p
    have := ih (p + 1)
    have := h p
    unfold mstF
    omega
/-- the best is found -/
theorem E_leaf {t : List Nat} {B : Bst} {h : HP} (n : NdC W J M C t h) (ht : t.length = J.length) (hl : J.length ≤ 7) (b : BsC J.length B h) (ca : Nat → Option Nat → Int → Int → HP → Option (Unit × HP)) (cs : Nat → Option Nat → Int → HP → Option (Unit × HP)) : ∃ h', X6_search_L57 F ca cs 103 t.length h = some ((), h') ∧ Fr t.length h h' ∧ BsC J.length (smF (wsP W J) 0 t, smF (msP W J) 0 t, smF (hsP W J) 0 t, t) h' := by
  obtain ⟨⟨L, n1, n2, n3⟩, n4, n5, ⟨n6, n7, n8, n9, n10⟩, n11, n12, n13⟩ := n
  clear n12 n13 n5 n4 n9 n10
  obtain ⟨w, hw⟩ : ∃ w, w = smF (wsP W J) 0 t := ⟨_, rfl⟩
  obtain ⟨m, hm⟩ : ∃ m, m = smF (msP W J) 0 t := ⟨_, rfl⟩
  obtain ⟨c, hc⟩ : ∃ c, c = smF (hsP W J) 0 t := ⟨_, rfl⟩
  rw [← hw] at n6 ⊢
  rw [← hm] at n7 ⊢
  rw [← hc] at n8 ⊢
  have p2 : t.length < 8 := by omega
  have m1 : aI (sI h 103 12 w) 108 t.length = m := by rw [aI_sIn _ _ _ _ _ (by decide)]; exact n7
  have c1 : aI (sI (sI h 103 12 w) 103 13 m) 109 t.length = c := by rw [aI_sIn _ _ _ _ _ (by decide), aI_sIn _ _ _ _ _ (by decide)]; exact n8
  have Lb : LayC (sI (sI (sI h 103 12 w) 103 13 m) 103 14 c) := L
  have st : ∀ f : HP → Option (Unit × HP), (xcp (sI (sI (sI h 103 12 w) 103 13 m) 103 14 c) (some 105) 0 (some 106) 0 7).bind f = f (cpA (sI (sI (sI h 103 12 w) 103 13 m) 103 14 c) 105 106 7) := fun f => b_cp _ 105 106 0 0 7 f 7 7 (by have := Lb; unfold LayC at this; simp only [this]) (by have := Lb; unfold LayC at this; simp only [this]) ⟨by decide, by decide, by decide, by decide, by decide, by decide⟩
  refine ⟨cpA (sI (sI (sI h 103 12 w) 103 13 m) 103 14 c) 105 106 7, ?_, ?_, ?_, ?_, ?_, fun _ => ⟨ht, fun i a e => ?_⟩⟩
  · unfold X6_search_L57
    simp (disch := (first | assumption | with_reducible rfl | (simp only [LayC_sI, LayC_sJ, LayC_sA, LayC_sB, LayC_sIr, LayC_exc, LayM_sI, LayM_sJ, LayM_sA, LayM_sB, LayM_sIr, LayM_exc, LayK_sI, LayK_sJ, LayK_sA, LayK_sB, LayK_sIr, LayK_exc]; assumption) | omega | decide | (simp (disch := (first | decide | omega)) only [gI_sJ, gI_sB, gI_sP, gI_exc, gI_sIe, aI_sJ, aI_sB, aI_sP, aI_exc, aI_sAe, aJ_sI, aJ_sA, aJ_sP, aJ_sIr, aJ_exc, aJ_sBe, gJ_sI, gJ_sA, gJ_sP, gJ_sIr, gJ_exc, gP_sI, gP_sJ, gP_sA, gP_sB, gP_sIr, gP_exc, gI_sIn, gI_sIk, gI_sAn, gI_sIrn, aI_sIn, aI_sAn, aI_sIrn, aI_sAk, aJ_sJn, aJ_sBn, gJ_sJn, gJ_sBn, gJ_sJe, gS_sI, gS_sJ, gS_sP, gS_sA, gS_sB, gS_sIr, gS_exc, w32i, w64i]; first | done | assumption | omega))) only [↓b_xbs, ↓b_xthr, ↓b_xthl, ↓b_xctr, ↓b_xctl, ↓b_xz, ↓b_xzX, ↓b_xd, ↓if_pos, ↓if_neg, ↓cI1, ↓cW1, ↓cZ1, ↓cR1, ↓cI2, ↓cW2, ↓cJ2, ↓cV2, ↓cR2, ↓cA3, ↓cS3, ↓cL3, ↓cA4, ↓cS4, ↓cL4, ↓cA5, ↓cS5, ↓cL5, ↓cA6, ↓cS6, ↓cL6, ↓cA7, ↓cS7, ↓cL7, ↓cA8, ↓cS8, ↓cL8, ↓cI9, ↓cW9, ↓cR9, ↓cI10, ↓cW10, ↓cJ10, ↓cV10, ↓cR10, ↓cI11, ↓cW11, ↓cR11, ↓cA12, ↓cS12, ↓cL12, ↓cA13, ↓cS13, ↓cL13, ↓cA14, ↓cS14, ↓cL14, ↓cA15, ↓cS15, ↓cL15, ↓cA16, ↓cS16, ↓cL16, ↓cA17, ↓cS17, ↓cL17, ↓cA18, ↓cS18, ↓cL18, ↓cI19, ↓cW19, ↓cZ19, ↓cR19, ↓cA21, ↓cS21, ↓cL21, ↓cA22, ↓cS22, ↓cL22, ↓cA23, ↓cS23, ↓cL23, ↓cI24, ↓cW24, ↓cZ24, ↓cR24, ↓cI37, ↓cW37, ↓cR37, ↓cA38, ↓cS38, ↓cL38, ↓cA39, ↓cS39, ↓cL39, ↓cA40, ↓cS40, ↓cL40, ↓cA41, ↓cS41, ↓cL41, ↓cI42, ↓cW42, ↓cR42, ↓cA43, ↓cS43, ↓cL43, ↓cA44, ↓cS44, ↓cL44, ↓cA45, ↓cS45, ↓cL45, ↓cA46, ↓cS46, ↓cL46, ↓cA47, ↓cS47, ↓cL47, ↓cA48, ↓cS48, ↓cL48, ↓cA49, ↓cS49, ↓cL49, ↓cA50, ↓cS50, ↓cL50, ↓cI51, ↓cW51, ↓cZ51, ↓cR51, ↓cA52, ↓cS52, ↓cL52, ↓cA53, ↓cS53, ↓cL53, ↓cA54, ↓cS54, ↓cL54, ↓cA55, ↓cS55, ↓cL55, ↓cI103, ↓cW103, ↓cR103, ↓cA104, ↓cS104, ↓cL104, ↓cA105, ↓cS105, ↓cL105, ↓cA106, ↓cS106, ↓cL106, ↓cA107, ↓cS107, ↓cL107, ↓cA108, ↓cS108, ↓cL108, ↓cA109, ↓cS109, ↓cL109, ↓cA110, ↓cS110, ↓cL110, ↓cA111, ↓cS111, ↓cL111, ↓cA112, ↓cS112, ↓cL112, ↓cP1_0, ↓cP1_2, ↓cP1_3, ↓cP1_5, ↓cP2_0, ↓cP2_2, ↓cP2_3, ↓cP2_4, ↓cP2_8, ↓cP2_10, ↓cP9_0, ↓cP9_1, ↓cP9_2, ↓cP9_3, ↓cP9_4, ↓cP9_5, ↓cP10_0, ↓cP11_0, ↓cP11_1, ↓cP11_2, ↓cP11_3, ↓cP11_4, ↓cP11_5, ↓cP11_6, ↓cP19_0, ↓cP19_1, ↓cP19_2, ↓cP19_3, ↓cP19_6, ↓cP37_0, ↓cP37_1, ↓cP37_2, ↓cP37_3, ↓cP42_0, ↓cP42_1, ↓cP42_2, ↓cP42_3, ↓cP42_4, ↓cP42_5, ↓cP42_8, ↓cP42_9, ↓cP51_0, ↓cP51_1, ↓cP51_2, ↓cP51_3, ↓cP103_0, ↓cP103_1, ↓cP103_2, ↓cP103_3, ↓cP103_4, ↓cP103_5, ↓cP103_6, ↓cP103_7, ↓cP103_8, ↓cIj, ↓cWj, ↓cZj, ↓cPj, ↓cQj, ↓cRj, ↓cAj, n6, m1, c1, st]
  · have G : ∀ a, a ≠ 103 → a ≠ 106 → gI (cpA (sI (sI (sI h 103 12 w) 103 13 m) 103 14 c) 105 106 7) a = gI h a := fun a h1 h2 => by
      unfold cpA; rw [gI_sIrn _ _ _ _ h2, gI_sIn _ _ _ _ _ h1, gI_sIn _ _ _ _ _ h1, gI_sIn _ _ _ _ _ h1]
    refine ⟨fun a q => G a (by omega) (by omega), fun k hk => ?_, G 104 (by decide) (by decide), G 112 (by decide) (by decide), fun k _ => by rw [G 105 (by decide) (by decide)], fun a k h1 h2 _ => by rw [G a (by omega) (by omega)], rfl, rfl, rfl, rfl, rfl, rfl⟩
    unfold cpA
    rw [gI_sIrn _ _ _ _ (by decide), gI_sIk _ _ _ _ _ (by omega), gI_sIk _ _ _ _ _ (by omega), gI_sIk _ _ _ _ _ (by omega)]
  · unfold cpA; rw [gI_sIrn _ _ _ _ (by decide), gI_sIk _ _ _ _ _ (by decide), gI_sIk _ _ _ _ _ (by decide), gI_sIe]
  · unfold cpA; rw [gI_sIrn _ _ _ _ (by decide), gI_sIk _ _ _ _ _ (by decide), gI_sIe]
  · unfold cpA; rw [gI_sIrn _ _ _ _ (by decide), gI_sIe]
  · have hi : i < t.length := (List.getElem?_eq_some_iff.mp e).1
    unfold cpA
    rw [aI_sIre]
    show (if _ then _ else _) = _
    rw [if_pos (by simp; omega)]
    have := n11 i a e
    show gI _ 105 _ = _
    rw [gI_sIn _ _ _ _ _ (by decide), gI_sIn _ _ _ _ _ (by decide), gI_sIn _ _ _ _ _ (by decide)]
    rw [show (0 : Int).toNat + ((i : Int).toNat - (0 : Int).toNat) = (i : Int).toNat by omega]
    exact this
theorem E_se (g : JgW W) (hJ : ∀ j ∈ J, (j : Int) < W 8) (hl : J.length ≤ 7) (hF : 10 ≤ F) : ∀ (r : Nat) (t : List Nat) (B : Bst) (h : HP) (n : Nat), t.length + r = J.length → 2 * r + 1 ≤ n → NdC W J M C t h → BsC J.length B h → ∃ h', (G_attempt_search F n).2 103 (some 19) t.length h = some ((), h') ∧ Fr t.length h h' ∧ BsC J.length (srB (wsP W J) (msP W J) (hsP W J) (haP W J) (blP W J) (moP W J) M C r t B) h' := by
  intro r
  induction r with
  | zero =>
    intro t B h n ht hn nd b
    obtain ⟨n, rfl⟩ : ∃ n', n = n' + 1 := ⟨n - 1, by omega⟩
    have nd0 := nd
    obtain ⟨⟨L, n1, n2, n3⟩, n4, n5, ⟨n6, n7, n8, n9, n10⟩, n11, n12, n13⟩ := nd
    have mo0 := n5 t.length (by omega)
    rw [show J.length - t.length = 0 by omega] at mo0
    change aI h 112 t.length = 0 at mo0
    have bw := smF_b (wsP W J) 1000 (wsP_nn g hJ) t 0
    have ew : w32 (smF (wsP W J) 0 t + 0) = smF (wsP W J) 0 t + 0 := w32i _ (by omega) (by omega)
    have eb := E_better (F := F) L b (smF (wsP W J) 0 t + 0) (smF (msP W J) 0 t) (smF (hsP W J) 0 t)
    show ∃ h', X6_search F (G_attempt_search F n).1 (G_attempt_search F n).2 103 (some 19) t.length h = some ((), h') ∧ Fr t.length h h' ∧ BsC J.length (if btr (smF (wsP W J) 0 t + 0) (smF (msP W J) 0 t) (smF (hsP W J) 0 t) B then (smF (wsP W J) 0 t, smF (msP W J) 0 t, smF (hsP W J) 0 t, t) else B) h'
    clear n12 n13 n4 n5 n9 n10 n11
    have p2 : t.length < 8 := by omega
    by_cases c : btr (smF (wsP W J) 0 t + 0) (smF (msP W J) 0 t) (smF (hsP W J) 0 t) B
    · rw [if_pos c] at eb ⊢
      obtain ⟨h', x, y, z⟩ := E_leaf (F := F) nd0 (by omega) hl b (G_attempt_search F n).1 (G_attempt_search F n).2
      refine ⟨h', ?_, y, z⟩
      rw [← x]
      clear bw nd0 y z x hJ g
      unfold X6_search
      simp (disch := (first | assumption | with_reducible rfl | (simp only [LayC_sI, LayC_sJ, LayC_sA, LayC_sB, LayC_sIr, LayC_exc, LayM_sI, LayM_sJ, LayM_sA, LayM_sB, LayM_sIr, LayM_exc, LayK_sI, LayK_sJ, LayK_sA, LayK_sB, LayK_sIr, LayK_exc]; assumption) | omega | decide | (simp (disch := (first | decide | omega)) only [gI_sJ, gI_sB, gI_sP, gI_exc, gI_sIe, aI_sJ, aI_sB, aI_sP, aI_exc, aI_sAe, aJ_sI, aJ_sA, aJ_sP, aJ_sIr, aJ_exc, aJ_sBe, gJ_sI, gJ_sA, gJ_sP, gJ_sIr, gJ_exc, gP_sI, gP_sJ, gP_sA, gP_sB, gP_sIr, gP_exc, gI_sIn, gI_sIk, gI_sAn, gI_sIrn, aI_sIn, aI_sAn, aI_sIrn, aI_sAk, aJ_sJn, aJ_sBn, gJ_sJn, gJ_sBn, gJ_sJe, gS_sI, gS_sJ, gS_sP, gS_sA, gS_sB, gS_sIr, gS_exc, w32i, w64i]; first | done | assumption | omega))) only [↓b_xbs, ↓b_xthr, ↓b_xthl, ↓b_xctr, ↓b_xctl, ↓b_xz, ↓b_xzX, ↓b_xd, ↓if_pos, ↓if_neg, ↓cI1, ↓cW1, ↓cZ1, ↓cR1, ↓cI2, ↓cW2, ↓cJ2, ↓cV2, ↓cR2, ↓cA3, ↓cS3, ↓cL3, ↓cA4, ↓cS4, ↓cL4, ↓cA5, ↓cS5, ↓cL5, ↓cA6, ↓cS6, ↓cL6, ↓cA7, ↓cS7, ↓cL7, ↓cA8, ↓cS8, ↓cL8, ↓cI9, ↓cW9, ↓cR9, ↓cI10, ↓cW10, ↓cJ10, ↓cV10, ↓cR10, ↓cI11, ↓cW11, ↓cR11, ↓cA12, ↓cS12, ↓cL12, ↓cA13, ↓cS13, ↓cL13, ↓cA14, ↓cS14, ↓cL14, ↓cA15, ↓cS15, ↓cL15, ↓cA16, ↓cS16, ↓cL16, ↓cA17, ↓cS17, ↓cL17, ↓cA18, ↓cS18, ↓cL18, ↓cI19, ↓cW19, ↓cZ19, ↓cR19, ↓cA21, ↓cS21, ↓cL21, ↓cA22, ↓cS22, ↓cL22, ↓cA23, ↓cS23, ↓cL23, ↓cI24, ↓cW24, ↓cZ24, ↓cR24, ↓cI37, ↓cW37, ↓cR37, ↓cA38, ↓cS38, ↓cL38, ↓cA39, ↓cS39, ↓cL39, ↓cA40, ↓cS40, ↓cL40, ↓cA41, ↓cS41, ↓cL41, ↓cI42, ↓cW42, ↓cR42, ↓cA43, ↓cS43, ↓cL43, ↓cA44, ↓cS44, ↓cL44, ↓cA45, ↓cS45, ↓cL45, ↓cA46, ↓cS46, ↓cL46, ↓cA47, ↓cS47, ↓cL47, ↓cA48, ↓cS48, ↓cL48, ↓cA49, ↓cS49, ↓cL49, ↓cA50, ↓cS50, ↓cL50, ↓cI51, ↓cW51, ↓cZ51, ↓cR51, ↓cA52, ↓cS52, ↓cL52, ↓cA53, ↓cS53, ↓cL53, ↓cA54, ↓cS54, ↓cL54, ↓cA55, ↓cS55, ↓cL55, ↓cI103, ↓cW103, ↓cR103, ↓cA104, ↓cS104, ↓cL104, ↓cA105, ↓cS105, ↓cL105, ↓cA106, ↓cS106, ↓cL106, ↓cA107, ↓cS107, ↓cL107, ↓cA108, ↓cS108, ↓cL108, ↓cA109, ↓cS109, ↓cL109, ↓cA110, ↓cS110, ↓cL110, ↓cA111, ↓cS111, ↓cL111, ↓cA112, ↓cS112, ↓cL112, ↓cP1_0, ↓cP1_2, ↓cP1_3, ↓cP1_5, ↓cP2_0, ↓cP2_2, ↓cP2_3, ↓cP2_4, ↓cP2_8, ↓cP2_10, ↓cP9_0, ↓cP9_1, ↓cP9_2, ↓cP9_3, ↓cP9_4, ↓cP9_5, ↓cP10_0, ↓cP11_0, ↓cP11_1, ↓cP11_2, ↓cP11_3, ↓cP11_4, ↓cP11_5, ↓cP11_6, ↓cP19_0, ↓cP19_1, ↓cP19_2, ↓cP19_3, ↓cP19_6, ↓cP37_0, ↓cP37_1, ↓cP37_2, ↓cP37_3, ↓cP42_0, ↓cP42_1, ↓cP42_2, ↓cP42_3, ↓cP42_4, ↓cP42_5, ↓cP42_8, ↓cP42_9, ↓cP51_0, ↓cP51_1, ↓cP51_2, ↓cP51_3, ↓cP103_0, ↓cP103_1, ↓cP103_2, ↓cP103_3, ↓cP103_4, ↓cP103_5, ↓cP103_6, ↓cP103_7, ↓cP103_8, ↓cIj, ↓cWj, ↓cZj, ↓cPj, ↓cQj, ↓cRj, ↓cAj, n6, n7, n8, mo0, ew, ↓b_xb _ _ _ _ eb, n1]
    · rw [if_neg c] at eb ⊢
      refine ⟨h, ?_, Fr.rf _ _, b⟩
      clear bw nd0 hJ g
      unfold X6_search
      simp (disch := (first | assumption | with_reducible rfl | (simp only [LayC_sI, LayC_sJ, LayC_sA, LayC_sB, LayC_sIr, LayC_exc, LayM_sI, LayM_sJ, LayM_sA, LayM_sB, LayM_sIr, LayM_exc, LayK_sI, LayK_sJ, LayK_sA, LayK_sB, LayK_sIr, LayK_exc]; assumption) | omega | decide | (simp (disch := (first | decide | omega)) only [gI_sJ, gI_sB, gI_sP, gI_exc, gI_sIe, aI_sJ, aI_sB, aI_sP, aI_exc, aI_sAe, aJ_sI, aJ_sA, aJ_sP, aJ_sIr, aJ_exc, aJ_sBe, gJ_sI, gJ_sA, gJ_sP, gJ_sIr, gJ_exc, gP_sI, gP_sJ, gP_sA, gP_sB, gP_sIr, gP_exc, gI_sIn, gI_sIk, gI_sAn, gI_sIrn, aI_sIn, aI_sAn, aI_sIrn, aI_sAk, aJ_sJn, aJ_sBn, gJ_sJn, gJ_sBn, gJ_sJe, gS_sI, gS_sJ, gS_sP, gS_sA, gS_sB, gS_sIr, gS_exc, w32i, w64i]; first | done | assumption | omega))) only [↓b_xbs, ↓b_xthr, ↓b_xthl, ↓b_xctr, ↓b_xctl, ↓b_xz, ↓b_xzX, ↓b_xd, ↓if_pos, ↓if_neg, ↓cI1, ↓cW1, ↓cZ1, ↓cR1, ↓cI2, ↓cW2, ↓cJ2, ↓cV2, ↓cR2, ↓cA3, ↓cS3, ↓cL3, ↓cA4, ↓cS4, ↓cL4, ↓cA5, ↓cS5, ↓cL5, ↓cA6, ↓cS6, ↓cL6, ↓cA7, ↓cS7, ↓cL7, ↓cA8, ↓cS8, ↓cL8, ↓cI9, ↓cW9, ↓cR9, ↓cI10, ↓cW10, ↓cJ10, ↓cV10, ↓cR10, ↓cI11, ↓cW11, ↓cR11, ↓cA12, ↓cS12, ↓cL12, ↓cA13, ↓cS13, ↓cL13, ↓cA14, ↓cS14, ↓cL14, ↓cA15, ↓cS15, ↓cL15, ↓cA16, ↓cS16, ↓cL16, ↓cA17, ↓cS17, ↓cL17, ↓cA18, ↓cS18, ↓cL18, ↓cI19, ↓cW19, ↓cZ19, ↓cR19, ↓cA21, ↓cS21, ↓cL21, ↓cA22, ↓cS22, ↓cL22, ↓cA23, ↓cS23, ↓cL23, ↓cI24, ↓cW24, ↓cZ24, ↓cR24, ↓cI37, ↓cW37, ↓cR37, ↓cA38, ↓cS38, ↓cL38, ↓cA39, ↓cS39, ↓cL39, ↓cA40, ↓cS40, ↓cL40, ↓cA41, ↓cS41, ↓cL41, ↓cI42, ↓cW42, ↓cR42, ↓cA43, ↓cS43, ↓cL43, ↓cA44, ↓cS44, ↓cL44, ↓cA45, ↓cS45, ↓cL45, ↓cA46, ↓cS46, ↓cL46, ↓cA47, ↓cS47, ↓cL47, ↓cA48, ↓cS48, ↓cL48, ↓cA49, ↓cS49, ↓cL49, ↓cA50, ↓cS50, ↓cL50, ↓cI51, ↓cW51, ↓cZ51, ↓cR51, ↓cA52, ↓cS52, ↓cL52, ↓cA53, ↓cS53, ↓cL53, ↓cA54, ↓cS54, ↓cL54, ↓cA55, ↓cS55, ↓cL55, ↓cI103, ↓cW103, ↓cR103, ↓cA104, ↓cS104, ↓cL104, ↓cA105, ↓cS105, ↓cL105, ↓cA106, ↓cS106, ↓cL106, ↓cA107, ↓cS107, ↓cL107, ↓cA108, ↓cS108, ↓cL108, ↓cA109, ↓cS109, ↓cL109, ↓cA110, ↓cS110, ↓cL110, ↓cA111, ↓cS111, ↓cL111, ↓cA112, ↓cS112, ↓cL112, ↓cP1_0, ↓cP1_2, ↓cP1_3, ↓cP1_5, ↓cP2_0, ↓cP2_2, ↓cP2_3, ↓cP2_4, ↓cP2_8, ↓cP2_10, ↓cP9_0, ↓cP9_1, ↓cP9_2, ↓cP9_3, ↓cP9_4, ↓cP9_5, ↓cP10_0, ↓cP11_0, ↓cP11_1, ↓cP11_2, ↓cP11_3, ↓cP11_4, ↓cP11_5, ↓cP11_6, ↓cP19_0, ↓cP19_1, ↓cP19_2, ↓cP19_3, ↓cP19_6, ↓cP37_0, ↓cP37_1, ↓cP37_2, ↓cP37_3, ↓cP42_0, ↓cP42_1, ↓cP42_2, ↓cP42_3, ↓cP42_4, ↓cP42_5, ↓cP42_8, ↓cP42_9, ↓cP51_0, ↓cP51_1, ↓cP51_2, ↓cP51_3, ↓cP103_0, ↓cP103_1, ↓cP103_2, ↓cP103_3, ↓cP103_4, ↓cP103_5, ↓cP103_6, ↓cP103_7, ↓cP103_8, ↓cIj, ↓cWj, ↓cZj, ↓cPj, ↓cQj, ↓cRj, ↓cAj, n6, n7, n8, mo0, ew, ↓b_xb _ _ _ _ eb]
  | succ r ih =>
    intro t B h n ht hn nd b
    obtain ⟨n, rfl⟩ : ∃ n', n = n' + 2 := ⟨n - 2, by omega⟩
    have hp : t.length < J.length := by omega
    obtain ⟨j, ej⟩ : ∃ j, J[t.length]? = some j := ⟨_, List.getElem?_eq_getElem hp⟩
    -- one way after another
    have one : ∀ (o : Nat) (B : Bst) (h : HP), o < 4 → NdC W J M C t h → BsC J.length B h → ∃ h', (G_attempt_search F (n + 1)).1 103 (some 19) t.length o h = some ((), h') ∧ Fr t.length h h' ∧ BsC J.length (cif (mayB (haP W J) (blP W J) t o ∧ smF (msP W J) 0 (t ++ [o]) ≤ M ∧ smF (hsP W J) 0 (t ++ [o]) ≤ C) (srB (wsP W J) (msP W J) (hsP W J) (haP W J) (blP W J) (moP W J) M C r (t ++ [o]) B) B) h' := by
      intro o B h ho nd b
      have len : (t ++ [o]).length = t.length + 1 := by rw [List.length_append, List.length_singleton]
      show ∃ h', X6_attempt F (G_attempt_search F n).1 (G_attempt_search F n).2 103 (some 19) t.length o h = some ((), h') ∧ _
      by_cases may : mayB (haP W J) (blP W J) t o
      · obtain ⟨h5, x1, x2, x3, x4⟩ := E_node (F := F) g hJ hl nd j o ej ho may (G_attempt_search F n).1 (G_attempt_search F n).2
        rw [x1]
        by_cases cM : M < smF (msP W J) 0 (t ++ [o])
        · rw [if_pos cM, cif_neg (fun q => by have := q.2.1; omega)]
          exact ⟨h5, rfl, x2, x3 _ _ b⟩
        · rw [if_neg cM]
          by_cases cC : C < smF (hsP W J) 0 (t ++ [o])
          · rw [if_pos cC, cif_neg (fun q => by have := q.2.2; omega)]
            exact ⟨h5, rfl, x2, x3 _ _ b⟩
          · rw [if_neg cC, cif_pos ⟨may, by omega, by omega⟩]
            obtain ⟨h6, y1, y2, y3⟩ := ih (t ++ [o]) B _ n (by rw [len]; omega) (by omega) x4 ((x3 _ _ b).A 105 _ _ (by decide))
            rw [len] at y1 y2
            refine ⟨h6, ?_, (x2.tr (Fr.A t.length h5 105 _ _ (by omega))).tr (y2.mono (by omega)), y3⟩
            rw [b_xb _ _ _ _ y1]
      · rw [cif_neg (fun q => may q.1)]
        have mh := (E_mayHave (F := F) g hJ hl nd j o ej ho).2 may
        refine ⟨h, ?_, Fr.rf _ _, b⟩
        have L := nd.1.1
        have p2 : t.length < 7 := by omega
        clear nd b may ih hJ g
        unfold X6_attempt
        simp (disch := (first | assumption | with_reducible rfl | (simp only [LayC_sI, LayC_sJ, LayC_sA, LayC_sB, LayC_sIr, LayC_exc, LayM_sI, LayM_sJ, LayM_sA, LayM_sB, LayM_sIr, LayM_exc, LayK_sI, LayK_sJ, LayK_sA, LayK_sB, LayK_sIr, LayK_exc]; assumption) | omega | decide | (simp (disch := (first | decide | omega)) only [gI_sJ, gI_sB, gI_sP, gI_exc, gI_sIe, aI_sJ, aI_sB, aI_sP, aI_exc, aI_sAe, aJ_sI, aJ_sA, aJ_sP, aJ_sIr, aJ_exc, aJ_sBe, gJ_sI, gJ_sA, gJ_sP, gJ_sIr, gJ_exc, gP_sI, gP_sJ, gP_sA, gP_sB, gP_sIr, gP_exc, gI_sIn, gI_sIk, gI_sAn, gI_sIrn, aI_sIn, aI_sAn, aI_sIrn, aI_sAk, aJ_sJn, aJ_sBn, gJ_sJn, gJ_sBn, gJ_sJe, gS_sI, gS_sJ, gS_sP, gS_sA, gS_sB, gS_sIr, gS_exc, w32i, w64i]; first | done | assumption | omega))) only [↓b_xbs, ↓b_xthr, ↓b_xthl, ↓b_xctr, ↓b_xctl, ↓b_xz, ↓b_xzX, ↓b_xd, ↓if_pos, ↓if_neg, ↓cI1, ↓cW1, ↓cZ1, ↓cR1, ↓cI2, ↓cW2, ↓cJ2, ↓cV2, ↓cR2, ↓cA3, ↓cS3, ↓cL3, ↓cA4, ↓cS4, ↓cL4, ↓cA5, ↓cS5, ↓cL5, ↓cA6, ↓cS6, ↓cL6, ↓cA7, ↓cS7, ↓cL7, ↓cA8, ↓cS8, ↓cL8, ↓cI9, ↓cW9, ↓cR9, ↓cI10, ↓cW10, ↓cJ10, ↓cV10, ↓cR10, ↓cI11, ↓cW11, ↓cR11, ↓cA12, ↓cS12, ↓cL12, ↓cA13, ↓cS13, ↓cL13, ↓cA14, ↓cS14, ↓cL14, ↓cA15, ↓cS15, ↓cL15, ↓cA16, ↓cS16, ↓cL16, ↓cA17, ↓cS17, ↓cL17, ↓cA18, ↓cS18, ↓cL18, ↓cI19, ↓cW19, ↓cZ19, ↓cR19, ↓cA21, ↓cS21, ↓cL21, ↓cA22, ↓cS22, ↓cL22, ↓cA23, ↓cS23, ↓cL23, ↓cI24, ↓cW24, ↓cZ24, ↓cR24, ↓cI37, ↓cW37, ↓cR37, ↓cA38, ↓cS38, ↓cL38, ↓cA39, ↓cS39, ↓cL39, ↓cA40, ↓cS40, ↓cL40, ↓cA41, ↓cS41, ↓cL41, ↓cI42, ↓cW42, ↓cR42, ↓cA43, ↓cS43, ↓cL43, ↓cA44, ↓cS44, ↓cL44, ↓cA45, ↓cS45, ↓cL45, ↓cA46, ↓cS46, ↓cL46, ↓cA47, ↓cS47, ↓cL47, ↓cA48, ↓cS48, ↓cL48, ↓cA49, ↓cS49, ↓cL49, ↓cA50, ↓cS50, ↓cL50, ↓cI51, ↓cW51, ↓cZ51, ↓cR51, ↓cA52, ↓cS52, ↓cL52, ↓cA53, ↓cS53, ↓cL53, ↓cA54, ↓cS54, ↓cL54, ↓cA55, ↓cS55, ↓cL55, ↓cI103, ↓cW103, ↓cR103, ↓cA104, ↓cS104, ↓cL104, ↓cA105, ↓cS105, ↓cL105, ↓cA106, ↓cS106, ↓cL106, ↓cA107, ↓cS107, ↓cL107, ↓cA108, ↓cS108, ↓cL108, ↓cA109, ↓cS109, ↓cL109, ↓cA110, ↓cS110, ↓cL110, ↓cA111, ↓cS111, ↓cL111, ↓cA112, ↓cS112, ↓cL112, ↓cP1_0, ↓cP1_2, ↓cP1_3, ↓cP1_5, ↓cP2_0, ↓cP2_2, ↓cP2_3, ↓cP2_4, ↓cP2_8, ↓cP2_10, ↓cP9_0, ↓cP9_1, ↓cP9_2, ↓cP9_3, ↓cP9_4, ↓cP9_5, ↓cP10_0, ↓cP11_0, ↓cP11_1, ↓cP11_2, ↓cP11_3, ↓cP11_4, ↓cP11_5, ↓cP11_6, ↓cP19_0, ↓cP19_1, ↓cP19_2, ↓cP19_3, ↓cP19_6, ↓cP37_0, ↓cP37_1, ↓cP37_2, ↓cP37_3, ↓cP42_0, ↓cP42_1, ↓cP42_2, ↓cP42_3, ↓cP42_4, ↓cP42_5, ↓cP42_8, ↓cP42_9, ↓cP51_0, ↓cP51_1, ↓cP51_2, ↓cP51_3, ↓cP103_0, ↓cP103_1, ↓cP103_2, ↓cP103_3, ↓cP103_4, ↓cP103_5, ↓cP103_6, ↓cP103_7, ↓cP103_8, ↓cIj, ↓cWj, ↓cZj, ↓cPj, ↓cQj, ↓cRj, ↓cAj, ↓b_xb _ _ _ _ mh]
    have nd0 := nd
    obtain ⟨⟨L, n1, n2, n3⟩, n4, n5, ⟨n6, n7, n8, n9, n10⟩, n11, n12, n13⟩ := nd
    have mo0 := n5 t.length (by omega)
    rw [show J.length - t.length = r + 1 by omega] at mo0
    have bw := smF_b (wsP W J) 1000 (wsP_nn g hJ) t 0
    have bm := mstF_b (moP_b g hJ) (r + 1) t.length
    have ew : w32 (smF (wsP W J) 0 t + mstF (moP W J) (r + 1) t.length) = smF (wsP W J) 0 t + mstF (moP W J) (r + 1) t.length := w32i _ (by omega) (by omega)
    have eb := E_better (F := F) L b (smF (wsP W J) 0 t + mstF (moP W J) (r + 1) t.length) (smF (msP W J) 0 t) (smF (hsP W J) 0 t)
    show ∃ h', X6_search F (G_attempt_search F (n + 1)).1 (G_attempt_search F (n + 1)).2 103 (some 19) t.length h = some ((), h') ∧ _
    clear n12 n13 n4 n5 n9 n10 n11 bw bm
    have p2 : t.length < 7 := by omega
    unfold srB
    by_cases c : btr (smF (wsP W J) 0 t + mstF (moP W J) (r + 1) t.length) (smF (msP W J) 0 t) (smF (hsP W J) 0 t) B
    · rw [if_pos c] at eb ⊢
      obtain ⟨h0, a0, f0, b0⟩ := one 0 B h (by decide) nd0 b
      have nd1 := nd0.fr f0 g.1.2
      obtain ⟨h1, a1, f1, b1⟩ := one 1 _ h0 (by decide) nd1 b0
      have nd2 := nd1.fr f1 g.1.2
      obtain ⟨h2, a2, f2, b2⟩ := one 2 _ h1 (by decide) nd2 b1
      have nd3 := nd2.fr f2 g.1.2
      obtain ⟨h3, a3, f3, b3⟩ := one 3 _ h2 (by decide) nd3 b2
      refine ⟨h3, ?_, ((f0.tr f1).tr f2).tr f3, b3⟩
      have L0 := nd1.1.1
      have L1 := nd2.1.1
      have L2 := nd3.1.1
      have a0' : (G_attempt_search F (n + 1)).1 103 (some 19) t.length 0 h = some ((), h0) := a0
      have key : ∀ k, X6_search_L105 F (G_attempt_search F (n + 1)).1 (G_attempt_search F (n + 1)).2 (k + 5) 103 (some 19) t.length 0 h = some ((), h3) := by
        intro k
        rw [X6_search_L105_s, if_neg (by decide), cR103 h _ L, b_xb _ _ _ _ a0', show w32 (0 + 1) = ((1 : Nat) : Int) from rfl, X6_search_L105_s, if_neg (by decide), cR103 h0 _ L0, b_xb _ _ _ _ a1, show w32 (((1 : Nat) : Int) + 1) = ((2 : Nat) : Int) from rfl, X6_search_L105_s, if_neg (by decide), cR103 h1 _ L1, b_xb _ _ _ _ a2, show w32 (((2 : Nat) : Int) + 1) = ((3 : Nat) : Int) from rfl, X6_search_L105_s, if_neg (by decide), cR103 h2 _ L2, b_xb _ _ _ _ a3, show w32 (((3 : Nat) : Int) + 1) = ((4 : Nat) : Int) from rfl, X6_search_L105_s, if_pos (by decide)]
      have k1 := key (F - 5)
      rw [show F - 5 + 5 = F by omega] at k1
      rw [← k1]
      clear k1 key a0' a0 a1 a2 a3 f0 f1 f2 f3 b0 b1 b2 b3 nd1 nd2 nd3 nd0 one ih hJ g b
      unfold X6_search
      simp (disch := (first | assumption | with_reducible rfl | (simp only [LayC_sI, LayC_sJ, LayC_sA, LayC_sB, LayC_sIr, LayC_exc, LayM_sI, LayM_sJ, LayM_sA, LayM_sB, LayM_sIr, LayM_exc, LayK_sI, LayK_sJ, LayK_sA, LayK_sB, LayK_sIr, LayK_exc]; assumption) | omega | decide | (simp (disch := (first | decide | omega)) only [gI_sJ, gI_sB, gI_sP, gI_exc, gI_sIe, aI_sJ, aI_sB, aI_sP, aI_exc, aI_sAe, aJ_sI, aJ_sA, aJ_sP, aJ_sIr, aJ_exc, aJ_sBe, gJ_sI, gJ_sA, gJ_sP, gJ_sIr, gJ_exc, gP_sI, gP_sJ, gP_sA, gP_sB, gP_sIr, gP_exc, gI_sIn, gI_sIk, gI_sAn, gI_sIrn, aI_sIn, aI_sAn, aI_sIrn, aI_sAk, aJ_sJn, aJ_sBn, gJ_sJn, gJ_sBn, gJ_sJe, gS_sI, gS_sJ, gS_sP, gS_sA, gS_sB, gS_sIr, gS_exc, w32i, w64i]; first | done | assumption | omega))) only [↓b_xbs, ↓b_xthr, ↓b_xthl, ↓b_xctr, ↓b_xctl, ↓b_xz, ↓b_xzX, ↓b_xd, ↓if_pos, ↓if_neg, ↓cI1, ↓cW1, ↓cZ1, ↓cR1, ↓cI2, ↓cW2, ↓cJ2, ↓cV2, ↓cR2, ↓cA3, ↓cS3, ↓cL3, ↓cA4, ↓cS4, ↓cL4, ↓cA5, ↓cS5, ↓cL5, ↓cA6, ↓cS6, ↓cL6, ↓cA7, ↓cS7, ↓cL7, ↓cA8, ↓cS8, ↓cL8, ↓cI9, ↓cW9, ↓cR9, ↓cI10, ↓cW10, ↓cJ10, ↓cV10, ↓cR10, ↓cI11, ↓cW11, ↓cR11, ↓cA12, ↓cS12, ↓cL12, ↓cA13, ↓cS13, ↓cL13, ↓cA14, ↓cS14, ↓cL14, ↓cA15, ↓cS15, ↓cL15, ↓cA16, ↓cS16, ↓cL16, ↓cA17, ↓cS17, ↓cL17, ↓cA18, ↓cS18, ↓cL18, ↓cI19, ↓cW19, ↓cZ19, ↓cR19, ↓cA21, ↓cS21, ↓cL21, ↓cA22, ↓cS22, ↓cL22, ↓cA23, ↓cS23, ↓cL23, ↓cI24, ↓cW24, ↓cZ24, ↓cR24, ↓cI37, ↓cW37, ↓cR37, ↓cA38, ↓cS38, ↓cL38, ↓cA39, ↓cS39, ↓cL39, ↓cA40, ↓cS40, ↓cL40, ↓cA41, ↓cS41, ↓cL41, ↓cI42, ↓cW42, ↓cR42, ↓cA43, ↓cS43, ↓cL43, ↓cA44, ↓cS44, ↓cL44, ↓cA45, ↓cS45, ↓cL45, ↓cA46, ↓cS46, ↓cL46, ↓cA47, ↓cS47, ↓cL47, ↓cA48, ↓cS48, ↓cL48, ↓cA49, ↓cS49, ↓cL49, ↓cA50, ↓cS50, ↓cL50, ↓cI51, ↓cW51, ↓cZ51, ↓cR51, ↓cA52, ↓cS52, ↓cL52, ↓cA53, ↓cS53, ↓cL53, ↓cA54, ↓cS54, ↓cL54, ↓cA55, ↓cS55, ↓cL55, ↓cI103, ↓cW103, ↓cR103, ↓cA104, ↓cS104, ↓cL104, ↓cA105, ↓cS105, ↓cL105, ↓cA106, ↓cS106, ↓cL106, ↓cA107, ↓cS107, ↓cL107, ↓cA108, ↓cS108, ↓cL108, ↓cA109, ↓cS109, ↓cL109, ↓cA110, ↓cS110, ↓cL110, ↓cA111, ↓cS111, ↓cL111, ↓cA112, ↓cS112, ↓cL112, ↓cP1_0, ↓cP1_2, ↓cP1_3, ↓cP1_5, ↓cP2_0, ↓cP2_2, ↓cP2_3, ↓cP2_4, ↓cP2_8, ↓cP2_10, ↓cP9_0, ↓cP9_1, ↓cP9_2, ↓cP9_3, ↓cP9_4, ↓cP9_5, ↓cP10_0, ↓cP11_0, ↓cP11_1, ↓cP11_2, ↓cP11_3, ↓cP11_4, ↓cP11_5, ↓cP11_6, ↓cP19_0, ↓cP19_1, ↓cP19_2, ↓cP19_3, ↓cP19_6, ↓cP37_0, ↓cP37_1, ↓cP37_2, ↓cP37_3, ↓cP42_0, ↓cP42_1, ↓cP42_2, ↓cP42_3, ↓cP42_4, ↓cP42_5, ↓cP42_8, ↓cP42_9, ↓cP51_0, ↓cP51_1, ↓cP51_2, ↓cP51_3, ↓cP103_0, ↓cP103_1, ↓cP103_2, ↓cP103_3, ↓cP103_4, ↓cP103_5, ↓cP103_6, ↓cP103_7, ↓cP103_8, ↓cIj, ↓cWj, ↓cZj, ↓cPj, ↓cQj, ↓cRj, ↓cAj, n6, n7, n8, mo0, ew, ↓b_xb _ _ _ _ eb, n1]
    · rw [if_neg c] at eb ⊢
      refine ⟨h, ?_, Fr.rf _ _, b⟩
      clear nd0 one ih hJ g b
      unfold X6_search
      simp (disch := (first | assumption | with_reducible rfl | (simp only [LayC_sI, LayC_sJ, LayC_sA, LayC_sB, LayC_sIr, LayC_exc, LayM_sI, LayM_sJ, LayM_sA, LayM_sB, LayM_sIr, LayM_exc, LayK_sI, LayK_sJ, LayK_sA, LayK_sB, LayK_sIr, LayK_exc]; assumption) | omega | decide | (simp (disch := (first | decide | omega)) only [gI_sJ, gI_sB, gI_sP, gI_exc, gI_sIe, aI_sJ, aI_sB, aI_sP, aI_exc, aI_sAe, aJ_sI, aJ_sA, aJ_sP, aJ_sIr, aJ_exc, aJ_sBe, gJ_sI, gJ_sA, gJ_sP, gJ_sIr, gJ_exc, gP_sI, gP_sJ, gP_sA, gP_sB, gP_sIr, gP_exc, gI_sIn, gI_sIk, gI_sAn, gI_sIrn, aI_sIn, aI_sAn, aI_sIrn, aI_sAk, aJ_sJn, aJ_sBn, gJ_sJn, gJ_sBn, gJ_sJe, gS_sI, gS_sJ, gS_sP, gS_sA, gS_sB, gS_sIr, gS_exc, w32i, w64i]; first | done | assumption | omega))) only [↓b_xbs, ↓b_xthr, ↓b_xthl, ↓b_xctr, ↓b_xctl, ↓b_xz, ↓b_xzX, ↓b_xd, ↓if_pos, ↓if_neg, ↓cI1, ↓cW1, ↓cZ1, ↓cR1, ↓cI2, ↓cW2, ↓cJ2, ↓cV2, ↓cR2, ↓cA3, ↓cS3, ↓cL3, ↓cA4, ↓cS4, ↓cL4, ↓cA5, ↓cS5, ↓cL5, ↓cA6, ↓cS6, ↓cL6, ↓cA7, ↓cS7, ↓cL7, ↓cA8, ↓cS8, ↓cL8, ↓cI9, ↓cW9, ↓cR9, ↓cI10, ↓cW10, ↓cJ10, ↓cV10, ↓cR10, ↓cI11, ↓cW11, ↓cR11, ↓cA12, ↓cS12, ↓cL12, ↓cA13, ↓cS13, ↓cL13, ↓cA14, ↓cS14, ↓cL14, ↓cA15, ↓cS15, ↓cL15, ↓cA16, ↓cS16, ↓cL16, ↓cA17, ↓cS17, ↓cL17, ↓cA18, ↓cS18, ↓cL18, ↓cI19, ↓cW19, ↓cZ19, ↓cR19, ↓cA21, ↓cS21, ↓cL21, ↓cA22, ↓cS22, ↓cL22, ↓cA23, ↓cS23, ↓cL23, ↓cI24, ↓cW24, ↓cZ24, ↓cR24, ↓cI37, ↓cW37, ↓cR37, ↓cA38, ↓cS38, ↓cL38, ↓cA39, ↓cS39, ↓cL39, ↓cA40, ↓cS40, ↓cL40, ↓cA41, ↓cS41, ↓cL41, ↓cI42, ↓cW42, ↓cR42, ↓cA43, ↓cS43, ↓cL43, ↓cA44, ↓cS44, ↓cL44, ↓cA45, ↓cS45, ↓cL45, ↓cA46, ↓cS46, ↓cL46, ↓cA47, ↓cS47, ↓cL47, ↓cA48, ↓cS48, ↓cL48, ↓cA49, ↓cS49, ↓cL49, ↓cA50, ↓cS50, ↓cL50, ↓cI51, ↓cW51, ↓cZ51, ↓cR51, ↓cA52, ↓cS52, ↓cL52, ↓cA53, ↓cS53, ↓cL53, ↓cA54, ↓cS54, ↓cL54, ↓cA55, ↓cS55, ↓cL55, ↓cI103, ↓cW103, ↓cR103, ↓cA104, ↓cS104, ↓cL104, ↓cA105, ↓cS105, ↓cL105, ↓cA106, ↓cS106, ↓cL106, ↓cA107, ↓cS107, ↓cL107, ↓cA108, ↓cS108, ↓cL108, ↓cA109, ↓cS109, ↓cL109, ↓cA110, ↓cS110, ↓cL110, ↓cA111, ↓cS111, ↓cL111, ↓cA112, ↓cS112, ↓cL112, ↓cP1_0, ↓cP1_2, ↓cP1_3, ↓cP1_5, ↓cP2_0, ↓cP2_2, ↓cP2_3, ↓cP2_4, ↓cP2_8, ↓cP2_10, ↓cP9_0, ↓cP9_1, ↓cP9_2, ↓cP9_3, ↓cP9_4, ↓cP9_5, ↓cP10_0, ↓cP11_0, ↓cP11_1, ↓cP11_2, ↓cP11_3, ↓cP11_4, ↓cP11_5, ↓cP11_6, ↓cP19_0, ↓cP19_1, ↓cP19_2, ↓cP19_3, ↓cP19_6, ↓cP37_0, ↓cP37_1, ↓cP37_2, ↓cP37_3, ↓cP42_0, ↓cP42_1, ↓cP42_2, ↓cP42_3, ↓cP42_4, ↓cP42_5, ↓cP42_8, ↓cP42_9, ↓cP51_0, ↓cP51_1, ↓cP51_2, ↓cP51_3, ↓cP103_0, ↓cP103_1, ↓cP103_2, ↓cP103_3, ↓cP103_4, ↓cP103_5, ↓cP103_6, ↓cP103_7, ↓cP103_8, ↓cIj, ↓cWj, ↓cZj, ↓cPj, ↓cQj, ↓cRj, ↓cAj, n6, n7, n8, mo0, ew, ↓b_xb _ _ _ _ eb]
end PS
