theorem J_test {F : Nat} (hF : 60000 ≤ F) {h : HP} {n : Int} (r : RA n h) (a b : Int) : ∃ k h1 v h2, XL_test F (some 1) a b (some 126) h = some (k, h1) ∧ X12_test F 113 a b h1 = some (v, h2) ∧ OKJ n k v h2 := by
  have L := r.1
  have LK := r.2.1
  have LM := r.2.2.1
  have L6 := r.2.2.2.2.2.1
  have R := r.rf
  have G := r.gf
  by_cases c0 : (0 ≤ a ∧ a ≤ 15) ∧ (0 ≤ b ∧ b ≤ 15)
  · by_cases c1 : a ≤ b
    · obtain ⟨n1, n2, n3, n4, n5, n6, n7, n8, n9, n10, n11⟩ := r.N
      have t := r.tp
      have g := n2.g8
      have g4 : aI h 114 4 < aI h 114 8 := n2.2.2.2.2.2.2.2.2.2.1
      obtain ⟨p1, p2, p3, p4⟩ := id n8
      simp only [Nat.add_zero] at p1
      obtain ⟨W, hW⟩ : ∃ W, W = aI h 114 := ⟨_, rfl⟩
      have s0 : gI h 9 6 = W 0 := by rw [hW]; exact n1.1
      have s7 : gI h 11 8 = W 7 := by rw [hW]; exact n1.2.2.2.2.2.2.2.1
      rw [← hW] at p1 p2 p3 p4 g g4
      have ts0 : TsC W a b (W 7) 0 h := ⟨L, fun i i0 i1 => by have := (n4 i i0 i1).1; rw [Nat.add_zero, ← hW] at this; exact this, fun i hi => by rw [if_neg (fun q => absurd q.1 (by omega))]; have := (n4 i (by omega) (by omega)).2.1; rw [Nat.add_zero, ← hW] at this; exact this, s7⟩
      obtain ⟨hA, xa, ra, sa⟩ := E_teC (F := F) 16 0 F h (by omega) (by omega) ts0
      have bb := btF_b W a b 16 (by decide)
      have hb := btF_hi W a b (W 7) (b + 1).toNat (by omega) (16 - (b + 1).toNat)
      rw [show (b + 1).toNat + (16 - (b + 1).toNat) = 16 by omega] at hb
      have rA := sa.a 18 (by decide) (by decide)
      obtain ⟨hB, xb1, ob, zb⟩ := E_trC (F := F) (h0 := h) (fr := a) (to := b) (b := btF W a b 16) g p3 p4 bb.1 bb.2 (W 11356).toNat 0 F hA (by omega) (by omega) ra.1 (by rw [sa.2.1 7 (by decide)]; exact p1) (fun j hj => by rw [if_neg (by omega), rA])
      have LB : LayC hB := ob.C ra.1
      have LMA : LayM hA := LM.of (by show hA.2.2.2.1 = _; rw [sa.2.2]; rfl) (by show hA.2.2.1 = _; rw [sa.2.2]; rfl)
      have LMB : LayM hB := ob.M LMA
      have L6B : gS hB 126 = (101, 1) := by rw [ob.2.2.2.1]; show hA.2.2.2.1 126 = _; rw [sa.2.2]; exact L6
      have wB : aI hB 114 = W := by rw [ob.a 114 (by decide), sa.a 114 (by decide) (by decide), hW]
      have wC : aI (sI (sJ hB 126 0 (btF W a b 16)) 113 0 0) 114 = W := by simp (disch := (first | assumption | with_reducible rfl | (simp only [LayC_sI, LayC_sJ, LayC_sA, LayC_sB, LayC_sIr, LayC_exc, LayM_sI, LayM_sJ, LayM_sA, LayM_sB, LayM_sIr, LayM_exc, LayK_sI, LayK_sJ, LayK_sA, LayK_sB, LayK_sIr, LayK_exc]; assumption) | omega | decide | (simp (disch := (first | decide | omega)) only [gI_sJ, gI_sB, gI_sP, gI_exc, gI_sIe, aI_sJ, aI_sB, aI_sP, aI_exc, aI_sAe, aJ_sI, aJ_sA, aJ_sP, aJ_sIr, aJ_exc, aJ_sBe, gJ_sI, gJ_sA, gJ_sP, gJ_sIr, gJ_exc, gP_sI, gP_sJ, gP_sA, gP_sB, gP_sIr, gP_exc, gI_sIn, gI_sIk, gI_sAn, gI_sIrn, aI_sIn, aI_sAn, aI_sIrn, aI_sAk, aJ_sJn, aJ_sBn, gJ_sJn, gJ_sBn, gJ_sJe, gS_sI, gS_sJ, gS_sP, gS_sA, gS_sB, gS_sIr, gS_exc, w32i, w64i]; first | done | assumption | omega))) only [gI_sJ, gI_sB, gI_sP, gI_exc, gI_sIe, aI_sJ, aI_sB, aI_sP, aI_exc, aI_sAe, aJ_sI, aJ_sA, aJ_sP, aJ_sIr, aJ_exc, aJ_sBe, gJ_sI, gJ_sA, gJ_sP, gJ_sIr, gJ_exc, gP_sI, gP_sJ, gP_sA, gP_sB, gP_sIr, gP_exc, gI_sIn, gI_sIk, gI_sAn, gI_sIrn, aI_sIn, aI_sAn, aI_sIrn, aI_sAk, aJ_sJn, aJ_sBn, gJ_sJn, gJ_sBn, gJ_sJe, gS_sI, gS_sJ, gS_sP, gS_sA, gS_sB, gS_sIr, gS_exc]; exact wB
      have tm0 : TsM W a b (W 7) a.toNat (sI (sJ hB 126 0 (btF W a b 16)) 113 0 0) := ⟨LMB, fun i _ _ _ => by rw [wC], fun j hj => by rw [wC, if_neg (fun q => by have := q.2.1; omega)], by rw [wC, ctF_lo _ _ _ _ _ (by omega)]⟩
      obtain ⟨hD, xd, rd, od⟩ := E_teM (F := F) c0.1.1 (by omega) (b + 1 - a).toNat a.toNat F (sI (sJ hB 126 0 (btF W a b 16)) 113 0 0) (by omega) (by omega) (by omega) tm0
      rw [btF_lo W a b a.toNat (by omega), ← hb.1, show ((a.toNat : Nat) : Int) = a by omega] at xd
      have w1 : ∀ i : Int, 170 ≤ i → aI hD 114 i = W i := fun i hi => rd.2.1 i (by omega) (by omega) (by omega)
      obtain ⟨hE, xe, oe, z1, z2⟩ := E_trM (F := F) (W := W) (W1 := aI hD 114) (fr := a) (to := b) (b := btF W a b 16) p3 w1 (fun k k0 k1 => by
        obtain ⟨te, ca, x1, x2, x3, x4, x5, x6, x7, x8, x9, x10, x11, x12, x13, x14, x15, x16, x17⟩ := p4 k k0 k1
        exact ⟨x9, x15, x16⟩) bb.1 bb.2 (W 11356).toNat 0 F hD (by omega) (by omega) rd.1 (fun i _ _ => rfl) (fun j hj => by rw [if_neg (by omega)]; exact w1 _ (by omega))
      have oo := od.tr oe
      have GG : ∀ a k, (a ≠ 15 ∧ a ≠ 18 ∧ a ≠ 114 ∧ ¬ (a = 11 ∧ k = 8) ∧ ¬ (a = 113 ∧ k = 0)) → gI hE a k = gI h a k := by
        intro a' k' ⟨q1, q2, q3, q4, q5⟩
        rw [oo.1 a' q3, gI_sI, if_neg q5]
        show gI hB a' k' = _
        rw [ob.1 a' q2]
        by_cases e : a' = 11
        · subst e; exact sa.2.1 k' (by omega)
        · rw [sa.1 a' q1 e]
      have GA : ∀ a, (a ≠ 15 ∧ a ≠ 18 ∧ a ≠ 114 ∧ a ≠ 11 ∧ a ≠ 113) → aI hE a = aI h a := by
        intro a' ⟨q1, q2, q3, q4, q5⟩
        funext i
        exact GG a' _ ⟨q1, q2, q3, fun q => q4 q.1, fun q => q5 q.1⟩
      have eS : gS hE = gS h := by rw [oo.2.2.2.1]; show gS hB = _; rw [ob.2.2.2.1]; show hA.2.2.2.1 = _; rw [sa.2.2]; rfl
      have eP : gP hE = gP h := by rw [oo.2.2.1]; show gP hB = _; rw [ob.2.2.1]; show hA.2.2.1 = _; rw [sa.2.2]; rfl
      have en : gn hE = gn h := by rw [oo.2.2.2.2.1]; show gn hB = _; rw [ob.2.2.2.2.1]; show hA.2.2.2.2.1 = _; rw [sa.2.2]; rfl
      have ec : gc hE = gc h := by rw [oo.2.2.2.2.2.1]; show gc hB = _; rw [ob.2.2.2.2.2.1]; show hA.2.2.2.2.2.1 = _; rw [sa.2.2]; rfl
      have es : gs hE = gs h := by rw [oo.2.2.2.2.2.2]; show gs hB = _; rw [ob.2.2.2.2.2.2]; show hA.2.2.2.2.2.2 = _; rw [sa.2.2]; rfl
      have eJ : ∀ t, t ≠ 126 → gJ hE t = gJ h t := by
        intro t ht
        rw [oo.2.1]; show gJ (sJ hB 126 0 _) t = _
        rw [gJ_sJn _ _ _ _ _ ht, ob.2.1]; show hA.2.1 t = _; rw [sa.2.2]; rfl
      have wE : ∀ i : Int, 0 ≤ i → i ≠ 7 → (i < 138 ∨ 170 ≤ i ∨ i % 2 = 1) → (i < 11357 ∨ (i - 11357) % 7 ≠ 6) → aI hE 114 i = aI h 114 i := fun i i0 i7 i1 i2 => by rw [z1 i i0 i2, rd.2.1 i i0 i7 i1, hW]
      have s : SmX (fun a k => decide (a = 15 ∨ a = 18 ∨ a = 11 ∧ k = 8)) h hE 0 0 := ⟨fun a' k' h1 h2 h3 h4 => by
          have h4 := of_decide_eq_false h4
          exact GG _ _ ⟨by omega, by omega, by omega, by omega, by omega⟩, fun j hj => by rw [eP], fun t ht _ => ⟨by funext k'; exact GG t k' ⟨by omega, by omega, by omega, by omega, by omega⟩, eJ t (by omega), by rw [eP], by rw [eS]⟩, by omega⟩
      have sk : SmN h hE 47 47 := ⟨fun a' k' h1 h2 h3 h4 => GG _ _ ⟨by omega, by omega, by omega, by omega, by omega⟩, fun j hj => by rw [eP], fun t ht _ => ⟨by funext k'; exact GG t k' ⟨by omega, by omega, by omega, by omega, by omega⟩, eJ t (by omega), by rw [eP], by rw [eS]⟩, by omega⟩
      refine ⟨0, sJ hB 126 0 (btF W a b 16), btF W a b 16, hE, ?_, ?_, ?_, fun _ => ?_, ?_⟩
      · have xt : X7_testLamps F 11 a b (W 0) h = some (btF W a b 16, hB) := by
          unfold X7_testLamps
          exact xa.trans xb1
        unfold XL_test X11_test
        simp (disch := (first | assumption | with_reducible rfl | (simp only [LayC_sI, LayC_sJ, LayC_sA, LayC_sB, LayC_sIr, LayC_exc, LayM_sI, LayM_sJ, LayM_sA, LayM_sB, LayM_sIr, LayM_exc, LayK_sI, LayK_sJ, LayK_sA, LayK_sB, LayK_sIr, LayK_exc]; assumption) | omega | decide | (simp (disch := (first | decide | omega)) only [gI_sJ, gI_sB, gI_sP, gI_exc, gI_sIe, aI_sJ, aI_sB, aI_sP, aI_exc, aI_sAe, aJ_sI, aJ_sA, aJ_sP, aJ_sIr, aJ_exc, aJ_sBe, gJ_sI, gJ_sA, gJ_sP, gJ_sIr, gJ_exc, gP_sI, gP_sJ, gP_sA, gP_sB, gP_sIr, gP_exc, gI_sIn, gI_sIk, gI_sAn, gI_sIrn, aI_sIn, aI_sAn, aI_sIrn, aI_sAk, aJ_sJn, aJ_sBn, gJ_sJn, gJ_sBn, gJ_sJe, gS_sI, gS_sJ, gS_sP, gS_sA, gS_sB, gS_sIr, gS_exc, w32i, w64i]; first | done | assumption | omega))) only [↓b_xbs, ↓b_xthr, ↓b_xthl, ↓b_xctr, ↓b_xctl, ↓b_xz, ↓b_xzX, ↓b_xd, ↓if_pos, ↓if_neg, ↓cI1, ↓cW1, ↓cZ1, ↓cR1, ↓cI2, ↓cW2, ↓cJ2, ↓cV2, ↓cR2, ↓cA3, ↓cS3, ↓cL3, ↓cA4, ↓cS4, ↓cL4, ↓cA5, ↓cS5, ↓cL5, ↓cA6, ↓cS6, ↓cL6, ↓cA7, ↓cS7, ↓cL7, ↓cA8, ↓cS8, ↓cL8, ↓cI9, ↓cW9, ↓cR9, ↓cI10, ↓cW10, ↓cJ10, ↓cV10, ↓cR10, ↓cI11, ↓cW11, ↓cR11, ↓cA12, ↓cS12, ↓cL12, ↓cA13, ↓cS13, ↓cL13, ↓cA14, ↓cS14, ↓cL14, ↓cA15, ↓cS15, ↓cL15, ↓cA16, ↓cS16, ↓cL16, ↓cA17, ↓cS17, ↓cL17, ↓cA18, ↓cS18, ↓cL18, ↓cI19, ↓cW19, ↓cZ19, ↓cR19, ↓cA21, ↓cS21, ↓cL21, ↓cA22, ↓cS22, ↓cL22, ↓cA23, ↓cS23, ↓cL23, ↓cI24, ↓cW24, ↓cZ24, ↓cR24, ↓cI37, ↓cW37, ↓cR37, ↓cA38, ↓cS38, ↓cL38, ↓cA39, ↓cS39, ↓cL39, ↓cA40, ↓cS40, ↓cL40, ↓cA41, ↓cS41, ↓cL41, ↓cI42, ↓cW42, ↓cR42, ↓cA43, ↓cS43, ↓cL43, ↓cA44, ↓cS44, ↓cL44, ↓cA45, ↓cS45, ↓cL45, ↓cA46, ↓cS46, ↓cL46, ↓cA47, ↓cS47, ↓cL47, ↓cA48, ↓cS48, ↓cL48, ↓cA49, ↓cS49, ↓cL49, ↓cA50, ↓cS50, ↓cL50, ↓cI51, ↓cW51, ↓cZ51, ↓cR51, ↓cA52, ↓cS52, ↓cL52, ↓cA53, ↓cS53, ↓cL53, ↓cA54, ↓cS54, ↓cL54, ↓cA55, ↓cS55, ↓cL55, ↓cI103, ↓cW103, ↓cR103, ↓cA104, ↓cS104, ↓cL104, ↓cA105, ↓cS105, ↓cL105, ↓cA106, ↓cS106, ↓cL106, ↓cA107, ↓cS107, ↓cL107, ↓cA108, ↓cS108, ↓cL108, ↓cA109, ↓cS109, ↓cL109, ↓cA110, ↓cS110, ↓cL110, ↓cA111, ↓cS111, ↓cL111, ↓cA112, ↓cS112, ↓cL112, ↓cP1_0, ↓cP1_2, ↓cP1_3, ↓cP1_5, ↓cP2_0, ↓cP2_2, ↓cP2_3, ↓cP2_4, ↓cP2_8, ↓cP2_10, ↓cP9_0, ↓cP9_1, ↓cP9_2, ↓cP9_3, ↓cP9_4, ↓cP9_5, ↓cP10_0, ↓cP11_0, ↓cP11_1, ↓cP11_2, ↓cP11_3, ↓cP11_4, ↓cP11_5, ↓cP11_6, ↓cP19_0, ↓cP19_1, ↓cP19_2, ↓cP19_3, ↓cP19_6, ↓cP37_0, ↓cP37_1, ↓cP37_2, ↓cP37_3, ↓cP42_0, ↓cP42_1, ↓cP42_2, ↓cP42_3, ↓cP42_4, ↓cP42_5, ↓cP42_8, ↓cP42_9, ↓cP51_0, ↓cP51_1, ↓cP51_2, ↓cP51_3, ↓cP103_0, ↓cP103_1, ↓cP103_2, ↓cP103_3, ↓cP103_4, ↓cP103_5, ↓cP103_6, ↓cP103_7, ↓cP103_8, ↓cIj, ↓cWj, ↓cZj, ↓cPj, ↓cQj, ↓cRj, ↓cAj, ↓bE_needPlace0, ↓bE_needNumber0, s0, ↓b_xb _ _ _ _ xt, ↓b_s126]
      · unfold X12_test X12_test_L25 X12_test_L43
        simp (disch := (first | assumption | with_reducible rfl | (simp only [LayC_sI, LayC_sJ, LayC_sA, LayC_sB, LayC_sIr, LayC_exc, LayM_sI, LayM_sJ, LayM_sA, LayM_sB, LayM_sIr, LayM_exc, LayK_sI, LayK_sJ, LayK_sA, LayK_sB, LayK_sIr, LayK_exc]; assumption) | omega | decide | (simp (disch := (first | decide | omega)) only [gI_sJ, gI_sB, gI_sP, gI_exc, gI_sIe, aI_sJ, aI_sB, aI_sP, aI_exc, aI_sAe, aJ_sI, aJ_sA, aJ_sP, aJ_sIr, aJ_exc, aJ_sBe, gJ_sI, gJ_sA, gJ_sP, gJ_sIr, gJ_exc, gP_sI, gP_sJ, gP_sA, gP_sB, gP_sIr, gP_exc, gI_sIn, gI_sIk, gI_sAn, gI_sIrn, aI_sIn, aI_sAn, aI_sIrn, aI_sAk, aJ_sJn, aJ_sBn, gJ_sJn, gJ_sBn, gJ_sJe, gS_sI, gS_sJ, gS_sP, gS_sA, gS_sB, gS_sIr, gS_exc, w32i, w64i]; first | done | assumption | omega))) only [↓b_xbs, ↓b_xthr, ↓b_xthl, ↓b_xctr, ↓b_xctl, ↓b_xz, ↓b_xzX, ↓b_xd, ↓if_pos, ↓if_neg, ↓mI113, ↓mW113, ↓mZ113, ↓mJ113, ↓mV113, ↓mR113, ↓mA114, ↓mS114, ↓mL114, ↓mA115, ↓mS115, ↓mL115, ↓mA116, ↓mS116, ↓mL116, ↓mA117, ↓mS117, ↓mL117, ↓mA118, ↓mS118, ↓mL118, ↓mA119, ↓mS119, ↓mL119, ↓mA120, ↓mS120, ↓mL120, ↓mA121, ↓mS121, ↓mL121, ↓mA122, ↓mS122, ↓mL122, ↓mA123, ↓mS123, ↓mL123, ↓mA124, ↓mS124, ↓mL124, ↓mA125, ↓mS125, ↓mL125, ↓mA126, ↓mS126, ↓mL126, ↓mP113_1, ↓mP113_2, ↓mP113_4, ↓mP113_11, ↓mP113_12, ↓mP113_16, ↓mP113_17, ↓mP113_18, ↓mP113_24, ↓mP113_25, ↓mP113_29, ↓mP113_30, ↓bE_noLamp0, ↓bE_throws0]
        exact xd.trans xe
      · rw [oo.1 113 (by decide), gI_sIe]
      · rw [oo.2.1]; exact gJ_sJe _ _ _ _
      · refine r.M (L.of eS eP) (LK.of eS eP) (LM.of eS eP) en eS (GG _ _ (by decide)) (GG _ _ (by decide)) (GG _ _ (by decide)) (GG _ _ (by decide)) (GG _ _ (by decide)) (GG _ _ (by decide)) (GG _ _ (by decide)) (GG _ _ (by decide)) ?_ ?_ ?_ sk (GA _ (by decide)) ec es (fun j hj => GG _ _ ⟨by omega, by omega, by omega, by omega, by omega⟩)
        · unfold RTp at *
          rw [GG 2 1 (by decide), GG 113 5 (by decide), GG 1 1 (by decide), GG 113 10 (by decide), GA 3 (by decide), GA 116 (by decide)]
          exact t
        · refine ⟨?_, ?_, n3.cg s (fun a k q => decide_eq_false (by omega)) (fun i a c => wE i (by omega) (by omega) (by omega) (by omega)), ?_, n5.cg s (fun a k q => decide_eq_false (by omega)) (fun i a c => wE i (by omega) (by omega) (by omega) (by omega)), n6.cg s (fun a k q => decide_eq_false (by omega)) (fun i a c => wE i (by omega) (by omega) (by omega) (by omega)), n7.cg s (fun a k q => decide_eq_false (by omega)) (fun i a c => wE i (by omega) (by omega) (by omega) (by omega)), ?_, n9.cg s (fun a k q => decide_eq_false (by omega)) (by rw [← hW]; exact g.2) (wE 8 (by omega) (by omega) (by omega) (by omega)) (fun i a c => wE i (by omega) (by omega) (by omega) (by omega)), n10.cg s (fun a k q => decide_eq_false (by omega)) (by rw [← hW]; exact g) (wE 8 (by omega) (by omega) (by omega) (by omega)) (fun j f a c d e => wE _ (by omega) (by omega) (by omega) (by omega)), n11.cg (by rw [← hW]; exact ⟨g4, g.2⟩) (wE 4 (by omega) (by omega) (by omega) (by omega)) (fun i a c => wE i (by omega) (by omega) (by omega) (by omega))⟩
          · obtain ⟨q0, q1, q2, q3, q4, q5, q6, q7, q8⟩ := n1
            refine ⟨(GG 9 6 (by decide)).trans (q0.trans (wE 0 (by omega) (by omega) (by omega) (by omega)).symm), (GG 9 7 (by decide)).trans (q1.trans (wE 1 (by omega) (by omega) (by omega) (by omega)).symm), (GG 9 8 (by decide)).trans (q2.trans (wE 2 (by omega) (by omega) (by omega) (by omega)).symm), (GG 9 9 (by decide)).trans (q3.trans (wE 3 (by omega) (by omega) (by omega) (by omega)).symm), (GG 9 10 (by decide)).trans (q4.trans (wE 4 (by omega) (by omega) (by omega) (by omega)).symm), (GG 9 11 (by decide)).trans (q5.trans (wE 5 (by omega) (by omega) (by omega) (by omega)).symm), (GG 51 5 (by decide)).trans (q6.trans (wE 6 (by omega) (by omega) (by omega) (by omega)).symm), ?_, (GG 19 5 (by decide)).trans (q8.trans (wE 8 (by omega) (by omega) (by omega) (by omega)).symm)⟩
            rw [z1 7 (by omega) (by omega), rd.2.2.2, ← hb.2]
            show gI hE 11 8 = _
            rw [oo.1 11 (by decide)]
            show gI hB 11 8 = _
            rw [ob.1 11 (by decide)]
            exact ra.2.2.2
          · unfold GSc at *
            rw [wE 0 (by omega) (by omega) (by omega) (by omega), wE 1 (by omega) (by omega) (by omega) (by omega), wE 2 (by omega) (by omega) (by omega) (by omega), wE 3 (by omega) (by omega) (by omega) (by omega), wE 4 (by omega) (by omega) (by omega) (by omega), wE 5 (by omega) (by omega) (by omega) (by omega), wE 6 (by omega) (by omega) (by omega) (by omega), wE 8 (by omega) (by omega) (by omega) (by omega)]
            exact n2
          · intro i i0 i1
            obtain ⟨i, rfl⟩ := Int.eq_ofNat_of_zero_le i0
            obtain ⟨q1, q2, q3⟩ := n4 i i0 i1
            rw [Nat.add_zero] at q1 q2
            have y := ra.2.2.1 i (by omega)
            have z := rd.2.2.1 i (by omega)
            have y' : aI hE 15 i = aI hA 15 i := by
              rw [oo.a 15 (by decide)]; show aI hB 15 i = _; rw [ob.a 15 (by decide)]
            have z' : aI hE 114 (138 + 2 * i) = aI hD 114 (138 + 2 * i) := z1 _ (by omega) (by omega)
            have ei : (i < 16 ∧ inL W a b i) ↔ (i < (b + 1).toNat ∧ inL W a b i) := ⟨fun q => ⟨by have := q.2.2.1; omega, q.2⟩, fun q => ⟨by omega, q.2⟩⟩
            rw [Nat.add_zero, Nat.add_zero, y', z', y, z, GA 14 (by decide), wE (137 + 2 * i) (by omega) (by omega) (by omega) (by omega)]
            refine ⟨q1, ?_, ?_⟩
            · by_cases e : inL W a b i
              · rw [if_pos ⟨by omega, e⟩, if_pos (ei.mp ⟨by omega, e⟩)]
              · rw [if_neg (fun q => e q.2), if_neg (fun q => e q.2)]
            · split
              · exact in32_0
              · rw [hW]; exact q3
          · refine ⟨?_, by rw [wE 11356 (by omega) (by omega) (by omega) (by omega), ← hW]; exact p2, by rw [wE 11356 (by omega) (by omega) (by omega) (by omega), ← hW]; exact p3, fun k k0 k1 => ?_⟩
            · rw [wE 11356 (by omega) (by omega) (by omega) (by omega), ← hW]; exact (GG 11 7 (by decide)).trans p1
            · rw [wE 11356 (by omega) (by omega) (by omega) (by omega), ← hW] at k1
              have zk := zb k.toNat (by omega)
              have zm := z2 k.toNat (by omega)
              rw [show ((k.toNat : Nat) : Int) = k by omega] at zk zm
              refine RR1.tst (fr := a) (to := b) (b := btF W a b 16) (p4 k k0 k1) (by rw [wE 8 (by omega) (by omega) (by omega) (by omega), hW]) (by rw [GA 16 (by decide)]) (by rw [GA 17 (by decide)]) ?_ (fun i i0 i1 => by rw [wE _ (by omega) (by omega) (by omega) (by omega), hW]) zm
              rw [oo.a 18 (by decide)]; exact zk
        · have gp := r.pt
          have e : ptl (aI hE 114) = ptl (aI h 114) := ptl_w (by rw [← hW]; exact g) (wE 8 (by omega) (by omega) (by omega) (by omega)) (wE 11356 (by omega) (by omega) (by omega) (by omega)) (fun i a c => wE i (by omega) (by omega) (by omega) (by omega))
          rw [e]; omega
    · exact ⟨2, exc h, _, _, XC_test_2 L R G a b c0.1 c0.2 c1, XM_test_2 (h := exc h) LM G a b c0.1 c0.2 c1, OKJ.x r (by decide)⟩
  · exact ⟨1, exc h, _, _, XC_test_1 L R G a b c0, XM_test_1 (h := exc h) LM G a b c0, OKJ.x r (by decide)⟩
