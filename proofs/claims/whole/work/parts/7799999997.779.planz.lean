section PZ
variable {F : Nat} {W : Int → Int} {J : List Nat} {M C : Int}
/-- the best so far, as the reference has it -/
def BsM (q : Nat) (B : Bst) (m3 m4 : Int) (h : HP) : Prop := gI h 113 27 = B.1 ∧ m3 = B.2.1 ∧ m4 = B.2.2.1 ∧ (0 ≤ B.1 → ∃ c : Nat, c < 16384 ∧ gI h 113 28 = c ∧ dgs q c = B.2.2.2)
theorem NdM.st {h : HP} (n : NdM W J h) (x y : Int) : NdM W J (sI (sI h 113 27 x) 113 28 y) := by
  obtain ⟨L, rW, c26, c123⟩ := n
  exact ⟨L, by rw [aI_sIn _ _ _ _ _ (by decide), aI_sIn _ _ _ _ _ (by decide)]; exact rW, by rw [gI_sIk _ _ _ _ _ (by decide), gI_sIk _ _ _ _ _ (by decide)]; exact c26, fun p j e => by rw [aI_sIn _ _ _ _ _ (by decide), aI_sIn _ _ _ _ _ (by decide)]; exact c123 p j e⟩
/-- one code -/
theorem E_code {h : HP} (g : JgW W) (hJ : ∀ j ∈ J, (j : Int) < W 8) (hl : J.length ≤ 7) (hF : 20 ≤ F) (n : NdM W J h) (c : Nat) (hc : c < 16384) (rc79 : Nat → Int → Int → Int → Int → Int → HP → Option (Unit × HP)) (B : Bst) (m3 m4 : Int) (b : BsM J.length B m3 m4 h) : ∃ m3' m4' h', X12_plans_L110 F rc79 F 113 M C m3 m4 c 0 0 0 0 1 0 h = rc79 113 M C m3' m4' ((c + 1 : Nat) : Int) h' ∧ NdM W J h' ∧ BsM J.length (upB (wsP W J) (msP W J) (hsP W J) (haP W J) (blP W J) M C B (dgs J.length c)) m3' m4' h' ∧ (∀ a, a ≠ 113 → gI h' a = gI h a) ∧ (∀ k, k ≠ 27 → k ≠ 28 → gI h' 113 k = gI h 113 k) ∧ h'.2 = h.2 := by
  obtain ⟨t, et⟩ : ∃ t, t = dgs J.length c := ⟨_, rfl⟩
  have lt : t.length = J.length := by rw [et]; unfold dgs; simp
  obtain ⟨z, cn, q1, q2, q3, q4⟩ := E_pl (F := F) (M := M) (C := C) g hJ hl n c hc rc79 m3 m4 t et t [] (F - J.length) 0 1 rfl (drB.nil J) (Or.inr rfl) ⟨fun _ k a e => by simp at e, fun _ => rfl⟩
  rw [lt, show F - J.length + J.length = F by omega] at q4
  change X12_plans_L110 F rc79 F 113 M C m3 m4 c 0 0 0 0 1 0 h = _ at q4
  rw [q4, ← et]
  obtain ⟨b1, b2, b3, b4⟩ := b
  obtain ⟨w, hw⟩ : ∃ w, w = smF (wsP W J) 0 t := ⟨_, rfl⟩
  obtain ⟨m, hm⟩ : ∃ m, m = smF (msP W J) 0 t := ⟨_, rfl⟩
  obtain ⟨u, hu⟩ : ∃ u, u = smF (hsP W J) 0 t := ⟨_, rfl⟩
  have e1 : w32 ((c : Int) + 1) = ((c + 1 : Nat) : Int) := by rw [w32i _ (by omega) (by omega)]; omega
  have L := n.1
  have c26 := n.2.2.1
  obtain ⟨f, hf⟩ : ∃ f, F - J.length = f + 1 := ⟨F - J.length - 1, by omega⟩
  rw [hf, ← hw, ← hm, ← hu]
  -- a way that is not better stays away
  have skip : X12_plans_L461 F rc79 113 M C m3 m4 c h = rc79 113 M C m3 m4 ((c + 1 : Nat) : Int) h := by unfold X12_plans_L461; rw [e1]
  have no : ¬ (okW2 (msP W J) (hsP W J) (haP W J) (blP W J) M C t ∧ btr w m u B) → X12_plans_L110 F rc79 (f + 1) 113 M C m3 m4 c w m u z cn J.length h = X12_plans_L461 F rc79 113 M C m3 m4 c h → ∃ m3' m4' h', X12_plans_L110 F rc79 (f + 1) 113 M C m3 m4 c w m u z cn J.length h = rc79 113 M C m3' m4' ((c + 1 : Nat) : Int) h' ∧ NdM W J h' ∧ BsM J.length (upB (wsP W J) (msP W J) (hsP W J) (haP W J) (blP W J) M C B t) m3' m4' h' ∧ (∀ a, a ≠ 113 → gI h' a = gI h a) ∧ (∀ k, k ≠ 27 → k ≠ 28 → gI h' 113 k = gI h 113 k) ∧ h'.2 = h.2 := by
    intro x y
    refine ⟨m3, m4, h, y.trans skip, n, ?_, fun _ _ => rfl, fun _ _ _ => rfl, rfl⟩
    unfold upB
    rw [← hw, ← hm, ← hu, cif_neg x]
    exact ⟨b1, b2, b3, b4⟩
  -- of two that are as good the checks of the leaning tell
  have ln := fun (s : Int) (hs : s = 0 ∨ s = 1) => E_ln (F := F) (M := M) (C := C) g hJ hl (by omega) n c hc rc79 m3 m4 w m u z t et J.length 0 F s (by omega) (by omega) hs
  have cs := cns_iff g hJ t lt z q1
  have go : ∀ s : Int, (s = 0 ∨ s = 1) → cn = 1 → m ≤ M → u ≤ C → (s = 1 ↔ btr w m u B) → X12_plans_L110 F rc79 (f + 1) 113 M C m3 m4 c w m u z cn J.length h = X12_plans_L375 F rc79 F 113 M C m3 m4 c w m u z s 0 h → ∃ m3' m4' h', X12_plans_L110 F rc79 (f + 1) 113 M C m3 m4 c w m u z cn J.length h = rc79 113 M C m3' m4' ((c + 1 : Nat) : Int) h' ∧ NdM W J h' ∧ BsM J.length (upB (wsP W J) (msP W J) (hsP W J) (haP W J) (blP W J) M C B t) m3' m4' h' ∧ (∀ a, a ≠ 113 → gI h' a = gI h a) ∧ (∀ k, k ≠ 27 → k ≠ 28 → gI h' 113 k = gI h 113 k) ∧ h'.2 = h.2 := by
    intro s hs c1 cM cC sb y
    obtain ⟨s', a1, a2, a3⟩ := ln s hs
    have eq' : s' = 1 ↔ btr w m u B ∧ cns (blP W J) t := by
      rw [a2, sb, cs]
      exact ⟨fun q => ⟨q.1, fun k => q.2 k (Nat.zero_le k)⟩, fun q => ⟨q.1, fun k _ => q.2 k⟩⟩
    have okk : okW2 (msP W J) (hsP W J) (haP W J) (blP W J) M C t ↔ cns (blP W J) t := by
      unfold okW2
      rw [← hm, ← hu]
      exact ⟨fun q => q.2.2.2, fun q => ⟨q3.mp c1, cM, cC, q⟩⟩
    rcases a1 with rfl | rfl
    · refine no (fun q => by have := eq'.mpr ⟨q.2, okk.mp q.1⟩; cases this) (y.trans (a3.trans ?_))
      unfold X12_plans_L434
      rw [if_pos rfl]
    · obtain ⟨r1, r2⟩ := eq'.mp rfl
      refine ⟨m, u, sI (sI h 113 27 w) 113 28 c, y.trans (a3.trans ?_), n.st _ _, ?_, fun a ha => by rw [gI_sIn _ _ _ _ _ ha, gI_sIn _ _ _ _ _ ha], fun k k1 k2 => by rw [gI_sIk _ _ _ _ _ k2, gI_sIk _ _ _ _ _ k1], rfl⟩
      · unfold X12_plans_L434 X12_plans_L461
        rw [if_neg (by decide), mW113 h 27 w _ L, mW113 (sI h 113 27 w) 28 c _ L, e1]
      · unfold upB
        rw [← hw, ← hm, ← hu, cif_pos ⟨okk.mpr r2, r1⟩]
        exact ⟨by rw [gI_sIk _ _ _ _ _ (by decide), gI_sIe], rfl, rfl, fun _ => ⟨c, hc, gI_sIe _ _ _ _, et.symm⟩⟩
  clear q4 skip ln cs
  by_cases cz : cn = 1
  · by_cases cM : m ≤ M
    · by_cases cC : u ≤ C
      · by_cases c1 : B.1 ≤ w
        · have gg := fun s hs sb y => go s hs cz cM cC sb y
          clear go
          by_cases c2 : B.1 < w
          · refine gg 1 (Or.inr rfl) ⟨fun _ => Or.inl c2, fun _ => rfl⟩ ?_
            clear gg no
            rw [X12_plans_L110_s]
            unfold X12_plans_L365 X12_plans_L370
            simp (disch := (first | assumption | with_reducible rfl | (simp only [LayC_sI, LayC_sJ, LayC_sA, LayC_sB, LayC_sIr, LayC_exc, LayM_sI, LayM_sJ, LayM_sA, LayM_sB, LayM_sIr, LayM_exc, LayK_sI, LayK_sJ, LayK_sA, LayK_sB, LayK_sIr, LayK_exc]; assumption) | omega | decide | (simp (disch := (first | decide | omega)) only [gI_sJ, gI_sB, gI_sP, gI_exc, gI_sIe, aI_sJ, aI_sB, aI_sP, aI_exc, aI_sAe, aJ_sI, aJ_sA, aJ_sP, aJ_sIr, aJ_exc, aJ_sBe, gJ_sI, gJ_sA, gJ_sP, gJ_sIr, gJ_exc, gP_sI, gP_sJ, gP_sA, gP_sB, gP_sIr, gP_exc, gI_sIn, gI_sIk, gI_sAn, gI_sIrn, aI_sIn, aI_sAn, aI_sIrn, aI_sAk, aJ_sJn, aJ_sBn, gJ_sJn, gJ_sBn, gJ_sJe, gS_sI, gS_sJ, gS_sP, gS_sA, gS_sB, gS_sIr, gS_exc, w32i, w64i]; first | done | assumption | omega))) only [↓b_xbs, ↓b_xthr, ↓b_xthl, ↓b_xctr, ↓b_xctl, ↓b_xz, ↓b_xzX, ↓b_xd, ↓if_pos, ↓if_neg, ↓mI113, ↓mW113, ↓mZ113, ↓mJ113, ↓mV113, ↓mR113, ↓mA114, ↓mS114, ↓mL114, ↓mA115, ↓mS115, ↓mL115, ↓mA116, ↓mS116, ↓mL116, ↓mA117, ↓mS117, ↓mL117, ↓mA118, ↓mS118, ↓mL118, ↓mA119, ↓mS119, ↓mL119, ↓mA120, ↓mS120, ↓mL120, ↓mA121, ↓mS121, ↓mL121, ↓mA122, ↓mS122, ↓mL122, ↓mA123, ↓mS123, ↓mL123, ↓mA124, ↓mS124, ↓mL124, ↓mA125, ↓mS125, ↓mL125, ↓mA126, ↓mS126, ↓mL126, ↓mP113_1, ↓mP113_2, ↓mP113_4, ↓mP113_11, ↓mP113_12, ↓mP113_16, ↓mP113_17, ↓mP113_18, ↓mP113_24, ↓mP113_25, ↓mP113_29, ↓mP113_30, c26, b1]
          · by_cases c3 : m < m3
            · refine gg 1 (Or.inr rfl) ⟨fun _ => by unfold btr; omega, fun _ => rfl⟩ ?_
              clear gg no
              rw [X12_plans_L110_s]
              unfold X12_plans_L365 X12_plans_L370
              simp (disch := (first | assumption | with_reducible rfl | (simp only [LayC_sI, LayC_sJ, LayC_sA, LayC_sB, LayC_sIr, LayC_exc, LayM_sI, LayM_sJ, LayM_sA, LayM_sB, LayM_sIr, LayM_exc, LayK_sI, LayK_sJ, LayK_sA, LayK_sB, LayK_sIr, LayK_exc]; assumption) | omega | decide | (simp (disch := (first | decide | omega)) only [gI_sJ, gI_sB, gI_sP, gI_exc, gI_sIe, aI_sJ, aI_sB, aI_sP, aI_exc, aI_sAe, aJ_sI, aJ_sA, aJ_sP, aJ_sIr, aJ_exc, aJ_sBe, gJ_sI, gJ_sA, gJ_sP, gJ_sIr, gJ_exc, gP_sI, gP_sJ, gP_sA, gP_sB, gP_sIr, gP_exc, gI_sIn, gI_sIk, gI_sAn, gI_sIrn, aI_sIn, aI_sAn, aI_sIrn, aI_sAk, aJ_sJn, aJ_sBn, gJ_sJn, gJ_sBn, gJ_sJe, gS_sI, gS_sJ, gS_sP, gS_sA, gS_sB, gS_sIr, gS_exc, w32i, w64i]; first | done | assumption | omega))) only [↓b_xbs, ↓b_xthr, ↓b_xthl, ↓b_xctr, ↓b_xctl, ↓b_xz, ↓b_xzX, ↓b_xd, ↓if_pos, ↓if_neg, ↓mI113, ↓mW113, ↓mZ113, ↓mJ113, ↓mV113, ↓mR113, ↓mA114, ↓mS114, ↓mL114, ↓mA115, ↓mS115, ↓mL115, ↓mA116, ↓mS116, ↓mL116, ↓mA117, ↓mS117, ↓mL117, ↓mA118, ↓mS118, ↓mL118, ↓mA119, ↓mS119, ↓mL119, ↓mA120, ↓mS120, ↓mL120, ↓mA121, ↓mS121, ↓mL121, ↓mA122, ↓mS122, ↓mL122, ↓mA123, ↓mS123, ↓mL123, ↓mA124, ↓mS124, ↓mL124, ↓mA125, ↓mS125, ↓mL125, ↓mA126, ↓mS126, ↓mL126, ↓mP113_1, ↓mP113_2, ↓mP113_4, ↓mP113_11, ↓mP113_12, ↓mP113_16, ↓mP113_17, ↓mP113_18, ↓mP113_24, ↓mP113_25, ↓mP113_29, ↓mP113_30, c26, b1]
            · by_cases c4 : m = m3 ∧ u < m4
              · obtain ⟨c5, c6⟩ := c4
                refine gg 1 (Or.inr rfl) ⟨fun _ => by unfold btr; omega, fun _ => rfl⟩ ?_
                clear gg no
                have c7 : ¬ m4 ≤ u := by omega
                rw [X12_plans_L110_s]
                unfold X12_plans_L365 X12_plans_L370
                simp (disch := (first | assumption | with_reducible rfl | (simp only [LayC_sI, LayC_sJ, LayC_sA, LayC_sB, LayC_sIr, LayC_exc, LayM_sI, LayM_sJ, LayM_sA, LayM_sB, LayM_sIr, LayM_exc, LayK_sI, LayK_sJ, LayK_sA, LayK_sB, LayK_sIr, LayK_exc]; assumption) | omega | decide | (simp (disch := (first | decide | omega)) only [gI_sJ, gI_sB, gI_sP, gI_exc, gI_sIe, aI_sJ, aI_sB, aI_sP, aI_exc, aI_sAe, aJ_sI, aJ_sA, aJ_sP, aJ_sIr, aJ_exc, aJ_sBe, gJ_sI, gJ_sA, gJ_sP, gJ_sIr, gJ_exc, gP_sI, gP_sJ, gP_sA, gP_sB, gP_sIr, gP_exc, gI_sIn, gI_sIk, gI_sAn, gI_sIrn, aI_sIn, aI_sAn, aI_sIrn, aI_sAk, aJ_sJn, aJ_sBn, gJ_sJn, gJ_sBn, gJ_sJe, gS_sI, gS_sJ, gS_sP, gS_sA, gS_sB, gS_sIr, gS_exc, w32i, w64i]; first | done | assumption | omega))) only [↓b_xbs, ↓b_xthr, ↓b_xthl, ↓b_xctr, ↓b_xctl, ↓b_xz, ↓b_xzX, ↓b_xd, ↓if_pos, ↓if_neg, ↓mI113, ↓mW113, ↓mZ113, ↓mJ113, ↓mV113, ↓mR113, ↓mA114, ↓mS114, ↓mL114, ↓mA115, ↓mS115, ↓mL115, ↓mA116, ↓mS116, ↓mL116, ↓mA117, ↓mS117, ↓mL117, ↓mA118, ↓mS118, ↓mL118, ↓mA119, ↓mS119, ↓mL119, ↓mA120, ↓mS120, ↓mL120, ↓mA121, ↓mS121, ↓mL121, ↓mA122, ↓mS122, ↓mL122, ↓mA123, ↓mS123, ↓mL123, ↓mA124, ↓mS124, ↓mL124, ↓mA125, ↓mS125, ↓mL125, ↓mA126, ↓mS126, ↓mL126, ↓mP113_1, ↓mP113_2, ↓mP113_4, ↓mP113_11, ↓mP113_12, ↓mP113_16, ↓mP113_17, ↓mP113_18, ↓mP113_24, ↓mP113_25, ↓mP113_29, ↓mP113_30, c26, b1]
              · refine gg 0 (Or.inl rfl) ⟨fun q => absurd q (by decide), fun q => by unfold btr at q; omega⟩ ?_
                clear gg no
                rw [X12_plans_L110_s]
                unfold X12_plans_L369 X12_plans_L370
                by_cases c5 : m = m3
                · have c7 : m4 ≤ u := by omega
                  simp (disch := (first | assumption | with_reducible rfl | (simp only [LayC_sI, LayC_sJ, LayC_sA, LayC_sB, LayC_sIr, LayC_exc, LayM_sI, LayM_sJ, LayM_sA, LayM_sB, LayM_sIr, LayM_exc, LayK_sI, LayK_sJ, LayK_sA, LayK_sB, LayK_sIr, LayK_exc]; assumption) | omega | decide | (simp (disch := (first | decide | omega)) only [gI_sJ, gI_sB, gI_sP, gI_exc, gI_sIe, aI_sJ, aI_sB, aI_sP, aI_exc, aI_sAe, aJ_sI, aJ_sA, aJ_sP, aJ_sIr, aJ_exc, aJ_sBe, gJ_sI, gJ_sA, gJ_sP, gJ_sIr, gJ_exc, gP_sI, gP_sJ, gP_sA, gP_sB, gP_sIr, gP_exc, gI_sIn, gI_sIk, gI_sAn, gI_sIrn, aI_sIn, aI_sAn, aI_sIrn, aI_sAk, aJ_sJn, aJ_sBn, gJ_sJn, gJ_sBn, gJ_sJe, gS_sI, gS_sJ, gS_sP, gS_sA, gS_sB, gS_sIr, gS_exc, w32i, w64i]; first | done | assumption | omega))) only [↓b_xbs, ↓b_xthr, ↓b_xthl, ↓b_xctr, ↓b_xctl, ↓b_xz, ↓b_xzX, ↓b_xd, ↓if_pos, ↓if_neg, ↓mI113, ↓mW113, ↓mZ113, ↓mJ113, ↓mV113, ↓mR113, ↓mA114, ↓mS114, ↓mL114, ↓mA115, ↓mS115, ↓mL115, ↓mA116, ↓mS116, ↓mL116, ↓mA117, ↓mS117, ↓mL117, ↓mA118, ↓mS118, ↓mL118, ↓mA119, ↓mS119, ↓mL119, ↓mA120, ↓mS120, ↓mL120, ↓mA121, ↓mS121, ↓mL121, ↓mA122, ↓mS122, ↓mL122, ↓mA123, ↓mS123, ↓mL123, ↓mA124, ↓mS124, ↓mL124, ↓mA125, ↓mS125, ↓mL125, ↓mA126, ↓mS126, ↓mL126, ↓mP113_1, ↓mP113_2, ↓mP113_4, ↓mP113_11, ↓mP113_12, ↓mP113_16, ↓mP113_17, ↓mP113_18, ↓mP113_24, ↓mP113_25, ↓mP113_29, ↓mP113_30, c26, b1]
                · simp (disch := (first | assumption | with_reducible rfl | (simp only [LayC_sI, LayC_sJ, LayC_sA, LayC_sB, LayC_sIr, LayC_exc, LayM_sI, LayM_sJ, LayM_sA, LayM_sB, LayM_sIr, LayM_exc, LayK_sI, LayK_sJ, LayK_sA, LayK_sB, LayK_sIr, LayK_exc]; assumption) | omega | decide | (simp (disch := (first | decide | omega)) only [gI_sJ, gI_sB, gI_sP, gI_exc, gI_sIe, aI_sJ, aI_sB, aI_sP, aI_exc, aI_sAe, aJ_sI, aJ_sA, aJ_sP, aJ_sIr, aJ_exc, aJ_sBe, gJ_sI, gJ_sA, gJ_sP, gJ_sIr, gJ_exc, gP_sI, gP_sJ, gP_sA, gP_sB, gP_sIr, gP_exc, gI_sIn, gI_sIk, gI_sAn, gI_sIrn, aI_sIn, aI_sAn, aI_sIrn, aI_sAk, aJ_sJn, aJ_sBn, gJ_sJn, gJ_sBn, gJ_sJe, gS_sI, gS_sJ, gS_sP, gS_sA, gS_sB, gS_sIr, gS_exc, w32i, w64i]; first | done | assumption | omega))) only [↓b_xbs, ↓b_xthr, ↓b_xthl, ↓b_xctr, ↓b_xctl, ↓b_xz, ↓b_xzX, ↓b_xd, ↓if_pos, ↓if_neg, ↓mI113, ↓mW113, ↓mZ113, ↓mJ113, ↓mV113, ↓mR113, ↓mA114, ↓mS114, ↓mL114, ↓mA115, ↓mS115, ↓mL115, ↓mA116, ↓mS116, ↓mL116, ↓mA117, ↓mS117, ↓mL117, ↓mA118, ↓mS118, ↓mL118, ↓mA119, ↓mS119, ↓mL119, ↓mA120, ↓mS120, ↓mL120, ↓mA121, ↓mS121, ↓mL121, ↓mA122, ↓mS122, ↓mL122, ↓mA123, ↓mS123, ↓mL123, ↓mA124, ↓mS124, ↓mL124, ↓mA125, ↓mS125, ↓mL125, ↓mA126, ↓mS126, ↓mL126, ↓mP113_1, ↓mP113_2, ↓mP113_4, ↓mP113_11, ↓mP113_12, ↓mP113_16, ↓mP113_17, ↓mP113_18, ↓mP113_24, ↓mP113_25, ↓mP113_29, ↓mP113_30, c26, b1]
        · refine no (fun q => by have := q.2; unfold btr at this; omega) ?_
          clear no go
          rw [X12_plans_L110_s]
          simp (disch := (first | assumption | with_reducible rfl | (simp only [LayC_sI, LayC_sJ, LayC_sA, LayC_sB, LayC_sIr, LayC_exc, LayM_sI, LayM_sJ, LayM_sA, LayM_sB, LayM_sIr, LayM_exc, LayK_sI, LayK_sJ, LayK_sA, LayK_sB, LayK_sIr, LayK_exc]; assumption) | omega | decide | (simp (disch := (first | decide | omega)) only [gI_sJ, gI_sB, gI_sP, gI_exc, gI_sIe, aI_sJ, aI_sB, aI_sP, aI_exc, aI_sAe, aJ_sI, aJ_sA, aJ_sP, aJ_sIr, aJ_exc, aJ_sBe, gJ_sI, gJ_sA, gJ_sP, gJ_sIr, gJ_exc, gP_sI, gP_sJ, gP_sA, gP_sB, gP_sIr, gP_exc, gI_sIn, gI_sIk, gI_sAn, gI_sIrn, aI_sIn, aI_sAn, aI_sIrn, aI_sAk, aJ_sJn, aJ_sBn, gJ_sJn, gJ_sBn, gJ_sJe, gS_sI, gS_sJ, gS_sP, gS_sA, gS_sB, gS_sIr, gS_exc, w32i, w64i]; first | done | assumption | omega))) only [↓b_xbs, ↓b_xthr, ↓b_xthl, ↓b_xctr, ↓b_xctl, ↓b_xz, ↓b_xzX, ↓b_xd, ↓if_pos, ↓if_neg, ↓mI113, ↓mW113, ↓mZ113, ↓mJ113, ↓mV113, ↓mR113, ↓mA114, ↓mS114, ↓mL114, ↓mA115, ↓mS115, ↓mL115, ↓mA116, ↓mS116, ↓mL116, ↓mA117, ↓mS117, ↓mL117, ↓mA118, ↓mS118, ↓mL118, ↓mA119, ↓mS119, ↓mL119, ↓mA120, ↓mS120, ↓mL120, ↓mA121, ↓mS121, ↓mL121, ↓mA122, ↓mS122, ↓mL122, ↓mA123, ↓mS123, ↓mL123, ↓mA124, ↓mS124, ↓mL124, ↓mA125, ↓mS125, ↓mL125, ↓mA126, ↓mS126, ↓mL126, ↓mP113_1, ↓mP113_2, ↓mP113_4, ↓mP113_11, ↓mP113_12, ↓mP113_16, ↓mP113_17, ↓mP113_18, ↓mP113_24, ↓mP113_25, ↓mP113_29, ↓mP113_30, c26, b1]
      · refine no (fun q => by have := q.1.2.2.1; rw [← hu] at this; omega) ?_
        clear no go
        rw [X12_plans_L110_s]
        simp (disch := (first | assumption | with_reducible rfl | (simp only [LayC_sI, LayC_sJ, LayC_sA, LayC_sB, LayC_sIr, LayC_exc, LayM_sI, LayM_sJ, LayM_sA, LayM_sB, LayM_sIr, LayM_exc, LayK_sI, LayK_sJ, LayK_sA, LayK_sB, LayK_sIr, LayK_exc]; assumption) | omega | decide | (simp (disch := (first | decide | omega)) only [gI_sJ, gI_sB, gI_sP, gI_exc, gI_sIe, aI_sJ, aI_sB, aI_sP, aI_exc, aI_sAe, aJ_sI, aJ_sA, aJ_sP, aJ_sIr, aJ_exc, aJ_sBe, gJ_sI, gJ_sA, gJ_sP, gJ_sIr, gJ_exc, gP_sI, gP_sJ, gP_sA, gP_sB, gP_sIr, gP_exc, gI_sIn, gI_sIk, gI_sAn, gI_sIrn, aI_sIn, aI_sAn, aI_sIrn, aI_sAk, aJ_sJn, aJ_sBn, gJ_sJn, gJ_sBn, gJ_sJe, gS_sI, gS_sJ, gS_sP, gS_sA, gS_sB, gS_sIr, gS_exc, w32i, w64i]; first | done | assumption | omega))) only [↓b_xbs, ↓b_xthr, ↓b_xthl, ↓b_xctr, ↓b_xctl, ↓b_xz, ↓b_xzX, ↓b_xd, ↓if_pos, ↓if_neg, ↓mI113, ↓mW113, ↓mZ113, ↓mJ113, ↓mV113, ↓mR113, ↓mA114, ↓mS114, ↓mL114, ↓mA115, ↓mS115, ↓mL115, ↓mA116, ↓mS116, ↓mL116, ↓mA117, ↓mS117, ↓mL117, ↓mA118, ↓mS118, ↓mL118, ↓mA119, ↓mS119, ↓mL119, ↓mA120, ↓mS120, ↓mL120, ↓mA121, ↓mS121, ↓mL121, ↓mA122, ↓mS122, ↓mL122, ↓mA123, ↓mS123, ↓mL123, ↓mA124, ↓mS124, ↓mL124, ↓mA125, ↓mS125, ↓mL125, ↓mA126, ↓mS126, ↓mL126, ↓mP113_1, ↓mP113_2, ↓mP113_4, ↓mP113_11, ↓mP113_12, ↓mP113_16, ↓mP113_17, ↓mP113_18, ↓mP113_24, ↓mP113_25, ↓mP113_29, ↓mP113_30, c26]
    · refine no (fun q => by have := q.1.2.1; rw [← hm] at this; omega) ?_
      clear no go
      rw [X12_plans_L110_s]
      simp (disch := (first | assumption | with_reducible rfl | (simp only [LayC_sI, LayC_sJ, LayC_sA, LayC_sB, LayC_sIr, LayC_exc, LayM_sI, LayM_sJ, LayM_sA, LayM_sB, LayM_sIr, LayM_exc, LayK_sI, LayK_sJ, LayK_sA, LayK_sB, LayK_sIr, LayK_exc]; assumption) | omega | decide | (simp (disch := (first | decide | omega)) only [gI_sJ, gI_sB, gI_sP, gI_exc, gI_sIe, aI_sJ, aI_sB, aI_sP, aI_exc, aI_sAe, aJ_sI, aJ_sA, aJ_sP, aJ_sIr, aJ_exc, aJ_sBe, gJ_sI, gJ_sA, gJ_sP, gJ_sIr, gJ_exc, gP_sI, gP_sJ, gP_sA, gP_sB, gP_sIr, gP_exc, gI_sIn, gI_sIk, gI_sAn, gI_sIrn, aI_sIn, aI_sAn, aI_sIrn, aI_sAk, aJ_sJn, aJ_sBn, gJ_sJn, gJ_sBn, gJ_sJe, gS_sI, gS_sJ, gS_sP, gS_sA, gS_sB, gS_sIr, gS_exc, w32i, w64i]; first | done | assumption | omega))) only [↓b_xbs, ↓b_xthr, ↓b_xthl, ↓b_xctr, ↓b_xctl, ↓b_xz, ↓b_xzX, ↓b_xd, ↓if_pos, ↓if_neg, ↓mI113, ↓mW113, ↓mZ113, ↓mJ113, ↓mV113, ↓mR113, ↓mA114, ↓mS114, ↓mL114, ↓mA115, ↓mS115, ↓mL115, ↓mA116, ↓mS116, ↓mL116, ↓mA117, ↓mS117, ↓mL117, ↓mA118, ↓mS118, ↓mL118, ↓mA119, ↓mS119, ↓mL119, ↓mA120, ↓mS120, ↓mL120, ↓mA121, ↓mS121, ↓mL121, ↓mA122, ↓mS122, ↓mL122, ↓mA123, ↓mS123, ↓mL123, ↓mA124, ↓mS124, ↓mL124, ↓mA125, ↓mS125, ↓mL125, ↓mA126, ↓mS126, ↓mL126, ↓mP113_1, ↓mP113_2, ↓mP113_4, ↓mP113_11, ↓mP113_12, ↓mP113_16, ↓mP113_17, ↓mP113_18, ↓mP113_24, ↓mP113_25, ↓mP113_29, ↓mP113_30, c26]
  · refine no (fun q => cz (q3.mpr q.1.1)) ?_
    have c0 : cn = 0 := q2.resolve_right cz
    clear no go
    rw [X12_plans_L110_s]
    simp (disch := (first | assumption | with_reducible rfl | (simp only [LayC_sI, LayC_sJ, LayC_sA, LayC_sB, LayC_sIr, LayC_exc, LayM_sI, LayM_sJ, LayM_sA, LayM_sB, LayM_sIr, LayM_exc, LayK_sI, LayK_sJ, LayK_sA, LayK_sB, LayK_sIr, LayK_exc]; assumption) | omega | decide | (simp (disch := (first | decide | omega)) only [gI_sJ, gI_sB, gI_sP, gI_exc, gI_sIe, aI_sJ, aI_sB, aI_sP, aI_exc, aI_sAe, aJ_sI, aJ_sA, aJ_sP, aJ_sIr, aJ_exc, aJ_sBe, gJ_sI, gJ_sA, gJ_sP, gJ_sIr, gJ_exc, gP_sI, gP_sJ, gP_sA, gP_sB, gP_sIr, gP_exc, gI_sIn, gI_sIk, gI_sAn, gI_sIrn, aI_sIn, aI_sAn, aI_sIrn, aI_sAk, aJ_sJn, aJ_sBn, gJ_sJn, gJ_sBn, gJ_sJe, gS_sI, gS_sJ, gS_sP, gS_sA, gS_sB, gS_sIr, gS_exc, w32i, w64i]; first | done | assumption | omega))) only [↓b_xbs, ↓b_xthr, ↓b_xthl, ↓b_xctr, ↓b_xctl, ↓b_xz, ↓b_xzX, ↓b_xd, ↓if_pos, ↓if_neg, ↓mI113, ↓mW113, ↓mZ113, ↓mJ113, ↓mV113, ↓mR113, ↓mA114, ↓mS114, ↓mL114, ↓mA115, ↓mS115, ↓mL115, ↓mA116, ↓mS116, ↓mL116, ↓mA117, ↓mS117, ↓mL117, ↓mA118, ↓mS118, ↓mL118, ↓mA119, ↓mS119, ↓mL119, ↓mA120, ↓mS120, ↓mL120, ↓mA121, ↓mS121, ↓mL121, ↓mA122, ↓mS122, ↓mL122, ↓mA123, ↓mS123, ↓mL123, ↓mA124, ↓mS124, ↓mL124, ↓mA125, ↓mS125, ↓mL125, ↓mA126, ↓mS126, ↓mL126, ↓mP113_1, ↓mP113_2, ↓mP113_4, ↓mP113_11, ↓mP113_12, ↓mP113_16, ↓mP113_17, ↓mP113_18, ↓mP113_24, ↓mP113_25, ↓mP113_29, ↓mP113_30, c26]
theorem E_l79 (g : JgW W) (hJ : ∀ j ∈ J, (j : Int) < W 8) (hl : J.length ≤ 7) (hF : 20 ≤ F) : ∀ (m c k : Nat) (B : Bst) (m3 m4 : Int) (h : HP), m < k → c + m = 4 ^ J.length → NdM W J h → BsM J.length B m3 m4 h → ∃ h' m3' m4', X12_plans_L79 F k 113 M C m3 m4 c h = some ((), h') ∧ NdM W J h' ∧ BsM J.length (lpB (fun B c => upB (wsP W J) (msP W J) (hsP W J) (haP W J) (blP W J) M C B (dgs J.length c)) m c B) m3' m4' h' ∧ (∀ a, a ≠ 113 → gI h' a = gI h a) ∧ (∀ k, k ≠ 27 → k ≠ 28 → gI h' 113 k = gI h 113 k) ∧ h'.2 = h.2 := by
  have e4 : ∀ q : Nat, q ≤ 7 → xshl 1 (w32 (2 * (q : Int))) = ((4 ^ q : Nat) : Int) ∧ 4 ^ q ≤ 16384 := by
    intro q hq
    have : q = 0 ∨ q = 1 ∨ q = 2 ∨ q = 3 ∨ q = 4 ∨ q = 5 ∨ q = 6 ∨ q = 7 := by omega
    rcases this with rfl | rfl | rfl | rfl | rfl | rfl | rfl | rfl <;> exact ⟨by decide +kernel, by decide⟩
  obtain ⟨x1, x2⟩ := e4 J.length hl
  intro m
  induction m with
  | zero =>
    intro c k B m3 m4 h hk hc n b
    obtain ⟨k, rfl⟩ : ∃ k', k = k' + 1 := ⟨k - 1, by omega⟩
    refine ⟨h, m3, m4, ?_, n, b, fun _ _ => rfl, fun _ _ _ => rfl, rfl⟩
    have L := n.1
    have c26 := n.2.2.1
    rw [X12_plans_L79_s, mI113 h 26 _ L, c26, x1, if_pos (by omega)]
  | succ m ih =>
    intro c k B m3 m4 h hk hc n b
    obtain ⟨k, rfl⟩ : ∃ k', k = k' + 1 := ⟨k - 1, by omega⟩
    obtain ⟨p3, p4, h1, a1, a2, a3, a4, a5, a6⟩ := E_code (F := F) (M := M) (C := C) g hJ hl hF n c (by omega) (X12_plans_L79 F k) B m3 m4 b
    obtain ⟨h', q3, q4, b1, b2, b3, b4, b5, b6⟩ := ih (c + 1) k _ p3 p4 h1 (by omega) (by omega) a2 a3
    refine ⟨h', q3, q4, ?_, b2, b3, fun a ha => (b4 a ha).trans (a4 a ha), fun k k1 k2 => (b5 k k1 k2).trans (a5 k k1 k2), b6.trans a6⟩
    have L := n.1
    have c26 := n.2.2.1
    rw [← b1, ← a1, X12_plans_L79_s, mI113 h 26 _ L, c26, x1, if_neg (by omega)]
end PZ
