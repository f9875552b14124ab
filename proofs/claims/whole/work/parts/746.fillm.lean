section FM
variable {F : Nat} {h : HP} {W : Int → Int}
theorem xcmp_ge (a b : Int) : 0 ≤ xcmp a b ↔ b ≤ a := by
  unfold xcmp
  split
  · omega
  · split <;> omega
/-- what the reference's parts ask of the heap -/
def BkM (W : Int → Int) (h : HP) : Prop := LayM h ∧ aI h 114 = W ∧ BkW W
theorem BkM.oj {a0 : Nat} {h h' : HP} (o : Oj a0 h h') (b : BkM W h) : BkM W h' := ⟨o.M b.1, by rw [o.i]; exact b.2.1, b.2.2⟩
theorem E_wantM (b : BkM W h) (s g : Int) (s0 : 0 ≤ s) (s1 : s < 4) (g0 : 0 ≤ g) (g1 : g < 4) : X12_wants F 113 s g h = some (mz W s g, h) := by
  obtain ⟨L, rW, bw⟩ := b
  have e : aI h 114 (9 + 4 * s + g) = W (9 + (4 * s + g)) := by rw [rW, Int.add_assoc]
  unfold X12_wants
  simp (disch := (first | assumption | with_reducible rfl | (simp only [LayC_sI, LayC_sJ, LayC_sA, LayC_sB, LayC_sIr, LayC_exc, LayM_sI, LayM_sJ, LayM_sA, LayM_sB, LayM_sIr, LayM_exc, LayK_sI, LayK_sJ, LayK_sA, LayK_sB, LayK_sIr, LayK_exc]; assumption) | omega | decide | (simp (disch := (first | decide | omega)) only [gI_sJ, gI_sB, gI_sP, gI_exc, gI_sIe, aI_sJ, aI_sB, aI_sP, aI_exc, aI_sAe, aJ_sI, aJ_sA, aJ_sP, aJ_sIr, aJ_exc, aJ_sBe, gJ_sI, gJ_sA, gJ_sP, gJ_sIr, gJ_exc, gP_sI, gP_sJ, gP_sA, gP_sB, gP_sIr, gP_exc, gI_sIn, gI_sIk, gI_sAn, gI_sIrn, aI_sIn, aI_sAn, aI_sIrn, aI_sAk, aJ_sJn, aJ_sBn, gJ_sJn, gJ_sBn, gJ_sJe, gS_sI, gS_sJ, gS_sP, gS_sA, gS_sB, gS_sIr, gS_exc, w32i, w64i]; first | done | assumption | omega))) only [↓b_xbs, ↓b_xthr, ↓b_xthl, ↓b_xctr, ↓b_xctl, ↓b_xz, ↓b_xzX, ↓b_xd, ↓if_pos, ↓if_neg, ↓mI113, ↓mW113, ↓mZ113, ↓mJ113, ↓mV113, ↓mR113, ↓mA114, ↓mS114, ↓mL114, ↓mA115, ↓mS115, ↓mL115, ↓mA116, ↓mS116, ↓mL116, ↓mA117, ↓mS117, ↓mL117, ↓mA118, ↓mS118, ↓mL118, ↓mA119, ↓mS119, ↓mL119, ↓mA120, ↓mS120, ↓mL120, ↓mA121, ↓mS121, ↓mL121, ↓mA122, ↓mS122, ↓mL122, ↓mA123, ↓mS123, ↓mL123, ↓mA124, ↓mS124, ↓mL124, ↓mA125, ↓mS125, ↓mL125, ↓mA126, ↓mS126, ↓mL126, ↓mP113_1, ↓mP113_2, ↓mP113_4, ↓mP113_11, ↓mP113_12, ↓mP113_16, ↓mP113_17, ↓mP113_18, ↓mP113_24, ↓mP113_25, ↓mP113_29, ↓mP113_30, w32i, e]; rfl
theorem E_nm1 (b : BkM W h) (k : Nat) (g s t : Int) (s0 : 0 ≤ s) (s1 : s < 4) (g0 : 0 ≤ g) (g1 : g < 4) : X12_numberOf_L5 F (k + 1) 113 g t s h = X12_numberOf_L5 F k 113 g (w64 (t + mz W s g)) (s + 1) h := by
  have e := E_wantM (F := F) b s g s0 s1 g0 g1
  have L := b.1
  have e1 : w32 (s + 1) = s + 1 := w32i _ (by omega) (by omega)
  rw [X12_numberOf_L5_s]
  simp (disch := (first | assumption | with_reducible rfl | (simp only [LayC_sI, LayC_sJ, LayC_sA, LayC_sB, LayC_sIr, LayC_exc, LayM_sI, LayM_sJ, LayM_sA, LayM_sB, LayM_sIr, LayM_exc, LayK_sI, LayK_sJ, LayK_sA, LayK_sB, LayK_sIr, LayK_exc]; assumption) | omega | decide | (simp (disch := (first | decide | omega)) only [gI_sJ, gI_sB, gI_sP, gI_exc, gI_sIe, aI_sJ, aI_sB, aI_sP, aI_exc, aI_sAe, aJ_sI, aJ_sA, aJ_sP, aJ_sIr, aJ_exc, aJ_sBe, gJ_sI, gJ_sA, gJ_sP, gJ_sIr, gJ_exc, gP_sI, gP_sJ, gP_sA, gP_sB, gP_sIr, gP_exc, gI_sIn, gI_sIk, gI_sAn, gI_sIrn, aI_sIn, aI_sAn, aI_sIrn, aI_sAk, aJ_sJn, aJ_sBn, gJ_sJn, gJ_sBn, gJ_sJe, gS_sI, gS_sJ, gS_sP, gS_sA, gS_sB, gS_sIr, gS_exc, w32i, w64i]; first | done | assumption | omega))) only [↓b_xbs, ↓b_xthr, ↓b_xthl, ↓b_xctr, ↓b_xctl, ↓b_xz, ↓b_xzX, ↓b_xd, ↓if_pos, ↓if_neg, ↓mI113, ↓mW113, ↓mZ113, ↓mJ113, ↓mV113, ↓mR113, ↓mA114, ↓mS114, ↓mL114, ↓mA115, ↓mS115, ↓mL115, ↓mA116, ↓mS116, ↓mL116, ↓mA117, ↓mS117, ↓mL117, ↓mA118, ↓mS118, ↓mL118, ↓mA119, ↓mS119, ↓mL119, ↓mA120, ↓mS120, ↓mL120, ↓mA121, ↓mS121, ↓mL121, ↓mA122, ↓mS122, ↓mL122, ↓mA123, ↓mS123, ↓mL123, ↓mA124, ↓mS124, ↓mL124, ↓mA125, ↓mS125, ↓mL125, ↓mA126, ↓mS126, ↓mL126, ↓mP113_1, ↓mP113_2, ↓mP113_4, ↓mP113_11, ↓mP113_12, ↓mP113_16, ↓mP113_17, ↓mP113_18, ↓mP113_24, ↓mP113_25, ↓mP113_29, ↓mP113_30, ↓b_xb _ _ _ _ e, e1]
theorem E_numM (hF : 6 ≤ F) (b : BkM W h) (g : Int) (g0 : 0 ≤ g) (g1 : g < 4) : X12_numberOf F 113 g h = some (nu W g, h) := by
  have bw := b.2.2
  have := mz_b bw 0 g (by decide) (by decide) g0 g1
  have := mz_b bw 1 g (by decide) (by decide) g0 g1
  have := mz_b bw 2 g (by decide) (by decide) g0 g1
  have := mz_b bw 3 g (by decide) (by decide) g0 g1
  have key : ∀ k, X12_numberOf_L5 F (k + 5) 113 g 0 0 h = some (nu W g, h) := by
    intro k
    rw [E_nm1 b (k + 4) g 0 _ (by decide) (by decide) g0 g1, E_nm1 b (k + 3) g (0 + 1) _ (by decide) (by decide) g0 g1, E_nm1 b (k + 2) g (0 + 1 + 1) _ (by decide) (by decide) g0 g1, E_nm1 b (k + 1) g (0 + 1 + 1 + 1) _ (by decide) (by decide) g0 g1, X12_numberOf_L5_s, if_pos (by decide)]
    show some (w64 (w64 (w64 (w64 (0 + mz W 0 g) + mz W 1 g) + mz W 2 g) + mz W 3 g), h) = _
    rw [w64i (0 + mz W 0 g) (by omega) (by omega), w64i (0 + mz W 0 g + mz W 1 g) (by omega) (by omega), w64i (0 + mz W 0 g + mz W 1 g + mz W 2 g) (by omega) (by omega), w64i _ (by omega) (by omega)]
    unfold nu; rw [Int.zero_add]
  have := key (F - 5)
  rw [show F - 5 + 5 = F by omega] at this
  exact this
theorem E_minM (hF : 6 ≤ F) (b : BkM W h) (g : Int) (g0 : 0 ≤ g) (g1 : g < 4) : X12_minutesOf F 113 g h = some (mn W g, h) := by
  have e := E_numM hF b g g0 g1
  obtain ⟨L, rW, bw⟩ := b
  obtain ⟨c5, c6, c7, c8, c9, c10, c11, c12⟩ := bw.2 g g0 g1
  have a0 : aI h 114 (11254 + 4 * g) = W (11254 + 4 * g) := by rw [rW]
  have a1 : aI h 114 (11254 + 4 * g + 1) = W (11254 + 4 * g + 1) := by rw [rW]
  have n := nu_b bw g g0 g1
  have q := mnq_b bw g g0 g1
  have m := mn_b bw g g0 g1
  have t1 : w64 (nu W g + W (11254 + 4 * g)) = nu W g + W (11254 + 4 * g) := w64i _ (by omega) (by omega)
  have t2 : w64 (nu W g + W (11254 + 4 * g) - 1) = nu W g + W (11254 + 4 * g) - 1 := w64i _ (by omega) (by omega)
  have t3 : w64 ((nu W g + W (11254 + 4 * g) - 1).tdiv (W (11254 + 4 * g))) = (nu W g + W (11254 + 4 * g) - 1) / W (11254 + 4 * g) := by
    rw [Int.tdiv_eq_ediv_of_nonneg (by omega)]; exact w64i _ (by omega) (by omega)
  have t4 : w64 ((nu W g + W (11254 + 4 * g) - 1) / W (11254 + 4 * g) * W (11254 + 4 * g + 1)) = mn W g := w64i _ (show _ ≤ mn W g by omega) (show mn W g < _ by omega)
  unfold X12_minutesOf
  simp (disch := (first | assumption | with_reducible rfl | (simp only [LayC_sI, LayC_sJ, LayC_sA, LayC_sB, LayC_sIr, LayC_exc, LayM_sI, LayM_sJ, LayM_sA, LayM_sB, LayM_sIr, LayM_exc, LayK_sI, LayK_sJ, LayK_sA, LayK_sB, LayK_sIr, LayK_exc]; assumption) | omega | decide | (simp (disch := (first | decide | omega)) only [gI_sJ, gI_sB, gI_sP, gI_exc, gI_sIe, aI_sJ, aI_sB, aI_sP, aI_exc, aI_sAe, aJ_sI, aJ_sA, aJ_sP, aJ_sIr, aJ_exc, aJ_sBe, gJ_sI, gJ_sA, gJ_sP, gJ_sIr, gJ_exc, gP_sI, gP_sJ, gP_sA, gP_sB, gP_sIr, gP_exc, gI_sIn, gI_sIk, gI_sAn, gI_sIrn, aI_sIn, aI_sAn, aI_sIrn, aI_sAk, aJ_sJn, aJ_sBn, gJ_sJn, gJ_sBn, gJ_sJe, gS_sI, gS_sJ, gS_sP, gS_sA, gS_sB, gS_sIr, gS_exc, w32i, w64i]; first | done | assumption | omega))) only [↓b_xbs, ↓b_xthr, ↓b_xthl, ↓b_xctr, ↓b_xctl, ↓b_xz, ↓b_xzX, ↓b_xd, ↓if_pos, ↓if_neg, ↓mI113, ↓mW113, ↓mZ113, ↓mJ113, ↓mV113, ↓mR113, ↓mA114, ↓mS114, ↓mL114, ↓mA115, ↓mS115, ↓mL115, ↓mA116, ↓mS116, ↓mL116, ↓mA117, ↓mS117, ↓mL117, ↓mA118, ↓mS118, ↓mL118, ↓mA119, ↓mS119, ↓mL119, ↓mA120, ↓mS120, ↓mL120, ↓mA121, ↓mS121, ↓mL121, ↓mA122, ↓mS122, ↓mL122, ↓mA123, ↓mS123, ↓mL123, ↓mA124, ↓mS124, ↓mL124, ↓mA125, ↓mS125, ↓mL125, ↓mA126, ↓mS126, ↓mL126, ↓mP113_1, ↓mP113_2, ↓mP113_4, ↓mP113_11, ↓mP113_12, ↓mP113_16, ↓mP113_17, ↓mP113_18, ↓mP113_24, ↓mP113_25, ↓mP113_29, ↓mP113_30, w32i, a0, ↓b_xb _ _ _ _ e, ↓b_xd, a1, t1, t2, t3, t4]
theorem E_wgtM (hF : 6 ≤ F) (b : BkM W h) (g : Int) (g0 : 0 ≤ g) (g1 : g < 4) : X12_weightOf F 113 g h = some (wg W g, h) := by
  have e := E_numM hF b g g0 g1
  obtain ⟨L, rW, bw⟩ := b
  have a2 : aI h 114 (11254 + 4 * g + 2) = W (11254 + 4 * g + 2) := by rw [rW]
  have m := wg_b bw g g0 g1
  have t4 : w64 (nu W g * W (11254 + 4 * g + 2)) = wg W g := w64i _ (show _ ≤ wg W g by omega) (show wg W g < _ by omega)
  unfold X12_weightOf
  simp (disch := (first | assumption | with_reducible rfl | (simp only [LayC_sI, LayC_sJ, LayC_sA, LayC_sB, LayC_sIr, LayC_exc, LayM_sI, LayM_sJ, LayM_sA, LayM_sB, LayM_sIr, LayM_exc, LayK_sI, LayK_sJ, LayK_sA, LayK_sB, LayK_sIr, LayK_exc]; assumption) | omega | decide | (simp (disch := (first | decide | omega)) only [gI_sJ, gI_sB, gI_sP, gI_exc, gI_sIe, aI_sJ, aI_sB, aI_sP, aI_exc, aI_sAe, aJ_sI, aJ_sA, aJ_sP, aJ_sIr, aJ_exc, aJ_sBe, gJ_sI, gJ_sA, gJ_sP, gJ_sIr, gJ_exc, gP_sI, gP_sJ, gP_sA, gP_sB, gP_sIr, gP_exc, gI_sIn, gI_sIk, gI_sAn, gI_sIrn, aI_sIn, aI_sAn, aI_sIrn, aI_sAk, aJ_sJn, aJ_sBn, gJ_sJn, gJ_sBn, gJ_sJe, gS_sI, gS_sJ, gS_sP, gS_sA, gS_sB, gS_sIr, gS_exc, w32i, w64i]; first | done | assumption | omega))) only [↓b_xbs, ↓b_xthr, ↓b_xthl, ↓b_xctr, ↓b_xctl, ↓b_xz, ↓b_xzX, ↓b_xd, ↓if_pos, ↓if_neg, ↓mI113, ↓mW113, ↓mZ113, ↓mJ113, ↓mV113, ↓mR113, ↓mA114, ↓mS114, ↓mL114, ↓mA115, ↓mS115, ↓mL115, ↓mA116, ↓mS116, ↓mL116, ↓mA117, ↓mS117, ↓mL117, ↓mA118, ↓mS118, ↓mL118, ↓mA119, ↓mS119, ↓mL119, ↓mA120, ↓mS120, ↓mL120, ↓mA121, ↓mS121, ↓mL121, ↓mA122, ↓mS122, ↓mL122, ↓mA123, ↓mS123, ↓mL123, ↓mA124, ↓mS124, ↓mL124, ↓mA125, ↓mS125, ↓mL125, ↓mA126, ↓mS126, ↓mL126, ↓mP113_1, ↓mP113_2, ↓mP113_4, ↓mP113_11, ↓mP113_12, ↓mP113_16, ↓mP113_17, ↓mP113_18, ↓mP113_24, ↓mP113_25, ↓mP113_29, ↓mP113_30, w32i, ↓b_xb _ _ _ _ e, a2, t4]
theorem E_lm1 (b : BkM W h) (k : Nat) (s g t : Int) (s0 : 0 ≤ s) (s1 : s < 4) (g0 : 0 ≤ g) (g1 : g < 4) (t0 : 0 ≤ t) (t1 : t ≤ 859000000000) : X12_loadOf_L5 F (k + 1) 113 s t g h = X12_loadOf_L5 F k 113 s (t + ld1 W s g) (g + 1) h := by
  have e := E_wantM (F := F) b s g s0 s1 g0 g1
  obtain ⟨L, rW, bw⟩ := b
  have a2 : aI h 114 (11254 + 4 * g + 2) = W (11254 + 4 * g + 2) := by rw [rW]
  have e1 : w32 (g + 1) = g + 1 := w32i _ (by omega) (by omega)
  have m := ld1_b bw s g s0 s1 g0 g1
  have t4 : w64 (mz W s g * W (11254 + 4 * g + 2)) = ld1 W s g := w64i _ (show _ ≤ ld1 W s g by omega) (show ld1 W s g < _ by omega)
  have t5 : w64 (t + ld1 W s g) = t + ld1 W s g := w64i _ (by omega) (by omega)
  have i2 : w32 (w32 (11254 + w32 (4 * g)) + 2) = 11254 + 4 * g + 2 := by
    rw [w32i (4 * g) (by omega) (by omega), w32i (11254 + 4 * g) (by omega) (by omega), w32i _ (by omega) (by omega)]
  rw [X12_loadOf_L5_s]
  simp (disch := (first | assumption | with_reducible rfl | (simp only [LayC_sI, LayC_sJ, LayC_sA, LayC_sB, LayC_sIr, LayC_exc, LayM_sI, LayM_sJ, LayM_sA, LayM_sB, LayM_sIr, LayM_exc, LayK_sI, LayK_sJ, LayK_sA, LayK_sB, LayK_sIr, LayK_exc]; assumption) | omega | decide | (simp (disch := (first | decide | omega)) only [gI_sJ, gI_sB, gI_sP, gI_exc, gI_sIe, aI_sJ, aI_sB, aI_sP, aI_exc, aI_sAe, aJ_sI, aJ_sA, aJ_sP, aJ_sIr, aJ_exc, aJ_sBe, gJ_sI, gJ_sA, gJ_sP, gJ_sIr, gJ_exc, gP_sI, gP_sJ, gP_sA, gP_sB, gP_sIr, gP_exc, gI_sIn, gI_sIk, gI_sAn, gI_sIrn, aI_sIn, aI_sAn, aI_sIrn, aI_sAk, aJ_sJn, aJ_sBn, gJ_sJn, gJ_sBn, gJ_sJe, gS_sI, gS_sJ, gS_sP, gS_sA, gS_sB, gS_sIr, gS_exc, w32i, w64i]; first | done | assumption | omega))) only [↓b_xbs, ↓b_xthr, ↓b_xthl, ↓b_xctr, ↓b_xctl, ↓b_xz, ↓b_xzX, ↓b_xd, ↓if_pos, ↓if_neg, ↓mI113, ↓mW113, ↓mZ113, ↓mJ113, ↓mV113, ↓mR113, ↓mA114, ↓mS114, ↓mL114, ↓mA115, ↓mS115, ↓mL115, ↓mA116, ↓mS116, ↓mL116, ↓mA117, ↓mS117, ↓mL117, ↓mA118, ↓mS118, ↓mL118, ↓mA119, ↓mS119, ↓mL119, ↓mA120, ↓mS120, ↓mL120, ↓mA121, ↓mS121, ↓mL121, ↓mA122, ↓mS122, ↓mL122, ↓mA123, ↓mS123, ↓mL123, ↓mA124, ↓mS124, ↓mL124, ↓mA125, ↓mS125, ↓mL125, ↓mA126, ↓mS126, ↓mL126, ↓mP113_1, ↓mP113_2, ↓mP113_4, ↓mP113_11, ↓mP113_12, ↓mP113_16, ↓mP113_17, ↓mP113_18, ↓mP113_24, ↓mP113_25, ↓mP113_29, ↓mP113_30, i2, ↓b_xb _ _ _ _ e, a2, t4, t5, e1]
theorem E_loadM (hF : 6 ≤ F) (b : BkM W h) (s : Int) (s0 : 0 ≤ s) (s1 : s < 4) : X12_loadOf F 113 s h = some (ld W s, h) := by
  have bw := b.2.2
  have m0 := ld1_b bw s 0 s0 s1 (by decide) (by decide)
  have m1 := ld1_b bw s 1 s0 s1 (by decide) (by decide)
  have m2 := ld1_b bw s 2 s0 s1 (by decide) (by decide)
  have m3 := ld1_b bw s 3 s0 s1 (by decide) (by decide)
  have key : ∀ k, X12_loadOf_L5 F (k + 5) 113 s 0 0 h = some (ld W s, h) := by
    intro k
    rw [E_lm1 b (k + 4) s 0 0 s0 s1 (by decide) (by decide) (by decide) (by decide), E_lm1 b (k + 3) s (0 + 1) _ s0 s1 (by decide) (by decide) (by omega) (by omega), E_lm1 b (k + 2) s (0 + 1 + 1) _ s0 s1 (by decide) (by decide) (by show 0 ≤ 0 + ld1 W s 0 + ld1 W s 1; omega) (by show 0 + ld1 W s 0 + ld1 W s 1 ≤ _; omega), E_lm1 b (k + 1) s (0 + 1 + 1 + 1) _ s0 s1 (by decide) (by decide) (by show 0 ≤ 0 + ld1 W s 0 + ld1 W s 1 + ld1 W s 2; omega) (by show 0 + ld1 W s 0 + ld1 W s 1 + ld1 W s 2 ≤ _; omega), X12_loadOf_L5_s, if_pos (by decide)]
    show some (0 + ld1 W s 0 + ld1 W s 1 + ld1 W s 2 + ld1 W s 3, h) = _
    rw [Int.zero_add]; rfl
  have := key (F - 5)
  rw [show F - 5 + 5 = F by omega] at this
  exact this
/-- the parts and the rooms of a filling -/
def flP (W : Int → Int) (v : Int) : Int → Int := if v = 0 then mn W else ld W
def flR (W : Int → Int) (v : Int) : Int → Int := fun k => if v = 0 then 0 else W (11270 + k)
theorem flP_b (b : BkW W) (v i : Int) (i0 : 0 ≤ i) (i1 : i < 4) : 0 ≤ flP W v i ∧ flP W v i ≤ 859000000000 := by
  unfold flP
  split
  · exact mn_b b i i0 i1
  · exact ld_b b i i0 i1
theorem E_f69 (hF : 6 ≤ F) (rc : Nat → Int → Int → Int → HP → Option (Int × HP)) (v best code : Int) : ∀ (m : Nat) (i w : Int) (k : Nat) (h : HP) (T : Int → Int), m < k → i + m = 4 → 0 ≤ i → 0 ≤ w → w ≤ 80 → BkM W h → (∀ k : Int, 0 ≤ k → k < 3 → aJ h 122 k = T k ∧ -100000000 ≤ T k ∧ T k ≤ i * 859000000000) → ∃ h', X12_fill_L69 F rc k 113 v best code w i h = X12_fill_L165 F rc 113 v code (if 0 ≤ best then min best (max 0 (max (adN (flP W v) m i w T 0) (max (adN (flP W v) m i w T 1) (adN (flP W v) m i w T 2)))) else max 0 (max (adN (flP W v) m i w T 0) (max (adN (flP W v) m i w T 1) (adN (flP W v) m i w T 2)))) h' ∧ Oj 122 h h' := by
  intro m
  induction m with
  | zero =>
    intro i w k h T hk hi i0 w0 w1 b ht
    obtain ⟨k, rfl⟩ : ∃ k', k = k' + 1 := ⟨k - 1, by omega⟩
    refine ⟨h, ?_, Oj.rf _ _⟩
    have L := b.1
    obtain ⟨a0, a1, a2⟩ := ht 0 (by decide) (by decide)
    obtain ⟨c0, c1, c2⟩ := ht 1 (by decide) (by decide)
    obtain ⟨d0, d1, d2⟩ := ht 2 (by decide) (by decide)
    have e0 : ∀ z, adN (flP W v) 0 i w T z = T z := fun z => rfl
    rw [e0, e0, e0, X12_fill_L69_s]
    by_cases c : 0 ≤ best
    · have c' : 0 ≤ xcmp best 0 := (xcmp_ge _ _).mpr c
      rw [if_pos c]
      simp (disch := (first | assumption | with_reducible rfl | (simp only [LayC_sI, LayC_sJ, LayC_sA, LayC_sB, LayC_sIr, LayC_exc, LayM_sI, LayM_sJ, LayM_sA, LayM_sB, LayM_sIr, LayM_exc, LayK_sI, LayK_sJ, LayK_sA, LayK_sB, LayK_sIr, LayK_exc]; assumption) | omega | decide | (simp (disch := (first | decide | omega)) only [gI_sJ, gI_sB, gI_sP, gI_exc, gI_sIe, aI_sJ, aI_sB, aI_sP, aI_exc, aI_sAe, aJ_sI, aJ_sA, aJ_sP, aJ_sIr, aJ_exc, aJ_sBe, gJ_sI, gJ_sA, gJ_sP, gJ_sIr, gJ_exc, gP_sI, gP_sJ, gP_sA, gP_sB, gP_sIr, gP_exc, gI_sIn, gI_sIk, gI_sAn, gI_sIrn, aI_sIn, aI_sAn, aI_sIrn, aI_sAk, aJ_sJn, aJ_sBn, gJ_sJn, gJ_sBn, gJ_sJe, gS_sI, gS_sJ, gS_sP, gS_sA, gS_sB, gS_sIr, gS_exc, w32i, w64i]; first | done | assumption | omega))) only [↓b_xbs, ↓b_xthr, ↓b_xthl, ↓b_xctr, ↓b_xctl, ↓b_xz, ↓b_xzX, ↓b_xd, ↓if_pos, ↓if_neg, ↓mI113, ↓mW113, ↓mZ113, ↓mJ113, ↓mV113, ↓mR113, ↓mA114, ↓mS114, ↓mL114, ↓mA115, ↓mS115, ↓mL115, ↓mA116, ↓mS116, ↓mL116, ↓mA117, ↓mS117, ↓mL117, ↓mA118, ↓mS118, ↓mL118, ↓mA119, ↓mS119, ↓mL119, ↓mA120, ↓mS120, ↓mL120, ↓mA121, ↓mS121, ↓mL121, ↓mA122, ↓mS122, ↓mL122, ↓mA123, ↓mS123, ↓mL123, ↓mA124, ↓mS124, ↓mL124, ↓mA125, ↓mS125, ↓mL125, ↓mA126, ↓mS126, ↓mL126, ↓mP113_1, ↓mP113_2, ↓mP113_4, ↓mP113_11, ↓mP113_12, ↓mP113_16, ↓mP113_17, ↓mP113_18, ↓mP113_24, ↓mP113_25, ↓mP113_29, ↓mP113_30, a0, c0, d0]
    · have c' : ¬ 0 ≤ xcmp best 0 := fun q => c ((xcmp_ge _ _).mp q)
      rw [if_neg c]
      simp (disch := (first | assumption | with_reducible rfl | (simp only [LayC_sI, LayC_sJ, LayC_sA, LayC_sB, LayC_sIr, LayC_exc, LayM_sI, LayM_sJ, LayM_sA, LayM_sB, LayM_sIr, LayM_exc, LayK_sI, LayK_sJ, LayK_sA, LayK_sB, LayK_sIr, LayK_exc]; assumption) | omega | decide | (simp (disch := (first | decide | omega)) only [gI_sJ, gI_sB, gI_sP, gI_exc, gI_sIe, aI_sJ, aI_sB, aI_sP, aI_exc, aI_sAe, aJ_sI, aJ_sA, aJ_sP, aJ_sIr, aJ_exc, aJ_sBe, gJ_sI, gJ_sA, gJ_sP, gJ_sIr, gJ_exc, gP_sI, gP_sJ, gP_sA, gP_sB, gP_sIr, gP_exc, gI_sIn, gI_sIk, gI_sAn, gI_sIrn, aI_sIn, aI_sAn, aI_sIrn, aI_sAk, aJ_sJn, aJ_sBn, gJ_sJn, gJ_sBn, gJ_sJe, gS_sI, gS_sJ, gS_sP, gS_sA, gS_sB, gS_sIr, gS_exc, w32i, w64i]; first | done | assumption | omega))) only [↓b_xbs, ↓b_xthr, ↓b_xthl, ↓b_xctr, ↓b_xctl, ↓b_xz, ↓b_xzX, ↓b_xd, ↓if_pos, ↓if_neg, ↓mI113, ↓mW113, ↓mZ113, ↓mJ113, ↓mV113, ↓mR113, ↓mA114, ↓mS114, ↓mL114, ↓mA115, ↓mS115, ↓mL115, ↓mA116, ↓mS116, ↓mL116, ↓mA117, ↓mS117, ↓mL117, ↓mA118, ↓mS118, ↓mL118, ↓mA119, ↓mS119, ↓mL119, ↓mA120, ↓mS120, ↓mL120, ↓mA121, ↓mS121, ↓mL121, ↓mA122, ↓mS122, ↓mL122, ↓mA123, ↓mS123, ↓mL123, ↓mA124, ↓mS124, ↓mL124, ↓mA125, ↓mS125, ↓mL125, ↓mA126, ↓mS126, ↓mL126, ↓mP113_1, ↓mP113_2, ↓mP113_4, ↓mP113_11, ↓mP113_12, ↓mP113_16, ↓mP113_17, ↓mP113_18, ↓mP113_24, ↓mP113_25, ↓mP113_29, ↓mP113_30, a0, c0, d0]
  | succ m ih =>
    intro i w k h T hk hi i0 w0 w1 b ht
    obtain ⟨k, rfl⟩ : ∃ k', k = k' + 1 := ⟨k - 1, by omega⟩
    have L := b.1
    have e1 : w32 (i + 1) = i + 1 := w32i _ (by omega) (by omega)
    have e2 : w32 (w.tdiv 3) = w / 3 := by rw [Int.tdiv_eq_ediv_of_nonneg w0]; exact w32i _ (by omega) (by omega)
    have ef : w.tmod 3 = w % 3 := Int.tmod_eq_emod_of_nonneg w0
    obtain ⟨d0, d1, d2⟩ := ht (w % 3) (by omega) (by omega)
    have p12 := flP_b b.2.2 v i i0 (by omega)
    have e3 : w64 (T (w % 3) + flP W v i) = T (w % 3) + flP W v i := w64i _ (by omega) (by omega)
    obtain ⟨h', a, o⟩ := ih (i + 1) (w / 3) k (sB h 122 (w % 3) (T (w % 3) + flP W v i)) (fun k => if k = w % 3 then T k + flP W v i else T k) (by omega) (by omega) (by omega) (by omega) (by omega) (b.oj (Oj.B 122 h _ _)) (fun k k0 k1 => by
      obtain ⟨z0, z1, z2⟩ := ht k k0 k1
      rw [aJ_sB _ _ _ _ _ (by omega) k0]
      show (if _ then _ else _) = (if _ then _ else _) ∧ -100000000 ≤ (if k = w % 3 then T k + flP W v i else T k) ∧ (if k = w % 3 then T k + flP W v i else T k) ≤ _
      by_cases c : k = w % 3
      · rw [if_pos c, if_pos c, c]; exact ⟨rfl, by omega, by omega⟩
      · rw [if_neg c, if_neg c]; exact ⟨z0, z1, by omega⟩)
    refine ⟨h', ?_, (Oj.B 122 h _ _).tr o⟩
    have e0 : ∀ z, adN (flP W v) (m + 1) i w T z = adN (flP W v) m (i + 1) (w / 3) (fun k => if k = w % 3 then T k + flP W v i else T k) z := fun z => rfl
    rw [e0, e0, e0, ← a, X12_fill_L69_s]
    unfold X12_fill_L104
    by_cases c : v = 0
    · have x := E_minM hF b i i0 (by omega)
      have ep : flP W v i = mn W i := by unfold flP; rw [if_pos c]
      rw [ep] at e3 ⊢
      simp (disch := (first | assumption | with_reducible rfl | (simp only [LayC_sI, LayC_sJ, LayC_sA, LayC_sB, LayC_sIr, LayC_exc, LayM_sI, LayM_sJ, LayM_sA, LayM_sB, LayM_sIr, LayM_exc, LayK_sI, LayK_sJ, LayK_sA, LayK_sB, LayK_sIr, LayK_exc]; assumption) | omega | decide | (simp (disch := (first | decide | omega)) only [gI_sJ, gI_sB, gI_sP, gI_exc, gI_sIe, aI_sJ, aI_sB, aI_sP, aI_exc, aI_sAe, aJ_sI, aJ_sA, aJ_sP, aJ_sIr, aJ_exc, aJ_sBe, gJ_sI, gJ_sA, gJ_sP, gJ_sIr, gJ_exc, gP_sI, gP_sJ, gP_sA, gP_sB, gP_sIr, gP_exc, gI_sIn, gI_sIk, gI_sAn, gI_sIrn, aI_sIn, aI_sAn, aI_sIrn, aI_sAk, aJ_sJn, aJ_sBn, gJ_sJn, gJ_sBn, gJ_sJe, gS_sI, gS_sJ, gS_sP, gS_sA, gS_sB, gS_sIr, gS_exc, w32i, w64i]; first | done | assumption | omega))) only [↓b_xbs, ↓b_xthr, ↓b_xthl, ↓b_xctr, ↓b_xctl, ↓b_xz, ↓b_xzX, ↓b_xd, ↓if_pos, ↓if_neg, ↓mI113, ↓mW113, ↓mZ113, ↓mJ113, ↓mV113, ↓mR113, ↓mA114, ↓mS114, ↓mL114, ↓mA115, ↓mS115, ↓mL115, ↓mA116, ↓mS116, ↓mL116, ↓mA117, ↓mS117, ↓mL117, ↓mA118, ↓mS118, ↓mL118, ↓mA119, ↓mS119, ↓mL119, ↓mA120, ↓mS120, ↓mL120, ↓mA121, ↓mS121, ↓mL121, ↓mA122, ↓mS122, ↓mL122, ↓mA123, ↓mS123, ↓mL123, ↓mA124, ↓mS124, ↓mL124, ↓mA125, ↓mS125, ↓mL125, ↓mA126, ↓mS126, ↓mL126, ↓mP113_1, ↓mP113_2, ↓mP113_4, ↓mP113_11, ↓mP113_12, ↓mP113_16, ↓mP113_17, ↓mP113_18, ↓mP113_24, ↓mP113_25, ↓mP113_29, ↓mP113_30, ef, d0, ↓b_xb _ _ _ _ x, e3, e1, e2]
    · have x := E_loadM hF b i i0 (by omega)
      have ep : flP W v i = ld W i := by unfold flP; rw [if_neg c]
      rw [ep] at e3 ⊢
      simp (disch := (first | assumption | with_reducible rfl | (simp only [LayC_sI, LayC_sJ, LayC_sA, LayC_sB, LayC_sIr, LayC_exc, LayM_sI, LayM_sJ, LayM_sA, LayM_sB, LayM_sIr, LayM_exc, LayK_sI, LayK_sJ, LayK_sA, LayK_sB, LayK_sIr, LayK_exc]; assumption) | omega | decide | (simp (disch := (first | decide | omega)) only [gI_sJ, gI_sB, gI_sP, gI_exc, gI_sIe, aI_sJ, aI_sB, aI_sP, aI_exc, aI_sAe, aJ_sI, aJ_sA, aJ_sP, aJ_sIr, aJ_exc, aJ_sBe, gJ_sI, gJ_sA, gJ_sP, gJ_sIr, gJ_exc, gP_sI, gP_sJ, gP_sA, gP_sB, gP_sIr, gP_exc, gI_sIn, gI_sIk, gI_sAn, gI_sIrn, aI_sIn, aI_sAn, aI_sIrn, aI_sAk, aJ_sJn, aJ_sBn, gJ_sJn, gJ_sBn, gJ_sJe, gS_sI, gS_sJ, gS_sP, gS_sA, gS_sB, gS_sIr, gS_exc, w32i, w64i]; first | done | assumption | omega))) only [↓b_xbs, ↓b_xthr, ↓b_xthl, ↓b_xctr, ↓b_xctl, ↓b_xz, ↓b_xzX, ↓b_xd, ↓if_pos, ↓if_neg, ↓mI113, ↓mW113, ↓mZ113, ↓mJ113, ↓mV113, ↓mR113, ↓mA114, ↓mS114, ↓mL114, ↓mA115, ↓mS115, ↓mL115, ↓mA116, ↓mS116, ↓mL116, ↓mA117, ↓mS117, ↓mL117, ↓mA118, ↓mS118, ↓mL118, ↓mA119, ↓mS119, ↓mL119, ↓mA120, ↓mS120, ↓mL120, ↓mA121, ↓mS121, ↓mL121, ↓mA122, ↓mS122, ↓mL122, ↓mA123, ↓mS123, ↓mL123, ↓mA124, ↓mS124, ↓mL124, ↓mA125, ↓mS125, ↓mL125, ↓mA126, ↓mS126, ↓mL126, ↓mP113_1, ↓mP113_2, ↓mP113_4, ↓mP113_11, ↓mP113_12, ↓mP113_16, ↓mP113_17, ↓mP113_18, ↓mP113_24, ↓mP113_25, ↓mP113_29, ↓mP113_30, ef, d0, ↓b_xb _ _ _ _ x, e3, e1, e2]
/-- the rooms are as they must be -/
def RmW (W : Int → Int) : Prop := ∀ k : Int, 0 ≤ k → k < 3 → 0 ≤ W (11270 + k) ∧ W (11270 + k) ≤ 100000000
theorem flR_b (q : RmW W) (v k : Int) (k0 : 0 ≤ k) (k1 : k < 3) : 0 ≤ flR W v k ∧ flR W v k ≤ 100000000 := by
  unfold flR
  have := q k k0 k1
  split <;> omega
theorem E_f22s (b : BkM W h) (q : RmW W) (rc : Nat → Int → Int → Int → HP → Option (Int × HP)) (v best code i : Int) (i0 : 0 ≤ i) (i1 : i < 3) (k : Nat) : X12_fill_L22 F rc (k + 1) 113 v best code i h = X12_fill_L22 F rc k 113 v best code (i + 1) (sB h 122 i (0 - flR W v i)) := by
  obtain ⟨L, rW, bw⟩ := b
  have e1 : w32 (i + 1) = i + 1 := w32i _ (by omega) (by omega)
  have e2 : w32 (11270 + i) = 11270 + i := w32i _ (by omega) (by omega)
  have a2 : aI h 114 (11270 + i) = W (11270 + i) := by rw [rW]
  have qi := q i i0 i1
  rw [X12_fill_L22_s]
  unfold X12_fill_L55 flR
  by_cases c : v = 0
  · rw [if_pos c]
    simp (disch := (first | assumption | with_reducible rfl | (simp only [LayC_sI, LayC_sJ, LayC_sA, LayC_sB, LayC_sIr, LayC_exc, LayM_sI, LayM_sJ, LayM_sA, LayM_sB, LayM_sIr, LayM_exc, LayK_sI, LayK_sJ, LayK_sA, LayK_sB, LayK_sIr, LayK_exc]; assumption) | omega | decide | (simp (disch := (first | decide | omega)) only [gI_sJ, gI_sB, gI_sP, gI_exc, gI_sIe, aI_sJ, aI_sB, aI_sP, aI_exc, aI_sAe, aJ_sI, aJ_sA, aJ_sP, aJ_sIr, aJ_exc, aJ_sBe, gJ_sI, gJ_sA, gJ_sP, gJ_sIr, gJ_exc, gP_sI, gP_sJ, gP_sA, gP_sB, gP_sIr, gP_exc, gI_sIn, gI_sIk, gI_sAn, gI_sIrn, aI_sIn, aI_sAn, aI_sIrn, aI_sAk, aJ_sJn, aJ_sBn, gJ_sJn, gJ_sBn, gJ_sJe, gS_sI, gS_sJ, gS_sP, gS_sA, gS_sB, gS_sIr, gS_exc, w32i, w64i]; first | done | assumption | omega))) only [↓b_xbs, ↓b_xthr, ↓b_xthl, ↓b_xctr, ↓b_xctl, ↓b_xz, ↓b_xzX, ↓b_xd, ↓if_pos, ↓if_neg, ↓mI113, ↓mW113, ↓mZ113, ↓mJ113, ↓mV113, ↓mR113, ↓mA114, ↓mS114, ↓mL114, ↓mA115, ↓mS115, ↓mL115, ↓mA116, ↓mS116, ↓mL116, ↓mA117, ↓mS117, ↓mL117, ↓mA118, ↓mS118, ↓mL118, ↓mA119, ↓mS119, ↓mL119, ↓mA120, ↓mS120, ↓mL120, ↓mA121, ↓mS121, ↓mL121, ↓mA122, ↓mS122, ↓mL122, ↓mA123, ↓mS123, ↓mL123, ↓mA124, ↓mS124, ↓mL124, ↓mA125, ↓mS125, ↓mL125, ↓mA126, ↓mS126, ↓mL126, ↓mP113_1, ↓mP113_2, ↓mP113_4, ↓mP113_11, ↓mP113_12, ↓mP113_16, ↓mP113_17, ↓mP113_18, ↓mP113_24, ↓mP113_25, ↓mP113_29, ↓mP113_30, e1]; rfl
  · have e3 : w32 (-W (11270 + i)) = 0 - W (11270 + i) := by rw [w32i _ (by omega) (by omega)]; omega
    rw [if_neg c]
    simp (disch := (first | assumption | with_reducible rfl | (simp only [LayC_sI, LayC_sJ, LayC_sA, LayC_sB, LayC_sIr, LayC_exc, LayM_sI, LayM_sJ, LayM_sA, LayM_sB, LayM_sIr, LayM_exc, LayK_sI, LayK_sJ, LayK_sA, LayK_sB, LayK_sIr, LayK_exc]; assumption) | omega | decide | (simp (disch := (first | decide | omega)) only [gI_sJ, gI_sB, gI_sP, gI_exc, gI_sIe, aI_sJ, aI_sB, aI_sP, aI_exc, aI_sAe, aJ_sI, aJ_sA, aJ_sP, aJ_sIr, aJ_exc, aJ_sBe, gJ_sI, gJ_sA, gJ_sP, gJ_sIr, gJ_exc, gP_sI, gP_sJ, gP_sA, gP_sB, gP_sIr, gP_exc, gI_sIn, gI_sIk, gI_sAn, gI_sIrn, aI_sIn, aI_sAn, aI_sIrn, aI_sAk, aJ_sJn, aJ_sBn, gJ_sJn, gJ_sBn, gJ_sJe, gS_sI, gS_sJ, gS_sP, gS_sA, gS_sB, gS_sIr, gS_exc, w32i, w64i]; first | done | assumption | omega))) only [↓b_xbs, ↓b_xthr, ↓b_xthl, ↓b_xctr, ↓b_xctl, ↓b_xz, ↓b_xzX, ↓b_xd, ↓if_pos, ↓if_neg, ↓mI113, ↓mW113, ↓mZ113, ↓mJ113, ↓mV113, ↓mR113, ↓mA114, ↓mS114, ↓mL114, ↓mA115, ↓mS115, ↓mL115, ↓mA116, ↓mS116, ↓mL116, ↓mA117, ↓mS117, ↓mL117, ↓mA118, ↓mS118, ↓mL118, ↓mA119, ↓mS119, ↓mL119, ↓mA120, ↓mS120, ↓mL120, ↓mA121, ↓mS121, ↓mL121, ↓mA122, ↓mS122, ↓mL122, ↓mA123, ↓mS123, ↓mL123, ↓mA124, ↓mS124, ↓mL124, ↓mA125, ↓mS125, ↓mL125, ↓mA126, ↓mS126, ↓mL126, ↓mP113_1, ↓mP113_2, ↓mP113_4, ↓mP113_11, ↓mP113_12, ↓mP113_16, ↓mP113_17, ↓mP113_18, ↓mP113_24, ↓mP113_25, ↓mP113_29, ↓mP113_30, e2, a2, e3, e1]
theorem E_f22 (hF : 6 ≤ F) (b : BkM W h) (q : RmW W) (rc : Nat → Int → Int → Int → HP → Option (Int × HP)) (v best code : Int) (w0 : 0 ≤ code) (w1 : code ≤ 80) : ∃ h', X12_fill_L22 F rc F 113 v best code 0 h = rc 113 v (if 0 ≤ best then min best (mxW (flP W v) (flR W v) code) else mxW (flP W v) (flR W v) code) (code + 1) h' ∧ Oj 122 h h' := by
  have o3 : Oj 122 h (sB (sB (sB h 122 0 (0 - flR W v 0)) 122 (0 + 1) (0 - flR W v (0 + 1))) 122 (0 + 1 + 1) (0 - flR W v (0 + 1 + 1))) := ((Oj.B 122 h _ _).tr (Oj.B 122 _ _ _)).tr (Oj.B 122 _ _ _)
  have b1 := b.oj (Oj.B 122 h 0 (0 - flR W v 0))
  have b2 := b1.oj (Oj.B 122 _ (0 + 1) (0 - flR W v (0 + 1)))
  have b3 := b2.oj (Oj.B 122 _ (0 + 1 + 1) (0 - flR W v (0 + 1 + 1)))
  obtain ⟨h', a, o⟩ := E_f69 (F := F) hF rc v best code 4 0 code F (sB (sB (sB h 122 0 (0 - flR W v 0)) 122 (0 + 1) (0 - flR W v (0 + 1))) 122 (0 + 1 + 1) (0 - flR W v (0 + 1 + 1))) (fun k => 0 - flR W v k) (by omega) (by omega) (by omega) w0 w1 b3 (fun k k0 k1 => by
    have := flR_b q v k k0 k1
    rw [aJ_sB _ _ _ _ _ (by decide) k0, aJ_sB _ _ _ _ _ (by decide) k0, aJ_sB _ _ _ _ _ (by decide) k0]
    show _ = 0 - flR W v k ∧ _ ≤ 0 - flR W v k ∧ 0 - flR W v k ≤ _
    refine ⟨?_, by omega, by omega⟩
    by_cases c2 : k = 0 + 1 + 1
    · rw [if_pos c2, c2]
    · rw [if_neg c2]
      by_cases c1 : k = 0 + 1
      · rw [if_pos c1, c1]
      · rw [if_neg c1, if_pos (by omega), show k = 0 by omega])
  refine ⟨h', ?_, o3.tr o⟩
  have e1 : w32 (code + 1) = code + 1 := w32i _ (by omega) (by omega)
  have em : max 0 (max (adN (flP W v) 4 0 code (fun k => 0 - flR W v k) 0) (max (adN (flP W v) 4 0 code (fun k => 0 - flR W v k) 1) (adN (flP W v) 4 0 code (fun k => 0 - flR W v k) 2))) = mxW (flP W v) (flR W v) code := by
    unfold mxW
    rw [adN_sub (flP W v) (flR W v) 4 0 code (fun _ => 0), adN_sub (flP W v) (flR W v) 4 0 code (fun _ => 0), adN_sub (flP W v) (flR W v) 4 0 code (fun _ => 0)]
  rw [em] at a
  unfold X12_fill_L165 at a
  rw [e1] at a
  rw [← a]
  have key : ∀ k, X12_fill_L22 F rc (k + 4) 113 v best code 0 h = X12_fill_L69 F rc F 113 v best code code 0 (sB (sB (sB h 122 0 (0 - flR W v 0)) 122 (0 + 1) (0 - flR W v (0 + 1))) 122 (0 + 1 + 1) (0 - flR W v (0 + 1 + 1))) := by
    intro k
    rw [E_f22s b q rc v best code 0 (by decide) (by decide) (k + 3), E_f22s b1 q rc v best code (0 + 1) (by decide) (by decide) (k + 2), E_f22s b2 q rc v best code (0 + 1 + 1) (by decide) (by decide) (k + 1), X12_fill_L22_s, if_pos (by decide)]
  have := key (F - 4)
  rw [show F - 4 + 4 = F by omega] at this
  exact this
theorem E_f12 (hF : 6 ≤ F) (q : RmW W) (v : Int) : ∀ (m : Nat) (w b : Int) (k : Nat) (h : HP), m < k → w + m = 81 → 0 ≤ w → 0 ≤ b → BkM W h → ∃ h', X12_fill_L12 F k 113 v b w h = some (lsN (flP W v) (flR W v) m w b, h') ∧ Oj 122 h h' := by
  intro m
  induction m with
  | zero =>
    intro w b k h hk hw w0 b0 r
    obtain ⟨k, rfl⟩ : ∃ k', k = k' + 1 := ⟨k - 1, by omega⟩
    exact ⟨h, by rw [X12_fill_L12_s, if_pos (by omega)]; rfl, Oj.rf _ _⟩
  | succ m ih =>
    intro w b k h hk hw w0 b0 r
    obtain ⟨k, rfl⟩ : ∃ k', k = k' + 1 := ⟨k - 1, by omega⟩
    obtain ⟨h1, a, o⟩ := E_f22 (F := F) hF r q (X12_fill_L12 F k) v b w w0 (by omega)
    rw [if_pos b0] at a
    have := mxW_nn (flP W v) (flR W v) w
    obtain ⟨h', a', o'⟩ := ih (w + 1) (min b (mxW (flP W v) (flR W v) w)) k h1 (by omega) (by omega) (by omega) (by omega) (r.oj o)
    refine ⟨h', ?_, o.tr o'⟩
    have e0 : lsN (flP W v) (flR W v) (m + 1) w b = lsN (flP W v) (flR W v) m (w + 1) (min b (mxW (flP W v) (flR W v) w)) := rfl
    rw [e0, ← a', X12_fill_L12_s, if_neg (by omega)]
    exact a
theorem E_fillM (hF : 100 ≤ F) (q : RmW W) (v : Int) (r : BkM W h) : ∃ h', X12_fill_L12 F F 113 v (-1) 0 h = some (lsN (flP W v) (flR W v) 80 1 (mxW (flP W v) (flR W v) 0), h') ∧ Oj 122 h h' := by
  obtain ⟨k, hk⟩ : ∃ k', F = k' + 1 := ⟨F - 1, by omega⟩
  obtain ⟨h1, a, o⟩ := E_f22 (F := F) (by omega) r q (X12_fill_L12 F k) v (-1) 0 (by decide) (by decide)
  rw [if_neg (by decide)] at a
  obtain ⟨h', a', o'⟩ := E_f12 (F := F) (by omega) q v 80 1 (mxW (flP W v) (flR W v) 0) k h1 (by omega) (by decide) (by decide) (mxW_nn _ _ _) (r.oj o)
  refine ⟨h', ?_, o.tr o'⟩
  have e : ∀ z, X12_fill_L12 F (k + 1) 113 v (-1) 0 z = X12_fill_L22 F (X12_fill_L12 F k) F 113 v (-1) 0 0 z := fun z => by rw [X12_fill_L12_s, if_neg (by decide)]
  have e2 := e h
  rw [← hk] at e2
  rw [e2, a]
  exact a'
end FM
theorem J_fill {F : Nat} (hF : 60000 ≤ F) {h : HP} {n : Int} (r : RA n h) (a : Int) : ∃ v h1 h2, X11_fill F 1 a h = some (v, h1) ∧ X12_fill F 113 a h1 = some (v, h2) ∧ RA (n + 1) h2 := by
  have L := r.1
  have LM := r.2.2.1
  obtain ⟨n1, n2, n3, n4, n5, n6, n7, n8, n9, n10, n11⟩ := r.N
  have bw := BkW.mk n3 n6
  have b : BkC (aI h 114) h := ⟨L, n3, n6⟩
  have q : RmW (aI h 114) := fun k k0 k1 => by have := n6.2.1 k k0 k1; exact ⟨this.2.1, this.2.2.1⟩
  by_cases c : a = 0
  · have x := E_pmC (F := F) (by omega) b
    have pt : PtC (flP (aI h 114) a) (flR (aI h 114) a) 48 (P4 h (mn (aI h 114))) := ⟨(P4.o h (mn (aI h 114))).C L, Or.inr rfl, fun i i0 i1 => ⟨by rw [P4.a _ _ _ i0 i1]; unfold flP; rw [if_pos c], flP_b bw a i i0 i1⟩, fun k k0 k1 => ⟨by rw [(P4.o h (mn (aI h 114))).i]; have := (n6.2.1 k k0 k1).2.2.2; unfold flR; rw [if_pos c]; exact this, flR_b q a k k0 k1⟩⟩
    obtain ⟨h1, y, o1⟩ := E_least (F := F) (by omega) pt
    have LM1 : LayM h1 := o1.M ((P4.o h (mn (aI h 114))).M LM)
    have w1 : aI (sI h1 113 0 0) 114 = aI h 114 := by rw [aI_sIn _ _ _ _ _ (by decide), o1.i, (P4.o h (mn (aI h 114))).i]
    obtain ⟨h2, z, o2⟩ := E_fillM (F := F) (h := sI h1 113 0 0) (W := aI h 114) (by omega) q a ⟨LM1, w1, bw⟩
    refine ⟨lsN (flP (aI h 114) a) (flR (aI h 114) a) 80 1 (mxW (flP (aI h 114) a) (flR (aI h 114) a) 0), h1, h2, ?_, ?_, r.Q (Or.inl (((P4.o h (mn (aI h 114))).Q (by decide)).tr ((o1.Q (by decide)).tr ((Qs.sI rfl (Qs.rf h1)).tr (o2.Q (by decide))))))⟩
    · have L1 := (P4.o h (mn (aI h 114))).C L
      unfold X11_fill X0_ovensEnd
      rw [if_pos c]
      simp (disch := (first | assumption | with_reducible rfl | (simp only [LayC_sI, LayC_sJ, LayC_sA, LayC_sB, LayC_sIr, LayC_exc, LayM_sI, LayM_sJ, LayM_sA, LayM_sB, LayM_sIr, LayM_exc, LayK_sI, LayK_sJ, LayK_sA, LayK_sB, LayK_sIr, LayK_exc]; assumption) | omega | decide | (simp (disch := (first | decide | omega)) only [gI_sJ, gI_sB, gI_sP, gI_exc, gI_sIe, aI_sJ, aI_sB, aI_sP, aI_exc, aI_sAe, aJ_sI, aJ_sA, aJ_sP, aJ_sIr, aJ_exc, aJ_sBe, gJ_sI, gJ_sA, gJ_sP, gJ_sIr, gJ_exc, gP_sI, gP_sJ, gP_sA, gP_sB, gP_sIr, gP_exc, gI_sIn, gI_sIk, gI_sAn, gI_sIrn, aI_sIn, aI_sAn, aI_sIrn, aI_sAk, aJ_sJn, aJ_sBn, gJ_sJn, gJ_sBn, gJ_sJe, gS_sI, gS_sJ, gS_sP, gS_sA, gS_sB, gS_sIr, gS_exc, w32i, w64i]; first | done | assumption | omega))) only [↓b_xbs, ↓b_xthr, ↓b_xthl, ↓b_xctr, ↓b_xctl, ↓b_xz, ↓b_xzX, ↓b_xd, ↓if_pos, ↓if_neg, ↓cI1, ↓cW1, ↓cZ1, ↓cR1, ↓cI2, ↓cW2, ↓cJ2, ↓cV2, ↓cR2, ↓cA3, ↓cS3, ↓cL3, ↓cA4, ↓cS4, ↓cL4, ↓cA5, ↓cS5, ↓cL5, ↓cA6, ↓cS6, ↓cL6, ↓cA7, ↓cS7, ↓cL7, ↓cA8, ↓cS8, ↓cL8, ↓cI9, ↓cW9, ↓cR9, ↓cI10, ↓cW10, ↓cJ10, ↓cV10, ↓cR10, ↓cI11, ↓cW11, ↓cR11, ↓cA12, ↓cS12, ↓cL12, ↓cA13, ↓cS13, ↓cL13, ↓cA14, ↓cS14, ↓cL14, ↓cA15, ↓cS15, ↓cL15, ↓cA16, ↓cS16, ↓cL16, ↓cA17, ↓cS17, ↓cL17, ↓cA18, ↓cS18, ↓cL18, ↓cI19, ↓cW19, ↓cZ19, ↓cR19, ↓cA21, ↓cS21, ↓cL21, ↓cA22, ↓cS22, ↓cL22, ↓cA23, ↓cS23, ↓cL23, ↓cI24, ↓cW24, ↓cZ24, ↓cR24, ↓cI37, ↓cW37, ↓cR37, ↓cA38, ↓cS38, ↓cL38, ↓cA39, ↓cS39, ↓cL39, ↓cA40, ↓cS40, ↓cL40, ↓cA41, ↓cS41, ↓cL41, ↓cI42, ↓cW42, ↓cR42, ↓cA43, ↓cS43, ↓cL43, ↓cA44, ↓cS44, ↓cL44, ↓cA45, ↓cS45, ↓cL45, ↓cA46, ↓cS46, ↓cL46, ↓cA47, ↓cS47, ↓cL47, ↓cA48, ↓cS48, ↓cL48, ↓cA49, ↓cS49, ↓cL49, ↓cA50, ↓cS50, ↓cL50, ↓cI51, ↓cW51, ↓cZ51, ↓cR51, ↓cA52, ↓cS52, ↓cL52, ↓cA53, ↓cS53, ↓cL53, ↓cA54, ↓cS54, ↓cL54, ↓cA55, ↓cS55, ↓cL55, ↓cI103, ↓cW103, ↓cR103, ↓cA104, ↓cS104, ↓cL104, ↓cA105, ↓cS105, ↓cL105, ↓cA106, ↓cS106, ↓cL106, ↓cA107, ↓cS107, ↓cL107, ↓cA108, ↓cS108, ↓cL108, ↓cA109, ↓cS109, ↓cL109, ↓cA110, ↓cS110, ↓cL110, ↓cA111, ↓cS111, ↓cL111, ↓cA112, ↓cS112, ↓cL112, ↓cP1_0, ↓cP1_2, ↓cP1_3, ↓cP1_5, ↓cP2_0, ↓cP2_2, ↓cP2_3, ↓cP2_4, ↓cP2_8, ↓cP2_10, ↓cP9_0, ↓cP9_1, ↓cP9_2, ↓cP9_3, ↓cP9_4, ↓cP9_5, ↓cP10_0, ↓cP11_0, ↓cP11_1, ↓cP11_2, ↓cP11_3, ↓cP11_4, ↓cP11_5, ↓cP11_6, ↓cP19_0, ↓cP19_1, ↓cP19_2, ↓cP19_3, ↓cP19_6, ↓cP37_0, ↓cP37_1, ↓cP37_2, ↓cP37_3, ↓cP42_0, ↓cP42_1, ↓cP42_2, ↓cP42_3, ↓cP42_4, ↓cP42_5, ↓cP42_8, ↓cP42_9, ↓cP51_0, ↓cP51_1, ↓cP51_2, ↓cP51_3, ↓cP103_0, ↓cP103_1, ↓cP103_2, ↓cP103_3, ↓cP103_4, ↓cP103_5, ↓cP103_6, ↓cP103_7, ↓cP103_8, ↓cIj, ↓cWj, ↓cZj, ↓cPj, ↓cQj, ↓cRj, ↓cAj, ↓b_xb _ _ _ _ x, ↓b_xb _ _ _ _ y]
    · unfold X12_fill
      simp (disch := (first | assumption | with_reducible rfl | (simp only [LayC_sI, LayC_sJ, LayC_sA, LayC_sB, LayC_sIr, LayC_exc, LayM_sI, LayM_sJ, LayM_sA, LayM_sB, LayM_sIr, LayM_exc, LayK_sI, LayK_sJ, LayK_sA, LayK_sB, LayK_sIr, LayK_exc]; assumption) | omega | decide | (simp (disch := (first | decide | omega)) only [gI_sJ, gI_sB, gI_sP, gI_exc, gI_sIe, aI_sJ, aI_sB, aI_sP, aI_exc, aI_sAe, aJ_sI, aJ_sA, aJ_sP, aJ_sIr, aJ_exc, aJ_sBe, gJ_sI, gJ_sA, gJ_sP, gJ_sIr, gJ_exc, gP_sI, gP_sJ, gP_sA, gP_sB, gP_sIr, gP_exc, gI_sIn, gI_sIk, gI_sAn, gI_sIrn, aI_sIn, aI_sAn, aI_sIrn, aI_sAk, aJ_sJn, aJ_sBn, gJ_sJn, gJ_sBn, gJ_sJe, gS_sI, gS_sJ, gS_sP, gS_sA, gS_sB, gS_sIr, gS_exc, w32i, w64i]; first | done | assumption | omega))) only [↓b_xbs, ↓b_xthr, ↓b_xthl, ↓b_xctr, ↓b_xctl, ↓b_xz, ↓b_xzX, ↓b_xd, ↓if_pos, ↓if_neg, ↓mI113, ↓mW113, ↓mZ113, ↓mJ113, ↓mV113, ↓mR113, ↓mA114, ↓mS114, ↓mL114, ↓mA115, ↓mS115, ↓mL115, ↓mA116, ↓mS116, ↓mL116, ↓mA117, ↓mS117, ↓mL117, ↓mA118, ↓mS118, ↓mL118, ↓mA119, ↓mS119, ↓mL119, ↓mA120, ↓mS120, ↓mL120, ↓mA121, ↓mS121, ↓mL121, ↓mA122, ↓mS122, ↓mL122, ↓mA123, ↓mS123, ↓mL123, ↓mA124, ↓mS124, ↓mL124, ↓mA125, ↓mS125, ↓mL125, ↓mA126, ↓mS126, ↓mL126, ↓mP113_1, ↓mP113_2, ↓mP113_4, ↓mP113_11, ↓mP113_12, ↓mP113_16, ↓mP113_17, ↓mP113_18, ↓mP113_24, ↓mP113_25, ↓mP113_29, ↓mP113_30]
      exact z
  · have x := E_psC (F := F) (by omega) b
    have pt : PtC (flP (aI h 114) a) (flR (aI h 114) a) 47 (P4 h (ld (aI h 114))) := ⟨(P4.o h (ld (aI h 114))).C L, Or.inl rfl, fun i i0 i1 => ⟨by rw [P4.a _ _ _ i0 i1]; unfold flP; rw [if_neg c], flP_b bw a i i0 i1⟩, fun k k0 k1 => ⟨by rw [(P4.o h (ld (aI h 114))).i]; have := (n6.2.1 k k0 k1).1; unfold flR; rw [if_neg c]; exact this, flR_b q a k k0 k1⟩⟩
    obtain ⟨h1, y, o1⟩ := E_least (F := F) (by omega) pt
    have LM1 : LayM h1 := o1.M ((P4.o h (ld (aI h 114))).M LM)
    have w1 : aI (sI h1 113 0 0) 114 = aI h 114 := by rw [aI_sIn _ _ _ _ _ (by decide), o1.i, (P4.o h (ld (aI h 114))).i]
    obtain ⟨h2, z, o2⟩ := E_fillM (F := F) (h := sI h1 113 0 0) (W := aI h 114) (by omega) q a ⟨LM1, w1, bw⟩
    refine ⟨lsN (flP (aI h 114) a) (flR (aI h 114) a) 80 1 (mxW (flP (aI h 114) a) (flR (aI h 114) a) 0), h1, h2, ?_, ?_, r.Q (Or.inl (((P4.o h (ld (aI h 114))).Q (by decide)).tr ((o1.Q (by decide)).tr ((Qs.sI rfl (Qs.rf h1)).tr (o2.Q (by decide))))))⟩
    · have L1 := (P4.o h (ld (aI h 114))).C L
      unfold X11_fill X0_leastLoads
      rw [if_neg c]
      simp (disch := (first | assumption | with_reducible rfl | (simp only [LayC_sI, LayC_sJ, LayC_sA, LayC_sB, LayC_sIr, LayC_exc, LayM_sI, LayM_sJ, LayM_sA, LayM_sB, LayM_sIr, LayM_exc, LayK_sI, LayK_sJ, LayK_sA, LayK_sB, LayK_sIr, LayK_exc]; assumption) | omega | decide | (simp (disch := (first | decide | omega)) only [gI_sJ, gI_sB, gI_sP, gI_exc, gI_sIe, aI_sJ, aI_sB, aI_sP, aI_exc, aI_sAe, aJ_sI, aJ_sA, aJ_sP, aJ_sIr, aJ_exc, aJ_sBe, gJ_sI, gJ_sA, gJ_sP, gJ_sIr, gJ_exc, gP_sI, gP_sJ, gP_sA, gP_sB, gP_sIr, gP_exc, gI_sIn, gI_sIk, gI_sAn, gI_sIrn, aI_sIn, aI_sAn, aI_sIrn, aI_sAk, aJ_sJn, aJ_sBn, gJ_sJn, gJ_sBn, gJ_sJe, gS_sI, gS_sJ, gS_sP, gS_sA, gS_sB, gS_sIr, gS_exc, w32i, w64i]; first | done | assumption | omega))) only [↓b_xbs, ↓b_xthr, ↓b_xthl, ↓b_xctr, ↓b_xctl, ↓b_xz, ↓b_xzX, ↓b_xd, ↓if_pos, ↓if_neg, ↓cI1, ↓cW1, ↓cZ1, ↓cR1, ↓cI2, ↓cW2, ↓cJ2, ↓cV2, ↓cR2, ↓cA3, ↓cS3, ↓cL3, ↓cA4, ↓cS4, ↓cL4, ↓cA5, ↓cS5, ↓cL5, ↓cA6, ↓cS6, ↓cL6, ↓cA7, ↓cS7, ↓cL7, ↓cA8, ↓cS8, ↓cL8, ↓cI9, ↓cW9, ↓cR9, ↓cI10, ↓cW10, ↓cJ10, ↓cV10, ↓cR10, ↓cI11, ↓cW11, ↓cR11, ↓cA12, ↓cS12, ↓cL12, ↓cA13, ↓cS13, ↓cL13, ↓cA14, ↓cS14, ↓cL14, ↓cA15, ↓cS15, ↓cL15, ↓cA16, ↓cS16, ↓cL16, ↓cA17, ↓cS17, ↓cL17, ↓cA18, ↓cS18, ↓cL18, ↓cI19, ↓cW19, ↓cZ19, ↓cR19, ↓cA21, ↓cS21, ↓cL21, ↓cA22, ↓cS22, ↓cL22, ↓cA23, ↓cS23, ↓cL23, ↓cI24, ↓cW24, ↓cZ24, ↓cR24, ↓cI37, ↓cW37, ↓cR37, ↓cA38, ↓cS38, ↓cL38, ↓cA39, ↓cS39, ↓cL39, ↓cA40, ↓cS40, ↓cL40, ↓cA41, ↓cS41, ↓cL41, ↓cI42, ↓cW42, ↓cR42, ↓cA43, ↓cS43, ↓cL43, ↓cA44, ↓cS44, ↓cL44, ↓cA45, ↓cS45, ↓cL45, ↓cA46, ↓cS46, ↓cL46, ↓cA47, ↓cS47, ↓cL47, ↓cA48, ↓cS48, ↓cL48, ↓cA49, ↓cS49, ↓cL49, ↓cA50, ↓cS50, ↓cL50, ↓cI51, ↓cW51, ↓cZ51, ↓cR51, ↓cA52, ↓cS52, ↓cL52, ↓cA53, ↓cS53, ↓cL53, ↓cA54, ↓cS54, ↓cL54, ↓cA55, ↓cS55, ↓cL55, ↓cI103, ↓cW103, ↓cR103, ↓cA104, ↓cS104, ↓cL104, ↓cA105, ↓cS105, ↓cL105, ↓cA106, ↓cS106, ↓cL106, ↓cA107, ↓cS107, ↓cL107, ↓cA108, ↓cS108, ↓cL108, ↓cA109, ↓cS109, ↓cL109, ↓cA110, ↓cS110, ↓cL110, ↓cA111, ↓cS111, ↓cL111, ↓cA112, ↓cS112, ↓cL112, ↓cP1_0, ↓cP1_2, ↓cP1_3, ↓cP1_5, ↓cP2_0, ↓cP2_2, ↓cP2_3, ↓cP2_4, ↓cP2_8, ↓cP2_10, ↓cP9_0, ↓cP9_1, ↓cP9_2, ↓cP9_3, ↓cP9_4, ↓cP9_5, ↓cP10_0, ↓cP11_0, ↓cP11_1, ↓cP11_2, ↓cP11_3, ↓cP11_4, ↓cP11_5, ↓cP11_6, ↓cP19_0, ↓cP19_1, ↓cP19_2, ↓cP19_3, ↓cP19_6, ↓cP37_0, ↓cP37_1, ↓cP37_2, ↓cP37_3, ↓cP42_0, ↓cP42_1, ↓cP42_2, ↓cP42_3, ↓cP42_4, ↓cP42_5, ↓cP42_8, ↓cP42_9, ↓cP51_0, ↓cP51_1, ↓cP51_2, ↓cP51_3, ↓cP103_0, ↓cP103_1, ↓cP103_2, ↓cP103_3, ↓cP103_4, ↓cP103_5, ↓cP103_6, ↓cP103_7, ↓cP103_8, ↓cIj, ↓cWj, ↓cZj, ↓cPj, ↓cQj, ↓cRj, ↓cAj, ↓b_xb _ _ _ _ x, ↓b_xb _ _ _ _ y]
    · unfold X12_fill
      simp (disch := (first | assumption | with_reducible rfl | (simp only [LayC_sI, LayC_sJ, LayC_sA, LayC_sB, LayC_sIr, LayC_exc, LayM_sI, LayM_sJ, LayM_sA, LayM_sB, LayM_sIr, LayM_exc, LayK_sI, LayK_sJ, LayK_sA, LayK_sB, LayK_sIr, LayK_exc]; assumption) | omega | decide | (simp (disch := (first | decide | omega)) only [gI_sJ, gI_sB, gI_sP, gI_exc, gI_sIe, aI_sJ, aI_sB, aI_sP, aI_exc, aI_sAe, aJ_sI, aJ_sA, aJ_sP, aJ_sIr, aJ_exc, aJ_sBe, gJ_sI, gJ_sA, gJ_sP, gJ_sIr, gJ_exc, gP_sI, gP_sJ, gP_sA, gP_sB, gP_sIr, gP_exc, gI_sIn, gI_sIk, gI_sAn, gI_sIrn, aI_sIn, aI_sAn, aI_sIrn, aI_sAk, aJ_sJn, aJ_sBn, gJ_sJn, gJ_sBn, gJ_sJe, gS_sI, gS_sJ, gS_sP, gS_sA, gS_sB, gS_sIr, gS_exc, w32i, w64i]; first | done | assumption | omega))) only [↓b_xbs, ↓b_xthr, ↓b_xthl, ↓b_xctr, ↓b_xctl, ↓b_xz, ↓b_xzX, ↓b_xd, ↓if_pos, ↓if_neg, ↓mI113, ↓mW113, ↓mZ113, ↓mJ113, ↓mV113, ↓mR113, ↓mA114, ↓mS114, ↓mL114, ↓mA115, ↓mS115, ↓mL115, ↓mA116, ↓mS116, ↓mL116, ↓mA117, ↓mS117, ↓mL117, ↓mA118, ↓mS118, ↓mL118, ↓mA119, ↓mS119, ↓mL119, ↓mA120, ↓mS120, ↓mL120, ↓mA121, ↓mS121, ↓mL121, ↓mA122, ↓mS122, ↓mL122, ↓mA123, ↓mS123, ↓mL123, ↓mA124, ↓mS124, ↓mL124, ↓mA125, ↓mS125, ↓mL125, ↓mA126, ↓mS126, ↓mL126, ↓mP113_1, ↓mP113_2, ↓mP113_4, ↓mP113_11, ↓mP113_12, ↓mP113_16, ↓mP113_17, ↓mP113_18, ↓mP113_24, ↓mP113_25, ↓mP113_29, ↓mP113_30]
      exact z
