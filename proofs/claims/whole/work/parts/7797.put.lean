/-! putting a value in a word: the class's doer and the reference's -/
abbrev inb (v : Int) : Prop := -999999999 ≤ v ∧ v ≤ 999999999
theorem xcmp_lt (a b : Int) : xcmp a b < 0 ↔ a < b := by
  have q := xcmp_ge a b
  omega
/-- what stands in the word after a writing: of the reference's array -/
def spW (W : Int → Int) (w v how : Int) : Int := if how % 2 = 1 ∧ W (138 + 2 * (w % 16)) ≠ 0 ∧ W (137 + 2 * (w % 16)) ≤ W 0 then xxor v (W (138 + 2 * (w % 16))) else v
theorem spW_in {W : Int → Int} {w v how : Int} (h : inb v) : in32 (spW W w v how) := by
  unfold spW
  split
  · exact xxor_in _ _
  · unfold in32; unfold inb at h; omega
section PT
variable {F : Nat} {h : HP} {W : Int → Int}
theorem E_outB (v : Int) : X11_outOfBounds F v h = some (if inb v then 0 else 1, h) := by
  unfold X11_outOfBounds X11_outOfBounds_L16
  by_cases c : inb v
  · rw [if_pos c, if_neg (by rw [xcmp_lt]; unfold inb at c; omega), if_pos (by rw [xcmp_le]; unfold inb at c; omega)]
  · rw [if_neg c]
    by_cases c1 : v < -999999999
    · rw [if_pos (by rw [xcmp_lt]; exact c1)]
    · rw [if_neg (by rw [xcmp_lt]; exact c1), if_neg (by rw [xcmp_le]; unfold inb at c; omega)]
theorem E_putC (job m t f w v : Int) {how : Int} (L : LayC h) (rl : RLm h 0 W) (r0 : W 0 = W 0) (hw : 0 ≤ w ∧ w < 64) (hr : 0 ≤ gI h 11 7 ∧ gI h 11 7 < 5120) (hp : gI h 11 9 = penO job (W 0) (how % 2) t f) (hj : -1 ≤ job ∧ job ≤ 11) (hm : 0 ≤ W 0 ∧ W 0 ≤ 480) (h2 : t = 0 ∨ t = 1) (h3 : f = 0 ∨ f = 1) : X1_put F 10 w v h = if inb v then some (1, Hwr h w (spW W w v how)) else some (0, h) := by
  unfold X1_put
  rw [b_xb _ _ _ _ (E_outB (F := F) (h := h) v)]
  by_cases c : inb v
  · rw [if_pos c, if_pos rfl, if_pos c, cP10_0 h _ L, cR11 h _ L, w32i v (by unfold inb at c; omega) (by unfold inb at c; omega)]
    have e : spl h w v (how % 2) (W 0) = spW W w v how := by
      obtain ⟨q1, q2, -⟩ := rl (w % 16) (by omega) (by omega)
      simp only [Nat.add_zero] at q1 q2
      unfold spl spW
      rw [q1, q2]
    have x := E_write (F := F) job (W 0) (how % 2) t f w v L hw hr hp hj hm (by omega) h2 h3
    rw [e] at x
    rw [b_xb _ _ _ _ x]
  · rw [if_neg c, if_neg (by decide), if_neg c]
theorem E_putM (w v bj fi how : Int) (L : LayM h) (c : 0 ≤ aI h 114 11356 ∧ aI h 114 11356 < 5999) (hw : 0 ≤ w ∧ w < 64) (hh : 0 ≤ how) : X12_puts F 113 bj w v fi how h = if inb v then some (1, Mwr h w (spW (aI h 114) w v how) bj fi how) else some (0, h) := by
  have em : how.tmod 2 = how % 2 := Int.tmod_eq_emod_of_nonneg hh
  have et : w.tmod 16 = w % 16 := Int.tmod_eq_emod_of_nonneg hw.1
  unfold X12_puts
  by_cases c9 : inb v
  · rw [if_pos c9, if_neg (by rw [xcmp_lt]; unfold inb at c9; omega), if_pos (by rw [xcmp_le]; unfold inb at c9; omega)]
    have e32 : w32 v = v := w32i v (by unfold inb at c9; omega) (by unfold inb at c9; omega)
    have v32 : in32 v := by unfold in32; unfold inb at c9; omega
    have w0 : xxor v 0 = v := (xxor_eq v 0 v32 in32_0).mpr rfl
    have ew : ∀ u : Int, X12_puts_L93 F bj fi how u v w (some 113) h = some (1, Mwr h w (xxor v u) bj fi how) := by
      intro u
      unfold X12_puts_L93
      simp (disch := (first | assumption | with_reducible rfl | (simp only [LayC_sI, LayC_sJ, LayC_sA, LayC_sB, LayC_sIr, LayC_exc, LayM_sI, LayM_sJ, LayM_sA, LayM_sB, LayM_sIr, LayM_exc, LayK_sI, LayK_sJ, LayK_sA, LayK_sB, LayK_sIr, LayK_exc]; assumption) | omega | decide | (simp (disch := (first | decide | omega)) only [gI_sJ, gI_sB, gI_sP, gI_exc, gI_sIe, aI_sJ, aI_sB, aI_sP, aI_exc, aI_sAe, aJ_sI, aJ_sA, aJ_sP, aJ_sIr, aJ_exc, aJ_sBe, gJ_sI, gJ_sA, gJ_sP, gJ_sIr, gJ_exc, gP_sI, gP_sJ, gP_sA, gP_sB, gP_sIr, gP_exc, gI_sIn, gI_sIk, gI_sAn, gI_sIrn, aI_sIn, aI_sAn, aI_sIrn, aI_sAk, aJ_sJn, aJ_sBn, gJ_sJn, gJ_sBn, gJ_sJe, gS_sI, gS_sJ, gS_sP, gS_sA, gS_sB, gS_sIr, gS_exc, w32i, w64i]; first | done | assumption | omega))) only [↓b_xbs, ↓b_xthr, ↓b_xthl, ↓b_xctr, ↓b_xctl, ↓b_xz, ↓b_xzX, ↓b_xd, ↓if_pos, ↓if_neg, ↓mI113, ↓mW113, ↓mZ113, ↓mJ113, ↓mV113, ↓mR113, ↓mA114, ↓mS114, ↓mL114, ↓mA115, ↓mS115, ↓mL115, ↓mA116, ↓mS116, ↓mL116, ↓mA117, ↓mS117, ↓mL117, ↓mA118, ↓mS118, ↓mL118, ↓mA119, ↓mS119, ↓mL119, ↓mA120, ↓mS120, ↓mL120, ↓mA121, ↓mS121, ↓mL121, ↓mA122, ↓mS122, ↓mL122, ↓mA123, ↓mS123, ↓mL123, ↓mA124, ↓mS124, ↓mL124, ↓mA125, ↓mS125, ↓mL125, ↓mA126, ↓mS126, ↓mL126, ↓mP113_1, ↓mP113_2, ↓mP113_4, ↓mP113_11, ↓mP113_12, ↓mP113_16, ↓mP113_17, ↓mP113_18, ↓mP113_24, ↓mP113_25, ↓mP113_29, ↓mP113_30]
      rw [b_xb _ _ _ _ (E_writesM (F := F) (h := h) w (xxor v u) bj fi how L c hw)]
    have eq : ∀ x : Int, X12_puts_L69 F 113 bj w v fi how x 0 h = some (1, Mwr h w v bj fi how) := by
      intro x
      unfold X12_puts_L69
      rw [if_pos rfl, e32, ew 0, w0]
    rw [em, et]
    have b1 : w32 (137 + w32 (2 * (w % 16))) = 137 + 2 * (w % 16) := by rw [w32i (2 * (w % 16)) (by omega) (by omega), w32i _ (by omega) (by omega)]
    have b2 : w32 (137 + 2 * (w % 16) + 1) = 138 + 2 * (w % 16) := by rw [w32i _ (by omega) (by omega)]; omega
    rw [b1, b2]
    unfold X12_puts_L68
    unfold spW
    by_cases d : how % 2 = 1
    · rw [if_pos d]
      simp (disch := (first | assumption | with_reducible rfl | (simp only [LayC_sI, LayC_sJ, LayC_sA, LayC_sB, LayC_sIr, LayC_exc, LayM_sI, LayM_sJ, LayM_sA, LayM_sB, LayM_sIr, LayM_exc, LayK_sI, LayK_sJ, LayK_sA, LayK_sB, LayK_sIr, LayK_exc]; assumption) | omega | decide | (simp (disch := (first | decide | omega)) only [gI_sJ, gI_sB, gI_sP, gI_exc, gI_sIe, aI_sJ, aI_sB, aI_sP, aI_exc, aI_sAe, aJ_sI, aJ_sA, aJ_sP, aJ_sIr, aJ_exc, aJ_sBe, gJ_sI, gJ_sA, gJ_sP, gJ_sIr, gJ_exc, gP_sI, gP_sJ, gP_sA, gP_sB, gP_sIr, gP_exc, gI_sIn, gI_sIk, gI_sAn, gI_sIrn, aI_sIn, aI_sAn, aI_sIrn, aI_sAk, aJ_sJn, aJ_sBn, gJ_sJn, gJ_sBn, gJ_sJe, gS_sI, gS_sJ, gS_sP, gS_sA, gS_sB, gS_sIr, gS_exc, w32i, w64i]; first | done | assumption | omega))) only [↓b_xbs, ↓b_xthr, ↓b_xthl, ↓b_xctr, ↓b_xctl, ↓b_xz, ↓b_xzX, ↓b_xd, ↓if_pos, ↓if_neg, ↓mI113, ↓mW113, ↓mZ113, ↓mJ113, ↓mV113, ↓mR113, ↓mA114, ↓mS114, ↓mL114, ↓mA115, ↓mS115, ↓mL115, ↓mA116, ↓mS116, ↓mL116, ↓mA117, ↓mS117, ↓mL117, ↓mA118, ↓mS118, ↓mL118, ↓mA119, ↓mS119, ↓mL119, ↓mA120, ↓mS120, ↓mL120, ↓mA121, ↓mS121, ↓mL121, ↓mA122, ↓mS122, ↓mL122, ↓mA123, ↓mS123, ↓mL123, ↓mA124, ↓mS124, ↓mL124, ↓mA125, ↓mS125, ↓mL125, ↓mA126, ↓mS126, ↓mL126, ↓mP113_1, ↓mP113_2, ↓mP113_4, ↓mP113_11, ↓mP113_12, ↓mP113_16, ↓mP113_17, ↓mP113_18, ↓mP113_24, ↓mP113_25, ↓mP113_29, ↓mP113_30]
      by_cases d1 : aI h 114 (138 + 2 * (w % 16)) = 0
      · rw [if_pos d1, if_neg (fun q => q.2.1 d1)]
        exact eq _
      · rw [if_neg d1, b_xb _ _ _ _ (E_now (F := F) (h := h) L)]
        by_cases d2 : aI h 114 0 < aI h 114 (137 + 2 * (w % 16))
        · rw [if_pos d2, if_neg (fun q => by omega)]
          exact eq _
        · rw [if_neg d2, if_pos ⟨d, d1, by omega⟩]
          unfold X12_puts_L69
          rw [if_neg (by decide), b2, e32]
          simp (disch := (first | assumption | with_reducible rfl | (simp only [LayC_sI, LayC_sJ, LayC_sA, LayC_sB, LayC_sIr, LayC_exc, LayM_sI, LayM_sJ, LayM_sA, LayM_sB, LayM_sIr, LayM_exc, LayK_sI, LayK_sJ, LayK_sA, LayK_sB, LayK_sIr, LayK_exc]; assumption) | omega | decide | (simp (disch := (first | decide | omega)) only [gI_sJ, gI_sB, gI_sP, gI_exc, gI_sIe, aI_sJ, aI_sB, aI_sP, aI_exc, aI_sAe, aJ_sI, aJ_sA, aJ_sP, aJ_sIr, aJ_exc, aJ_sBe, gJ_sI, gJ_sA, gJ_sP, gJ_sIr, gJ_exc, gP_sI, gP_sJ, gP_sA, gP_sB, gP_sIr, gP_exc, gI_sIn, gI_sIk, gI_sAn, gI_sIrn, aI_sIn, aI_sAn, aI_sIrn, aI_sAk, aJ_sJn, aJ_sBn, gJ_sJn, gJ_sBn, gJ_sJe, gS_sI, gS_sJ, gS_sP, gS_sA, gS_sB, gS_sIr, gS_exc, w32i, w64i]; first | done | assumption | omega))) only [↓b_xbs, ↓b_xthr, ↓b_xthl, ↓b_xctr, ↓b_xctl, ↓b_xz, ↓b_xzX, ↓b_xd, ↓if_pos, ↓if_neg, ↓mI113, ↓mW113, ↓mZ113, ↓mJ113, ↓mV113, ↓mR113, ↓mA114, ↓mS114, ↓mL114, ↓mA115, ↓mS115, ↓mL115, ↓mA116, ↓mS116, ↓mL116, ↓mA117, ↓mS117, ↓mL117, ↓mA118, ↓mS118, ↓mL118, ↓mA119, ↓mS119, ↓mL119, ↓mA120, ↓mS120, ↓mL120, ↓mA121, ↓mS121, ↓mL121, ↓mA122, ↓mS122, ↓mL122, ↓mA123, ↓mS123, ↓mL123, ↓mA124, ↓mS124, ↓mL124, ↓mA125, ↓mS125, ↓mL125, ↓mA126, ↓mS126, ↓mL126, ↓mP113_1, ↓mP113_2, ↓mP113_4, ↓mP113_11, ↓mP113_12, ↓mP113_16, ↓mP113_17, ↓mP113_18, ↓mP113_24, ↓mP113_25, ↓mP113_29, ↓mP113_30]
          exact ew _
    · rw [if_neg d, if_neg (fun q => d q.1)]
      exact eq _
  · rw [if_neg c9]
    by_cases c1 : v < -999999999
    · rw [if_pos (by rw [xcmp_lt]; exact c1)]
    · rw [if_neg (by rw [xcmp_lt]; exact c1), if_neg (by rw [xcmp_le]; unfold inb at c9; omega)]
end PT
