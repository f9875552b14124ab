section TM
variable {F : Nat}
/-- what the reference's loop over the lamps carries -/
def TsM (W : Int → Int) (fr to c : Int) (l : Nat) (h : HP) : Prop := LayM h ∧ (∀ i : Int, 0 ≤ i → i ≠ 7 → (i < 138 ∨ 170 ≤ i ∨ i % 2 = 1) → aI h 114 i = W i) ∧ (∀ j : Nat, j < 16 → aI h 114 (138 + 2 * j) = if j < l ∧ inL W fr to j then 0 else W (138 + 2 * j)) ∧ aI h 114 7 = ctF W fr to c l
theorem E_teM {W : Int → Int} {fr to c : Int} (h0 : 0 ≤ fr) (h1 : to < 16) : ∀ (m l k : Nat) (h : HP), m < k → (l + m : Int) = to + 1 → fr ≤ l → TsM W fr to c l h → ∃ h', X12_test_L57 F k 113 fr to (btF W fr to l) l h = X12_test_L139 F F 113 fr to (btF W fr to (to + 1).toNat) 0 h' ∧ TsM W fr to c (to + 1).toNat h' ∧ Oi 114 h h' := by
  intro m
  induction m with
  | zero =>
    intro l k h hk hl hf r
    obtain ⟨k, rfl⟩ : ∃ k', k = k' + 1 := ⟨k - 1, by omega⟩
    have e : (to + 1).toNat = l := by omega
    rw [e]
    exact ⟨h, by rw [X12_test_L57_s, if_pos (by omega)], r, Oi.rf _ _⟩
  | succ m ih =>
    intro l k h hk hl hf r
    obtain ⟨k, rfl⟩ : ∃ k', k = k' + 1 := ⟨k - 1, by omega⟩
    have e1 : w32 ((l : Int) + 1) = ((l + 1 : Nat) : Int) := by rw [w32i _ (by omega) (by omega)]; omega
    obtain ⟨L, r1, r2, r3⟩ := id r
    have i1 : w32 (137 + w32 (2 * (l : Int))) = 137 + 2 * l := by rw [w32i (2 * (l : Int)) (by omega) (by omega), w32i _ (by omega) (by omega)]
    have i2 : w32 (137 + 2 * (l : Int) + 1) = 138 + 2 * l := by rw [w32i _ (by omega) (by omega)]; omega
    have g1 : aI h 114 (137 + 2 * (l : Int)) = W (137 + 2 * l) := r1 _ (by omega) (by omega) (by omega)
    have g2 := r2 l (by omega)
    rw [if_neg (fun q => absurd q.1 (Nat.lt_irrefl l))] at g2
    have g3 : aI h 114 0 = W 0 := r1 0 (by omega) (by omega) (by omega)
    by_cases c1 : inL W fr to l
    · have eb : btF W fr to (l + 1) = xor_ (btF W fr to l) (xshl 1 l) := by show (if _ then _ else _) = _; rw [if_pos c1]
      have ec : ctF W fr to c (l + 1) = w32 (ctF W fr to c l + 1) := by show (if _ then _ else _) = _; rw [if_pos c1]
      obtain ⟨j1, j2, j3, j4⟩ := c1
      have r' : TsM W fr to c (l + 1) (sA (sA h 114 (138 + 2 * l) 0) 114 7 (w32 (ctF W fr to c l + 1))) := by
        refine ⟨L, fun i i0 i7 hi => ?_, fun j hj => ?_, by rw [ec, aI_sAe]⟩
        · rw [aI_sAk _ _ _ _ _ (by omega) i0 (by omega), aI_sAk _ _ _ _ _ (by omega) i0 (by omega)]; exact r1 i i0 i7 hi
        · rw [aI_sAk _ _ _ _ _ (by omega) (by omega) (by omega), aI_sA _ _ _ _ _ (by omega) (by omega)]
          by_cases e : j = l
          · subst e; rw [if_pos rfl, if_pos ⟨by omega, j1, j2, j3, j4⟩]
          · rw [if_neg (by omega), r2 j hj]
            by_cases d : j < l
            · by_cases f : inL W fr to j
              · rw [if_pos ⟨d, f⟩, if_pos ⟨by omega, f⟩]
              · rw [if_neg (fun q => f q.2), if_neg (fun q => f q.2)]
            · rw [if_neg (fun q => d q.1), if_neg (fun q => d (by omega))]
      obtain ⟨h', a, b, s⟩ := ih (l + 1) k _ (by omega) (by omega) (by omega) r'
      refine ⟨h', ?_, b, ((Oi.A 114 h _ _).tr (Oi.A 114 _ _ _)).tr s⟩
      have g4 : aI (sA h 114 (138 + 2 * (l : Int)) 0) 114 7 = ctF W fr to c l := by rw [aI_sAk _ _ _ _ _ (by omega) (by omega) (by omega)]; exact r3
      rw [← a, eb, X12_test_L57_s]
      unfold X12_test_L130
      simp (disch := (first | assumption | with_reducible rfl | (simp only [LayC_sI, LayC_sJ, LayC_sA, LayC_sB, LayC_sIr, LayC_exc, LayM_sI, LayM_sJ, LayM_sA, LayM_sB, LayM_sIr, LayM_exc, LayK_sI, LayK_sJ, LayK_sA, LayK_sB, LayK_sIr, LayK_exc]; assumption) | omega | decide | (simp (disch := (first | decide | omega)) only [gI_sJ, gI_sB, gI_sP, gI_exc, gI_sIe, aI_sJ, aI_sB, aI_sP, aI_exc, aI_sAe, aJ_sI, aJ_sA, aJ_sP, aJ_sIr, aJ_exc, aJ_sBe, gJ_sI, gJ_sA, gJ_sP, gJ_sIr, gJ_exc, gP_sI, gP_sJ, gP_sA, gP_sB, gP_sIr, gP_exc, gI_sIn, gI_sIk, gI_sAn, gI_sIrn, aI_sIn, aI_sAn, aI_sIrn, aI_sAk, aJ_sJn, aJ_sBn, gJ_sJn, gJ_sBn, gJ_sJe, gS_sI, gS_sJ, gS_sP, gS_sA, gS_sB, gS_sIr, gS_exc, w32i, w64i]; first | done | assumption | omega))) only [↓b_xbs, ↓b_xthr, ↓b_xthl, ↓b_xctr, ↓b_xctl, ↓b_xz, ↓b_xzX, ↓b_xd, ↓if_pos, ↓if_neg, ↓mI113, ↓mW113, ↓mZ113, ↓mJ113, ↓mV113, ↓mR113, ↓mA114, ↓mS114, ↓mL114, ↓mA115, ↓mS115, ↓mL115, ↓mA116, ↓mS116, ↓mL116, ↓mA117, ↓mS117, ↓mL117, ↓mA118, ↓mS118, ↓mL118, ↓mA119, ↓mS119, ↓mL119, ↓mA120, ↓mS120, ↓mL120, ↓mA121, ↓mS121, ↓mL121, ↓mA122, ↓mS122, ↓mL122, ↓mA123, ↓mS123, ↓mL123, ↓mA124, ↓mS124, ↓mL124, ↓mA125, ↓mS125, ↓mL125, ↓mA126, ↓mS126, ↓mL126, ↓mP113_1, ↓mP113_2, ↓mP113_4, ↓mP113_11, ↓mP113_12, ↓mP113_16, ↓mP113_17, ↓mP113_18, ↓mP113_24, ↓mP113_25, ↓mP113_29, ↓mP113_30, i1, i2, g2, g1, ↓bE_now, g3, g4, e1]
    · have eb : btF W fr to (l + 1) = btF W fr to l := by show (if _ then _ else _) = _; rw [if_neg c1]
      have ec : ctF W fr to c (l + 1) = ctF W fr to c l := by show (if _ then _ else _) = _; rw [if_neg c1]
      have r' : TsM W fr to c (l + 1) h := by
        refine ⟨L, r1, fun j hj => ?_, by rw [ec]; exact r3⟩
        rw [r2 j hj]
        by_cases e : j = l
        · subst e; rw [if_neg (fun q => c1 q.2), if_neg (fun q => c1 q.2)]
        · by_cases d : j < l
          · by_cases f : inL W fr to j
            · rw [if_pos ⟨d, f⟩, if_pos ⟨by omega, f⟩]
            · rw [if_neg (fun q => f q.2), if_neg (fun q => f q.2)]
          · rw [if_neg (fun q => d q.1), if_neg (fun q => d (by omega))]
      obtain ⟨h', a, b, s⟩ := ih (l + 1) k _ (by omega) (by omega) (by omega) r'
      refine ⟨h', ?_, b, s⟩
      have c2 : ¬ flW W l := fun q => c1 ⟨hf, by omega, q⟩
      unfold flW at c2
      rw [← a, eb, X12_test_L57_s]
      unfold X12_test_L130
      by_cases c3 : W (138 + 2 * l) = 0
      · simp (disch := (first | assumption | with_reducible rfl | (simp only [LayC_sI, LayC_sJ, LayC_sA, LayC_sB, LayC_sIr, LayC_exc, LayM_sI, LayM_sJ, LayM_sA, LayM_sB, LayM_sIr, LayM_exc, LayK_sI, LayK_sJ, LayK_sA, LayK_sB, LayK_sIr, LayK_exc]; assumption) | omega | decide | (simp (disch := (first | decide | omega)) only [gI_sJ, gI_sB, gI_sP, gI_exc, gI_sIe, aI_sJ, aI_sB, aI_sP, aI_exc, aI_sAe, aJ_sI, aJ_sA, aJ_sP, aJ_sIr, aJ_exc, aJ_sBe, gJ_sI, gJ_sA, gJ_sP, gJ_sIr, gJ_exc, gP_sI, gP_sJ, gP_sA, gP_sB, gP_sIr, gP_exc, gI_sIn, gI_sIk, gI_sAn, gI_sIrn, aI_sIn, aI_sAn, aI_sIrn, aI_sAk, aJ_sJn, aJ_sBn, gJ_sJn, gJ_sBn, gJ_sJe, gS_sI, gS_sJ, gS_sP, gS_sA, gS_sB, gS_sIr, gS_exc, w32i, w64i]; first | done | assumption | omega))) only [↓b_xbs, ↓b_xthr, ↓b_xthl, ↓b_xctr, ↓b_xctl, ↓b_xz, ↓b_xzX, ↓b_xd, ↓if_pos, ↓if_neg, ↓mI113, ↓mW113, ↓mZ113, ↓mJ113, ↓mV113, ↓mR113, ↓mA114, ↓mS114, ↓mL114, ↓mA115, ↓mS115, ↓mL115, ↓mA116, ↓mS116, ↓mL116, ↓mA117, ↓mS117, ↓mL117, ↓mA118, ↓mS118, ↓mL118, ↓mA119, ↓mS119, ↓mL119, ↓mA120, ↓mS120, ↓mL120, ↓mA121, ↓mS121, ↓mL121, ↓mA122, ↓mS122, ↓mL122, ↓mA123, ↓mS123, ↓mL123, ↓mA124, ↓mS124, ↓mL124, ↓mA125, ↓mS125, ↓mL125, ↓mA126, ↓mS126, ↓mL126, ↓mP113_1, ↓mP113_2, ↓mP113_4, ↓mP113_11, ↓mP113_12, ↓mP113_16, ↓mP113_17, ↓mP113_18, ↓mP113_24, ↓mP113_25, ↓mP113_29, ↓mP113_30, i1, i2, g2, e1]
      · simp (disch := (first | assumption | with_reducible rfl | (simp only [LayC_sI, LayC_sJ, LayC_sA, LayC_sB, LayC_sIr, LayC_exc, LayM_sI, LayM_sJ, LayM_sA, LayM_sB, LayM_sIr, LayM_exc, LayK_sI, LayK_sJ, LayK_sA, LayK_sB, LayK_sIr, LayK_exc]; assumption) | omega | decide | (simp (disch := (first | decide | omega)) only [gI_sJ, gI_sB, gI_sP, gI_exc, gI_sIe, aI_sJ, aI_sB, aI_sP, aI_exc, aI_sAe, aJ_sI, aJ_sA, aJ_sP, aJ_sIr, aJ_exc, aJ_sBe, gJ_sI, gJ_sA, gJ_sP, gJ_sIr, gJ_exc, gP_sI, gP_sJ, gP_sA, gP_sB, gP_sIr, gP_exc, gI_sIn, gI_sIk, gI_sAn, gI_sIrn, aI_sIn, aI_sAn, aI_sIrn, aI_sAk, aJ_sJn, aJ_sBn, gJ_sJn, gJ_sBn, gJ_sJe, gS_sI, gS_sJ, gS_sP, gS_sA, gS_sB, gS_sIr, gS_exc, w32i, w64i]; first | done | assumption | omega))) only [↓b_xbs, ↓b_xthr, ↓b_xthl, ↓b_xctr, ↓b_xctl, ↓b_xz, ↓b_xzX, ↓b_xd, ↓if_pos, ↓if_neg, ↓mI113, ↓mW113, ↓mZ113, ↓mJ113, ↓mV113, ↓mR113, ↓mA114, ↓mS114, ↓mL114, ↓mA115, ↓mS115, ↓mL115, ↓mA116, ↓mS116, ↓mL116, ↓mA117, ↓mS117, ↓mL117, ↓mA118, ↓mS118, ↓mL118, ↓mA119, ↓mS119, ↓mL119, ↓mA120, ↓mS120, ↓mL120, ↓mA121, ↓mS121, ↓mL121, ↓mA122, ↓mS122, ↓mL122, ↓mA123, ↓mS123, ↓mL123, ↓mA124, ↓mS124, ↓mL124, ↓mA125, ↓mS125, ↓mL125, ↓mA126, ↓mS126, ↓mL126, ↓mP113_1, ↓mP113_2, ↓mP113_4, ↓mP113_11, ↓mP113_12, ↓mP113_16, ↓mP113_17, ↓mP113_18, ↓mP113_24, ↓mP113_25, ↓mP113_29, ↓mP113_30, i1, i2, g2, g1, ↓bE_now, g3, e1]
theorem E_trM {W W1 : Int → Int} {fr to b : Int} (gr : W 11356 ≤ 5120) (w1 : ∀ i : Int, 170 ≤ i → W1 i = W i) (q : ∀ k : Int, 0 ≤ k → k < W 11356 → 0 ≤ W (11357 + 7 * k + 1) ∧ 0 ≤ W (11357 + 7 * k + 6) ∧ W (11357 + 7 * k + 6) < 16) (b0 : 0 ≤ b) (b1 : b < 65536) : ∀ (m k n : Nat) (h : HP), m < n → ((k + m : Nat) : Int) = W 11356 → LayM h → (∀ i : Int, 0 ≤ i → (i < 11357 ∨ (i - 11357) % 7 ≠ 6) → aI h 114 i = W1 i) → (∀ j : Nat, (j : Int) < W 11356 → aI h 114 (11357 + 7 * j + 6) = if j < k then hwT W fr to b j else W (11357 + 7 * j + 6)) → ∃ h', X12_test_L139 F n 113 fr to b k h = some (b, h') ∧ Oi 114 h h' ∧ (∀ i : Int, 0 ≤ i → (i < 11357 ∨ (i - 11357) % 7 ≠ 6) → aI h' 114 i = W1 i) ∧ (∀ j : Nat, (j : Int) < W 11356 → aI h' 114 (11357 + 7 * j + 6) = hwT W fr to b j) := by
  intro m
  induction m with
  | zero =>
    intro k n h hn hk L r1 r2
    obtain ⟨n, rfl⟩ : ∃ n', n = n' + 1 := ⟨n - 1, by omega⟩
    have ew : aI h 114 11356 = k := by rw [r1 11356 (by omega) (by omega), w1 _ (by omega)]; omega
    refine ⟨h, ?_, Oi.rf _ _, r1, fun j hj => by rw [r2 j hj, if_pos (by omega)]⟩
    rw [X12_test_L139_s]
    simp (disch := (first | assumption | with_reducible rfl | (simp only [LayC_sI, LayC_sJ, LayC_sA, LayC_sB, LayC_sIr, LayC_exc, LayM_sI, LayM_sJ, LayM_sA, LayM_sB, LayM_sIr, LayM_exc, LayK_sI, LayK_sJ, LayK_sA, LayK_sB, LayK_sIr, LayK_exc]; assumption) | omega | decide | (simp (disch := (first | decide | omega)) only [gI_sJ, gI_sB, gI_sP, gI_exc, gI_sIe, aI_sJ, aI_sB, aI_sP, aI_exc, aI_sAe, aJ_sI, aJ_sA, aJ_sP, aJ_sIr, aJ_exc, aJ_sBe, gJ_sI, gJ_sA, gJ_sP, gJ_sIr, gJ_exc, gP_sI, gP_sJ, gP_sA, gP_sB, gP_sIr, gP_exc, gI_sIn, gI_sIk, gI_sAn, gI_sIrn, aI_sIn, aI_sAn, aI_sIrn, aI_sAk, aJ_sJn, aJ_sBn, gJ_sJn, gJ_sBn, gJ_sJe, gS_sI, gS_sJ, gS_sP, gS_sA, gS_sB, gS_sIr, gS_exc, w32i, w64i]; first | done | assumption | omega))) only [↓b_xbs, ↓b_xthr, ↓b_xthl, ↓b_xctr, ↓b_xctl, ↓b_xz, ↓b_xzX, ↓b_xd, ↓if_pos, ↓if_neg, ↓mI113, ↓mW113, ↓mZ113, ↓mJ113, ↓mV113, ↓mR113, ↓mA114, ↓mS114, ↓mL114, ↓mA115, ↓mS115, ↓mL115, ↓mA116, ↓mS116, ↓mL116, ↓mA117, ↓mS117, ↓mL117, ↓mA118, ↓mS118, ↓mL118, ↓mA119, ↓mS119, ↓mL119, ↓mA120, ↓mS120, ↓mL120, ↓mA121, ↓mS121, ↓mL121, ↓mA122, ↓mS122, ↓mL122, ↓mA123, ↓mS123, ↓mL123, ↓mA124, ↓mS124, ↓mL124, ↓mA125, ↓mS125, ↓mL125, ↓mA126, ↓mS126, ↓mL126, ↓mP113_1, ↓mP113_2, ↓mP113_4, ↓mP113_11, ↓mP113_12, ↓mP113_16, ↓mP113_17, ↓mP113_18, ↓mP113_24, ↓mP113_25, ↓mP113_29, ↓mP113_30, ↓bE_writings]
  | succ m ih =>
    intro k n h hn hk L r1 r2
    obtain ⟨n, rfl⟩ : ∃ n', n = n' + 1 := ⟨n - 1, by omega⟩
    have e1 : w32 ((k : Int) + 1) = ((k + 1 : Nat) : Int) := by rw [w32i _ (by omega) (by omega)]; omega
    have ew : ¬ aI h 114 11356 ≤ k := by rw [r1 11356 (by omega) (by omega), w1 _ (by omega)]; omega
    have g1 : aI h 114 (11357 + 7 * (k : Int) + 1) = W (11357 + 7 * k + 1) := by rw [r1 _ (by omega) (by omega), w1 _ (by omega)]
    have g6 := r2 k (by omega)
    rw [if_neg (Nat.lt_irrefl k)] at g6
    obtain ⟨x9, x15, x16⟩ := q k (by omega) (by omega)
    have t4 := how_4 _ x15 x16
    obtain ⟨lw, hlw⟩ : ∃ lw, lw = W (11357 + 7 * k + 1) % 16 := ⟨_, rfl⟩
    have l0 : 0 ≤ lw ∧ lw < 16 := by omega
    have em : (W (11357 + 7 * (k : Int) + 1)).tmod 16 = lw := by rw [hlw]; exact Int.tmod_eq_emod_of_nonneg x9
    have eb := bj_shr b lw.toNat b0 (by omega) (by omega)
    rw [show ((lw.toNat : Nat) : Int) = lw by omega] at eb
    by_cases c : fr ≤ lw ∧ lw ≤ to ∧ W (11357 + 7 * k + 6) / 4 % 2 = 0
    · have et : hwT W fr to b k = W (11357 + 7 * k + 6) + 4 + (if bj b lw.toNat = true then 8 else 0) := by
        unfold hwT; rw [← hlw, if_pos c]
      obtain ⟨h', a, o, z1, z2⟩ := ih (k + 1) n (sA h 114 (11357 + 7 * k + 6) (hwT W fr to b k)) (by omega) (by omega) L (fun i i0 hi => by
        rw [aI_sAk _ _ _ _ _ (by omega) i0 (by omega)]; exact r1 i i0 hi) (fun j hj => by
        rw [aI_sA _ _ _ _ _ (by omega) (by omega)]
        by_cases e : j = k
        · subst e; rw [if_pos rfl, if_pos (by omega)]
        · rw [if_neg (by omega), r2 j hj]
          by_cases f : j < k
          · rw [if_pos f, if_pos (by omega)]
          · rw [if_neg f, if_neg (by omega)])
      refine ⟨h', ?_, (Oi.A 114 h _ _).tr o, z1, z2⟩
      have t5 : w32 (W (11357 + 7 * (k : Int) + 6) + 4) = W (11357 + 7 * k + 6) + 4 := w32i _ (by omega) (by omega)
      rw [← a, X12_test_L139_s]
      unfold X12_test_L225 X12_test_L227
      by_cases f : bj b lw.toNat = true
      · rw [if_pos f] at eb et
        have ee : w32 (W (11357 + 7 * (k : Int) + 6) + 4 + 8) = hwT W fr to b k := by rw [et]; exact w32i _ (by omega) (by omega)
        simp (disch := (first | assumption | with_reducible rfl | (simp only [LayC_sI, LayC_sJ, LayC_sA, LayC_sB, LayC_sIr, LayC_exc, LayM_sI, LayM_sJ, LayM_sA, LayM_sB, LayM_sIr, LayM_exc, LayK_sI, LayK_sJ, LayK_sA, LayK_sB, LayK_sIr, LayK_exc]; assumption) | omega | decide | (simp (disch := (first | decide | omega)) only [gI_sJ, gI_sB, gI_sP, gI_exc, gI_sIe, aI_sJ, aI_sB, aI_sP, aI_exc, aI_sAe, aJ_sI, aJ_sA, aJ_sP, aJ_sIr, aJ_exc, aJ_sBe, gJ_sI, gJ_sA, gJ_sP, gJ_sIr, gJ_exc, gP_sI, gP_sJ, gP_sA, gP_sB, gP_sIr, gP_exc, gI_sIn, gI_sIk, gI_sAn, gI_sIrn, aI_sIn, aI_sAn, aI_sIrn, aI_sAk, aJ_sJn, aJ_sBn, gJ_sJn, gJ_sBn, gJ_sJe, gS_sI, gS_sJ, gS_sP, gS_sA, gS_sB, gS_sIr, gS_exc, w32i, w64i]; first | done | assumption | omega))) only [↓b_xbs, ↓b_xthr, ↓b_xthl, ↓b_xctr, ↓b_xctl, ↓b_xz, ↓b_xzX, ↓b_xd, ↓if_pos, ↓if_neg, ↓mI113, ↓mW113, ↓mZ113, ↓mJ113, ↓mV113, ↓mR113, ↓mA114, ↓mS114, ↓mL114, ↓mA115, ↓mS115, ↓mL115, ↓mA116, ↓mS116, ↓mL116, ↓mA117, ↓mS117, ↓mL117, ↓mA118, ↓mS118, ↓mL118, ↓mA119, ↓mS119, ↓mL119, ↓mA120, ↓mS120, ↓mL120, ↓mA121, ↓mS121, ↓mL121, ↓mA122, ↓mS122, ↓mL122, ↓mA123, ↓mS123, ↓mL123, ↓mA124, ↓mS124, ↓mL124, ↓mA125, ↓mS125, ↓mL125, ↓mA126, ↓mS126, ↓mL126, ↓mP113_1, ↓mP113_2, ↓mP113_4, ↓mP113_11, ↓mP113_12, ↓mP113_16, ↓mP113_17, ↓mP113_18, ↓mP113_24, ↓mP113_25, ↓mP113_29, ↓mP113_30, ↓bE_writings, ↓bE_of, g1, g6, em, ↓bE_in1, t4, ↓bE_writingAt, t5, ee, e1]
      · rw [if_neg f] at eb et
        have eb' : ¬ xand (xshr b lw) 1 = 1 := by omega
        have ee : w32 (W (11357 + 7 * (k : Int) + 6) + 4 + 0) = hwT W fr to b k := by rw [et]; exact w32i _ (by omega) (by omega)
        simp (disch := (first | assumption | with_reducible rfl | (simp only [LayC_sI, LayC_sJ, LayC_sA, LayC_sB, LayC_sIr, LayC_exc, LayM_sI, LayM_sJ, LayM_sA, LayM_sB, LayM_sIr, LayM_exc, LayK_sI, LayK_sJ, LayK_sA, LayK_sB, LayK_sIr, LayK_exc]; assumption) | omega | decide | (simp (disch := (first | decide | omega)) only [gI_sJ, gI_sB, gI_sP, gI_exc, gI_sIe, aI_sJ, aI_sB, aI_sP, aI_exc, aI_sAe, aJ_sI, aJ_sA, aJ_sP, aJ_sIr, aJ_exc, aJ_sBe, gJ_sI, gJ_sA, gJ_sP, gJ_sIr, gJ_exc, gP_sI, gP_sJ, gP_sA, gP_sB, gP_sIr, gP_exc, gI_sIn, gI_sIk, gI_sAn, gI_sIrn, aI_sIn, aI_sAn, aI_sIrn, aI_sAk, aJ_sJn, aJ_sBn, gJ_sJn, gJ_sBn, gJ_sJe, gS_sI, gS_sJ, gS_sP, gS_sA, gS_sB, gS_sIr, gS_exc, w32i, w64i]; first | done | assumption | omega))) only [↓b_xbs, ↓b_xthr, ↓b_xthl, ↓b_xctr, ↓b_xctl, ↓b_xz, ↓b_xzX, ↓b_xd, ↓if_pos, ↓if_neg, ↓mI113, ↓mW113, ↓mZ113, ↓mJ113, ↓mV113, ↓mR113, ↓mA114, ↓mS114, ↓mL114, ↓mA115, ↓mS115, ↓mL115, ↓mA116, ↓mS116, ↓mL116, ↓mA117, ↓mS117, ↓mL117, ↓mA118, ↓mS118, ↓mL118, ↓mA119, ↓mS119, ↓mL119, ↓mA120, ↓mS120, ↓mL120, ↓mA121, ↓mS121, ↓mL121, ↓mA122, ↓mS122, ↓mL122, ↓mA123, ↓mS123, ↓mL123, ↓mA124, ↓mS124, ↓mL124, ↓mA125, ↓mS125, ↓mL125, ↓mA126, ↓mS126, ↓mL126, ↓mP113_1, ↓mP113_2, ↓mP113_4, ↓mP113_11, ↓mP113_12, ↓mP113_16, ↓mP113_17, ↓mP113_18, ↓mP113_24, ↓mP113_25, ↓mP113_29, ↓mP113_30, ↓bE_writings, ↓bE_of, g1, g6, em, ↓bE_in1, t4, ↓bE_writingAt, t5, ee, e1]
    · have et : hwT W fr to b k = W (11357 + 7 * k + 6) := by unfold hwT; rw [← hlw, if_neg c]
      obtain ⟨h', a, o, z1, z2⟩ := ih (k + 1) n h (by omega) (by omega) L r1 (fun j hj => by
        rw [r2 j hj]
        by_cases e : j = k
        · subst e; rw [if_neg (Nat.lt_irrefl _), if_pos (by omega), et]
        · by_cases f : j < k
          · rw [if_pos f, if_pos (by omega)]
          · rw [if_neg f, if_neg (by omega)])
      refine ⟨h', ?_, o, z1, z2⟩
      rw [← a, X12_test_L139_s]
      unfold X12_test_L227
      by_cases c1 : fr ≤ lw ∧ lw ≤ to
      · have c3 : W (11357 + 7 * (k : Int) + 6) / 4 % 2 = 1 := by omega
        simp (disch := (first | assumption | with_reducible rfl | (simp only [LayC_sI, LayC_sJ, LayC_sA, LayC_sB, LayC_sIr, LayC_exc, LayM_sI, LayM_sJ, LayM_sA, LayM_sB, LayM_sIr, LayM_exc, LayK_sI, LayK_sJ, LayK_sA, LayK_sB, LayK_sIr, LayK_exc]; assumption) | omega | decide | (simp (disch := (first | decide | omega)) only [gI_sJ, gI_sB, gI_sP, gI_exc, gI_sIe, aI_sJ, aI_sB, aI_sP, aI_exc, aI_sAe, aJ_sI, aJ_sA, aJ_sP, aJ_sIr, aJ_exc, aJ_sBe, gJ_sI, gJ_sA, gJ_sP, gJ_sIr, gJ_exc, gP_sI, gP_sJ, gP_sA, gP_sB, gP_sIr, gP_exc, gI_sIn, gI_sIk, gI_sAn, gI_sIrn, aI_sIn, aI_sAn, aI_sIrn, aI_sAk, aJ_sJn, aJ_sBn, gJ_sJn, gJ_sBn, gJ_sJe, gS_sI, gS_sJ, gS_sP, gS_sA, gS_sB, gS_sIr, gS_exc, w32i, w64i]; first | done | assumption | omega))) only [↓b_xbs, ↓b_xthr, ↓b_xthl, ↓b_xctr, ↓b_xctl, ↓b_xz, ↓b_xzX, ↓b_xd, ↓if_pos, ↓if_neg, ↓mI113, ↓mW113, ↓mZ113, ↓mJ113, ↓mV113, ↓mR113, ↓mA114, ↓mS114, ↓mL114, ↓mA115, ↓mS115, ↓mL115, ↓mA116, ↓mS116, ↓mL116, ↓mA117, ↓mS117, ↓mL117, ↓mA118, ↓mS118, ↓mL118, ↓mA119, ↓mS119, ↓mL119, ↓mA120, ↓mS120, ↓mL120, ↓mA121, ↓mS121, ↓mL121, ↓mA122, ↓mS122, ↓mL122, ↓mA123, ↓mS123, ↓mL123, ↓mA124, ↓mS124, ↓mL124, ↓mA125, ↓mS125, ↓mL125, ↓mA126, ↓mS126, ↓mL126, ↓mP113_1, ↓mP113_2, ↓mP113_4, ↓mP113_11, ↓mP113_12, ↓mP113_16, ↓mP113_17, ↓mP113_18, ↓mP113_24, ↓mP113_25, ↓mP113_29, ↓mP113_30, ↓bE_writings, ↓bE_of, g1, g6, em, ↓bE_in1, t4, e1]
      · simp (disch := (first | assumption | with_reducible rfl | (simp only [LayC_sI, LayC_sJ, LayC_sA, LayC_sB, LayC_sIr, LayC_exc, LayM_sI, LayM_sJ, LayM_sA, LayM_sB, LayM_sIr, LayM_exc, LayK_sI, LayK_sJ, LayK_sA, LayK_sB, LayK_sIr, LayK_exc]; assumption) | omega | decide | (simp (disch := (first | decide | omega)) only [gI_sJ, gI_sB, gI_sP, gI_exc, gI_sIe, aI_sJ, aI_sB, aI_sP, aI_exc, aI_sAe, aJ_sI, aJ_sA, aJ_sP, aJ_sIr, aJ_exc, aJ_sBe, gJ_sI, gJ_sA, gJ_sP, gJ_sIr, gJ_exc, gP_sI, gP_sJ, gP_sA, gP_sB, gP_sIr, gP_exc, gI_sIn, gI_sIk, gI_sAn, gI_sIrn, aI_sIn, aI_sAn, aI_sIrn, aI_sAk, aJ_sJn, aJ_sBn, gJ_sJn, gJ_sBn, gJ_sJe, gS_sI, gS_sJ, gS_sP, gS_sA, gS_sB, gS_sIr, gS_exc, w32i, w64i]; first | done | assumption | omega))) only [↓b_xbs, ↓b_xthr, ↓b_xthl, ↓b_xctr, ↓b_xctl, ↓b_xz, ↓b_xzX, ↓b_xd, ↓if_pos, ↓if_neg, ↓mI113, ↓mW113, ↓mZ113, ↓mJ113, ↓mV113, ↓mR113, ↓mA114, ↓mS114, ↓mL114, ↓mA115, ↓mS115, ↓mL115, ↓mA116, ↓mS116, ↓mL116, ↓mA117, ↓mS117, ↓mL117, ↓mA118, ↓mS118, ↓mL118, ↓mA119, ↓mS119, ↓mL119, ↓mA120, ↓mS120, ↓mL120, ↓mA121, ↓mS121, ↓mL121, ↓mA122, ↓mS122, ↓mL122, ↓mA123, ↓mS123, ↓mL123, ↓mA124, ↓mS124, ↓mL124, ↓mA125, ↓mS125, ↓mL125, ↓mA126, ↓mS126, ↓mL126, ↓mP113_1, ↓mP113_2, ↓mP113_4, ↓mP113_11, ↓mP113_12, ↓mP113_16, ↓mP113_17, ↓mP113_18, ↓mP113_24, ↓mP113_25, ↓mP113_29, ↓mP113_30, ↓bE_writings, ↓bE_of, g1, g6, em, ↓bE_in0, e1]
/-- one row after the test -/
theorem RR1.tst {h h' : HP} {W W' : Int → Int} {fr to b : Int} {k : Int} (r : RR1 h 0 W k) (g : W' 8 = W 8) (c16 : aI h' 16 k = aI h 16 k) (c17 : aI h' 17 k = aI h 17 k) (c18 : aI h' 18 k = tgT W fr to b k (aI h 18 k)) (w : ∀ i : Int, 0 ≤ i → i < 6 → W' (11357 + 7 * k + i) = W (11357 + 7 * k + i)) (w6 : W' (11357 + 7 * k + 6) = hwT W fr to b k) : RR1 h' 0 W' k := by
  obtain ⟨te, ca, x1, x2, x3, x4, x5, x6, x7, x8, x9, x10, x11, x12, x13, x14, x15, x16, x17⟩ := r
  have y0 := w 0 (by decide) (by decide)
  rw [Int.add_zero] at y0
  have y1 := w 1 (by decide) (by decide)
  have y2 := w 2 (by decide) (by decide)
  have y3 := w 3 (by decide) (by decide)
  have y4 := w 4 (by decide) (by decide)
  have y5 := w 5 (by decide) (by decide)
  simp only [Nat.add_zero] at x1 x2 x3 x4 x5
  unfold RR1
  simp only [Nat.add_zero]
  rw [c16, c17, c18, y0, y1, y2, y3, y4, y5, w6, g]
  obtain ⟨how, hhow⟩ : ∃ how, how = W (11357 + 7 * k + 6) := ⟨_, rfl⟩
  obtain ⟨bb, hbb⟩ : ∃ bb : Int, bb = if bj b (W (11357 + 7 * k + 1) % 16).toNat = true then 1 else 0 := ⟨_, rfl⟩
  have b01 : bb = 0 ∨ bb = 1 := by rw [hbb]; split <;> simp
  have ebt : (if bj b (W (11357 + 7 * k + 1) % 16).toNat = true then (12582912 : Int) else 4194304) = 4194304 + 8388608 * bb := by
    rw [hbb]; split <;> rfl
  have ebh : (if bj b (W (11357 + 7 * k + 1) % 16).toNat = true then (8 : Int) else 0) = 8 * bb := by
    rw [hbb]; split <;> rfl
  unfold tgT hwT
  rw [ebt, ebh]
  rw [← hhow] at x5 x6 x7 x15 x16 x17 ⊢
  by_cases cr : fr ≤ W (11357 + 7 * k + 1) % 16 ∧ W (11357 + 7 * k + 1) % 16 ≤ to
  · by_cases c4 : how / 4 % 2 = 0
    · rw [if_pos (show fr ≤ W (11357 + 7 * k + 1) % 16 ∧ W (11357 + 7 * k + 1) % 16 ≤ to ∧ how / 4 % 2 = 0 from ⟨cr.1, cr.2, c4⟩)]
      have m2 : (how + 4 + 8 * bb) % 2 = how % 2 := by omega
      have m3 : (how + 4 + 8 * bb) / 2 % 2 = how / 2 % 2 := by omega
      rcases (show how % 2 = 0 ∨ how % 2 = 1 by omega) with z | z
      · have z7 := x7 z
        rw [if_neg (by omega)]
        refine ⟨te, ca, x1, x2, x3, x4, ?_, fun q => by omega, fun q => by omega, x8, x9, x10, x11, x12, x13, x14, by omega, by omega, fun q => x17 (by omega)⟩
        rw [m2, m3]; exact x5
      · have z6 := x6 z
        rw [if_pos (show fr ≤ W (11357 + 7 * k + 1) % 16 ∧ W (11357 + 7 * k + 1) % 16 ≤ to ∧ how % 2 = 1 ∧ how / 4 % 2 = 0 from ⟨cr.1, cr.2, z, c4⟩)]
        refine ⟨1, bb, x1, x2, x3, x4, ?_, fun q => by omega, fun q => by omega, by omega, x9, x10, x11, x12, x13, x14, by omega, by omega, fun q => x17 (by omega)⟩
        rw [m2, m3, x5]
        unfold tgO
        omega
    · rw [if_neg (by omega), if_neg (by omega)]
      exact ⟨te, ca, x1, x2, x3, x4, x5, x6, x7, x8, x9, x10, x11, x12, x13, x14, x15, x16, x17⟩
  · rw [if_neg (by omega), if_neg (by omega)]
    exact ⟨te, ca, x1, x2, x3, x4, x5, x6, x7, x8, x9, x10, x11, x12, x13, x14, x15, x16, x17⟩
end TM
