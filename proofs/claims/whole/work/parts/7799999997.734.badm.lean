section BM
variable {F : Nat} {h : HP}
/-- what the reference's loops over the rows carry -/
def BdM (W : Int → Int) (bd : Int) (h : HP) : Prop := LayM h ∧ aI h 114 = W ∧ ∀ i : Nat, i < 64 → aI h 121 i = if tb bd i = true then 1 else 0
def spN (a b : Int) : Nat → Nat → Int → Int
  | 0, _, s => s
  | m + 1, i, s => spN a b m (i + 1) (if s = 1 ∨ tb b i = true ∧ tb a i = true then 1 else 0)
theorem spN_s (a b : Int) (m i : Nat) (s : Int) : spN a b (m + 1) i s = spN a b m (i + 1) (if s = 1 ∨ tb b i = true ∧ tb a i = true then 1 else 0) := rfl
theorem spN_1 (a b : Int) : ∀ (m i : Nat), spN a b m i 1 = 1 := by
  intro m
  induction m with
  | zero => intro i; rfl
  | succ m ih => intro i; unfold spN; rw [if_pos (Or.inl rfl)]; exact ih _
theorem spN_0 (a b : Int) : ∀ (m i : Nat), (∀ j, i ≤ j → j < i + m → tb a j = true → tb b j = false) → spN a b m i 0 = 0 := by
  intro m
  induction m with
  | zero => intro i _; rfl
  | succ m ih =>
    intro i d
    unfold spN
    rw [if_neg (fun q => by
      rcases q with q | q
      · cases q
      · have := d i (Nat.le_refl i) (by omega) q.2
        rw [q.1] at this; cases this)]
    exact ih (i + 1) (fun j h1 h2 h3 => d j (by omega) (by omega) h3)
theorem spN_2 (a b : Int) : ∀ (m i j : Nat), i ≤ j → j < i + m → tb a j = true → tb b j = true → spN a b m i 0 = 1 := by
  intro m
  induction m with
  | zero => intro i j h1 h2; omega
  | succ m ih =>
    intro i j h1 h2 h3 h4
    unfold spN
    by_cases c : j = i
    · subst c
      rw [if_pos (Or.inr ⟨h4, h3⟩)]; exact spN_1 a b m _
    · by_cases d : (0 : Int) = 1 ∨ tb b i = true ∧ tb a i = true
      · rw [if_pos d]; exact spN_1 a b m _
      · rw [if_neg d]; exact ih (i + 1) j (by omega) (by omega) h3 h4
theorem spN_yand (a b : Int) : spN a b 64 0 0 = if yand a b ≠ 0 then 1 else 0 := by
  by_cases c : yand a b = 0
  · rw [if_neg (fun q => q c)]
    exact spN_0 a b 64 0 (fun j _ h2 h3 => (yand_0 a b).mp c j (by omega) h3)
  · rw [if_pos c]
    have : ¬ ∀ j, j < 64 → tb a j = true → tb b j = false := fun q => c ((yand_0 a b).mpr q)
    by_cases e : ∃ j, j < 64 ∧ tb a j = true ∧ tb b j = true
    · obtain ⟨j, h1, h2, h3⟩ := e
      exact spN_2 a b 64 0 j (by omega) (by omega) h2 h3
    · exact absurd (fun j h1 h2 => by
        cases z : tb b j with
        | false => rfl
        | true => exact absurd ⟨j, h1, h2, z⟩ e) this
theorem bd_in (W : Int → Int) (w bd ms k : Int) (hw : W (11357 + 7 * k + 1) = w) (h0 : 0 ≤ w) (h1 : w < 64) (i : Nat) (hi : i < 64) : tb (bdN W bd ms k) i = if (i : Int) = w then decide (ms = 1 ∨ W (11357 + 7 * k + 6) % 2 = 1 ∧ W (11357 + 7 * k + 6) / 8 = 1) else tb bd i := by
  obtain ⟨n, rfl⟩ := Int.eq_ofNat_of_zero_le h0
  unfold bdN
  rw [hw]
  by_cases c : ms = 1 ∨ W (11357 + 7 * k + 6) % 2 = 1 ∧ W (11357 + 7 * k + 6) / 8 = 1
  · rw [if_pos c, tb_or, tb_shl1 n (by omega) i hi, decide_eq_true c]
    by_cases e : (i : Int) = (n : Int)
    · rw [if_pos e, decide_eq_true (show i = n by omega), Bool.or_true]
    · rw [if_neg e, decide_eq_false (show ¬ i = n by omega), Bool.or_false]
  · rw [if_neg c, tb_and, tb_xor, tb_m1 i hi, tb_shl1 n (by omega) i hi, decide_eq_false c]
    by_cases e : (i : Int) = (n : Int)
    · rw [if_pos e, decide_eq_true (show i = n by omega)]; simp
    · rw [if_neg e, decide_eq_false (show ¬ i = n by omega)]; simp
theorem E_ba120 {W : Int → Int} {bd : Int} (r : BdM W bd h) (rc : Nat → Int → Int → HP → Option (Int × HP)) (ms : Int) (i : Nat) (hi : i < 5120) (hm : ms = 0 ∨ ms = 1) (a0 : 0 ≤ W (11357 + 7 * i + 6)) (a1 : W (11357 + 7 * i + 6) < 16) (b0 : 0 ≤ W (11357 + 7 * i + 1)) (b1 : W (11357 + 7 * i + 1) < 64) : ∃ h', X12_bad_L120 F rc 113 ms i (W (11357 + 7 * i + 6)) h = rc 113 ms ((i + 1 : Nat) : Int) h' ∧ BdM W (bdN W bd ms i) h' ∧ Oi 121 h h' := by
  have ei : w32 ((i : Int) + 1) = ((i + 1 : Nat) : Int) := by rw [w32i _ (by omega) (by omega)]; omega
  obtain ⟨L, rW, rb⟩ := r
  have t1 := how_1 _ a0
  have t8 := how_8 _ a0 a1
  have eW : aI h 114 (11357 + 7 * (i : Int) + 1) = W (11357 + 7 * i + 1) := by rw [rW]
  obtain ⟨w, hw⟩ : ∃ w, w = W (11357 + 7 * i + 1) := ⟨_, rfl⟩
  rw [← hw] at b0 b1 eW
  have inv : ∀ z, (z = if (ms = 1 ∨ W (11357 + 7 * i + 6) % 2 = 1 ∧ W (11357 + 7 * i + 6) / 8 = 1) then 1 else 0) → BdM W (bdN W bd ms i) (sA h 121 w z) := by
    intro z hz
    refine ⟨L, by rw [aI_sAn _ _ _ _ _ (by decide)]; exact rW, fun j hj => ?_⟩
    rw [aI_sA _ _ _ _ _ b0 (by omega), bd_in W w bd ms i hw.symm b0 b1 j hj]
    by_cases e : (j : Int) = w
    · rw [if_pos e, if_pos e, hz]
      by_cases c : (ms = 1 ∨ W (11357 + 7 * i + 6) % 2 = 1 ∧ W (11357 + 7 * i + 6) / 8 = 1)
      · rw [if_pos c, if_pos (decide_eq_true c)]
      · rw [if_neg c, if_neg (by rw [decide_eq_false c]; decide)]
    · rw [if_neg e, if_neg e]; exact rb j hj
  refine ⟨sA h 121 w (if (ms = 1 ∨ W (11357 + 7 * i + 6) % 2 = 1 ∧ W (11357 + 7 * i + 6) / 8 = 1) then 1 else 0), ?_, inv _ rfl, Oi.A 121 h _ _⟩
  unfold X12_bad_L120 X12_bad_L149 X12_bad_L153 X12_bad_L154
  rcases hm with rfl | rfl
  · by_cases c1 : W (11357 + 7 * i + 6) % 2 = 1
    · by_cases c2 : W (11357 + 7 * i + 6) / 8 = 1
      · rw [if_pos (Or.inr ⟨c1, c2⟩)]
        simp (disch := (first | assumption | with_reducible rfl | (simp only [LayC_sI, LayC_sJ, LayC_sA, LayC_sB, LayC_sIr, LayC_exc, LayM_sI, LayM_sJ, LayM_sA, LayM_sB, LayM_sIr, LayM_exc, LayK_sI, LayK_sJ, LayK_sA, LayK_sB, LayK_sIr, LayK_exc]; assumption) | omega | decide | (simp (disch := (first | decide | omega)) only [gI_sJ, gI_sB, gI_sP, gI_exc, gI_sIe, aI_sJ, aI_sB, aI_sP, aI_exc, aI_sAe, aJ_sI, aJ_sA, aJ_sP, aJ_sIr, aJ_exc, aJ_sBe, gJ_sI, gJ_sA, gJ_sP, gJ_sIr, gJ_exc, gP_sI, gP_sJ, gP_sA, gP_sB, gP_sIr, gP_exc, gI_sIn, gI_sIk, gI_sAn, gI_sIrn, aI_sIn, aI_sAn, aI_sIrn, aI_sAk, aJ_sJn, aJ_sBn, gJ_sJn, gJ_sBn, gJ_sJe, gS_sI, gS_sJ, gS_sP, gS_sA, gS_sB, gS_sIr, gS_exc, w32i, w64i]; first | done | assumption | omega))) only [↓b_xbs, ↓b_xthr, ↓b_xthl, ↓b_xctr, ↓b_xctl, ↓b_xz, ↓b_xzX, ↓b_xd, ↓if_pos, ↓if_neg, ↓mI113, ↓mW113, ↓mZ113, ↓mJ113, ↓mV113, ↓mR113, ↓mA114, ↓mS114, ↓mL114, ↓mA115, ↓mS115, ↓mL115, ↓mA116, ↓mS116, ↓mL116, ↓mA117, ↓mS117, ↓mL117, ↓mA118, ↓mS118, ↓mL118, ↓mA119, ↓mS119, ↓mL119, ↓mA120, ↓mS120, ↓mL120, ↓mA121, ↓mS121, ↓mL121, ↓mA122, ↓mS122, ↓mL122, ↓mA123, ↓mS123, ↓mL123, ↓mA124, ↓mS124, ↓mL124, ↓mA125, ↓mS125, ↓mL125, ↓mA126, ↓mS126, ↓mL126, ↓mP113_1, ↓mP113_2, ↓mP113_4, ↓mP113_11, ↓mP113_12, ↓mP113_16, ↓mP113_17, ↓mP113_18, ↓mP113_24, ↓mP113_25, ↓mP113_29, ↓mP113_30, ↓bE_of, t1, t8, eW, ei]
      · rw [if_neg (by omega)]
        simp (disch := (first | assumption | with_reducible rfl | (simp only [LayC_sI, LayC_sJ, LayC_sA, LayC_sB, LayC_sIr, LayC_exc, LayM_sI, LayM_sJ, LayM_sA, LayM_sB, LayM_sIr, LayM_exc, LayK_sI, LayK_sJ, LayK_sA, LayK_sB, LayK_sIr, LayK_exc]; assumption) | omega | decide | (simp (disch := (first | decide | omega)) only [gI_sJ, gI_sB, gI_sP, gI_exc, gI_sIe, aI_sJ, aI_sB, aI_sP, aI_exc, aI_sAe, aJ_sI, aJ_sA, aJ_sP, aJ_sIr, aJ_exc, aJ_sBe, gJ_sI, gJ_sA, gJ_sP, gJ_sIr, gJ_exc, gP_sI, gP_sJ, gP_sA, gP_sB, gP_sIr, gP_exc, gI_sIn, gI_sIk, gI_sAn, gI_sIrn, aI_sIn, aI_sAn, aI_sIrn, aI_sAk, aJ_sJn, aJ_sBn, gJ_sJn, gJ_sBn, gJ_sJe, gS_sI, gS_sJ, gS_sP, gS_sA, gS_sB, gS_sIr, gS_exc, w32i, w64i]; first | done | assumption | omega))) only [↓b_xbs, ↓b_xthr, ↓b_xthl, ↓b_xctr, ↓b_xctl, ↓b_xz, ↓b_xzX, ↓b_xd, ↓if_pos, ↓if_neg, ↓mI113, ↓mW113, ↓mZ113, ↓mJ113, ↓mV113, ↓mR113, ↓mA114, ↓mS114, ↓mL114, ↓mA115, ↓mS115, ↓mL115, ↓mA116, ↓mS116, ↓mL116, ↓mA117, ↓mS117, ↓mL117, ↓mA118, ↓mS118, ↓mL118, ↓mA119, ↓mS119, ↓mL119, ↓mA120, ↓mS120, ↓mL120, ↓mA121, ↓mS121, ↓mL121, ↓mA122, ↓mS122, ↓mL122, ↓mA123, ↓mS123, ↓mL123, ↓mA124, ↓mS124, ↓mL124, ↓mA125, ↓mS125, ↓mL125, ↓mA126, ↓mS126, ↓mL126, ↓mP113_1, ↓mP113_2, ↓mP113_4, ↓mP113_11, ↓mP113_12, ↓mP113_16, ↓mP113_17, ↓mP113_18, ↓mP113_24, ↓mP113_25, ↓mP113_29, ↓mP113_30, ↓bE_of, t1, t8, eW, ei]
    · rw [if_neg (by omega)]
      simp (disch := (first | assumption | with_reducible rfl | (simp only [LayC_sI, LayC_sJ, LayC_sA, LayC_sB, LayC_sIr, LayC_exc, LayM_sI, LayM_sJ, LayM_sA, LayM_sB, LayM_sIr, LayM_exc, LayK_sI, LayK_sJ, LayK_sA, LayK_sB, LayK_sIr, LayK_exc]; assumption) | omega | decide | (simp (disch := (first | decide | omega)) only [gI_sJ, gI_sB, gI_sP, gI_exc, gI_sIe, aI_sJ, aI_sB, aI_sP, aI_exc, aI_sAe, aJ_sI, aJ_sA, aJ_sP, aJ_sIr, aJ_exc, aJ_sBe, gJ_sI, gJ_sA, gJ_sP, gJ_sIr, gJ_exc, gP_sI, gP_sJ, gP_sA, gP_sB, gP_sIr, gP_exc, gI_sIn, gI_sIk, gI_sAn, gI_sIrn, aI_sIn, aI_sAn, aI_sIrn, aI_sAk, aJ_sJn, aJ_sBn, gJ_sJn, gJ_sBn, gJ_sJe, gS_sI, gS_sJ, gS_sP, gS_sA, gS_sB, gS_sIr, gS_exc, w32i, w64i]; first | done | assumption | omega))) only [↓b_xbs, ↓b_xthr, ↓b_xthl, ↓b_xctr, ↓b_xctl, ↓b_xz, ↓b_xzX, ↓b_xd, ↓if_pos, ↓if_neg, ↓mI113, ↓mW113, ↓mZ113, ↓mJ113, ↓mV113, ↓mR113, ↓mA114, ↓mS114, ↓mL114, ↓mA115, ↓mS115, ↓mL115, ↓mA116, ↓mS116, ↓mL116, ↓mA117, ↓mS117, ↓mL117, ↓mA118, ↓mS118, ↓mL118, ↓mA119, ↓mS119, ↓mL119, ↓mA120, ↓mS120, ↓mL120, ↓mA121, ↓mS121, ↓mL121, ↓mA122, ↓mS122, ↓mL122, ↓mA123, ↓mS123, ↓mL123, ↓mA124, ↓mS124, ↓mL124, ↓mA125, ↓mS125, ↓mL125, ↓mA126, ↓mS126, ↓mL126, ↓mP113_1, ↓mP113_2, ↓mP113_4, ↓mP113_11, ↓mP113_12, ↓mP113_16, ↓mP113_17, ↓mP113_18, ↓mP113_24, ↓mP113_25, ↓mP113_29, ↓mP113_30, ↓bE_of, t1, t8, eW, ei]
  · rw [if_pos (Or.inl rfl)]
    simp (disch := (first | assumption | with_reducible rfl | (simp only [LayC_sI, LayC_sJ, LayC_sA, LayC_sB, LayC_sIr, LayC_exc, LayM_sI, LayM_sJ, LayM_sA, LayM_sB, LayM_sIr, LayM_exc, LayK_sI, LayK_sJ, LayK_sA, LayK_sB, LayK_sIr, LayK_exc]; assumption) | omega | decide | (simp (disch := (first | decide | omega)) only [gI_sJ, gI_sB, gI_sP, gI_exc, gI_sIe, aI_sJ, aI_sB, aI_sP, aI_exc, aI_sAe, aJ_sI, aJ_sA, aJ_sP, aJ_sIr, aJ_exc, aJ_sBe, gJ_sI, gJ_sA, gJ_sP, gJ_sIr, gJ_exc, gP_sI, gP_sJ, gP_sA, gP_sB, gP_sIr, gP_exc, gI_sIn, gI_sIk, gI_sAn, gI_sIrn, aI_sIn, aI_sAn, aI_sIrn, aI_sAk, aJ_sJn, aJ_sBn, gJ_sJn, gJ_sBn, gJ_sJe, gS_sI, gS_sJ, gS_sP, gS_sA, gS_sB, gS_sIr, gS_exc, w32i, w64i]; first | done | assumption | omega))) only [↓b_xbs, ↓b_xthr, ↓b_xthl, ↓b_xctr, ↓b_xctl, ↓b_xz, ↓b_xzX, ↓b_xd, ↓if_pos, ↓if_neg, ↓mI113, ↓mW113, ↓mZ113, ↓mJ113, ↓mV113, ↓mR113, ↓mA114, ↓mS114, ↓mL114, ↓mA115, ↓mS115, ↓mL115, ↓mA116, ↓mS116, ↓mL116, ↓mA117, ↓mS117, ↓mL117, ↓mA118, ↓mS118, ↓mL118, ↓mA119, ↓mS119, ↓mL119, ↓mA120, ↓mS120, ↓mL120, ↓mA121, ↓mS121, ↓mL121, ↓mA122, ↓mS122, ↓mL122, ↓mA123, ↓mS123, ↓mL123, ↓mA124, ↓mS124, ↓mL124, ↓mA125, ↓mS125, ↓mL125, ↓mA126, ↓mS126, ↓mL126, ↓mP113_1, ↓mP113_2, ↓mP113_4, ↓mP113_11, ↓mP113_12, ↓mP113_16, ↓mP113_17, ↓mP113_18, ↓mP113_24, ↓mP113_25, ↓mP113_29, ↓mP113_30, ↓bE_of, t1, t8, eW, ei]
theorem E_ba56 {W : Int → Int} {bd : Int} (r : BdM W bd h) (rc : Nat → Int → Int → HP → Option (Int × HP)) (i : Nat) (hi : i < 5120) (a0 : 0 ≤ W (11357 + 7 * i + 6)) (a1 : W (11357 + 7 * i + 6) < 16) (b : W (11357 + 7 * i + 6) / 2 % 2 = 1) (c0 : 0 ≤ W (11357 + 7 * i + 4)) (c1 : W (11357 + 7 * i + 4) < 12) : ∀ (m w k : Nat) (s : Int), m < k → w + m = 64 → (s = 0 ∨ s = 1) → X12_bad_L56 F rc k 113 s i (W (11357 + 7 * i + 6)) w h = X12_bad_L120 F rc 113 (spN (rdM W (W (11357 + 7 * i + 4))) bd m w s) i (W (11357 + 7 * i + 6)) h := by
  obtain ⟨L, rW, rb⟩ := r
  have t2 := how_2 _ a0 a1
  have eW : aI h 114 (11357 + 7 * (i : Int) + 4) = W (11357 + 7 * i + 4) := by rw [rW]
  have er : rdM (aI h 114) (W (11357 + 7 * i + 4)) = rdM W (W (11357 + 7 * i + 4)) := by rw [rW]
  intro m
  induction m with
  | zero =>
    intro w k s hk hw hs
    obtain ⟨k, rfl⟩ : ∃ k', k = k' + 1 := ⟨k - 1, by omega⟩
    rw [X12_bad_L56_s]
    simp (disch := (first | assumption | with_reducible rfl | (simp only [LayC_sI, LayC_sJ, LayC_sA, LayC_sB, LayC_sIr, LayC_exc, LayM_sI, LayM_sJ, LayM_sA, LayM_sB, LayM_sIr, LayM_exc, LayK_sI, LayK_sJ, LayK_sA, LayK_sB, LayK_sIr, LayK_exc]; assumption) | omega | decide | (simp (disch := (first | decide | omega)) only [gI_sJ, gI_sB, gI_sP, gI_exc, gI_sIe, aI_sJ, aI_sB, aI_sP, aI_exc, aI_sAe, aJ_sI, aJ_sA, aJ_sP, aJ_sIr, aJ_exc, aJ_sBe, gJ_sI, gJ_sA, gJ_sP, gJ_sIr, gJ_exc, gP_sI, gP_sJ, gP_sA, gP_sB, gP_sIr, gP_exc, gI_sIn, gI_sIk, gI_sAn, gI_sIrn, aI_sIn, aI_sAn, aI_sIrn, aI_sAk, aJ_sJn, aJ_sBn, gJ_sJn, gJ_sBn, gJ_sJe, gS_sI, gS_sJ, gS_sP, gS_sA, gS_sB, gS_sIr, gS_exc, w32i, w64i]; first | done | assumption | omega))) only [↓b_xbs, ↓b_xthr, ↓b_xthl, ↓b_xctr, ↓b_xctl, ↓b_xz, ↓b_xzX, ↓b_xd, ↓if_pos, ↓if_neg, ↓mI113, ↓mW113, ↓mZ113, ↓mJ113, ↓mV113, ↓mR113, ↓mA114, ↓mS114, ↓mL114, ↓mA115, ↓mS115, ↓mL115, ↓mA116, ↓mS116, ↓mL116, ↓mA117, ↓mS117, ↓mL117, ↓mA118, ↓mS118, ↓mL118, ↓mA119, ↓mS119, ↓mL119, ↓mA120, ↓mS120, ↓mL120, ↓mA121, ↓mS121, ↓mL121, ↓mA122, ↓mS122, ↓mL122, ↓mA123, ↓mS123, ↓mL123, ↓mA124, ↓mS124, ↓mL124, ↓mA125, ↓mS125, ↓mL125, ↓mA126, ↓mS126, ↓mL126, ↓mP113_1, ↓mP113_2, ↓mP113_4, ↓mP113_11, ↓mP113_12, ↓mP113_16, ↓mP113_17, ↓mP113_18, ↓mP113_24, ↓mP113_25, ↓mP113_29, ↓mP113_30]; rfl
  | succ m ih =>
    intro w k s hk hw hs
    obtain ⟨k, rfl⟩ : ∃ k', k = k' + 1 := ⟨k - 1, by omega⟩
    have ei : w32 ((w : Int) + 1) = ((w + 1 : Nat) : Int) := by rw [w32i _ (by omega) (by omega)]; omega
    obtain ⟨hw2, o1, o2, w0, w1, nw⟩ : w < 64 ∧ m < k ∧ w + 1 + m = 64 ∧ (0 : Int) ≤ w ∧ (w : Int) < 64 ∧ ¬ (64 : Int) ≤ w := by
      clear t2 a0 a1 b c0 c1 eW er ih ei hs; omega
    obtain ⟨i5, i6, i7⟩ : (0 : Int) ≤ i ∧ (i : Int) < 6000 ∧ (0 : Int) ≤ i ∧ (i : Int) < 6000 ∧ (0 : Int) ≤ 4 ∧ (4 : Int) < 7 := by
      clear t2 a0 a1 b c0 c1 eW er ih ei hs; omega
    have hb := rb w hw2
    have e0 : spN (rdM W (W (11357 + 7 * i + 4))) bd (m + 1) w s = spN (rdM W (W (11357 + 7 * i + 4))) bd m (w + 1) (if s = 1 ∨ tb bd w = true ∧ tb (rdM W (W (11357 + 7 * i + 4))) w = true then 1 else 0) := spN_s _ _ _ _ _
    have hs' : (if s = 1 ∨ tb bd w = true ∧ tb (rdM W (W (11357 + 7 * i + 4))) w = true then (1 : Int) else 0) = 0 ∨ (if s = 1 ∨ tb bd w = true ∧ tb (rdM W (W (11357 + 7 * i + 4))) w = true then (1 : Int) else 0) = 1 := by
      split
      · exact Or.inr rfl
      · exact Or.inl rfl
    rw [e0, ← ih (w + 1) k _ o1 o2 hs', X12_bad_L56_s]
    clear hs' e0 ih hw hk rb
    unfold X12_bad_L108 X12_bad_L112 X12_bad_L113
    rcases hs with rfl | rfl
    · cases e1 : tb bd w with
      | false =>
        rw [e1] at hb
        have hb0 : aI h 121 w = 0 := hb
        rw [if_neg (show ¬ ((0 : Int) = 1 ∨ false = true ∧ tb (rdM W (W (11357 + 7 * i + 4))) w = true) from fun z => by rcases z with z | z; (· cases z); cases z.1)]
        simp (disch := (first | assumption | with_reducible rfl | (simp only [LayC_sI, LayC_sJ, LayC_sA, LayC_sB, LayC_sIr, LayC_exc, LayM_sI, LayM_sJ, LayM_sA, LayM_sB, LayM_sIr, LayM_exc, LayK_sI, LayK_sJ, LayK_sA, LayK_sB, LayK_sIr, LayK_exc]; assumption) | omega | decide | (simp (disch := (first | decide | omega)) only [gI_sJ, gI_sB, gI_sP, gI_exc, gI_sIe, aI_sJ, aI_sB, aI_sP, aI_exc, aI_sAe, aJ_sI, aJ_sA, aJ_sP, aJ_sIr, aJ_exc, aJ_sBe, gJ_sI, gJ_sA, gJ_sP, gJ_sIr, gJ_exc, gP_sI, gP_sJ, gP_sA, gP_sB, gP_sIr, gP_exc, gI_sIn, gI_sIk, gI_sAn, gI_sIrn, aI_sIn, aI_sAn, aI_sIrn, aI_sAk, aJ_sJn, aJ_sBn, gJ_sJn, gJ_sBn, gJ_sJe, gS_sI, gS_sJ, gS_sP, gS_sA, gS_sB, gS_sIr, gS_exc, w32i, w64i]; first | done | assumption | omega))) only [↓b_xbs, ↓b_xthr, ↓b_xthl, ↓b_xctr, ↓b_xctl, ↓b_xz, ↓b_xzX, ↓b_xd, ↓if_pos, ↓if_neg, ↓mI113, ↓mW113, ↓mZ113, ↓mJ113, ↓mV113, ↓mR113, ↓mA114, ↓mS114, ↓mL114, ↓mA115, ↓mS115, ↓mL115, ↓mA116, ↓mS116, ↓mL116, ↓mA117, ↓mS117, ↓mL117, ↓mA118, ↓mS118, ↓mL118, ↓mA119, ↓mS119, ↓mL119, ↓mA120, ↓mS120, ↓mL120, ↓mA121, ↓mS121, ↓mL121, ↓mA122, ↓mS122, ↓mL122, ↓mA123, ↓mS123, ↓mL123, ↓mA124, ↓mS124, ↓mL124, ↓mA125, ↓mS125, ↓mL125, ↓mA126, ↓mS126, ↓mL126, ↓mP113_1, ↓mP113_2, ↓mP113_4, ↓mP113_11, ↓mP113_12, ↓mP113_16, ↓mP113_17, ↓mP113_18, ↓mP113_24, ↓mP113_25, ↓mP113_29, ↓mP113_30, t2, ei]
      | true =>
        rw [e1] at hb
        have hb0 : aI h 121 w = 1 := hb
        have ey := yand_1 (yshr (rdM W (W (11357 + 7 * i + 4))) w)
        rw [tb_shr _ w hw2] at ey
        by_cases e2 : tb (rdM W (W (11357 + 7 * i + 4))) w = true
        · rw [if_pos e2] at ey
          have ec : xcmp (yand (yshr (rdM W (W (11357 + 7 * i + 4))) w) 1) 1 = 0 := (xcmp_0 _ _).mpr ey
          rw [if_pos (show (0 : Int) = 1 ∨ true = true ∧ tb (rdM W (W (11357 + 7 * i + 4))) w = true from Or.inr ⟨rfl, e2⟩)]
          simp (disch := (first | assumption | with_reducible rfl | (simp only [LayC_sI, LayC_sJ, LayC_sA, LayC_sB, LayC_sIr, LayC_exc, LayM_sI, LayM_sJ, LayM_sA, LayM_sB, LayM_sIr, LayM_exc, LayK_sI, LayK_sJ, LayK_sA, LayK_sB, LayK_sIr, LayK_exc]; assumption) | omega | decide | (simp (disch := (first | decide | omega)) only [gI_sJ, gI_sB, gI_sP, gI_exc, gI_sIe, aI_sJ, aI_sB, aI_sP, aI_exc, aI_sAe, aJ_sI, aJ_sA, aJ_sP, aJ_sIr, aJ_exc, aJ_sBe, gJ_sI, gJ_sA, gJ_sP, gJ_sIr, gJ_exc, gP_sI, gP_sJ, gP_sA, gP_sB, gP_sIr, gP_exc, gI_sIn, gI_sIk, gI_sAn, gI_sIrn, aI_sIn, aI_sAn, aI_sIrn, aI_sAk, aJ_sJn, aJ_sBn, gJ_sJn, gJ_sBn, gJ_sJe, gS_sI, gS_sJ, gS_sP, gS_sA, gS_sB, gS_sIr, gS_exc, w32i, w64i]; first | done | assumption | omega))) only [↓b_xbs, ↓b_xthr, ↓b_xthl, ↓b_xctr, ↓b_xctl, ↓b_xz, ↓b_xzX, ↓b_xd, ↓if_pos, ↓if_neg, ↓mI113, ↓mW113, ↓mZ113, ↓mJ113, ↓mV113, ↓mR113, ↓mA114, ↓mS114, ↓mL114, ↓mA115, ↓mS115, ↓mL115, ↓mA116, ↓mS116, ↓mL116, ↓mA117, ↓mS117, ↓mL117, ↓mA118, ↓mS118, ↓mL118, ↓mA119, ↓mS119, ↓mL119, ↓mA120, ↓mS120, ↓mL120, ↓mA121, ↓mS121, ↓mL121, ↓mA122, ↓mS122, ↓mL122, ↓mA123, ↓mS123, ↓mL123, ↓mA124, ↓mS124, ↓mL124, ↓mA125, ↓mS125, ↓mL125, ↓mA126, ↓mS126, ↓mL126, ↓mP113_1, ↓mP113_2, ↓mP113_4, ↓mP113_11, ↓mP113_12, ↓mP113_16, ↓mP113_17, ↓mP113_18, ↓mP113_24, ↓mP113_25, ↓mP113_29, ↓mP113_30, t2, ei, ↓bE_of, eW, ↓bE_bitsR, er]
        · rw [if_neg e2] at ey
          have ec : ¬ xcmp (yand (yshr (rdM W (W (11357 + 7 * i + 4))) w) 1) 1 = 0 := fun z => absurd ((xcmp_0 _ _).mp z) (by rw [ey]; decide)
          rw [if_neg (show ¬ ((0 : Int) = 1 ∨ true = true ∧ tb (rdM W (W (11357 + 7 * i + 4))) w = true) from fun z => by rcases z with z | z; (· cases z); exact e2 z.2)]
          simp (disch := (first | assumption | with_reducible rfl | (simp only [LayC_sI, LayC_sJ, LayC_sA, LayC_sB, LayC_sIr, LayC_exc, LayM_sI, LayM_sJ, LayM_sA, LayM_sB, LayM_sIr, LayM_exc, LayK_sI, LayK_sJ, LayK_sA, LayK_sB, LayK_sIr, LayK_exc]; assumption) | omega | decide | (simp (disch := (first | decide | omega)) only [gI_sJ, gI_sB, gI_sP, gI_exc, gI_sIe, aI_sJ, aI_sB, aI_sP, aI_exc, aI_sAe, aJ_sI, aJ_sA, aJ_sP, aJ_sIr, aJ_exc, aJ_sBe, gJ_sI, gJ_sA, gJ_sP, gJ_sIr, gJ_exc, gP_sI, gP_sJ, gP_sA, gP_sB, gP_sIr, gP_exc, gI_sIn, gI_sIk, gI_sAn, gI_sIrn, aI_sIn, aI_sAn, aI_sIrn, aI_sAk, aJ_sJn, aJ_sBn, gJ_sJn, gJ_sBn, gJ_sJe, gS_sI, gS_sJ, gS_sP, gS_sA, gS_sB, gS_sIr, gS_exc, w32i, w64i]; first | done | assumption | omega))) only [↓b_xbs, ↓b_xthr, ↓b_xthl, ↓b_xctr, ↓b_xctl, ↓b_xz, ↓b_xzX, ↓b_xd, ↓if_pos, ↓if_neg, ↓mI113, ↓mW113, ↓mZ113, ↓mJ113, ↓mV113, ↓mR113, ↓mA114, ↓mS114, ↓mL114, ↓mA115, ↓mS115, ↓mL115, ↓mA116, ↓mS116, ↓mL116, ↓mA117, ↓mS117, ↓mL117, ↓mA118, ↓mS118, ↓mL118, ↓mA119, ↓mS119, ↓mL119, ↓mA120, ↓mS120, ↓mL120, ↓mA121, ↓mS121, ↓mL121, ↓mA122, ↓mS122, ↓mL122, ↓mA123, ↓mS123, ↓mL123, ↓mA124, ↓mS124, ↓mL124, ↓mA125, ↓mS125, ↓mL125, ↓mA126, ↓mS126, ↓mL126, ↓mP113_1, ↓mP113_2, ↓mP113_4, ↓mP113_11, ↓mP113_12, ↓mP113_16, ↓mP113_17, ↓mP113_18, ↓mP113_24, ↓mP113_25, ↓mP113_29, ↓mP113_30, t2, ei, ↓bE_of, eW, ↓bE_bitsR, er]
    · rw [if_pos (show (1 : Int) = 1 ∨ tb bd w = true ∧ tb (rdM W (W (11357 + 7 * i + 4))) w = true from Or.inl rfl)]
      simp (disch := (first | assumption | with_reducible rfl | (simp only [LayC_sI, LayC_sJ, LayC_sA, LayC_sB, LayC_sIr, LayC_exc, LayM_sI, LayM_sJ, LayM_sA, LayM_sB, LayM_sIr, LayM_exc, LayK_sI, LayK_sJ, LayK_sA, LayK_sB, LayK_sIr, LayK_exc]; assumption) | omega | decide | (simp (disch := (first | decide | omega)) only [gI_sJ, gI_sB, gI_sP, gI_exc, gI_sIe, aI_sJ, aI_sB, aI_sP, aI_exc, aI_sAe, aJ_sI, aJ_sA, aJ_sP, aJ_sIr, aJ_exc, aJ_sBe, gJ_sI, gJ_sA, gJ_sP, gJ_sIr, gJ_exc, gP_sI, gP_sJ, gP_sA, gP_sB, gP_sIr, gP_exc, gI_sIn, gI_sIk, gI_sAn, gI_sIrn, aI_sIn, aI_sAn, aI_sIrn, aI_sAk, aJ_sJn, aJ_sBn, gJ_sJn, gJ_sBn, gJ_sJe, gS_sI, gS_sJ, gS_sP, gS_sA, gS_sB, gS_sIr, gS_exc, w32i, w64i]; first | done | assumption | omega))) only [↓b_xbs, ↓b_xthr, ↓b_xthl, ↓b_xctr, ↓b_xctl, ↓b_xz, ↓b_xzX, ↓b_xd, ↓if_pos, ↓if_neg, ↓mI113, ↓mW113, ↓mZ113, ↓mJ113, ↓mV113, ↓mR113, ↓mA114, ↓mS114, ↓mL114, ↓mA115, ↓mS115, ↓mL115, ↓mA116, ↓mS116, ↓mL116, ↓mA117, ↓mS117, ↓mL117, ↓mA118, ↓mS118, ↓mL118, ↓mA119, ↓mS119, ↓mL119, ↓mA120, ↓mS120, ↓mL120, ↓mA121, ↓mS121, ↓mL121, ↓mA122, ↓mS122, ↓mL122, ↓mA123, ↓mS123, ↓mL123, ↓mA124, ↓mS124, ↓mL124, ↓mA125, ↓mS125, ↓mL125, ↓mA126, ↓mS126, ↓mL126, ↓mP113_1, ↓mP113_2, ↓mP113_4, ↓mP113_11, ↓mP113_12, ↓mP113_16, ↓mP113_17, ↓mP113_18, ↓mP113_24, ↓mP113_25, ↓mP113_29, ↓mP113_30, t2, ei]
theorem E_baM {W : Int → Int} (hF : 100 ≤ F) (g : 0 ≤ W 8 ∧ W 8 ≤ 12) (gb : W 11356 ≤ 5120) (q : ∀ k : Int, 0 ≤ k → k < W 11356 → 0 ≤ W (11357 + 7 * k + 1) ∧ W (11357 + 7 * k + 1) < 64 ∧ W (11357 + 7 * k + 4) < W 8 ∧ 0 ≤ W (11357 + 7 * k + 6) ∧ W (11357 + 7 * k + 6) < 16 ∧ (W (11357 + 7 * k + 6) / 2 % 2 = 1 → 0 ≤ W (11357 + 7 * k + 4))) : ∀ (m i k : Nat) (bd ms : Int) (h : HP), m < k → ((i + m : Nat) : Int) = W 11356 → (ms = 0 ∨ ms = 1) → in64 bd → BdM W bd h → ∃ h', X12_bad_L25 F k 113 ms i h = X12_bad_L166 F F 113 0 0 h' ∧ BdM W (baN W m i bd ms) h' ∧ in64 (baN W m i bd ms) ∧ Oi 121 h h' := by
  intro m
  induction m with
  | zero =>
    intro i k bd ms h hk hi hm hb r
    obtain ⟨k, rfl⟩ : ∃ k', k = k' + 1 := ⟨k - 1, by omega⟩
    obtain ⟨L, rW, rb⟩ := id r
    have eW : aI h 114 11356 = i := by rw [rW]; omega
    refine ⟨h, ?_, r, hb, Oi.rf _ _⟩
    rw [X12_bad_L25_s]
    simp (disch := (first | assumption | with_reducible rfl | (simp only [LayC_sI, LayC_sJ, LayC_sA, LayC_sB, LayC_sIr, LayC_exc, LayM_sI, LayM_sJ, LayM_sA, LayM_sB, LayM_sIr, LayM_exc, LayK_sI, LayK_sJ, LayK_sA, LayK_sB, LayK_sIr, LayK_exc]; assumption) | omega | decide | (simp (disch := (first | decide | omega)) only [gI_sJ, gI_sB, gI_sP, gI_exc, gI_sIe, aI_sJ, aI_sB, aI_sP, aI_exc, aI_sAe, aJ_sI, aJ_sA, aJ_sP, aJ_sIr, aJ_exc, aJ_sBe, gJ_sI, gJ_sA, gJ_sP, gJ_sIr, gJ_exc, gP_sI, gP_sJ, gP_sA, gP_sB, gP_sIr, gP_exc, gI_sIn, gI_sIk, gI_sAn, gI_sIrn, aI_sIn, aI_sAn, aI_sIrn, aI_sAk, aJ_sJn, aJ_sBn, gJ_sJn, gJ_sBn, gJ_sJe, gS_sI, gS_sJ, gS_sP, gS_sA, gS_sB, gS_sIr, gS_exc, w32i, w64i]; first | done | assumption | omega))) only [↓b_xbs, ↓b_xthr, ↓b_xthl, ↓b_xctr, ↓b_xctl, ↓b_xz, ↓b_xzX, ↓b_xd, ↓if_pos, ↓if_neg, ↓mI113, ↓mW113, ↓mZ113, ↓mJ113, ↓mV113, ↓mR113, ↓mA114, ↓mS114, ↓mL114, ↓mA115, ↓mS115, ↓mL115, ↓mA116, ↓mS116, ↓mL116, ↓mA117, ↓mS117, ↓mL117, ↓mA118, ↓mS118, ↓mL118, ↓mA119, ↓mS119, ↓mL119, ↓mA120, ↓mS120, ↓mL120, ↓mA121, ↓mS121, ↓mL121, ↓mA122, ↓mS122, ↓mL122, ↓mA123, ↓mS123, ↓mL123, ↓mA124, ↓mS124, ↓mL124, ↓mA125, ↓mS125, ↓mL125, ↓mA126, ↓mS126, ↓mL126, ↓mP113_1, ↓mP113_2, ↓mP113_4, ↓mP113_11, ↓mP113_12, ↓mP113_16, ↓mP113_17, ↓mP113_18, ↓mP113_24, ↓mP113_25, ↓mP113_29, ↓mP113_30, ↓bE_writings]
  | succ m ih =>
    intro i k bd ms h hk hi hm hb r
    obtain ⟨k, rfl⟩ : ∃ k', k = k' + 1 := ⟨k - 1, by omega⟩
    obtain ⟨L, rW, rb⟩ := id r
    have eW : ¬ aI h 114 11356 ≤ i := by rw [rW]; omega
    have eA : aI h 114 (11357 + 7 * (i : Int) + 6) = W (11357 + 7 * i + 6) := by rw [rW]
    have eB : aI h 114 (11357 + 7 * (i : Int) + 5) = W (11357 + 7 * i + 5) := by rw [rW]
    obtain ⟨q1, q2, q3, q4, q5, q6⟩ := q i (by omega) (by omega)
    have hm1 := msN_01 W bd ms i hm
    have e0 : baN W (m + 1) i bd ms = baN W m (i + 1) (bdN W bd (msN W bd ms i) i) (msN W bd ms i) := rfl
    obtain ⟨h1, s1, s2, s3⟩ := E_ba120 (F := F) r (X12_bad_L25 F k) (msN W bd ms i) i (by omega) hm1 q4 q5 q1 q2
    obtain ⟨h2, t1, t2, t3, t4⟩ := ih (i + 1) k (bdN W bd (msN W bd ms i) i) (msN W bd ms i) h1 (by omega) (by omega) hm1 (bdN_in _ _ _ _) s2
    refine ⟨h2, ?_, t2, t3, s3.tr t4⟩
    rw [← t1, ← s1, X12_bad_L25_s]
    by_cases c1 : W (11357 + 7 * i + 5) = i
    · simp (disch := (first | assumption | with_reducible rfl | (simp only [LayC_sI, LayC_sJ, LayC_sA, LayC_sB, LayC_sIr, LayC_exc, LayM_sI, LayM_sJ, LayM_sA, LayM_sB, LayM_sIr, LayM_exc, LayK_sI, LayK_sJ, LayK_sA, LayK_sB, LayK_sIr, LayK_exc]; assumption) | omega | decide | (simp (disch := (first | decide | omega)) only [gI_sJ, gI_sB, gI_sP, gI_exc, gI_sIe, aI_sJ, aI_sB, aI_sP, aI_exc, aI_sAe, aJ_sI, aJ_sA, aJ_sP, aJ_sIr, aJ_exc, aJ_sBe, gJ_sI, gJ_sA, gJ_sP, gJ_sIr, gJ_exc, gP_sI, gP_sJ, gP_sA, gP_sB, gP_sIr, gP_exc, gI_sIn, gI_sIk, gI_sAn, gI_sIrn, aI_sIn, aI_sAn, aI_sIrn, aI_sAk, aJ_sJn, aJ_sBn, gJ_sJn, gJ_sBn, gJ_sJe, gS_sI, gS_sJ, gS_sP, gS_sA, gS_sB, gS_sIr, gS_exc, w32i, w64i]; first | done | assumption | omega))) only [↓b_xbs, ↓b_xthr, ↓b_xthl, ↓b_xctr, ↓b_xctl, ↓b_xz, ↓b_xzX, ↓b_xd, ↓if_pos, ↓if_neg, ↓mI113, ↓mW113, ↓mZ113, ↓mJ113, ↓mV113, ↓mR113, ↓mA114, ↓mS114, ↓mL114, ↓mA115, ↓mS115, ↓mL115, ↓mA116, ↓mS116, ↓mL116, ↓mA117, ↓mS117, ↓mL117, ↓mA118, ↓mS118, ↓mL118, ↓mA119, ↓mS119, ↓mL119, ↓mA120, ↓mS120, ↓mL120, ↓mA121, ↓mS121, ↓mL121, ↓mA122, ↓mS122, ↓mL122, ↓mA123, ↓mS123, ↓mL123, ↓mA124, ↓mS124, ↓mL124, ↓mA125, ↓mS125, ↓mL125, ↓mA126, ↓mS126, ↓mL126, ↓mP113_1, ↓mP113_2, ↓mP113_4, ↓mP113_11, ↓mP113_12, ↓mP113_16, ↓mP113_17, ↓mP113_18, ↓mP113_24, ↓mP113_25, ↓mP113_29, ↓mP113_30, ↓bE_writings, ↓bE_of, eA, eB]
      by_cases c2 : W (11357 + 7 * i + 6) / 2 % 2 = 1
      · have := E_ba56 (F := F) r (X12_bad_L25 F k) i (by omega) q4 q5 c2 (q6 c2) (by omega) 64 0 F 0 (by omega) (by omega) (Or.inl rfl)
        rw [spN_yand] at this
        have em : msN W bd ms i = if yand (rdM W (W (11357 + 7 * i + 4))) bd ≠ 0 then 1 else 0 := by
          unfold msN; rw [if_pos c1]
          by_cases c3 : yand (rdM W (W (11357 + 7 * i + 4))) bd ≠ 0
          · rw [if_pos ⟨c2, c3⟩, if_pos c3]
          · rw [if_neg (fun z => c3 z.2), if_neg c3]
        rw [em]
        exact this
      · have em : msN W bd ms i = 0 := by unfold msN; rw [if_pos c1, if_neg (fun z => c2 z.1)]
        have th := how_2 _ q4 q5
        obtain ⟨F', hF'⟩ : ∃ F', F = F' + 1 := ⟨F - 1, by omega⟩
        rw [em]
        have : ∀ F', X12_bad_L56 F (X12_bad_L25 F k) (F' + 1) 113 0 i (W (11357 + 7 * i + 6)) 0 h = X12_bad_L120 F (X12_bad_L25 F k) 113 0 i (W (11357 + 7 * i + 6)) h := by
          intro F'
          rw [X12_bad_L56_s]
          simp (disch := (first | assumption | with_reducible rfl | (simp only [LayC_sI, LayC_sJ, LayC_sA, LayC_sB, LayC_sIr, LayC_exc, LayM_sI, LayM_sJ, LayM_sA, LayM_sB, LayM_sIr, LayM_exc, LayK_sI, LayK_sJ, LayK_sA, LayK_sB, LayK_sIr, LayK_exc]; assumption) | omega | decide | (simp (disch := (first | decide | omega)) only [gI_sJ, gI_sB, gI_sP, gI_exc, gI_sIe, aI_sJ, aI_sB, aI_sP, aI_exc, aI_sAe, aJ_sI, aJ_sA, aJ_sP, aJ_sIr, aJ_exc, aJ_sBe, gJ_sI, gJ_sA, gJ_sP, gJ_sIr, gJ_exc, gP_sI, gP_sJ, gP_sA, gP_sB, gP_sIr, gP_exc, gI_sIn, gI_sIk, gI_sAn, gI_sIrn, aI_sIn, aI_sAn, aI_sIrn, aI_sAk, aJ_sJn, aJ_sBn, gJ_sJn, gJ_sBn, gJ_sJe, gS_sI, gS_sJ, gS_sP, gS_sA, gS_sB, gS_sIr, gS_exc, w32i, w64i]; first | done | assumption | omega))) only [↓b_xbs, ↓b_xthr, ↓b_xthl, ↓b_xctr, ↓b_xctl, ↓b_xz, ↓b_xzX, ↓b_xd, ↓if_pos, ↓if_neg, ↓mI113, ↓mW113, ↓mZ113, ↓mJ113, ↓mV113, ↓mR113, ↓mA114, ↓mS114, ↓mL114, ↓mA115, ↓mS115, ↓mL115, ↓mA116, ↓mS116, ↓mL116, ↓mA117, ↓mS117, ↓mL117, ↓mA118, ↓mS118, ↓mL118, ↓mA119, ↓mS119, ↓mL119, ↓mA120, ↓mS120, ↓mL120, ↓mA121, ↓mS121, ↓mL121, ↓mA122, ↓mS122, ↓mL122, ↓mA123, ↓mS123, ↓mL123, ↓mA124, ↓mS124, ↓mL124, ↓mA125, ↓mS125, ↓mL125, ↓mA126, ↓mS126, ↓mL126, ↓mP113_1, ↓mP113_2, ↓mP113_4, ↓mP113_11, ↓mP113_12, ↓mP113_16, ↓mP113_17, ↓mP113_18, ↓mP113_24, ↓mP113_25, ↓mP113_29, ↓mP113_30, th]
        have := this F'
        rw [← hF'] at this
        exact this
    · have em : msN W bd ms i = ms := by unfold msN; rw [if_neg c1]
      rw [em]
      simp (disch := (first | assumption | with_reducible rfl | (simp only [LayC_sI, LayC_sJ, LayC_sA, LayC_sB, LayC_sIr, LayC_exc, LayM_sI, LayM_sJ, LayM_sA, LayM_sB, LayM_sIr, LayM_exc, LayK_sI, LayK_sJ, LayK_sA, LayK_sB, LayK_sIr, LayK_exc]; assumption) | omega | decide | (simp (disch := (first | decide | omega)) only [gI_sJ, gI_sB, gI_sP, gI_exc, gI_sIe, aI_sJ, aI_sB, aI_sP, aI_exc, aI_sAe, aJ_sI, aJ_sA, aJ_sP, aJ_sIr, aJ_exc, aJ_sBe, gJ_sI, gJ_sA, gJ_sP, gJ_sIr, gJ_exc, gP_sI, gP_sJ, gP_sA, gP_sB, gP_sIr, gP_exc, gI_sIn, gI_sIk, gI_sAn, gI_sIrn, aI_sIn, aI_sAn, aI_sIrn, aI_sAk, aJ_sJn, aJ_sBn, gJ_sJn, gJ_sBn, gJ_sJe, gS_sI, gS_sJ, gS_sP, gS_sA, gS_sB, gS_sIr, gS_exc, w32i, w64i]; first | done | assumption | omega))) only [↓b_xbs, ↓b_xthr, ↓b_xthl, ↓b_xctr, ↓b_xctl, ↓b_xz, ↓b_xzX, ↓b_xd, ↓if_pos, ↓if_neg, ↓mI113, ↓mW113, ↓mZ113, ↓mJ113, ↓mV113, ↓mR113, ↓mA114, ↓mS114, ↓mL114, ↓mA115, ↓mS115, ↓mL115, ↓mA116, ↓mS116, ↓mL116, ↓mA117, ↓mS117, ↓mL117, ↓mA118, ↓mS118, ↓mL118, ↓mA119, ↓mS119, ↓mL119, ↓mA120, ↓mS120, ↓mL120, ↓mA121, ↓mS121, ↓mL121, ↓mA122, ↓mS122, ↓mL122, ↓mA123, ↓mS123, ↓mL123, ↓mA124, ↓mS124, ↓mL124, ↓mA125, ↓mS125, ↓mL125, ↓mA126, ↓mS126, ↓mL126, ↓mP113_1, ↓mP113_2, ↓mP113_4, ↓mP113_11, ↓mP113_12, ↓mP113_16, ↓mP113_17, ↓mP113_18, ↓mP113_24, ↓mP113_25, ↓mP113_29, ↓mP113_30, ↓bE_writings, ↓bE_of, eA, eB]
theorem E_ba2 : ∀ (m i k : Nat) (h : HP), m < k → i + m = 64 → LayM h → (∀ j : Nat, j < i → aI h 121 j = 0) → ∃ h', X12_bad_L2 F k 113 i h = X12_bad_L25 F F 113 0 0 h' ∧ Oi 121 h h' ∧ ∀ j : Nat, j < 64 → aI h' 121 j = 0 := by
  intro m
  induction m with
  | zero =>
    intro i k h hk hi L z
    obtain ⟨k, rfl⟩ : ∃ k', k = k' + 1 := ⟨k - 1, by omega⟩
    refine ⟨h, ?_, Oi.rf _ _, fun j hj => z j (by omega)⟩
    rw [X12_bad_L2_s]
    simp (disch := (first | assumption | with_reducible rfl | (simp only [LayC_sI, LayC_sJ, LayC_sA, LayC_sB, LayC_sIr, LayC_exc, LayM_sI, LayM_sJ, LayM_sA, LayM_sB, LayM_sIr, LayM_exc, LayK_sI, LayK_sJ, LayK_sA, LayK_sB, LayK_sIr, LayK_exc]; assumption) | omega | decide | (simp (disch := (first | decide | omega)) only [gI_sJ, gI_sB, gI_sP, gI_exc, gI_sIe, aI_sJ, aI_sB, aI_sP, aI_exc, aI_sAe, aJ_sI, aJ_sA, aJ_sP, aJ_sIr, aJ_exc, aJ_sBe, gJ_sI, gJ_sA, gJ_sP, gJ_sIr, gJ_exc, gP_sI, gP_sJ, gP_sA, gP_sB, gP_sIr, gP_exc, gI_sIn, gI_sIk, gI_sAn, gI_sIrn, aI_sIn, aI_sAn, aI_sIrn, aI_sAk, aJ_sJn, aJ_sBn, gJ_sJn, gJ_sBn, gJ_sJe, gS_sI, gS_sJ, gS_sP, gS_sA, gS_sB, gS_sIr, gS_exc, w32i, w64i]; first | done | assumption | omega))) only [↓b_xbs, ↓b_xthr, ↓b_xthl, ↓b_xctr, ↓b_xctl, ↓b_xz, ↓b_xzX, ↓b_xd, ↓if_pos, ↓if_neg, ↓mI113, ↓mW113, ↓mZ113, ↓mJ113, ↓mV113, ↓mR113, ↓mA114, ↓mS114, ↓mL114, ↓mA115, ↓mS115, ↓mL115, ↓mA116, ↓mS116, ↓mL116, ↓mA117, ↓mS117, ↓mL117, ↓mA118, ↓mS118, ↓mL118, ↓mA119, ↓mS119, ↓mL119, ↓mA120, ↓mS120, ↓mL120, ↓mA121, ↓mS121, ↓mL121, ↓mA122, ↓mS122, ↓mL122, ↓mA123, ↓mS123, ↓mL123, ↓mA124, ↓mS124, ↓mL124, ↓mA125, ↓mS125, ↓mL125, ↓mA126, ↓mS126, ↓mL126, ↓mP113_1, ↓mP113_2, ↓mP113_4, ↓mP113_11, ↓mP113_12, ↓mP113_16, ↓mP113_17, ↓mP113_18, ↓mP113_24, ↓mP113_25, ↓mP113_29, ↓mP113_30]
  | succ m ih =>
    intro i k h hk hi L z
    obtain ⟨k, rfl⟩ : ∃ k', k = k' + 1 := ⟨k - 1, by omega⟩
    have ei : w32 ((i : Int) + 1) = ((i + 1 : Nat) : Int) := by rw [w32i _ (by omega) (by omega)]; omega
    obtain ⟨h', a1, a2, a3⟩ := ih (i + 1) k (sA h 121 i 0) (by omega) (by omega) L (fun j hj => by
      rw [aI_sA _ _ _ _ _ (by omega) (by omega)]
      split
      · rfl
      · exact z j (by omega))
    refine ⟨h', ?_, (Oi.A 121 h _ _).tr a2, a3⟩
    rw [← a1, X12_bad_L2_s]
    simp (disch := (first | assumption | with_reducible rfl | (simp only [LayC_sI, LayC_sJ, LayC_sA, LayC_sB, LayC_sIr, LayC_exc, LayM_sI, LayM_sJ, LayM_sA, LayM_sB, LayM_sIr, LayM_exc, LayK_sI, LayK_sJ, LayK_sA, LayK_sB, LayK_sIr, LayK_exc]; assumption) | omega | decide | (simp (disch := (first | decide | omega)) only [gI_sJ, gI_sB, gI_sP, gI_exc, gI_sIe, aI_sJ, aI_sB, aI_sP, aI_exc, aI_sAe, aJ_sI, aJ_sA, aJ_sP, aJ_sIr, aJ_exc, aJ_sBe, gJ_sI, gJ_sA, gJ_sP, gJ_sIr, gJ_exc, gP_sI, gP_sJ, gP_sA, gP_sB, gP_sIr, gP_exc, gI_sIn, gI_sIk, gI_sAn, gI_sIrn, aI_sIn, aI_sAn, aI_sIrn, aI_sAk, aJ_sJn, aJ_sBn, gJ_sJn, gJ_sBn, gJ_sJe, gS_sI, gS_sJ, gS_sP, gS_sA, gS_sB, gS_sIr, gS_exc, w32i, w64i]; first | done | assumption | omega))) only [↓b_xbs, ↓b_xthr, ↓b_xthl, ↓b_xctr, ↓b_xctl, ↓b_xz, ↓b_xzX, ↓b_xd, ↓if_pos, ↓if_neg, ↓mI113, ↓mW113, ↓mZ113, ↓mJ113, ↓mV113, ↓mR113, ↓mA114, ↓mS114, ↓mL114, ↓mA115, ↓mS115, ↓mL115, ↓mA116, ↓mS116, ↓mL116, ↓mA117, ↓mS117, ↓mL117, ↓mA118, ↓mS118, ↓mL118, ↓mA119, ↓mS119, ↓mL119, ↓mA120, ↓mS120, ↓mL120, ↓mA121, ↓mS121, ↓mL121, ↓mA122, ↓mS122, ↓mL122, ↓mA123, ↓mS123, ↓mL123, ↓mA124, ↓mS124, ↓mL124, ↓mA125, ↓mS125, ↓mL125, ↓mA126, ↓mS126, ↓mL126, ↓mP113_1, ↓mP113_2, ↓mP113_4, ↓mP113_11, ↓mP113_12, ↓mP113_16, ↓mP113_17, ↓mP113_18, ↓mP113_24, ↓mP113_25, ↓mP113_29, ↓mP113_30, ei]
theorem E_ba166 {W : Int → Int} {bd : Int} (r : BdM W bd h) (hb : in64 bd) : ∀ (m i k : Nat) (s : Int), m < k → i + m = 64 → in64 s → (∀ j : Nat, j < 64 → tb s j = (tb bd j && decide (j < i))) → X12_bad_L166 F k 113 s i h = some (bd, h) := by
  obtain ⟨L, rW, rb⟩ := r
  intro m
  induction m with
  | zero =>
    intro i k s hk hi hs z
    obtain ⟨k, rfl⟩ : ∃ k', k = k' + 1 := ⟨k - 1, by omega⟩
    have e : s = bd := tb_ext hs hb (fun j hj => by rw [z j hj, decide_eq_true (show j < i by omega), Bool.and_true])
    rw [X12_bad_L166_s]
    simp (disch := (first | assumption | with_reducible rfl | (simp only [LayC_sI, LayC_sJ, LayC_sA, LayC_sB, LayC_sIr, LayC_exc, LayM_sI, LayM_sJ, LayM_sA, LayM_sB, LayM_sIr, LayM_exc, LayK_sI, LayK_sJ, LayK_sA, LayK_sB, LayK_sIr, LayK_exc]; assumption) | omega | decide | (simp (disch := (first | decide | omega)) only [gI_sJ, gI_sB, gI_sP, gI_exc, gI_sIe, aI_sJ, aI_sB, aI_sP, aI_exc, aI_sAe, aJ_sI, aJ_sA, aJ_sP, aJ_sIr, aJ_exc, aJ_sBe, gJ_sI, gJ_sA, gJ_sP, gJ_sIr, gJ_exc, gP_sI, gP_sJ, gP_sA, gP_sB, gP_sIr, gP_exc, gI_sIn, gI_sIk, gI_sAn, gI_sIrn, aI_sIn, aI_sAn, aI_sIrn, aI_sAk, aJ_sJn, aJ_sBn, gJ_sJn, gJ_sBn, gJ_sJe, gS_sI, gS_sJ, gS_sP, gS_sA, gS_sB, gS_sIr, gS_exc, w32i, w64i]; first | done | assumption | omega))) only [↓b_xbs, ↓b_xthr, ↓b_xthl, ↓b_xctr, ↓b_xctl, ↓b_xz, ↓b_xzX, ↓b_xd, ↓if_pos, ↓if_neg, ↓mI113, ↓mW113, ↓mZ113, ↓mJ113, ↓mV113, ↓mR113, ↓mA114, ↓mS114, ↓mL114, ↓mA115, ↓mS115, ↓mL115, ↓mA116, ↓mS116, ↓mL116, ↓mA117, ↓mS117, ↓mL117, ↓mA118, ↓mS118, ↓mL118, ↓mA119, ↓mS119, ↓mL119, ↓mA120, ↓mS120, ↓mL120, ↓mA121, ↓mS121, ↓mL121, ↓mA122, ↓mS122, ↓mL122, ↓mA123, ↓mS123, ↓mL123, ↓mA124, ↓mS124, ↓mL124, ↓mA125, ↓mS125, ↓mL125, ↓mA126, ↓mS126, ↓mL126, ↓mP113_1, ↓mP113_2, ↓mP113_4, ↓mP113_11, ↓mP113_12, ↓mP113_16, ↓mP113_17, ↓mP113_18, ↓mP113_24, ↓mP113_25, ↓mP113_29, ↓mP113_30, e]
  | succ m ih =>
    intro i k s hk hi hs z
    obtain ⟨k, rfl⟩ : ∃ k', k = k' + 1 := ⟨k - 1, by omega⟩
    have ei : w32 ((i : Int) + 1) = ((i + 1 : Nat) : Int) := by rw [w32i _ (by omega) (by omega)]; omega
    have hbi := rb i (by omega)
    rw [X12_bad_L166_s]
    unfold X12_bad_L192
    simp (disch := (first | assumption | with_reducible rfl | (simp only [LayC_sI, LayC_sJ, LayC_sA, LayC_sB, LayC_sIr, LayC_exc, LayM_sI, LayM_sJ, LayM_sA, LayM_sB, LayM_sIr, LayM_exc, LayK_sI, LayK_sJ, LayK_sA, LayK_sB, LayK_sIr, LayK_exc]; assumption) | omega | decide | (simp (disch := (first | decide | omega)) only [gI_sJ, gI_sB, gI_sP, gI_exc, gI_sIe, aI_sJ, aI_sB, aI_sP, aI_exc, aI_sAe, aJ_sI, aJ_sA, aJ_sP, aJ_sIr, aJ_exc, aJ_sBe, gJ_sI, gJ_sA, gJ_sP, gJ_sIr, gJ_exc, gP_sI, gP_sJ, gP_sA, gP_sB, gP_sIr, gP_exc, gI_sIn, gI_sIk, gI_sAn, gI_sIrn, aI_sIn, aI_sAn, aI_sIrn, aI_sAk, aJ_sJn, aJ_sBn, gJ_sJn, gJ_sBn, gJ_sJe, gS_sI, gS_sJ, gS_sP, gS_sA, gS_sB, gS_sIr, gS_exc, w32i, w64i]; first | done | assumption | omega))) only [↓b_xbs, ↓b_xthr, ↓b_xthl, ↓b_xctr, ↓b_xctl, ↓b_xz, ↓b_xzX, ↓b_xd, ↓if_pos, ↓if_neg, ↓mI113, ↓mW113, ↓mZ113, ↓mJ113, ↓mV113, ↓mR113, ↓mA114, ↓mS114, ↓mL114, ↓mA115, ↓mS115, ↓mL115, ↓mA116, ↓mS116, ↓mL116, ↓mA117, ↓mS117, ↓mL117, ↓mA118, ↓mS118, ↓mL118, ↓mA119, ↓mS119, ↓mL119, ↓mA120, ↓mS120, ↓mL120, ↓mA121, ↓mS121, ↓mL121, ↓mA122, ↓mS122, ↓mL122, ↓mA123, ↓mS123, ↓mL123, ↓mA124, ↓mS124, ↓mL124, ↓mA125, ↓mS125, ↓mL125, ↓mA126, ↓mS126, ↓mL126, ↓mP113_1, ↓mP113_2, ↓mP113_4, ↓mP113_11, ↓mP113_12, ↓mP113_16, ↓mP113_17, ↓mP113_18, ↓mP113_24, ↓mP113_25, ↓mP113_29, ↓mP113_30, ei]
    refine ih (i + 1) k _ (by omega) (by omega) (yor_in _ _) (fun j hj => ?_)
    rw [tb_or, z j hj]
    cases e : tb bd i with
    | false =>
      rw [e] at hbi
      have hb0 : aI h 121 i = 0 := hbi
      rw [if_pos hb0, tb_0, Bool.or_false]
      by_cases ej : j = i
      · subst ej; rw [e]; rfl
      · by_cases c : j < i
        · rw [decide_eq_true c, decide_eq_true (show j < i + 1 by omega)]
        · rw [decide_eq_false c, decide_eq_false (show ¬ j < i + 1 by omega)]
    | true =>
      rw [e] at hbi
      have hb0 : aI h 121 i = 1 := hbi
      rw [if_neg (by rw [hb0]; decide), tb_shl1 i (by omega) j hj]
      by_cases ej : j = i
      · subst ej; rw [e]; simp
      · rw [decide_eq_false ej, Bool.or_false]
        by_cases c : j < i
        · rw [decide_eq_true c, decide_eq_true (show j < i + 1 by omega)]
        · rw [decide_eq_false c, decide_eq_false (show ¬ j < i + 1 by omega)]
theorem E_badM {W : Int → Int} (hF : 60000 ≤ F) (L : LayM h) (rW : aI h 114 = W) (g : 0 ≤ W 8 ∧ W 8 ≤ 12) {h0 : HP} (q : RRw h0 0 W) : ∃ h', X12_bad F 113 h = some (baW W, h') ∧ Oi 121 h h' ∧ in64 (baW W) := by
  obtain ⟨q1, q2, q3, q4⟩ := q
  obtain ⟨h1, a1, a2, a3⟩ := E_ba2 (F := F) 64 0 F h (by omega) (by omega) L (fun j hj => absurd hj (by omega))
  have r1 : BdM W 0 h1 := ⟨a2.M L, by rw [a2.a 114 (by decide)]; exact rW, fun i hi => by rw [a3 i hi, tb_0]; rfl⟩
  obtain ⟨h2, b1, b2, b3, b4⟩ := E_baM (F := F) (W := W) (by omega) g q3 (fun k k0 k1 => by
    obtain ⟨te, ca, x1, x2, x3, x4, x5, x6, x7, x8, x9, x10, x11, x12, x13, x14, x15, x16, x17⟩ := q4 k k0 k1
    exact ⟨x9, x10, x12, x15, x16, x17⟩) (W 11356).toNat 0 F 0 0 h1 (by omega) (by omega) (Or.inl rfl) (by unfold in64; omega) r1
  refine ⟨h2, ?_, a2.tr b4, b3⟩
  unfold X12_bad
  rw [show ((0 : Nat) : Int) = 0 from rfl] at a1 b1
  rw [a1, b1]
  exact E_ba166 b2 b3 64 0 F 0 (by omega) (by omega) (by unfold in64; omega) (fun j hj => by rw [tb_0]; simp)
end BM
