/-! a writing keeps the relation: over any array of the reference -/
/-- the reference's array with one writing more -/
def wrW (W : Int → Int) (w v bj fi how : Int) : Int → Int := fun i => if i = 9 + w then v else if i = 11356 then W 11356 + 1 else if i = 11357 + 7 * W 11356 then W 0 else if i = 11357 + 7 * W 11356 + 1 then w else if i = 11357 + 7 * W 11356 + 2 then v else if i = 11357 + 7 * W 11356 + 3 then v else if i = 11357 + 7 * W 11356 + 4 then bj else if i = 11357 + 7 * W 11356 + 5 then fi else if i = 11357 + 7 * W 11356 + 6 then how else W i
section WR
variable {W : Int → Int} {w v bj fi how : Int}
theorem wrW_o (i : Int) (h1 : i ≠ 9 + w) (h2 : i ≠ 11356) (h3 : i < 11357 + 7 * W 11356 ∨ 11357 + 7 * W 11356 + 6 < i) : wrW W w v bj fi how i = W i := by
  unfold wrW
  rw [if_neg h1, if_neg h2, if_neg (by omega), if_neg (by omega), if_neg (by omega), if_neg (by omega), if_neg (by omega), if_neg (by omega), if_neg (by omega)]
theorem wrW_n (h0 : 0 ≤ W 11356) (hw : 0 ≤ w ∧ w < 64) : wrW W w v bj fi how 11356 = W 11356 + 1 := by
  unfold wrW
  rw [if_neg (by omega), if_pos rfl]
theorem wrW_r (h0 : 0 ≤ W 11356) (hw : 0 ≤ w ∧ w < 64) : wrW W w v bj fi how (11357 + 7 * W 11356) = W 0 ∧ wrW W w v bj fi how (11357 + 7 * W 11356 + 1) = w ∧ wrW W w v bj fi how (11357 + 7 * W 11356 + 2) = v ∧ wrW W w v bj fi how (11357 + 7 * W 11356 + 3) = v ∧ wrW W w v bj fi how (11357 + 7 * W 11356 + 4) = bj ∧ wrW W w v bj fi how (11357 + 7 * W 11356 + 5) = fi ∧ wrW W w v bj fi how (11357 + 7 * W 11356 + 6) = how := by
  unfold wrW
  refine ⟨?_, ?_, ?_, ?_, ?_, ?_, ?_⟩
  · rw [if_neg (by omega), if_neg (by omega), if_pos rfl]
  · rw [if_neg (by omega), if_neg (by omega), if_neg (by omega), if_pos rfl]
  · rw [if_neg (by omega), if_neg (by omega), if_neg (by omega), if_neg (by omega), if_pos rfl]
  · rw [if_neg (by omega), if_neg (by omega), if_neg (by omega), if_neg (by omega), if_neg (by omega), if_pos rfl]
  · rw [if_neg (by omega), if_neg (by omega), if_neg (by omega), if_neg (by omega), if_neg (by omega), if_neg (by omega), if_pos rfl]
  · rw [if_neg (by omega), if_neg (by omega), if_neg (by omega), if_neg (by omega), if_neg (by omega), if_neg (by omega), if_neg (by omega), if_pos rfl]
  · rw [if_neg (by omega), if_neg (by omega), if_neg (by omega), if_neg (by omega), if_neg (by omega), if_neg (by omega), if_neg (by omega), if_neg (by omega), if_pos rfl]
theorem wrW_w : wrW W w v bj fi how (9 + w) = v := by unfold wrW; rw [if_pos rfl]
/-- the reference's writing is just that -/
theorem Mwr_W {h : HP} (hw : 0 ≤ w ∧ w < 64) (h0 : 0 ≤ aI h 114 11356) : ∀ i : Int, 0 ≤ i → aI (Mwr h w v bj fi how) 114 i = wrW (aI h 114) w v bj fi how i := by
  intro i hi
  unfold Mwr wrW
  rw [aI_sA _ _ _ _ _ (by omega) hi, aI_sA _ _ _ _ _ (by omega) hi, aI_sA _ _ _ _ _ (by omega) hi, aI_sA _ _ _ _ _ (by omega) hi, aI_sA _ _ _ _ _ (by omega) hi, aI_sA _ _ _ _ _ (by omega) hi, aI_sA _ _ _ _ _ (by omega) hi, aI_sA _ _ _ _ _ (by omega) hi, aI_sA _ _ _ _ _ (by omega) hi]
  by_cases c1 : i = 9 + w
  · rw [if_pos c1, if_pos c1]
  rw [if_neg c1, if_neg c1]
  by_cases c2 : i = 11356
  · rw [if_pos c2, if_pos c2]
  rw [if_neg c2, if_neg c2]
  by_cases c3 : i = 11357 + 7 * aI h 114 11356 + 6
  · rw [if_pos c3, if_neg (by omega), if_neg (by omega), if_neg (by omega), if_neg (by omega), if_neg (by omega), if_neg (by omega), if_pos c3]
  rw [if_neg c3]
  by_cases c4 : i = 11357 + 7 * aI h 114 11356 + 5
  · rw [if_pos c4, if_neg (by omega), if_neg (by omega), if_neg (by omega), if_neg (by omega), if_neg (by omega), if_pos c4]
  rw [if_neg c4]
  by_cases c5 : i = 11357 + 7 * aI h 114 11356 + 4
  · rw [if_pos c5, if_neg (by omega), if_neg (by omega), if_neg (by omega), if_neg (by omega), if_pos c5]
  rw [if_neg c5]
  by_cases c6 : i = 11357 + 7 * aI h 114 11356 + 3
  · rw [if_pos c6, if_neg (by omega), if_neg (by omega), if_neg (by omega), if_pos c6]
  rw [if_neg c6]
  by_cases c7 : i = 11357 + 7 * aI h 114 11356 + 2
  · rw [if_pos c7, if_neg (by omega), if_neg (by omega), if_pos c7]
  rw [if_neg c7]
  by_cases c8 : i = 11357 + 7 * aI h 114 11356 + 1
  · rw [if_pos c8, if_neg (by omega), if_pos c8]
  rw [if_neg c8]
  by_cases c9 : i = 11357 + 7 * aI h 114 11356
  · rw [if_pos c9, if_pos c9]
  · rw [if_neg c9, if_neg c9, if_neg c8, if_neg c7, if_neg c6, if_neg c5, if_neg c4, if_neg c3]
/-- the class's writing keeps the relation -/
theorem RNw.write {h : HP} {f : Int} (r : RNw h 0 W) (hw : 0 ≤ w ∧ w < 64) (hv : in32 v) (hr : W 11356 < 5120) (hb : -1 ≤ bj ∧ bj < W 8) (hh : 0 ≤ how ∧ how < 4) (ht : how / 2 % 2 = 1 → 0 ≤ bj) (hp : gI h 11 9 = penO bj (W 0) (how % 2) (how / 2 % 2) f) (hf : f = if fi = W 11356 then 1 else 0) : RNw (Hwr h w v) 0 (wrW W w v bj fi how) := by
  obtain ⟨n1, n2, n3, n4, n5, n6, n7, n8, n9, n10, n11⟩ := r
  have g := n2.g8
  have g4 : W 4 < W 8 := n2.2.2.2.2.2.2.2.2.2.1
  have g0 : 0 ≤ W 0 ∧ W 0 ≤ 480 := ⟨n2.1, n2.2.1⟩
  obtain ⟨r1, r2, r3, r4⟩ := id n8
  simp only [Nat.add_zero] at r1
  have o : ∀ i : Int, i ≠ 9 + w → i ≠ 11356 → (i < 11357 + 7 * W 11356 ∨ 11357 + 7 * W 11356 + 6 < i) → wrW W w v bj fi how i = W i := fun i a b c => wrW_o i a b c
  have o8 : wrW W w v bj fi how 8 = W 8 := o 8 (by omega) (by omega) (by omega)
  have s : SmX (fun a k => decide (a = 12 ∨ a = 16 ∨ a = 17 ∨ a = 18 ∨ a = 11 ∧ (k = 7 ∨ k = 9))) h (Hwr h w v) 0 0 := by
    unfold Hwr
    exact ((((((SmX.rf _ h 0).uA 12 w v (by decide) (Or.inr (fun _ => rfl))).uA 16 _ v (by decide) (Or.inr (fun _ => rfl))).uA 17 _ 0 (by decide) (Or.inr (fun _ => rfl))).uA 18 _ _ (by decide) (Or.inr (fun _ => rfl))).uI 11 7 _ (by decide) (Or.inr rfl)).uI 11 9 _ (by decide) (Or.inr rfl)
  refine ⟨n1.cg s (fun a k q => decide_eq_false (by omega)) (fun i a b => o i (by omega) (by omega) (by omega)), n2.cg (fun i a b => o i (by omega) (by omega) (by omega)), ?_, n4.cg s (fun a k q => decide_eq_false (by omega)) (fun i a b => o i (by omega) (by omega) (by omega)), n5.cg s (fun a k q => decide_eq_false (by omega)) (fun i a b => o i (by omega) (by omega) (by omega)), n6.cg s (fun a k q => decide_eq_false (by omega)) (fun i a b => o i (by omega) (by omega) (by omega)), n7.cg s (fun a k q => decide_eq_false (by omega)) (fun i a b => o i (by omega) (by omega) (by omega)), ?_, n9.cg s (fun a k q => decide_eq_false (by omega)) g.2 o8 (fun i a b => o i (by omega) (by omega) (by omega)), n10.cg s (fun a k q => decide_eq_false (by omega)) g o8 (fun j f a b c d => o _ (by omega) (by omega) (by omega)), n11.cg ⟨g4, g.2⟩ (o 4 (by omega) (by omega) (by omega)) (fun i a b => o i (by omega) (by omega) (by omega))⟩
  · intro i h0 h1
    obtain ⟨p1, p2, p3, p4⟩ := n3 i h0 h1
    rw [o (73 + i) (by omega) (by omega) (by omega)]
    unfold Hwr
    simp only [Nat.add_zero] at *
    by_cases e : i = w
    · subst e
      rw [wrW_w]
      simp (disch := (first | assumption | with_reducible rfl | (simp only [LayC_sI, LayC_sJ, LayC_sA, LayC_sB, LayC_sIr, LayC_exc, LayM_sI, LayM_sJ, LayM_sA, LayM_sB, LayM_sIr, LayM_exc, LayK_sI, LayK_sJ, LayK_sA, LayK_sB, LayK_sIr, LayK_exc]; assumption) | omega | decide | (simp (disch := (first | decide | omega)) only [gI_sJ, gI_sB, gI_sP, gI_exc, gI_sIe, aI_sJ, aI_sB, aI_sP, aI_exc, aI_sAe, aJ_sI, aJ_sA, aJ_sP, aJ_sIr, aJ_exc, aJ_sBe, gJ_sI, gJ_sA, gJ_sP, gJ_sIr, gJ_exc, gP_sI, gP_sJ, gP_sA, gP_sB, gP_sIr, gP_exc, gI_sIn, gI_sIk, gI_sAn, gI_sIrn, aI_sIn, aI_sAn, aI_sIrn, aI_sAk, aJ_sJn, aJ_sBn, gJ_sJn, gJ_sBn, gJ_sJe, gS_sI, gS_sJ, gS_sP, gS_sA, gS_sB, gS_sIr, gS_exc, w32i, w64i]; first | done | assumption | omega))) only [gI_sJ, gI_sB, gI_sP, gI_exc, gI_sIe, aI_sJ, aI_sB, aI_sP, aI_exc, aI_sAe, aJ_sI, aJ_sA, aJ_sP, aJ_sIr, aJ_exc, aJ_sBe, gJ_sI, gJ_sA, gJ_sP, gJ_sIr, gJ_exc, gP_sI, gP_sJ, gP_sA, gP_sB, gP_sIr, gP_exc, gI_sIn, gI_sIk, gI_sAn, gI_sIrn, aI_sIn, aI_sAn, aI_sIrn, aI_sAk, aJ_sJn, aJ_sBn, gJ_sJn, gJ_sBn, gJ_sJe, gS_sI, gS_sJ, gS_sP, gS_sA, gS_sB, gS_sIr, gS_exc]
      exact ⟨trivial, p2, hv, p4⟩
    · rw [o (9 + i) (by omega) (by omega) (by omega)]
      simp (disch := (first | assumption | with_reducible rfl | (simp only [LayC_sI, LayC_sJ, LayC_sA, LayC_sB, LayC_sIr, LayC_exc, LayM_sI, LayM_sJ, LayM_sA, LayM_sB, LayM_sIr, LayM_exc, LayK_sI, LayK_sJ, LayK_sA, LayK_sB, LayK_sIr, LayK_exc]; assumption) | omega | decide | (simp (disch := (first | decide | omega)) only [gI_sJ, gI_sB, gI_sP, gI_exc, gI_sIe, aI_sJ, aI_sB, aI_sP, aI_exc, aI_sAe, aJ_sI, aJ_sA, aJ_sP, aJ_sIr, aJ_exc, aJ_sBe, gJ_sI, gJ_sA, gJ_sP, gJ_sIr, gJ_exc, gP_sI, gP_sJ, gP_sA, gP_sB, gP_sIr, gP_exc, gI_sIn, gI_sIk, gI_sAn, gI_sIrn, aI_sIn, aI_sAn, aI_sIrn, aI_sAk, aJ_sJn, aJ_sBn, gJ_sJn, gJ_sBn, gJ_sJe, gS_sI, gS_sJ, gS_sP, gS_sA, gS_sB, gS_sIr, gS_exc, w32i, w64i]; first | done | assumption | omega))) only [gI_sJ, gI_sB, gI_sP, gI_exc, gI_sIe, aI_sJ, aI_sB, aI_sP, aI_exc, aI_sAe, aJ_sI, aJ_sA, aJ_sP, aJ_sIr, aJ_exc, aJ_sBe, gJ_sI, gJ_sA, gJ_sP, gJ_sIr, gJ_exc, gP_sI, gP_sJ, gP_sA, gP_sB, gP_sIr, gP_exc, gI_sIn, gI_sIk, gI_sAn, gI_sIrn, aI_sIn, aI_sAn, aI_sIrn, aI_sAk, aJ_sJn, aJ_sBn, gJ_sJn, gJ_sBn, gJ_sJe, gS_sI, gS_sJ, gS_sP, gS_sA, gS_sB, gS_sIr, gS_exc]
      exact ⟨p1, p2, p3, p4⟩
  · have en : wrW W w v bj fi how 11356 = W 11356 + 1 := wrW_n r2 hw
    obtain ⟨q0, q1, q2, q3, q4, q5, q6⟩ := wrW_r (W := W) (w := w) (v := v) (bj := bj) (fi := fi) (how := how) r2 hw
    refine ⟨?_, by rw [en]; omega, by rw [en]; omega, fun k h0 h1 => ?_⟩
    · rw [en]; unfold Hwr; simp only [Nat.add_zero]; simp (disch := (first | assumption | with_reducible rfl | (simp only [LayC_sI, LayC_sJ, LayC_sA, LayC_sB, LayC_sIr, LayC_exc, LayM_sI, LayM_sJ, LayM_sA, LayM_sB, LayM_sIr, LayM_exc, LayK_sI, LayK_sJ, LayK_sA, LayK_sB, LayK_sIr, LayK_exc]; assumption) | omega | decide | (simp (disch := (first | decide | omega)) only [gI_sJ, gI_sB, gI_sP, gI_exc, gI_sIe, aI_sJ, aI_sB, aI_sP, aI_exc, aI_sAe, aJ_sI, aJ_sA, aJ_sP, aJ_sIr, aJ_exc, aJ_sBe, gJ_sI, gJ_sA, gJ_sP, gJ_sIr, gJ_exc, gP_sI, gP_sJ, gP_sA, gP_sB, gP_sIr, gP_exc, gI_sIn, gI_sIk, gI_sAn, gI_sIrn, aI_sIn, aI_sAn, aI_sIrn, aI_sAk, aJ_sJn, aJ_sBn, gJ_sJn, gJ_sBn, gJ_sJe, gS_sI, gS_sJ, gS_sP, gS_sA, gS_sB, gS_sIr, gS_exc, w32i, w64i]; first | done | assumption | omega))) only [gI_sJ, gI_sB, gI_sP, gI_exc, gI_sIe, aI_sJ, aI_sB, aI_sP, aI_exc, aI_sAe, aJ_sI, aJ_sA, aJ_sP, aJ_sIr, aJ_exc, aJ_sBe, gJ_sI, gJ_sA, gJ_sP, gJ_sIr, gJ_exc, gP_sI, gP_sJ, gP_sA, gP_sB, gP_sIr, gP_exc, gI_sIn, gI_sIk, gI_sAn, gI_sIrn, aI_sIn, aI_sAn, aI_sIrn, aI_sAk, aJ_sJn, aJ_sBn, gJ_sJn, gJ_sBn, gJ_sJe, gS_sI, gS_sJ, gS_sP, gS_sA, gS_sB, gS_sIr, gS_exc, r1]
    · rw [en] at h1
      by_cases e9 : k = W 11356
      · subst e9
        have z16 : aI (Hwr h w v) 16 (W 11356) = v := by unfold Hwr; simp (disch := (first | assumption | with_reducible rfl | (simp only [LayC_sI, LayC_sJ, LayC_sA, LayC_sB, LayC_sIr, LayC_exc, LayM_sI, LayM_sJ, LayM_sA, LayM_sB, LayM_sIr, LayM_exc, LayK_sI, LayK_sJ, LayK_sA, LayK_sB, LayK_sIr, LayK_exc]; assumption) | omega | decide | (simp (disch := (first | decide | omega)) only [gI_sJ, gI_sB, gI_sP, gI_exc, gI_sIe, aI_sJ, aI_sB, aI_sP, aI_exc, aI_sAe, aJ_sI, aJ_sA, aJ_sP, aJ_sIr, aJ_exc, aJ_sBe, gJ_sI, gJ_sA, gJ_sP, gJ_sIr, gJ_exc, gP_sI, gP_sJ, gP_sA, gP_sB, gP_sIr, gP_exc, gI_sIn, gI_sIk, gI_sAn, gI_sIrn, aI_sIn, aI_sAn, aI_sIrn, aI_sAk, aJ_sJn, aJ_sBn, gJ_sJn, gJ_sBn, gJ_sJe, gS_sI, gS_sJ, gS_sP, gS_sA, gS_sB, gS_sIr, gS_exc, w32i, w64i]; first | done | assumption | omega))) only [gI_sJ, gI_sB, gI_sP, gI_exc, gI_sIe, aI_sJ, aI_sB, aI_sP, aI_exc, aI_sAe, aJ_sI, aJ_sA, aJ_sP, aJ_sIr, aJ_exc, aJ_sBe, gJ_sI, gJ_sA, gJ_sP, gJ_sIr, gJ_exc, gP_sI, gP_sJ, gP_sA, gP_sB, gP_sIr, gP_exc, gI_sIn, gI_sIk, gI_sAn, gI_sIrn, aI_sIn, aI_sAn, aI_sIrn, aI_sAk, aJ_sJn, aJ_sBn, gJ_sJn, gJ_sBn, gJ_sJe, gS_sI, gS_sJ, gS_sP, gS_sA, gS_sB, gS_sIr, gS_exc, r1]
        have z17 : aI (Hwr h w v) 17 (W 11356) = 0 := by unfold Hwr; simp (disch := (first | assumption | with_reducible rfl | (simp only [LayC_sI, LayC_sJ, LayC_sA, LayC_sB, LayC_sIr, LayC_exc, LayM_sI, LayM_sJ, LayM_sA, LayM_sB, LayM_sIr, LayM_exc, LayK_sI, LayK_sJ, LayK_sA, LayK_sB, LayK_sIr, LayK_exc]; assumption) | omega | decide | (simp (disch := (first | decide | omega)) only [gI_sJ, gI_sB, gI_sP, gI_exc, gI_sIe, aI_sJ, aI_sB, aI_sP, aI_exc, aI_sAe, aJ_sI, aJ_sA, aJ_sP, aJ_sIr, aJ_exc, aJ_sBe, gJ_sI, gJ_sA, gJ_sP, gJ_sIr, gJ_exc, gP_sI, gP_sJ, gP_sA, gP_sB, gP_sIr, gP_exc, gI_sIn, gI_sIk, gI_sAn, gI_sIrn, aI_sIn, aI_sAn, aI_sIrn, aI_sAk, aJ_sJn, aJ_sBn, gJ_sJn, gJ_sBn, gJ_sJe, gS_sI, gS_sJ, gS_sP, gS_sA, gS_sB, gS_sIr, gS_exc, w32i, w64i]; first | done | assumption | omega))) only [gI_sJ, gI_sB, gI_sP, gI_exc, gI_sIe, aI_sJ, aI_sB, aI_sP, aI_exc, aI_sAe, aJ_sI, aJ_sA, aJ_sP, aJ_sIr, aJ_exc, aJ_sBe, gJ_sI, gJ_sA, gJ_sP, gJ_sIr, gJ_exc, gP_sI, gP_sJ, gP_sA, gP_sB, gP_sIr, gP_exc, gI_sIn, gI_sIk, gI_sAn, gI_sIrn, aI_sIn, aI_sAn, aI_sIrn, aI_sAk, aJ_sJn, aJ_sBn, gJ_sJn, gJ_sBn, gJ_sJe, gS_sI, gS_sJ, gS_sP, gS_sA, gS_sB, gS_sIr, gS_exc, r1]
        have z18 : aI (Hwr h w v) 18 (W 11356) = penO bj (W 0) (how % 2) (how / 2 % 2) f + w := by unfold Hwr; simp (disch := (first | assumption | with_reducible rfl | (simp only [LayC_sI, LayC_sJ, LayC_sA, LayC_sB, LayC_sIr, LayC_exc, LayM_sI, LayM_sJ, LayM_sA, LayM_sB, LayM_sIr, LayM_exc, LayK_sI, LayK_sJ, LayK_sA, LayK_sB, LayK_sIr, LayK_exc]; assumption) | omega | decide | (simp (disch := (first | decide | omega)) only [gI_sJ, gI_sB, gI_sP, gI_exc, gI_sIe, aI_sJ, aI_sB, aI_sP, aI_exc, aI_sAe, aJ_sI, aJ_sA, aJ_sP, aJ_sIr, aJ_exc, aJ_sBe, gJ_sI, gJ_sA, gJ_sP, gJ_sIr, gJ_exc, gP_sI, gP_sJ, gP_sA, gP_sB, gP_sIr, gP_exc, gI_sIn, gI_sIk, gI_sAn, gI_sIrn, aI_sIn, aI_sAn, aI_sIrn, aI_sAk, aJ_sJn, aJ_sBn, gJ_sJn, gJ_sBn, gJ_sJe, gS_sI, gS_sJ, gS_sP, gS_sA, gS_sB, gS_sIr, gS_exc, w32i, w64i]; first | done | assumption | omega))) only [gI_sJ, gI_sB, gI_sP, gI_exc, gI_sIe, aI_sJ, aI_sB, aI_sP, aI_exc, aI_sAe, aJ_sI, aJ_sA, aJ_sP, aJ_sIr, aJ_exc, aJ_sBe, gJ_sI, gJ_sA, gJ_sP, gJ_sIr, gJ_exc, gP_sI, gP_sJ, gP_sA, gP_sB, gP_sIr, gP_exc, gI_sIn, gI_sIk, gI_sAn, gI_sIrn, aI_sIn, aI_sAn, aI_sIrn, aI_sAk, aJ_sJn, aJ_sBn, gJ_sJn, gJ_sBn, gJ_sJe, gS_sI, gS_sJ, gS_sP, gS_sA, gS_sB, gS_sIr, gS_exc, r1, hp]
        exact RR1.new v w (W 0) bj how fi f z16 z17 z18 q0 q1 q2 q3 q4 q5 q6 hf hv hw ⟨hb.1, by rw [o8]; exact hb.2⟩ g0 hh ht
      · have q9 := r4 k h0 (by omega)
        unfold RR1 at *
        rw [o8, o (11357 + 7 * k) (by omega) (by omega) (by omega), o (11357 + 7 * k + 1) (by omega) (by omega) (by omega), o (11357 + 7 * k + 2) (by omega) (by omega) (by omega), o (11357 + 7 * k + 3) (by omega) (by omega) (by omega), o (11357 + 7 * k + 4) (by omega) (by omega) (by omega), o (11357 + 7 * k + 5) (by omega) (by omega) (by omega), o (11357 + 7 * k + 6) (by omega) (by omega) (by omega)]
        unfold Hwr
        simp only [Nat.add_zero] at *
        simp (disch := (first | assumption | with_reducible rfl | (simp only [LayC_sI, LayC_sJ, LayC_sA, LayC_sB, LayC_sIr, LayC_exc, LayM_sI, LayM_sJ, LayM_sA, LayM_sB, LayM_sIr, LayM_exc, LayK_sI, LayK_sJ, LayK_sA, LayK_sB, LayK_sIr, LayK_exc]; assumption) | omega | decide | (simp (disch := (first | decide | omega)) only [gI_sJ, gI_sB, gI_sP, gI_exc, gI_sIe, aI_sJ, aI_sB, aI_sP, aI_exc, aI_sAe, aJ_sI, aJ_sA, aJ_sP, aJ_sIr, aJ_exc, aJ_sBe, gJ_sI, gJ_sA, gJ_sP, gJ_sIr, gJ_exc, gP_sI, gP_sJ, gP_sA, gP_sB, gP_sIr, gP_exc, gI_sIn, gI_sIk, gI_sAn, gI_sIrn, aI_sIn, aI_sAn, aI_sIrn, aI_sAk, aJ_sJn, aJ_sBn, gJ_sJn, gJ_sBn, gJ_sJe, gS_sI, gS_sJ, gS_sP, gS_sA, gS_sB, gS_sIr, gS_exc, w32i, w64i]; first | done | assumption | omega))) only [gI_sJ, gI_sB, gI_sP, gI_exc, gI_sIe, aI_sJ, aI_sB, aI_sP, aI_exc, aI_sAe, aJ_sI, aJ_sA, aJ_sP, aJ_sIr, aJ_exc, aJ_sBe, gJ_sI, gJ_sA, gJ_sP, gJ_sIr, gJ_exc, gP_sI, gP_sJ, gP_sA, gP_sB, gP_sIr, gP_exc, gI_sIn, gI_sIk, gI_sAn, gI_sIrn, aI_sIn, aI_sAn, aI_sIrn, aI_sAk, aJ_sJn, aJ_sBn, gJ_sJn, gJ_sBn, gJ_sJe, gS_sI, gS_sJ, gS_sP, gS_sA, gS_sB, gS_sIr, gS_exc]
        exact q9
end WR
