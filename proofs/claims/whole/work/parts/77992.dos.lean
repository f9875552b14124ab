/-! the class's doer over a text, between two lines -/
def DoS (h : HP) (c : List Int) (W : Int → Int) (j : Nat) (fi how a0 : Int) : Prop := DoC h c (-1) (envM W) ∧ RNw h 0 (wW W ((169 + 882 * (j : Int)) + 6) a0) ∧ gI h 11 9 = penO j (W 0) (how % 2) (how / 2 % 2) (if fi = W 11356 then 1 else 0) ∧ w32 (a0 + gI h 10 7) = W ((169 + 882 * (j : Int)) + 15) ∧ fi ≤ W 11356 ∧ (j : Int) < W 8
theorem DoS.rn {h : HP} {c : List Int} {W : Int → Int} {j : Nat} {fi how a0 : Int} (d : DoS h c W j fi how a0) : RWd h 0 W ∧ RLm h 0 W ∧ GSc W ∧ 0 ≤ W 11356 ∧ W 11356 ≤ 5120 ∧ gI h 11 7 = W 11356 ∧ j < 12 := by
  obtain ⟨d1, ⟨n1, n2, n3, n4, n5, n6, n7, n8, n9, n10, n11⟩, d3, d4, d5, d6⟩ := d
  have z : ∀ i : Int, i < 169 → wW W ((169 + 882 * (j : Int)) + 6) a0 i = W i := fun i q => wW_n i (by omega)
  have e8 := n2
  unfold GSc at e8
  rw [z 0 (by omega), z 1 (by omega), z 2 (by omega), z 3 (by omega), z 4 (by omega), z 5 (by omega), z 6 (by omega), z 8 (by omega)] at e8
  have hj : j < 12 := by omega
  have zk : wW W ((169 + 882 * (j : Int)) + 6) a0 11356 = W 11356 := wW_n _ (by omega)
  obtain ⟨r1, r2, r3, r4⟩ := n8
  rw [zk] at r1 r2 r3
  refine ⟨fun i h0 h1 => ?_, fun i h0 h1 => ?_, e8, r2, r3, r1, hj⟩
  · have q := n3 i h0 h1
    rw [z (9 + i) (by omega), z (73 + i) (by omega)] at q
    exact q
  · have q := n4 i h0 h1
    rw [z (137 + 2 * i) (by omega), z (138 + 2 * i) (by omega)] at q
    exact q
theorem wr_wW {W : Int → Int} (j : Nat) (hj : j < 12) (a0 w v bj fi how : Int) (hw : 0 ≤ w ∧ w < 64) (h0 : 0 ≤ W 11356) : wrW (wW W ((169 + 882 * (j : Int)) + 6) a0) w v bj fi how = wW (wrW W w v bj fi how) ((169 + 882 * (j : Int)) + 6) a0 := by
  have z0 : wW W ((169 + 882 * (j : Int)) + 6) a0 0 = W 0 := wW_n _ (by omega)
  have zk : wW W ((169 + 882 * (j : Int)) + 6) a0 11356 = W 11356 := wW_n _ (by omega)
  funext i
  by_cases e : i = 9 + ((169 + 882 * (j : Int)) + 6)
  · rw [wrW_o i (by omega) (by omega) (by rw [zk]; omega), e, wW_e, wW_e]
  · rw [wW_n i e]
    unfold wrW
    rw [zk, z0, wW_n i e]
theorem DoS.write {h : HP} {c : List Int} {W : Int → Int} {j : Nat} {fi how a0 : Int} (d : DoS h c W j fi how a0) (w v : Int) (hw : 0 ≤ w ∧ w < 64) (hv : in32 v) (hr : W 11356 < 5120) (hh : 0 ≤ how ∧ how < 4) : DoS (Hwr h w v) c (wrW W w v j fi how) j fi how a0 ∧ gI (Hwr h w v) 10 2 = gI h 10 2 := by
  obtain ⟨e1, e2, e3, e4, e5, e6, hj⟩ := d.rn
  obtain ⟨d1, d2, d3, d4, d5, d6⟩ := d
  obtain ⟨L, ⟨t, q, n, t1, t2, t3, t4, t5, t6, t7, t8, t9⟩, c1, c2, c3, c4, c5, c6⟩ := d1
  have z : ∀ i : Int, i < 169 → wW W ((169 + 882 * (j : Int)) + 6) a0 i = W i := fun i q => wW_n i (by omega)
  have zk : wW W ((169 + 882 * (j : Int)) + 6) a0 11356 = W 11356 := wW_n _ (by omega)
  have o : ∀ i : Int, i ≠ 9 + w → i ≠ 11356 → (i < 11357 + 7 * W 11356 ∨ 11357 + 7 * W 11356 + 6 < i) → wrW W w v j fi how i = W i := fun i a b c => wrW_o i a b c
  have gH : ∀ a k, a ≠ 11 → a ≠ 12 → a ≠ 16 → a ≠ 17 → a ≠ 18 → gI (Hwr h w v) a k = gI h a k := fun a k x1 x2 x3 x4 x5 => by
    unfold Hwr
    rw [gI_sIn _ _ _ _ _ x1, gI_sIn _ _ _ _ _ x1, gI_sAn _ _ _ _ _ x5, gI_sAn _ _ _ _ _ x4, gI_sAn _ _ _ _ _ x3, gI_sAn _ _ _ _ _ x2]
  have aH : ∀ a, a ≠ 11 → a ≠ 12 → a ≠ 16 → a ≠ 17 → a ≠ 18 → ∀ i, aI (Hwr h w v) a i = aI h a i := fun a x1 x2 x3 x4 x5 i => gH a _ x1 x2 x3 x4 x5
  have p9 : gI (Hwr h w v) 11 9 = gI h 11 9 - gI h 11 9 / 2097152 % 2 * 2097152 := by unfold Hwr; rw [gI_sIe]
  refine ⟨⟨⟨L, ⟨t, q, n, t1, t2, t3, t4, t5, t6, t7, t8, fun i z e => by rw [aH q (by omega) (by omega) (by omega) (by omega) (by omega)]; exact t9 i z e⟩, by rw [gH 10 5 (by decide) (by decide) (by decide) (by decide) (by decide)]; exact c1, fun x => absurd x (by decide), fun i h0 h1 h2 => ?_, fun i h0 h1 => ?_, ?_, ?_⟩, ?_, ?_, ?_, ?_, ?_⟩, gH 10 2 (by decide) (by decide) (by decide) (by decide) (by decide)⟩
  · show _ = wrW W w v j fi how (9 + i)
    have q := c3 i h0 h1 h2
    change _ = W (9 + i) at q
    unfold Hwr
    by_cases e : i = w
    · rw [e, wrW_w]; simp (disch := (first | assumption | with_reducible rfl | (simp only [LayC_sI, LayC_sJ, LayC_sA, LayC_sB, LayC_sIr, LayC_exc, LayM_sI, LayM_sJ, LayM_sA, LayM_sB, LayM_sIr, LayM_exc, LayK_sI, LayK_sJ, LayK_sA, LayK_sB, LayK_sIr, LayK_exc]; assumption) | omega | decide | (simp (disch := (first | decide | omega)) only [gI_sJ, gI_sB, gI_sP, gI_exc, gI_sIe, aI_sJ, aI_sB, aI_sP, aI_exc, aI_sAe, aJ_sI, aJ_sA, aJ_sP, aJ_sIr, aJ_exc, aJ_sBe, gJ_sI, gJ_sA, gJ_sP, gJ_sIr, gJ_exc, gP_sI, gP_sJ, gP_sA, gP_sB, gP_sIr, gP_exc, gI_sIn, gI_sIk, gI_sAn, gI_sIrn, aI_sIn, aI_sAn, aI_sIrn, aI_sAk, aJ_sJn, aJ_sBn, gJ_sJn, gJ_sBn, gJ_sJe, gS_sI, gS_sJ, gS_sP, gS_sA, gS_sB, gS_sIr, gS_exc, w32i, w64i]; first | done | assumption | omega))) only [gI_sJ, gI_sB, gI_sP, gI_exc, gI_sIe, aI_sJ, aI_sB, aI_sP, aI_exc, aI_sAe, aJ_sI, aJ_sA, aJ_sP, aJ_sIr, aJ_exc, aJ_sBe, gJ_sI, gJ_sA, gJ_sP, gJ_sIr, gJ_exc, gP_sI, gP_sJ, gP_sA, gP_sB, gP_sIr, gP_exc, gI_sIn, gI_sIk, gI_sAn, gI_sIrn, aI_sIn, aI_sAn, aI_sIrn, aI_sAk, aJ_sJn, aJ_sBn, gJ_sJn, gJ_sBn, gJ_sJe, gS_sI, gS_sJ, gS_sP, gS_sA, gS_sB, gS_sIr, gS_exc]
    · rw [o (9 + i) (by omega) (by omega) (by omega), ← q]; simp (disch := (first | assumption | with_reducible rfl | (simp only [LayC_sI, LayC_sJ, LayC_sA, LayC_sB, LayC_sIr, LayC_exc, LayM_sI, LayM_sJ, LayM_sA, LayM_sB, LayM_sIr, LayM_exc, LayK_sI, LayK_sJ, LayK_sA, LayK_sB, LayK_sIr, LayK_exc]; assumption) | omega | decide | (simp (disch := (first | decide | omega)) only [gI_sJ, gI_sB, gI_sP, gI_exc, gI_sIe, aI_sJ, aI_sB, aI_sP, aI_exc, aI_sAe, aJ_sI, aJ_sA, aJ_sP, aJ_sIr, aJ_exc, aJ_sBe, gJ_sI, gJ_sA, gJ_sP, gJ_sIr, gJ_exc, gP_sI, gP_sJ, gP_sA, gP_sB, gP_sIr, gP_exc, gI_sIn, gI_sIk, gI_sAn, gI_sIrn, aI_sIn, aI_sAn, aI_sIrn, aI_sAk, aJ_sJn, aJ_sBn, gJ_sJn, gJ_sBn, gJ_sJe, gS_sI, gS_sJ, gS_sP, gS_sA, gS_sB, gS_sIr, gS_exc, w32i, w64i]; first | done | assumption | omega))) only [gI_sJ, gI_sB, gI_sP, gI_exc, gI_sIe, aI_sJ, aI_sB, aI_sP, aI_exc, aI_sAe, aJ_sI, aJ_sA, aJ_sP, aJ_sIr, aJ_exc, aJ_sBe, gJ_sI, gJ_sA, gJ_sP, gJ_sIr, gJ_exc, gP_sI, gP_sJ, gP_sA, gP_sB, gP_sIr, gP_exc, gI_sIn, gI_sIk, gI_sAn, gI_sIrn, aI_sIn, aI_sAn, aI_sIrn, aI_sAk, aJ_sJn, aJ_sBn, gJ_sJn, gJ_sBn, gJ_sJe, gS_sI, gS_sJ, gS_sP, gS_sA, gS_sB, gS_sIr, gS_exc]
  · show _ = wrW W w v j fi how (73 + i)
    rw [o (73 + i) (by omega) (by omega) (by omega), aH 13 (by decide) (by decide) (by decide) (by decide) (by decide)]
    exact c4 i h0 h1
  · show _ = wrW W w v j fi how 1
    rw [o 1 (by omega) (by omega) (by omega), gH 10 3 (by decide) (by decide) (by decide) (by decide) (by decide)]
    exact c5
  · show _ = wrW W w v j fi how 2
    rw [o 2 (by omega) (by omega) (by omega), gH 10 4 (by decide) (by decide) (by decide) (by decide) (by decide)]
    exact c6
  · rw [← wr_wW j hj a0 w v j fi how hw e4]
    exact d2.write (f := if fi = W 11356 then 1 else 0) hw hv (by rw [zk]; exact hr) ⟨by omega, by rw [z 8 (by omega)]; exact d6⟩ hh (fun _ => by omega) (by rw [z 0 (by omega)]; exact d3) (by rw [zk])
  · have g0 : 0 ≤ W 0 ∧ W 0 ≤ 480 := ⟨e3.1, e3.2.1⟩
    rw [p9, d3, o 0 (by omega) (by omega) (by omega), wrW_n e4 hw, if_neg (show ¬ fi = W 11356 + 1 by omega)]
    unfold penO
    split <;> omega
  · rw [gH 10 7 (by decide) (by decide) (by decide) (by decide) (by decide), o _ (by omega) (by omega) (by omega)]
    exact d4
  · rw [wrW_n e4 hw]; omega
  · rw [o 8 (by omega) (by omega) (by omega)]; exact d6
