def B0 : Bst := (-1, 0, 0, [])
theorem en_pos {W : Int → Int} (g : JgW W) {J : List Nat} (hJ : ∀ j ∈ J, (j : Int) < W 8) {M C : Int} (hM : 0 ≤ M) (hC : 0 ≤ C) : ∀ (r : Nat) (t : List Nat) (B : Bst), (∀ a ∈ t, a = 3) → 0 ≤ (enB (wsP W J) (msP W J) (hsP W J) (haP W J) (blP W J) M C r t B).1 := by
  intro r
  induction r with
  | zero =>
    intro t B h
    have z : ∀ (f : Nat → Nat → Int), (∀ p, f p 3 = 0) → ∀ (t : List Nat) (p : Nat), (∀ a ∈ t, a = 3) → smF f p t = 0 := by
      intro f hf t
      induction t with
      | nil => intro p _; rfl
      | cons a t ih =>
        intro p h
        unfold smF
        rw [h a (by simp), hf p, ih (p + 1) (fun b hb => h b (by simp [hb]))]; rfl
    have z1 := z (wsP W J) (fun p => by unfold wsP; rw [if_pos rfl]) t 0 h
    have z2 := z (msP W J) (fun p => by unfold msP; rw [if_neg (by decide), if_neg (by decide)]) t 0 h
    have z3 := z (hsP W J) (fun p => by unfold hsP; rw [if_neg (by decide)]) t 0 h
    have ok : okW2 (msP W J) (hsP W J) (haP W J) (blP W J) M C t := ⟨fun k a e => by rw [h a (List.mem_of_getElem? e)]; exact haP_3 W J k, by omega, by omega, fun k i a b e1 _ n3 _ => absurd (h a (List.mem_of_getElem? e1)) n3⟩
    show 0 ≤ (upB _ _ _ _ _ M C B t).1
    unfold upB
    rw [z1, z2, z3]
    by_cases c : btr 0 0 0 B
    · rw [cif_pos ⟨ok, c⟩]; exact Int.le_refl _
    · rw [cif_neg (fun q => c q.2)]
      unfold btr at c; omega
  | succ r ih =>
    intro t B h
    unfold enB
    exact ih _ _ (fun a ha => by
      rcases List.mem_append.mp ha with q | q
      · exact h a q
      · exact List.mem_singleton.mp q)
/-- where a job stands among those of the plan: its way -/
def fdN (J l : List Nat) (job : Int) : Nat → Nat → Int
  | 0, _ => -1
  | m + 1, p => if ((J.getD p 0 : Nat) : Int) = job then ((l.getD p 0 : Nat) : Int) else fdN J l job m (p + 1)
theorem fdN_s (J l : List Nat) (job : Int) (m p : Nat) : fdN J l job (m + 1) p = if ((J.getD p 0 : Nat) : Int) = job then ((l.getD p 0 : Nat) : Int) else fdN J l job m (p + 1) := rfl
section PF
variable {F : Nat} {W : Int → Int} {M C : Int}
theorem Qs_of2 {h h' : HP} (a1 a2 : Nat) (q1 : ∀ a, a ≠ a1 → a ≠ a2 → gI h' a = gI h a) (p1 : ∀ k, PC a1 k = true → gI h' a1 k = gI h a1 k) (p2 : ∀ k, PC a2 k = false) (e : h'.2 = h.2) : Qs h h' := by
  refine ⟨fun a k c => ?_, fun a k _ => by show h'.2.1 a k = _; rw [e]; rfl, fun a k _ => by show h'.2.2.1 a k = _; rw [e]; rfl, by show h'.2.2.2.1 = _; rw [e]; rfl, by show h'.2.2.2.2.1 = _; rw [e]; rfl, by show h'.2.2.2.2.2.1 = _; rw [e]; rfl, by show h'.2.2.2.2.2.2 = _; rw [e]; rfl⟩
  by_cases x : a = a1
  · subst x; exact p1 k c
  · by_cases y : a = a2
    · subst y; rw [p2] at c; cases c
    · rw [q1 a x y]
/-- the class's best -/
theorem E_bw {h : HP} (g : JgW W) (hF : 60000 ≤ F) (L : LayC h) (e8 : gI h 19 5 = W 8) (f : ∀ j : Nat, (j : Int) < W 8 → JBf h (25 + j) W (169 + 882 * j)) (ln : ∀ j : Int, 0 ≤ j → j < W 8 → aI h 21 j = lns W j) (z7 : gI h 107 0 = 0) (z8 : gI h 108 0 = 0) (z9 : gI h 109 0 = 0) (z10 : gI h 110 0 = 0) (z11 : gI h 111 0 = 0) : ∃ h', X6_bestWorth F 103 (some 19) M C h = some ((srB (wsP W (pks W)) (msP W (pks W)) (hsP W (pks W)) (haP W (pks W)) (blP W (pks W)) (moP W (pks W)) M C (pks W).length [] B0).1, h') ∧ Qs h h' ∧ gI h' 103 9 = (pks W).length ∧ (∀ p j : Nat, (pks W)[p]? = some j → aI h' 104 p = j) ∧ BsC (pks W).length (srB (wsP W (pks W)) (msP W (pks W)) (hsP W (pks W)) (haP W (pks W)) (blP W (pks W)) (moP W (pks W)) M C (pks W).length [] B0) h' := by
  have ok := pkL_ok W (W 8).toNat (W 8).toNat 0 [] (by omega) (by simp) (fun j hj => by simp at hj)
  change (pks W).length ≤ 7 ∧ ∀ j ∈ pks W, j < (W 8).toNat at ok
  have hJ : ∀ j ∈ pks W, (j : Int) < W 8 := fun j hj => by have := ok.2 j hj; have := g.1; omega
  obtain ⟨h5, e5⟩ : ∃ h5, h5 = sI (sI (sI (sI (sI (sI h 103 10 M) 103 11 C) 103 12 (-1)) 103 13 0) 103 14 0) 103 9 0 := ⟨_, rfl⟩
  have G5 : ∀ a, a ≠ 103 → gI h5 a = gI h a := fun a ha => by rw [e5, gI_sIn _ _ _ _ _ ha, gI_sIn _ _ _ _ _ ha, gI_sIn _ _ _ _ _ ha, gI_sIn _ _ _ _ _ ha, gI_sIn _ _ _ _ _ ha, gI_sIn _ _ _ _ _ ha]
  have x2 : h5.2 = h.2 := by rw [e5]; rfl
  have L5 : LayC h5 := L.of (by show h5.2.2.2.1 = _; rw [x2]; rfl) (by show h5.2.2.1 = _; rw [x2]; rfl)
  obtain ⟨h6, a1, a2, a3, a4, a5, a6⟩ := E_pkC (F := F) (W := W) g.1 (W 8).toNat 0 F h5 [] (by have := g.1; omega) (by have := g.1; omega) L5 (by rw [G5 19 (by decide)]; exact e8) (fun j hj => by rw [G5 _ (by have := g.1; omega)]; exact (f j hj).2.2.2.2.2.2.2.2.1) (by simp) (by rw [e5, gI_sIe]; rfl) (fun p j e => by simp at e)
  change gI h6 103 9 = ((pks W).length : Int) at a5
  change ∀ p j : Nat, (pks W)[p]? = some j → aI h6 104 p = j at a6
  have L6 : LayC h6 := L5.of (by show h6.2.2.2.1 = _; rw [a4]; rfl) (by show h6.2.2.1 = _; rw [a4]; rfl)
  have G6 : ∀ a, a ≠ 103 → a ≠ 104 → gI h6 a = gI h a := fun a h1 h2 => (a2 a h1 h2).trans (G5 a h1)
  have f6 : ∀ j : Nat, (j : Int) < W 8 → JBf (sA h6 112 7 0) (25 + j) W (169 + 882 * j) := fun j hj => by
    have e : gI (sA h6 112 7 0) (25 + j) = gI h (25 + j) := (gI_sAn _ _ _ _ _ (by have := g.1; omega)).trans (G6 _ (by have := g.1; omega) (by have := g.1; omega))
    have z := f j hj
    clear f
    unfold JBf at z ⊢
    rw [e]; exact z
  obtain ⟨h7, b1, b2, b3⟩ := E_pk79 (F := F) g hJ ok.1 7 F (sA h6 112 7 0) (by omega) (by omega) L6 (by rw [gI_sAn _ _ _ _ _ (by decide)]; exact a5) (fun p j e => by rw [aI_sAn _ _ _ _ _ (by decide)]; exact a6 p j e) f6 (fun p h1 h2 => by
    rw [show p = 7 by omega, show ((7 : Nat) : Int) = 7 from rfl, aI_sAe, show (pks W).length - 7 = 0 by omega]; rfl)
  have L7 : LayC h7 := b2.C L6
  have G7 : ∀ a, a ≠ 103 → a ≠ 104 → a ≠ 112 → gI h7 a = gI h a := fun a h1 h2 h3 => (b2.1 a h3).trans ((gI_sAn _ _ _ _ _ h3).trans (G6 a h1 h2))
  have K7 : ∀ k, k ≠ 9 → gI h7 103 k = gI h5 103 k := fun k hk => by rw [b2.1 103 (by decide), gI_sAn _ _ _ _ _ (by decide)]; exact a3 k hk
  have n9 : gI h7 103 9 = ((pks W).length : Int) := by rw [b2.1 103 (by decide), gI_sAn _ _ _ _ _ (by decide)]; exact a5
  have n4 : ∀ p j : Nat, (pks W)[p]? = some j → aI h7 104 p = j := fun p j e => by rw [b2.a 104 (by decide), aI_sAn _ _ _ _ _ (by decide)]; exact a6 p j e
  have nd : NdC W (pks W) M C [] h7 := by
    refine ⟨⟨L7, n9, ?_, ?_⟩, n4, b3, ⟨?_, ?_, ?_, ?_, ?_⟩, fun i a e => by simp at e, fun j hj => ?_, fun j h1 h2 => ?_⟩
    · rw [K7 10 (by decide), e5, gI_sIk _ _ _ _ _ (by decide), gI_sIk _ _ _ _ _ (by decide), gI_sIk _ _ _ _ _ (by decide), gI_sIk _ _ _ _ _ (by decide), gI_sIk _ _ _ _ _ (by decide), gI_sIe]
    · rw [K7 11 (by decide), e5, gI_sIk _ _ _ _ _ (by decide), gI_sIk _ _ _ _ _ (by decide), gI_sIk _ _ _ _ _ (by decide), gI_sIk _ _ _ _ _ (by decide), gI_sIe]
    · show gI h7 107 0 = 0; rw [G7 107 (by decide) (by decide) (by decide)]; exact z7
    · show gI h7 108 0 = 0; rw [G7 108 (by decide) (by decide) (by decide)]; exact z8
    · show gI h7 109 0 = 0; rw [G7 109 (by decide) (by decide) (by decide)]; exact z9
    · have e : aI h7 110 (([] : List Nat).length : Int) = 0 := by show gI h7 110 0 = 0; rw [G7 110 (by decide) (by decide) (by decide)]; exact z10
      rw [e]; exact drB.nil _
    · have e : aI h7 111 (([] : List Nat).length : Int) = 0 := by show gI h7 111 0 = 0; rw [G7 111 (by decide) (by decide) (by decide)]; exact z11
      rw [e]; exact ndB.nil _ _
    · have e : gI h7 (25 + j) = gI h (25 + j) := G7 _ (by have := g.1; omega) (by have := g.1; omega) (by have := g.1; omega)
      have z := f j hj
      clear f
      unfold JBf at z ⊢
      rw [e]; exact z
    · show gI h7 21 _ = _; rw [G7 21 (by decide) (by decide) (by decide)]; exact ln j h1 h2
  have bs : BsC (pks W).length B0 h7 := by
    refine ⟨?_, ?_, ?_, fun q => absurd q (by decide)⟩
    · rw [K7 12 (by decide), e5, gI_sIk _ _ _ _ _ (by decide), gI_sIk _ _ _ _ _ (by decide), gI_sIk _ _ _ _ _ (by decide), gI_sIe]; rfl
    · rw [K7 13 (by decide), e5, gI_sIk _ _ _ _ _ (by decide), gI_sIk _ _ _ _ _ (by decide), gI_sIe]; rfl
    · rw [K7 14 (by decide), e5, gI_sIk _ _ _ _ _ (by decide), gI_sIe]; rfl
  obtain ⟨h8, c1, c2, c3⟩ := E_se (F := F) g hJ ok.1 (by omega) (pks W).length [] B0 h7 100 (by simp) (by omega) nd bs
  refine ⟨h8, ?_, ?_, ?_, ?_, c3⟩
  · have c1' : X6_search_t F 103 (some 19) 0 h7 = some ((), h8) := c1
    have b1' : X6_pick_L79 F F 103 (some 19) 6 (sA h6 112 7 0) = some ((), h7) := b1
    have a1' : X6_pick_L7 F F 103 (some 19) 0 h5 = X6_pick_L68 F 103 (some 19) h6 := a1
    have L8 : LayC h8 := L7.of c2.2.2.2.2.2.2.2.2.1 c2.2.2.2.2.2.2.2.1
    have c31 := c3.1
    have pk : X6_pick F 103 (some 19) (sI (sI (sI (sI (sI h 103 10 M) 103 11 C) 103 12 (-1)) 103 13 0) 103 14 0) = some ((), h7) := by
      unfold X6_pick
      rw [cW103 _ 9 0 _ (show LayC (sI (sI (sI (sI (sI h 103 10 M) 103 11 C) 103 12 (-1)) 103 13 0) 103 14 0) by simp only [LayC_sI, LayC_sJ, LayC_sA, LayC_sB, LayC_sIr, LayC_exc, LayM_sI, LayM_sJ, LayM_sA, LayM_sB, LayM_sIr, LayM_exc, LayK_sI, LayK_sJ, LayK_sA, LayK_sB, LayK_sIr, LayK_exc]; exact L), ← e5, a1']
      unfold X6_pick_L68
      simp (disch := (first | assumption | with_reducible rfl | (simp only [LayC_sI, LayC_sJ, LayC_sA, LayC_sB, LayC_sIr, LayC_exc, LayM_sI, LayM_sJ, LayM_sA, LayM_sB, LayM_sIr, LayM_exc, LayK_sI, LayK_sJ, LayK_sA, LayK_sB, LayK_sIr, LayK_exc]; assumption) | omega | decide | (simp (disch := (first | decide | omega)) only [gI_sJ, gI_sB, gI_sP, gI_exc, gI_sIe, aI_sJ, aI_sB, aI_sP, aI_exc, aI_sAe, aJ_sI, aJ_sA, aJ_sP, aJ_sIr, aJ_exc, aJ_sBe, gJ_sI, gJ_sA, gJ_sP, gJ_sIr, gJ_exc, gP_sI, gP_sJ, gP_sA, gP_sB, gP_sIr, gP_exc, gI_sIn, gI_sIk, gI_sAn, gI_sIrn, aI_sIn, aI_sAn, aI_sIrn, aI_sAk, aJ_sJn, aJ_sBn, gJ_sJn, gJ_sBn, gJ_sJe, gS_sI, gS_sJ, gS_sP, gS_sA, gS_sB, gS_sIr, gS_exc, w32i, w64i]; first | done | assumption | omega))) only [↓b_xbs, ↓b_xthr, ↓b_xthl, ↓b_xctr, ↓b_xctl, ↓b_xz, ↓b_xzX, ↓b_xd, ↓if_pos, ↓if_neg, ↓cI1, ↓cW1, ↓cZ1, ↓cR1, ↓cI2, ↓cW2, ↓cJ2, ↓cV2, ↓cR2, ↓cA3, ↓cS3, ↓cL3, ↓cA4, ↓cS4, ↓cL4, ↓cA5, ↓cS5, ↓cL5, ↓cA6, ↓cS6, ↓cL6, ↓cA7, ↓cS7, ↓cL7, ↓cA8, ↓cS8, ↓cL8, ↓cI9, ↓cW9, ↓cR9, ↓cI10, ↓cW10, ↓cJ10, ↓cV10, ↓cR10, ↓cI11, ↓cW11, ↓cR11, ↓cA12, ↓cS12, ↓cL12, ↓cA13, ↓cS13, ↓cL13, ↓cA14, ↓cS14, ↓cL14, ↓cA15, ↓cS15, ↓cL15, ↓cA16, ↓cS16, ↓cL16, ↓cA17, ↓cS17, ↓cL17, ↓cA18, ↓cS18, ↓cL18, ↓cI19, ↓cW19, ↓cZ19, ↓cR19, ↓cA21, ↓cS21, ↓cL21, ↓cA22, ↓cS22, ↓cL22, ↓cA23, ↓cS23, ↓cL23, ↓cI24, ↓cW24, ↓cZ24, ↓cR24, ↓cI37, ↓cW37, ↓cR37, ↓cA38, ↓cS38, ↓cL38, ↓cA39, ↓cS39, ↓cL39, ↓cA40, ↓cS40, ↓cL40, ↓cA41, ↓cS41, ↓cL41, ↓cI42, ↓cW42, ↓cR42, ↓cA43, ↓cS43, ↓cL43, ↓cA44, ↓cS44, ↓cL44, ↓cA45, ↓cS45, ↓cL45, ↓cA46, ↓cS46, ↓cL46, ↓cA47, ↓cS47, ↓cL47, ↓cA48, ↓cS48, ↓cL48, ↓cA49, ↓cS49, ↓cL49, ↓cA50, ↓cS50, ↓cL50, ↓cI51, ↓cW51, ↓cZ51, ↓cR51, ↓cA52, ↓cS52, ↓cL52, ↓cA53, ↓cS53, ↓cL53, ↓cA54, ↓cS54, ↓cL54, ↓cA55, ↓cS55, ↓cL55, ↓cI103, ↓cW103, ↓cR103, ↓cA104, ↓cS104, ↓cL104, ↓cA105, ↓cS105, ↓cL105, ↓cA106, ↓cS106, ↓cL106, ↓cA107, ↓cS107, ↓cL107, ↓cA108, ↓cS108, ↓cL108, ↓cA109, ↓cS109, ↓cL109, ↓cA110, ↓cS110, ↓cL110, ↓cA111, ↓cS111, ↓cL111, ↓cA112, ↓cS112, ↓cL112, ↓cP1_0, ↓cP1_2, ↓cP1_3, ↓cP1_5, ↓cP2_0, ↓cP2_2, ↓cP2_3, ↓cP2_4, ↓cP2_8, ↓cP2_10, ↓cP9_0, ↓cP9_1, ↓cP9_2, ↓cP9_3, ↓cP9_4, ↓cP9_5, ↓cP10_0, ↓cP11_0, ↓cP11_1, ↓cP11_2, ↓cP11_3, ↓cP11_4, ↓cP11_5, ↓cP11_6, ↓cP19_0, ↓cP19_1, ↓cP19_2, ↓cP19_3, ↓cP19_6, ↓cP37_0, ↓cP37_1, ↓cP37_2, ↓cP37_3, ↓cP42_0, ↓cP42_1, ↓cP42_2, ↓cP42_3, ↓cP42_4, ↓cP42_5, ↓cP42_8, ↓cP42_9, ↓cP51_0, ↓cP51_1, ↓cP51_2, ↓cP51_3, ↓cP103_0, ↓cP103_1, ↓cP103_2, ↓cP103_3, ↓cP103_4, ↓cP103_5, ↓cP103_6, ↓cP103_7, ↓cP103_8, ↓cIj, ↓cWj, ↓cZj, ↓cPj, ↓cQj, ↓cRj, ↓cAj]
      exact b1'
    clear a1 a1' b1 b1' c1 nd bs f6 a6 n4 b3 G5 G6 G7 K7 f ln
    unfold X6_bestWorth
    simp (disch := (first | assumption | with_reducible rfl | (simp only [LayC_sI, LayC_sJ, LayC_sA, LayC_sB, LayC_sIr, LayC_exc, LayM_sI, LayM_sJ, LayM_sA, LayM_sB, LayM_sIr, LayM_exc, LayK_sI, LayK_sJ, LayK_sA, LayK_sB, LayK_sIr, LayK_exc]; assumption) | omega | decide | (simp (disch := (first | decide | omega)) only [gI_sJ, gI_sB, gI_sP, gI_exc, gI_sIe, aI_sJ, aI_sB, aI_sP, aI_exc, aI_sAe, aJ_sI, aJ_sA, aJ_sP, aJ_sIr, aJ_exc, aJ_sBe, gJ_sI, gJ_sA, gJ_sP, gJ_sIr, gJ_exc, gP_sI, gP_sJ, gP_sA, gP_sB, gP_sIr, gP_exc, gI_sIn, gI_sIk, gI_sAn, gI_sIrn, aI_sIn, aI_sAn, aI_sIrn, aI_sAk, aJ_sJn, aJ_sBn, gJ_sJn, gJ_sBn, gJ_sJe, gS_sI, gS_sJ, gS_sP, gS_sA, gS_sB, gS_sIr, gS_exc, w32i, w64i]; first | done | assumption | omega))) only [↓b_xbs, ↓b_xthr, ↓b_xthl, ↓b_xctr, ↓b_xctl, ↓b_xz, ↓b_xzX, ↓b_xd, ↓if_pos, ↓if_neg, ↓cI1, ↓cW1, ↓cZ1, ↓cR1, ↓cI2, ↓cW2, ↓cJ2, ↓cV2, ↓cR2, ↓cA3, ↓cS3, ↓cL3, ↓cA4, ↓cS4, ↓cL4, ↓cA5, ↓cS5, ↓cL5, ↓cA6, ↓cS6, ↓cL6, ↓cA7, ↓cS7, ↓cL7, ↓cA8, ↓cS8, ↓cL8, ↓cI9, ↓cW9, ↓cR9, ↓cI10, ↓cW10, ↓cJ10, ↓cV10, ↓cR10, ↓cI11, ↓cW11, ↓cR11, ↓cA12, ↓cS12, ↓cL12, ↓cA13, ↓cS13, ↓cL13, ↓cA14, ↓cS14, ↓cL14, ↓cA15, ↓cS15, ↓cL15, ↓cA16, ↓cS16, ↓cL16, ↓cA17, ↓cS17, ↓cL17, ↓cA18, ↓cS18, ↓cL18, ↓cI19, ↓cW19, ↓cZ19, ↓cR19, ↓cA21, ↓cS21, ↓cL21, ↓cA22, ↓cS22, ↓cL22, ↓cA23, ↓cS23, ↓cL23, ↓cI24, ↓cW24, ↓cZ24, ↓cR24, ↓cI37, ↓cW37, ↓cR37, ↓cA38, ↓cS38, ↓cL38, ↓cA39, ↓cS39, ↓cL39, ↓cA40, ↓cS40, ↓cL40, ↓cA41, ↓cS41, ↓cL41, ↓cI42, ↓cW42, ↓cR42, ↓cA43, ↓cS43, ↓cL43, ↓cA44, ↓cS44, ↓cL44, ↓cA45, ↓cS45, ↓cL45, ↓cA46, ↓cS46, ↓cL46, ↓cA47, ↓cS47, ↓cL47, ↓cA48, ↓cS48, ↓cL48, ↓cA49, ↓cS49, ↓cL49, ↓cA50, ↓cS50, ↓cL50, ↓cI51, ↓cW51, ↓cZ51, ↓cR51, ↓cA52, ↓cS52, ↓cL52, ↓cA53, ↓cS53, ↓cL53, ↓cA54, ↓cS54, ↓cL54, ↓cA55, ↓cS55, ↓cL55, ↓cI103, ↓cW103, ↓cR103, ↓cA104, ↓cS104, ↓cL104, ↓cA105, ↓cS105, ↓cL105, ↓cA106, ↓cS106, ↓cL106, ↓cA107, ↓cS107, ↓cL107, ↓cA108, ↓cS108, ↓cL108, ↓cA109, ↓cS109, ↓cL109, ↓cA110, ↓cS110, ↓cL110, ↓cA111, ↓cS111, ↓cL111, ↓cA112, ↓cS112, ↓cL112, ↓cP1_0, ↓cP1_2, ↓cP1_3, ↓cP1_5, ↓cP2_0, ↓cP2_2, ↓cP2_3, ↓cP2_4, ↓cP2_8, ↓cP2_10, ↓cP9_0, ↓cP9_1, ↓cP9_2, ↓cP9_3, ↓cP9_4, ↓cP9_5, ↓cP10_0, ↓cP11_0, ↓cP11_1, ↓cP11_2, ↓cP11_3, ↓cP11_4, ↓cP11_5, ↓cP11_6, ↓cP19_0, ↓cP19_1, ↓cP19_2, ↓cP19_3, ↓cP19_6, ↓cP37_0, ↓cP37_1, ↓cP37_2, ↓cP37_3, ↓cP42_0, ↓cP42_1, ↓cP42_2, ↓cP42_3, ↓cP42_4, ↓cP42_5, ↓cP42_8, ↓cP42_9, ↓cP51_0, ↓cP51_1, ↓cP51_2, ↓cP51_3, ↓cP103_0, ↓cP103_1, ↓cP103_2, ↓cP103_3, ↓cP103_4, ↓cP103_5, ↓cP103_6, ↓cP103_7, ↓cP103_8, ↓cIj, ↓cWj, ↓cZj, ↓cPj, ↓cQj, ↓cRj, ↓cAj, ↓b_xb _ _ _ _ pk, ↓b_xb _ _ _ _ c1', c31]
  · have q5 : Qs h h5 := Qs_of2 103 103 (fun a h1 _ => G5 a h1) (fun k hk => by cases hk) (fun k => rfl) x2
    have q6 : Qs h5 h6 := Qs_of2 103 104 (fun a h1 h2 => a2 a h1 h2) (fun k hk => by cases hk) (fun k => rfl) a4
    exact q5.tr (q6.tr (((Oi.A 112 h6 7 0).Q (fun _ => rfl)).tr ((b2.Q (fun _ => rfl)).tr c2.Q)))
  · rw [c2.2.1 9 (by decide)]; exact n9
  · intro p j e
    show gI h8 104 _ = _; rw [c2.2.2.1]; exact n4 p j e
/-- the reference's best -/
theorem E_plans {h : HP} (g : JgW W) (hF : 60000 ≤ F) (L : LayM h) (rW : aI h 114 = W) (hM : 0 ≤ M) (hC : 0 ≤ C) : ∃ h' m3 m4, X12_plans F 113 M C h = some ((), h') ∧ Qs h h' ∧ NdM W (pks W) h' ∧ BsM (pks W).length (srB (wsP W (pks W)) (msP W (pks W)) (hsP W (pks W)) (haP W (pks W)) (blP W (pks W)) (moP W (pks W)) M C (pks W).length [] B0) m3 m4 h' ∧ gI h' 113 0 = gI h 113 0 ∧ gJ h' = gJ h := by
  have ok := pkL_ok W (W 8).toNat (W 8).toNat 0 [] (by omega) (by simp) (fun j hj => by simp at hj)
  change (pks W).length ≤ 7 ∧ ∀ j ∈ pks W, j < (W 8).toNat at ok
  have hJ : ∀ j ∈ pks W, (j : Int) < W 8 := fun j hj => by have := ok.2 j hj; have := g.1; omega
  obtain ⟨h1, a1, a2, a3, a4, a5, a6⟩ := E_pkM (F := F) (M := M) (C := C) g.1 (W 8).toNat 0 F (sI h 113 26 0) [] (by have := g.1; omega) (by have := g.1; omega) L (by rw [aI_sIn _ _ _ _ _ (by decide)]; exact rW) (by simp) (by rw [gI_sIe]; rfl) (fun p j e => by simp at e)
  change gI h1 113 26 = ((pks W).length : Int) at a5
  change ∀ p j : Nat, (pks W)[p]? = some j → aI h1 123 p = j at a6
  have L1 : LayM h1 := LayM.of (show LayM (sI h 113 26 0) from L) (by show h1.2.2.2.1 = _; rw [a4]; rfl) (by show h1.2.2.1 = _; rw [a4]; rfl)
  have w1 : aI h1 114 = W := by
    rw [← rW]; funext i; show gI h1 114 _ = gI h 114 _; rw [a2 114 (by decide) (by decide), gI_sIn _ _ _ _ _ (by decide)]
  have nd : NdM W (pks W) (sI h1 113 27 (-1)) := ⟨L1, by rw [aI_sIn _ _ _ _ _ (by decide)]; exact w1, by rw [gI_sIk _ _ _ _ _ (by decide)]; exact a5, fun p j e => by rw [aI_sIn _ _ _ _ _ (by decide)]; exact a6 p j e⟩
  have bs : BsM (pks W).length B0 0 0 (sI h1 113 27 (-1)) := ⟨gI_sIe _ _ _ _, rfl, rfl, fun q => absurd q (by decide)⟩
  have q4 : 4 ^ (pks W).length ≤ 4 ^ 7 := Nat.pow_le_pow_right (by decide) ok.1
  obtain ⟨h', m3, m4, b1, b2, b3, b4, b5, b6⟩ := E_l79 (F := F) (M := M) (C := C) g hJ ok.1 (by omega) (4 ^ (pks W).length) 0 F B0 0 0 (sI h1 113 27 (-1)) (by have : 4 ^ 7 = 16384 := rfl; omega) (by omega) nd bs
  have en := lp_en (ws := wsP W (pks W)) (ms := msP W (pks W)) (hs := hsP W (pks W)) (has := haP W (pks W)) (bl := blP W (pks W)) (M := M) (C := C) (pks W).length [] B0 (fun o ho => by simp at ho)
  rw [show ([] : List Nat).length + (pks W).length = (pks W).length by simp, show vlt [] 0 * 4 ^ (pks W).length = 0 by show 0 * _ = 0; simp] at en
  have ok0 : okW2 (msP W (pks W)) (hsP W (pks W)) (haP W (pks W)) (blP W (pks W)) M C [] := ⟨fun k a e => by simp at e, hM, hC, fun k i a b e => by simp at e⟩
  rw [en, en_sr (mo := moP W (pks W)) (blP_self g _) (haP_3 W _) (fun p o => (msP_nn g hJ p o).1) (fun p o => (hsP_nn g hJ p o).1) (fun p o => wsP_mo g hJ p o) (pks W).length [] B0 ok0] at b3
  refine ⟨h', m3, m4, ?_, ?_, b2, b3, ?_, ?_⟩
  · have a1' : X12_plans_L7 F F 113 M C 0 (sI h 113 26 0) = X12_plans_L66 F 113 M C h1 := a1
    have b1' : X12_plans_L79 F F 113 M C 0 0 0 (sI h1 113 27 (-1)) = some ((), h') := b1
    unfold X12_plans
    rw [mW113 h 26 0 _ L, a1']
    unfold X12_plans_L66
    rw [mW113 h1 27 (-1) _ L1]
    exact b1'
  · have q1 : Qs h (sI h 113 26 0) := Qs.sI rfl (Qs.rf h)
    have q2 : Qs (sI h 113 26 0) h1 := Qs_of2 113 123 (fun a x y => a2 a x y) (fun k hk => a3 k (fun e => by subst e; cases hk)) (fun k => rfl) a4
    have q3 : Qs h1 (sI h1 113 27 (-1)) := Qs.sI rfl (Qs.rf h1)
    have q4 : Qs (sI h1 113 27 (-1)) h' := Qs_of2 113 123 (fun a x _ => b4 a x) (fun k hk => b5 k (fun e => by subst e; cases hk) (fun e => by subst e; cases hk)) (fun k => rfl) b6
    exact q1.tr (q2.tr (q3.tr q4))
  · rw [b5 0 (by decide) (by decide), gI_sIk _ _ _ _ _ (by decide), a3 0 (by decide), gI_sIk _ _ _ _ _ (by decide)]
  · show h'.2.1 = _; rw [b6]; show h1.2.1 = _; rw [a4]; rfl
end PF
theorem plb {q p m : Nat} (hl : q ≤ 7) (hp : p + (m + 1) = q) : p < q ∧ ¬ (q : Int) ≤ p ∧ ¬ (7 : Int) ≤ p ∧ (0 : Int) ≤ p ∧ (p : Int) < 7 ∧ w32 ((p : Int) + 1) = ((p + 1 : Nat) : Int) ∧ p + 1 + m = q := ⟨by omega, by omega, by omega, by omega, by omega, by rw [w32i _ (by omega) (by omega)]; omega, by omega⟩
section PJ
variable {F : Nat} {W : Int → Int} {J : List Nat}
theorem E_choC {h : HP} {B : Bst} (L : LayC h) (hl : J.length ≤ 7) (c9 : gI h 103 9 = J.length) (c4 : ∀ p j : Nat, J[p]? = some j → aI h 104 p = j) (b : BsC J.length B h) (hB : 0 ≤ B.1) (job : Int) : ∀ (m p k : Nat), m < k → p + m = J.length → X6_chosen_L2 F k 103 job p h = some (fdN J B.2.2.2 job m p, h) := by
  obtain ⟨b1, b2, b3, b4⟩ := b
  obtain ⟨bl, b5⟩ := b4 hB
  intro m
  induction m with
  | zero =>
    intro p k hk hp
    obtain ⟨k, rfl⟩ : ∃ k', k = k' + 1 := ⟨k - 1, by omega⟩
    rw [X6_chosen_L2_s]
    simp (disch := (first | assumption | with_reducible rfl | (simp only [LayC_sI, LayC_sJ, LayC_sA, LayC_sB, LayC_sIr, LayC_exc, LayM_sI, LayM_sJ, LayM_sA, LayM_sB, LayM_sIr, LayM_exc, LayK_sI, LayK_sJ, LayK_sA, LayK_sB, LayK_sIr, LayK_exc]; assumption) | omega | decide | (simp (disch := (first | decide | omega)) only [gI_sJ, gI_sB, gI_sP, gI_exc, gI_sIe, aI_sJ, aI_sB, aI_sP, aI_exc, aI_sAe, aJ_sI, aJ_sA, aJ_sP, aJ_sIr, aJ_exc, aJ_sBe, gJ_sI, gJ_sA, gJ_sP, gJ_sIr, gJ_exc, gP_sI, gP_sJ, gP_sA, gP_sB, gP_sIr, gP_exc, gI_sIn, gI_sIk, gI_sAn, gI_sIrn, aI_sIn, aI_sAn, aI_sIrn, aI_sAk, aJ_sJn, aJ_sBn, gJ_sJn, gJ_sBn, gJ_sJe, gS_sI, gS_sJ, gS_sP, gS_sA, gS_sB, gS_sIr, gS_exc, w32i, w64i]; first | done | assumption | omega))) only [↓b_xbs, ↓b_xthr, ↓b_xthl, ↓b_xctr, ↓b_xctl, ↓b_xz, ↓b_xzX, ↓b_xd, ↓if_pos, ↓if_neg, ↓cI1, ↓cW1, ↓cZ1, ↓cR1, ↓cI2, ↓cW2, ↓cJ2, ↓cV2, ↓cR2, ↓cA3, ↓cS3, ↓cL3, ↓cA4, ↓cS4, ↓cL4, ↓cA5, ↓cS5, ↓cL5, ↓cA6, ↓cS6, ↓cL6, ↓cA7, ↓cS7, ↓cL7, ↓cA8, ↓cS8, ↓cL8, ↓cI9, ↓cW9, ↓cR9, ↓cI10, ↓cW10, ↓cJ10, ↓cV10, ↓cR10, ↓cI11, ↓cW11, ↓cR11, ↓cA12, ↓cS12, ↓cL12, ↓cA13, ↓cS13, ↓cL13, ↓cA14, ↓cS14, ↓cL14, ↓cA15, ↓cS15, ↓cL15, ↓cA16, ↓cS16, ↓cL16, ↓cA17, ↓cS17, ↓cL17, ↓cA18, ↓cS18, ↓cL18, ↓cI19, ↓cW19, ↓cZ19, ↓cR19, ↓cA21, ↓cS21, ↓cL21, ↓cA22, ↓cS22, ↓cL22, ↓cA23, ↓cS23, ↓cL23, ↓cI24, ↓cW24, ↓cZ24, ↓cR24, ↓cI37, ↓cW37, ↓cR37, ↓cA38, ↓cS38, ↓cL38, ↓cA39, ↓cS39, ↓cL39, ↓cA40, ↓cS40, ↓cL40, ↓cA41, ↓cS41, ↓cL41, ↓cI42, ↓cW42, ↓cR42, ↓cA43, ↓cS43, ↓cL43, ↓cA44, ↓cS44, ↓cL44, ↓cA45, ↓cS45, ↓cL45, ↓cA46, ↓cS46, ↓cL46, ↓cA47, ↓cS47, ↓cL47, ↓cA48, ↓cS48, ↓cL48, ↓cA49, ↓cS49, ↓cL49, ↓cA50, ↓cS50, ↓cL50, ↓cI51, ↓cW51, ↓cZ51, ↓cR51, ↓cA52, ↓cS52, ↓cL52, ↓cA53, ↓cS53, ↓cL53, ↓cA54, ↓cS54, ↓cL54, ↓cA55, ↓cS55, ↓cL55, ↓cI103, ↓cW103, ↓cR103, ↓cA104, ↓cS104, ↓cL104, ↓cA105, ↓cS105, ↓cL105, ↓cA106, ↓cS106, ↓cL106, ↓cA107, ↓cS107, ↓cL107, ↓cA108, ↓cS108, ↓cL108, ↓cA109, ↓cS109, ↓cL109, ↓cA110, ↓cS110, ↓cL110, ↓cA111, ↓cS111, ↓cL111, ↓cA112, ↓cS112, ↓cL112, ↓cP1_0, ↓cP1_2, ↓cP1_3, ↓cP1_5, ↓cP2_0, ↓cP2_2, ↓cP2_3, ↓cP2_4, ↓cP2_8, ↓cP2_10, ↓cP9_0, ↓cP9_1, ↓cP9_2, ↓cP9_3, ↓cP9_4, ↓cP9_5, ↓cP10_0, ↓cP11_0, ↓cP11_1, ↓cP11_2, ↓cP11_3, ↓cP11_4, ↓cP11_5, ↓cP11_6, ↓cP19_0, ↓cP19_1, ↓cP19_2, ↓cP19_3, ↓cP19_6, ↓cP37_0, ↓cP37_1, ↓cP37_2, ↓cP37_3, ↓cP42_0, ↓cP42_1, ↓cP42_2, ↓cP42_3, ↓cP42_4, ↓cP42_5, ↓cP42_8, ↓cP42_9, ↓cP51_0, ↓cP51_1, ↓cP51_2, ↓cP51_3, ↓cP103_0, ↓cP103_1, ↓cP103_2, ↓cP103_3, ↓cP103_4, ↓cP103_5, ↓cP103_6, ↓cP103_7, ↓cP103_8, ↓cIj, ↓cWj, ↓cZj, ↓cPj, ↓cQj, ↓cRj, ↓cAj, c9]; rfl
  | succ m ih =>
    intro p k hk hp
    obtain ⟨k, rfl⟩ : ∃ k', k = k' + 1 := ⟨k - 1, by omega⟩
    obtain ⟨hp', n1, n7, p0, p7, e1, hp2⟩ := plb hl hp
    obtain ⟨j, ej⟩ : ∃ j, J[p]? = some j := ⟨_, List.getElem?_eq_getElem hp'⟩
    obtain ⟨o, eo⟩ : ∃ o, B.2.2.2[p]? = some o := ⟨_, List.getElem?_eq_getElem (bl ▸ hp')⟩
    have e4 := c4 p j ej
    have e6 := b5 p o eo
    have hr := ih (p + 1) k (Nat.lt_of_succ_lt_succ hk) hp2
    have gj : J.getD p 0 = j := by rw [List.getD_eq_getElem?_getD, ej]; rfl
    have go : B.2.2.2.getD p 0 = o := by rw [List.getD_eq_getElem?_getD, eo]; rfl
    have e0 : fdN J B.2.2.2 job (m + 1) p = if (j : Int) = job then (o : Int) else fdN J B.2.2.2 job m (p + 1) := by
      rw [fdN_s, gj, go]
    rw [e0]
    clear hp2 e0 ih c4 b5 b4 b1 b2 b3 bl hB ej eo gj go hp hk hp' hl
    by_cases c : (j : Int) = job
    · rw [if_pos c, X6_chosen_L2_s]
      simp (disch := (first | assumption | with_reducible rfl | (simp only [LayC_sI, LayC_sJ, LayC_sA, LayC_sB, LayC_sIr, LayC_exc, LayM_sI, LayM_sJ, LayM_sA, LayM_sB, LayM_sIr, LayM_exc, LayK_sI, LayK_sJ, LayK_sA, LayK_sB, LayK_sIr, LayK_exc]; assumption) | omega | decide | (simp (disch := (first | decide | omega)) only [gI_sJ, gI_sB, gI_sP, gI_exc, gI_sIe, aI_sJ, aI_sB, aI_sP, aI_exc, aI_sAe, aJ_sI, aJ_sA, aJ_sP, aJ_sIr, aJ_exc, aJ_sBe, gJ_sI, gJ_sA, gJ_sP, gJ_sIr, gJ_exc, gP_sI, gP_sJ, gP_sA, gP_sB, gP_sIr, gP_exc, gI_sIn, gI_sIk, gI_sAn, gI_sIrn, aI_sIn, aI_sAn, aI_sIrn, aI_sAk, aJ_sJn, aJ_sBn, gJ_sJn, gJ_sBn, gJ_sJe, gS_sI, gS_sJ, gS_sP, gS_sA, gS_sB, gS_sIr, gS_exc, w32i, w64i]; first | done | assumption | omega))) only [↓b_xbs, ↓b_xthr, ↓b_xthl, ↓b_xctr, ↓b_xctl, ↓b_xz, ↓b_xzX, ↓b_xd, ↓if_pos, ↓if_neg, ↓cI1, ↓cW1, ↓cZ1, ↓cR1, ↓cI2, ↓cW2, ↓cJ2, ↓cV2, ↓cR2, ↓cA3, ↓cS3, ↓cL3, ↓cA4, ↓cS4, ↓cL4, ↓cA5, ↓cS5, ↓cL5, ↓cA6, ↓cS6, ↓cL6, ↓cA7, ↓cS7, ↓cL7, ↓cA8, ↓cS8, ↓cL8, ↓cI9, ↓cW9, ↓cR9, ↓cI10, ↓cW10, ↓cJ10, ↓cV10, ↓cR10, ↓cI11, ↓cW11, ↓cR11, ↓cA12, ↓cS12, ↓cL12, ↓cA13, ↓cS13, ↓cL13, ↓cA14, ↓cS14, ↓cL14, ↓cA15, ↓cS15, ↓cL15, ↓cA16, ↓cS16, ↓cL16, ↓cA17, ↓cS17, ↓cL17, ↓cA18, ↓cS18, ↓cL18, ↓cI19, ↓cW19, ↓cZ19, ↓cR19, ↓cA21, ↓cS21, ↓cL21, ↓cA22, ↓cS22, ↓cL22, ↓cA23, ↓cS23, ↓cL23, ↓cI24, ↓cW24, ↓cZ24, ↓cR24, ↓cI37, ↓cW37, ↓cR37, ↓cA38, ↓cS38, ↓cL38, ↓cA39, ↓cS39, ↓cL39, ↓cA40, ↓cS40, ↓cL40, ↓cA41, ↓cS41, ↓cL41, ↓cI42, ↓cW42, ↓cR42, ↓cA43, ↓cS43, ↓cL43, ↓cA44, ↓cS44, ↓cL44, ↓cA45, ↓cS45, ↓cL45, ↓cA46, ↓cS46, ↓cL46, ↓cA47, ↓cS47, ↓cL47, ↓cA48, ↓cS48, ↓cL48, ↓cA49, ↓cS49, ↓cL49, ↓cA50, ↓cS50, ↓cL50, ↓cI51, ↓cW51, ↓cZ51, ↓cR51, ↓cA52, ↓cS52, ↓cL52, ↓cA53, ↓cS53, ↓cL53, ↓cA54, ↓cS54, ↓cL54, ↓cA55, ↓cS55, ↓cL55, ↓cI103, ↓cW103, ↓cR103, ↓cA104, ↓cS104, ↓cL104, ↓cA105, ↓cS105, ↓cL105, ↓cA106, ↓cS106, ↓cL106, ↓cA107, ↓cS107, ↓cL107, ↓cA108, ↓cS108, ↓cL108, ↓cA109, ↓cS109, ↓cL109, ↓cA110, ↓cS110, ↓cL110, ↓cA111, ↓cS111, ↓cL111, ↓cA112, ↓cS112, ↓cL112, ↓cP1_0, ↓cP1_2, ↓cP1_3, ↓cP1_5, ↓cP2_0, ↓cP2_2, ↓cP2_3, ↓cP2_4, ↓cP2_8, ↓cP2_10, ↓cP9_0, ↓cP9_1, ↓cP9_2, ↓cP9_3, ↓cP9_4, ↓cP9_5, ↓cP10_0, ↓cP11_0, ↓cP11_1, ↓cP11_2, ↓cP11_3, ↓cP11_4, ↓cP11_5, ↓cP11_6, ↓cP19_0, ↓cP19_1, ↓cP19_2, ↓cP19_3, ↓cP19_6, ↓cP37_0, ↓cP37_1, ↓cP37_2, ↓cP37_3, ↓cP42_0, ↓cP42_1, ↓cP42_2, ↓cP42_3, ↓cP42_4, ↓cP42_5, ↓cP42_8, ↓cP42_9, ↓cP51_0, ↓cP51_1, ↓cP51_2, ↓cP51_3, ↓cP103_0, ↓cP103_1, ↓cP103_2, ↓cP103_3, ↓cP103_4, ↓cP103_5, ↓cP103_6, ↓cP103_7, ↓cP103_8, ↓cIj, ↓cWj, ↓cZj, ↓cPj, ↓cQj, ↓cRj, ↓cAj, c9, e4, e6]
    · rw [if_neg c, ← hr, X6_chosen_L2_s]
      clear hr
      simp (disch := (first | assumption | with_reducible rfl | (simp only [LayC_sI, LayC_sJ, LayC_sA, LayC_sB, LayC_sIr, LayC_exc, LayM_sI, LayM_sJ, LayM_sA, LayM_sB, LayM_sIr, LayM_exc, LayK_sI, LayK_sJ, LayK_sA, LayK_sB, LayK_sIr, LayK_exc]; assumption) | omega | decide | (simp (disch := (first | decide | omega)) only [gI_sJ, gI_sB, gI_sP, gI_exc, gI_sIe, aI_sJ, aI_sB, aI_sP, aI_exc, aI_sAe, aJ_sI, aJ_sA, aJ_sP, aJ_sIr, aJ_exc, aJ_sBe, gJ_sI, gJ_sA, gJ_sP, gJ_sIr, gJ_exc, gP_sI, gP_sJ, gP_sA, gP_sB, gP_sIr, gP_exc, gI_sIn, gI_sIk, gI_sAn, gI_sIrn, aI_sIn, aI_sAn, aI_sIrn, aI_sAk, aJ_sJn, aJ_sBn, gJ_sJn, gJ_sBn, gJ_sJe, gS_sI, gS_sJ, gS_sP, gS_sA, gS_sB, gS_sIr, gS_exc, w32i, w64i]; first | done | assumption | omega))) only [↓b_xbs, ↓b_xthr, ↓b_xthl, ↓b_xctr, ↓b_xctl, ↓b_xz, ↓b_xzX, ↓b_xd, ↓if_pos, ↓if_neg, ↓cI1, ↓cW1, ↓cZ1, ↓cR1, ↓cI2, ↓cW2, ↓cJ2, ↓cV2, ↓cR2, ↓cA3, ↓cS3, ↓cL3, ↓cA4, ↓cS4, ↓cL4, ↓cA5, ↓cS5, ↓cL5, ↓cA6, ↓cS6, ↓cL6, ↓cA7, ↓cS7, ↓cL7, ↓cA8, ↓cS8, ↓cL8, ↓cI9, ↓cW9, ↓cR9, ↓cI10, ↓cW10, ↓cJ10, ↓cV10, ↓cR10, ↓cI11, ↓cW11, ↓cR11, ↓cA12, ↓cS12, ↓cL12, ↓cA13, ↓cS13, ↓cL13, ↓cA14, ↓cS14, ↓cL14, ↓cA15, ↓cS15, ↓cL15, ↓cA16, ↓cS16, ↓cL16, ↓cA17, ↓cS17, ↓cL17, ↓cA18, ↓cS18, ↓cL18, ↓cI19, ↓cW19, ↓cZ19, ↓cR19, ↓cA21, ↓cS21, ↓cL21, ↓cA22, ↓cS22, ↓cL22, ↓cA23, ↓cS23, ↓cL23, ↓cI24, ↓cW24, ↓cZ24, ↓cR24, ↓cI37, ↓cW37, ↓cR37, ↓cA38, ↓cS38, ↓cL38, ↓cA39, ↓cS39, ↓cL39, ↓cA40, ↓cS40, ↓cL40, ↓cA41, ↓cS41, ↓cL41, ↓cI42, ↓cW42, ↓cR42, ↓cA43, ↓cS43, ↓cL43, ↓cA44, ↓cS44, ↓cL44, ↓cA45, ↓cS45, ↓cL45, ↓cA46, ↓cS46, ↓cL46, ↓cA47, ↓cS47, ↓cL47, ↓cA48, ↓cS48, ↓cL48, ↓cA49, ↓cS49, ↓cL49, ↓cA50, ↓cS50, ↓cL50, ↓cI51, ↓cW51, ↓cZ51, ↓cR51, ↓cA52, ↓cS52, ↓cL52, ↓cA53, ↓cS53, ↓cL53, ↓cA54, ↓cS54, ↓cL54, ↓cA55, ↓cS55, ↓cL55, ↓cI103, ↓cW103, ↓cR103, ↓cA104, ↓cS104, ↓cL104, ↓cA105, ↓cS105, ↓cL105, ↓cA106, ↓cS106, ↓cL106, ↓cA107, ↓cS107, ↓cL107, ↓cA108, ↓cS108, ↓cL108, ↓cA109, ↓cS109, ↓cL109, ↓cA110, ↓cS110, ↓cL110, ↓cA111, ↓cS111, ↓cL111, ↓cA112, ↓cS112, ↓cL112, ↓cP1_0, ↓cP1_2, ↓cP1_3, ↓cP1_5, ↓cP2_0, ↓cP2_2, ↓cP2_3, ↓cP2_4, ↓cP2_8, ↓cP2_10, ↓cP9_0, ↓cP9_1, ↓cP9_2, ↓cP9_3, ↓cP9_4, ↓cP9_5, ↓cP10_0, ↓cP11_0, ↓cP11_1, ↓cP11_2, ↓cP11_3, ↓cP11_4, ↓cP11_5, ↓cP11_6, ↓cP19_0, ↓cP19_1, ↓cP19_2, ↓cP19_3, ↓cP19_6, ↓cP37_0, ↓cP37_1, ↓cP37_2, ↓cP37_3, ↓cP42_0, ↓cP42_1, ↓cP42_2, ↓cP42_3, ↓cP42_4, ↓cP42_5, ↓cP42_8, ↓cP42_9, ↓cP51_0, ↓cP51_1, ↓cP51_2, ↓cP51_3, ↓cP103_0, ↓cP103_1, ↓cP103_2, ↓cP103_3, ↓cP103_4, ↓cP103_5, ↓cP103_6, ↓cP103_7, ↓cP103_8, ↓cIj, ↓cWj, ↓cZj, ↓cPj, ↓cQj, ↓cRj, ↓cAj, c9, e4, e1]
theorem E_choM {h : HP} {B : Bst} {m3 m4 : Int} (hl : J.length ≤ 7) (n : NdM W J h) (b : BsM J.length B m3 m4 h) (hB : 0 ≤ B.1) (job : Int) : ∀ (m p k : Nat), m < k → p + m = J.length → X12_which_L42 F k 113 job p h = some (fdN J B.2.2.2 job m p, h) := by
  obtain ⟨L, rW, c26, c123⟩ := n
  obtain ⟨b1, b2, b3, b4⟩ := b
  obtain ⟨c, hc, e28, ed⟩ := b4 hB
  intro m
  induction m with
  | zero =>
    intro p k hk hp
    obtain ⟨k, rfl⟩ : ∃ k', k = k' + 1 := ⟨k - 1, by omega⟩
    rw [X12_which_L42_s]
    simp (disch := (first | assumption | with_reducible rfl | (simp only [LayC_sI, LayC_sJ, LayC_sA, LayC_sB, LayC_sIr, LayC_exc, LayM_sI, LayM_sJ, LayM_sA, LayM_sB, LayM_sIr, LayM_exc, LayK_sI, LayK_sJ, LayK_sA, LayK_sB, LayK_sIr, LayK_exc]; assumption) | omega | decide | (simp (disch := (first | decide | omega)) only [gI_sJ, gI_sB, gI_sP, gI_exc, gI_sIe, aI_sJ, aI_sB, aI_sP, aI_exc, aI_sAe, aJ_sI, aJ_sA, aJ_sP, aJ_sIr, aJ_exc, aJ_sBe, gJ_sI, gJ_sA, gJ_sP, gJ_sIr, gJ_exc, gP_sI, gP_sJ, gP_sA, gP_sB, gP_sIr, gP_exc, gI_sIn, gI_sIk, gI_sAn, gI_sIrn, aI_sIn, aI_sAn, aI_sIrn, aI_sAk, aJ_sJn, aJ_sBn, gJ_sJn, gJ_sBn, gJ_sJe, gS_sI, gS_sJ, gS_sP, gS_sA, gS_sB, gS_sIr, gS_exc, w32i, w64i]; first | done | assumption | omega))) only [↓b_xbs, ↓b_xthr, ↓b_xthl, ↓b_xctr, ↓b_xctl, ↓b_xz, ↓b_xzX, ↓b_xd, ↓if_pos, ↓if_neg, ↓mI113, ↓mW113, ↓mZ113, ↓mJ113, ↓mV113, ↓mR113, ↓mA114, ↓mS114, ↓mL114, ↓mA115, ↓mS115, ↓mL115, ↓mA116, ↓mS116, ↓mL116, ↓mA117, ↓mS117, ↓mL117, ↓mA118, ↓mS118, ↓mL118, ↓mA119, ↓mS119, ↓mL119, ↓mA120, ↓mS120, ↓mL120, ↓mA121, ↓mS121, ↓mL121, ↓mA122, ↓mS122, ↓mL122, ↓mA123, ↓mS123, ↓mL123, ↓mA124, ↓mS124, ↓mL124, ↓mA125, ↓mS125, ↓mL125, ↓mA126, ↓mS126, ↓mL126, ↓mP113_1, ↓mP113_2, ↓mP113_4, ↓mP113_11, ↓mP113_12, ↓mP113_16, ↓mP113_17, ↓mP113_18, ↓mP113_24, ↓mP113_25, ↓mP113_29, ↓mP113_30, c26]; rfl
  | succ m ih =>
    intro p k hk hp
    obtain ⟨k, rfl⟩ : ∃ k', k = k' + 1 := ⟨k - 1, by omega⟩
    obtain ⟨hp', n1, n7, p0, p7, e1, hp2⟩ := plb hl hp
    obtain ⟨j, ej⟩ : ∃ j, J[p]? = some j := ⟨_, List.getElem?_eq_getElem hp'⟩
    have eo : B.2.2.2[p]? = some (dgt J.length c p) := by
      rw [← ed]; unfold dgs; rw [List.getElem?_map, List.getElem?_range hp']; rfl
    have e4 := c123 p j ej
    have eop := E_opt (F := F) (h := h) J.length p c hp' hl hc
    have hr := ih (p + 1) k (Nat.lt_of_succ_lt_succ hk) hp2
    have gj : J.getD p 0 = j := by rw [List.getD_eq_getElem?_getD, ej]; rfl
    have go : B.2.2.2.getD p 0 = dgt J.length c p := by rw [List.getD_eq_getElem?_getD, eo]; rfl
    have e0 : fdN J B.2.2.2 job (m + 1) p = if (j : Int) = job then ((dgt J.length c p : Nat) : Int) else fdN J B.2.2.2 job m (p + 1) := by
      rw [fdN_s, gj, go]
    rw [e0]
    clear hp2 e0 ih c123 b4 ed eo go gj b1 b2 b3 hB ej hp hk hp' hl hc
    by_cases d : (j : Int) = job
    · rw [if_pos d, X12_which_L42_s]
      simp (disch := (first | assumption | with_reducible rfl | (simp only [LayC_sI, LayC_sJ, LayC_sA, LayC_sB, LayC_sIr, LayC_exc, LayM_sI, LayM_sJ, LayM_sA, LayM_sB, LayM_sIr, LayM_exc, LayK_sI, LayK_sJ, LayK_sA, LayK_sB, LayK_sIr, LayK_exc]; assumption) | omega | decide | (simp (disch := (first | decide | omega)) only [gI_sJ, gI_sB, gI_sP, gI_exc, gI_sIe, aI_sJ, aI_sB, aI_sP, aI_exc, aI_sAe, aJ_sI, aJ_sA, aJ_sP, aJ_sIr, aJ_exc, aJ_sBe, gJ_sI, gJ_sA, gJ_sP, gJ_sIr, gJ_exc, gP_sI, gP_sJ, gP_sA, gP_sB, gP_sIr, gP_exc, gI_sIn, gI_sIk, gI_sAn, gI_sIrn, aI_sIn, aI_sAn, aI_sIrn, aI_sAk, aJ_sJn, aJ_sBn, gJ_sJn, gJ_sBn, gJ_sJe, gS_sI, gS_sJ, gS_sP, gS_sA, gS_sB, gS_sIr, gS_exc, w32i, w64i]; first | done | assumption | omega))) only [↓b_xbs, ↓b_xthr, ↓b_xthl, ↓b_xctr, ↓b_xctl, ↓b_xz, ↓b_xzX, ↓b_xd, ↓if_pos, ↓if_neg, ↓mI113, ↓mW113, ↓mZ113, ↓mJ113, ↓mV113, ↓mR113, ↓mA114, ↓mS114, ↓mL114, ↓mA115, ↓mS115, ↓mL115, ↓mA116, ↓mS116, ↓mL116, ↓mA117, ↓mS117, ↓mL117, ↓mA118, ↓mS118, ↓mL118, ↓mA119, ↓mS119, ↓mL119, ↓mA120, ↓mS120, ↓mL120, ↓mA121, ↓mS121, ↓mL121, ↓mA122, ↓mS122, ↓mL122, ↓mA123, ↓mS123, ↓mL123, ↓mA124, ↓mS124, ↓mL124, ↓mA125, ↓mS125, ↓mL125, ↓mA126, ↓mS126, ↓mL126, ↓mP113_1, ↓mP113_2, ↓mP113_4, ↓mP113_11, ↓mP113_12, ↓mP113_16, ↓mP113_17, ↓mP113_18, ↓mP113_24, ↓mP113_25, ↓mP113_29, ↓mP113_30, c26, e4, e28, ↓b_xb _ _ _ _ eop]
    · rw [if_neg d, ← hr, X12_which_L42_s]
      clear hr
      simp (disch := (first | assumption | with_reducible rfl | (simp only [LayC_sI, LayC_sJ, LayC_sA, LayC_sB, LayC_sIr, LayC_exc, LayM_sI, LayM_sJ, LayM_sA, LayM_sB, LayM_sIr, LayM_exc, LayK_sI, LayK_sJ, LayK_sA, LayK_sB, LayK_sIr, LayK_exc]; assumption) | omega | decide | (simp (disch := (first | decide | omega)) only [gI_sJ, gI_sB, gI_sP, gI_exc, gI_sIe, aI_sJ, aI_sB, aI_sP, aI_exc, aI_sAe, aJ_sI, aJ_sA, aJ_sP, aJ_sIr, aJ_exc, aJ_sBe, gJ_sI, gJ_sA, gJ_sP, gJ_sIr, gJ_exc, gP_sI, gP_sJ, gP_sA, gP_sB, gP_sIr, gP_exc, gI_sIn, gI_sIk, gI_sAn, gI_sIrn, aI_sIn, aI_sAn, aI_sIrn, aI_sAk, aJ_sJn, aJ_sBn, gJ_sJn, gJ_sBn, gJ_sJe, gS_sI, gS_sJ, gS_sP, gS_sA, gS_sB, gS_sIr, gS_exc, w32i, w64i]; first | done | assumption | omega))) only [↓b_xbs, ↓b_xthr, ↓b_xthl, ↓b_xctr, ↓b_xctl, ↓b_xz, ↓b_xzX, ↓b_xd, ↓if_pos, ↓if_neg, ↓mI113, ↓mW113, ↓mZ113, ↓mJ113, ↓mV113, ↓mR113, ↓mA114, ↓mS114, ↓mL114, ↓mA115, ↓mS115, ↓mL115, ↓mA116, ↓mS116, ↓mL116, ↓mA117, ↓mS117, ↓mL117, ↓mA118, ↓mS118, ↓mL118, ↓mA119, ↓mS119, ↓mL119, ↓mA120, ↓mS120, ↓mL120, ↓mA121, ↓mS121, ↓mL121, ↓mA122, ↓mS122, ↓mL122, ↓mA123, ↓mS123, ↓mL123, ↓mA124, ↓mS124, ↓mL124, ↓mA125, ↓mS125, ↓mL125, ↓mA126, ↓mS126, ↓mL126, ↓mP113_1, ↓mP113_2, ↓mP113_4, ↓mP113_11, ↓mP113_12, ↓mP113_16, ↓mP113_17, ↓mP113_18, ↓mP113_24, ↓mP113_25, ↓mP113_29, ↓mP113_30, c26, e4, e1]
theorem J_plan (hF : 60000 ≤ F) {h : HP} {n : Int} (r : RA n h) (a b : Int) : ∃ k h1 v h2, XL_plan F (some 1) a b (some 126) h = some (k, h1) ∧ X12_plan F 113 a b h1 = some (v, h2) ∧ OKJ n k v h2 := by
  have L := r.1
  have LK := r.2.1
  have LM := r.2.2.1
  have L6 := r.2.2.2.2.2.1
  have R := r.rf
  have G := r.gf
  by_cases c0 : (0 ≤ a ∧ a ≤ 1000) ∧ (0 ≤ b ∧ b ≤ 1000)
  · obtain ⟨n1, n2, n3, n4, n5, n6, n7, n8, n9, n10, n11⟩ := r.N
    have s8 : gI h 19 5 = aI h 114 8 := n1.2.2.2.2.2.2.2.2
    have g : JgW (aI h 114) := ⟨n2.g8, fun j hj => (n9 j hj).2.1⟩
    have o1 := n10.1
    simp only [Nat.add_zero] at o1
    obtain ⟨-, -, -, -, -, -, -, -, -, z7, z8, z9, z10, z11, -⟩ := id r
    obtain ⟨h3, x, q, c9, c4, bs⟩ := E_bw (F := F) (M := a) (C := b) g hF L s8 (fun j hj => n9.f j hj) o1 z7 z8 z9 z10 z11
    obtain ⟨V, eV⟩ : ∃ V, V = (srB (wsP (aI h 114) (pks (aI h 114))) (msP (aI h 114) (pks (aI h 114))) (hsP (aI h 114) (pks (aI h 114))) (haP (aI h 114) (pks (aI h 114))) (blP (aI h 114) (pks (aI h 114))) (moP (aI h 114) (pks (aI h 114))) a b (pks (aI h 114)).length [] B0).1 := ⟨_, rfl⟩
    have L63 : gS h3 126 = (101, 1) := by rw [q.2.2.2.1]; exact L6
    have LM3 := LM.Q q
    have w3 : aI (sI (sJ h3 126 0 V) 113 0 0) 114 = aI h 114 := by simp (disch := (first | assumption | with_reducible rfl | (simp only [LayC_sI, LayC_sJ, LayC_sA, LayC_sB, LayC_sIr, LayC_exc, LayM_sI, LayM_sJ, LayM_sA, LayM_sB, LayM_sIr, LayM_exc, LayK_sI, LayK_sJ, LayK_sA, LayK_sB, LayK_sIr, LayK_exc]; assumption) | omega | decide | (simp (disch := (first | decide | omega)) only [gI_sJ, gI_sB, gI_sP, gI_exc, gI_sIe, aI_sJ, aI_sB, aI_sP, aI_exc, aI_sAe, aJ_sI, aJ_sA, aJ_sP, aJ_sIr, aJ_exc, aJ_sBe, gJ_sI, gJ_sA, gJ_sP, gJ_sIr, gJ_exc, gP_sI, gP_sJ, gP_sA, gP_sB, gP_sIr, gP_exc, gI_sIn, gI_sIk, gI_sAn, gI_sIrn, aI_sIn, aI_sAn, aI_sIrn, aI_sAk, aJ_sJn, aJ_sBn, gJ_sJn, gJ_sBn, gJ_sJe, gS_sI, gS_sJ, gS_sP, gS_sA, gS_sB, gS_sIr, gS_exc, w32i, w64i]; first | done | assumption | omega))) only [gI_sJ, gI_sB, gI_sP, gI_exc, gI_sIe, aI_sJ, aI_sB, aI_sP, aI_exc, aI_sAe, aJ_sI, aJ_sA, aJ_sP, aJ_sIr, aJ_exc, aJ_sBe, gJ_sI, gJ_sA, gJ_sP, gJ_sIr, gJ_exc, gP_sI, gP_sJ, gP_sA, gP_sB, gP_sIr, gP_exc, gI_sIn, gI_sIk, gI_sAn, gI_sIrn, aI_sIn, aI_sAn, aI_sIrn, aI_sAk, aJ_sJn, aJ_sBn, gJ_sJn, gJ_sBn, gJ_sJe, gS_sI, gS_sJ, gS_sP, gS_sA, gS_sB, gS_sIr, gS_exc]; exact q.aI (fun _ => rfl)
    obtain ⟨h4, m3, m4, y, q2, nd, bm, e0, eJ⟩ := E_plans (F := F) (M := a) (C := b) (h := sI (sJ h3 126 0 V) 113 0 0) g hF LM3 w3 c0.1.1 c0.2.1
    have b27 := bm.1
    rw [← eV] at x b27
    have L4 := nd.1
    refine ⟨0, sJ h3 126 0 V, V, h4, ?_, ?_, by rw [e0, gI_sIe], fun _ => by rw [eJ]; exact (by simp (disch := (first | assumption | with_reducible rfl | (simp only [LayC_sI, LayC_sJ, LayC_sA, LayC_sB, LayC_sIr, LayC_exc, LayM_sI, LayM_sJ, LayM_sA, LayM_sB, LayM_sIr, LayM_exc, LayK_sI, LayK_sJ, LayK_sA, LayK_sB, LayK_sIr, LayK_exc]; assumption) | omega | decide | (simp (disch := (first | decide | omega)) only [gI_sJ, gI_sB, gI_sP, gI_exc, gI_sIe, aI_sJ, aI_sB, aI_sP, aI_exc, aI_sAe, aJ_sI, aJ_sA, aJ_sP, aJ_sIr, aJ_exc, aJ_sBe, gJ_sI, gJ_sA, gJ_sP, gJ_sIr, gJ_exc, gP_sI, gP_sJ, gP_sA, gP_sB, gP_sIr, gP_exc, gI_sIn, gI_sIk, gI_sAn, gI_sIrn, aI_sIn, aI_sAn, aI_sIrn, aI_sAk, aJ_sJn, aJ_sBn, gJ_sJn, gJ_sBn, gJ_sJe, gS_sI, gS_sJ, gS_sP, gS_sA, gS_sB, gS_sIr, gS_exc, w32i, w64i]; first | done | assumption | omega))) only [gI_sJ, gI_sB, gI_sP, gI_exc, gI_sIe, aI_sJ, aI_sB, aI_sP, aI_exc, aI_sAe, aJ_sI, aJ_sA, aJ_sP, aJ_sIr, aJ_exc, aJ_sBe, gJ_sI, gJ_sA, gJ_sP, gJ_sIr, gJ_exc, gP_sI, gP_sJ, gP_sA, gP_sB, gP_sIr, gP_exc, gI_sIn, gI_sIk, gI_sAn, gI_sIrn, aI_sIn, aI_sAn, aI_sIrn, aI_sAk, aJ_sJn, aJ_sBn, gJ_sJn, gJ_sBn, gJ_sJe, gS_sI, gS_sJ, gS_sP, gS_sA, gS_sB, gS_sIr, gS_exc]), r.Q (Or.inl ((q.tr (Qs.sI rfl (Qs.sJ (by decide) (Qs.rf h3)))).tr q2))⟩
    · clear g n1 n2 n3 n4 n5 n6 n7 n8 n9 n10 n11 bs nd bm q2 c4
      unfold XL_plan X11_plan
      simp (disch := (first | assumption | with_reducible rfl | (simp only [LayC_sI, LayC_sJ, LayC_sA, LayC_sB, LayC_sIr, LayC_exc, LayM_sI, LayM_sJ, LayM_sA, LayM_sB, LayM_sIr, LayM_exc, LayK_sI, LayK_sJ, LayK_sA, LayK_sB, LayK_sIr, LayK_exc]; assumption) | omega | decide | (simp (disch := (first | decide | omega)) only [gI_sJ, gI_sB, gI_sP, gI_exc, gI_sIe, aI_sJ, aI_sB, aI_sP, aI_exc, aI_sAe, aJ_sI, aJ_sA, aJ_sP, aJ_sIr, aJ_exc, aJ_sBe, gJ_sI, gJ_sA, gJ_sP, gJ_sIr, gJ_exc, gP_sI, gP_sJ, gP_sA, gP_sB, gP_sIr, gP_exc, gI_sIn, gI_sIk, gI_sAn, gI_sIrn, aI_sIn, aI_sAn, aI_sIrn, aI_sAk, aJ_sJn, aJ_sBn, gJ_sJn, gJ_sBn, gJ_sJe, gS_sI, gS_sJ, gS_sP, gS_sA, gS_sB, gS_sIr, gS_exc, w32i, w64i]; first | done | assumption | omega))) only [↓b_xbs, ↓b_xthr, ↓b_xthl, ↓b_xctr, ↓b_xctl, ↓b_xz, ↓b_xzX, ↓b_xd, ↓if_pos, ↓if_neg, ↓cI1, ↓cW1, ↓cZ1, ↓cR1, ↓cI2, ↓cW2, ↓cJ2, ↓cV2, ↓cR2, ↓cA3, ↓cS3, ↓cL3, ↓cA4, ↓cS4, ↓cL4, ↓cA5, ↓cS5, ↓cL5, ↓cA6, ↓cS6, ↓cL6, ↓cA7, ↓cS7, ↓cL7, ↓cA8, ↓cS8, ↓cL8, ↓cI9, ↓cW9, ↓cR9, ↓cI10, ↓cW10, ↓cJ10, ↓cV10, ↓cR10, ↓cI11, ↓cW11, ↓cR11, ↓cA12, ↓cS12, ↓cL12, ↓cA13, ↓cS13, ↓cL13, ↓cA14, ↓cS14, ↓cL14, ↓cA15, ↓cS15, ↓cL15, ↓cA16, ↓cS16, ↓cL16, ↓cA17, ↓cS17, ↓cL17, ↓cA18, ↓cS18, ↓cL18, ↓cI19, ↓cW19, ↓cZ19, ↓cR19, ↓cA21, ↓cS21, ↓cL21, ↓cA22, ↓cS22, ↓cL22, ↓cA23, ↓cS23, ↓cL23, ↓cI24, ↓cW24, ↓cZ24, ↓cR24, ↓cI37, ↓cW37, ↓cR37, ↓cA38, ↓cS38, ↓cL38, ↓cA39, ↓cS39, ↓cL39, ↓cA40, ↓cS40, ↓cL40, ↓cA41, ↓cS41, ↓cL41, ↓cI42, ↓cW42, ↓cR42, ↓cA43, ↓cS43, ↓cL43, ↓cA44, ↓cS44, ↓cL44, ↓cA45, ↓cS45, ↓cL45, ↓cA46, ↓cS46, ↓cL46, ↓cA47, ↓cS47, ↓cL47, ↓cA48, ↓cS48, ↓cL48, ↓cA49, ↓cS49, ↓cL49, ↓cA50, ↓cS50, ↓cL50, ↓cI51, ↓cW51, ↓cZ51, ↓cR51, ↓cA52, ↓cS52, ↓cL52, ↓cA53, ↓cS53, ↓cL53, ↓cA54, ↓cS54, ↓cL54, ↓cA55, ↓cS55, ↓cL55, ↓cI103, ↓cW103, ↓cR103, ↓cA104, ↓cS104, ↓cL104, ↓cA105, ↓cS105, ↓cL105, ↓cA106, ↓cS106, ↓cL106, ↓cA107, ↓cS107, ↓cL107, ↓cA108, ↓cS108, ↓cL108, ↓cA109, ↓cS109, ↓cL109, ↓cA110, ↓cS110, ↓cL110, ↓cA111, ↓cS111, ↓cL111, ↓cA112, ↓cS112, ↓cL112, ↓cP1_0, ↓cP1_2, ↓cP1_3, ↓cP1_5, ↓cP2_0, ↓cP2_2, ↓cP2_3, ↓cP2_4, ↓cP2_8, ↓cP2_10, ↓cP9_0, ↓cP9_1, ↓cP9_2, ↓cP9_3, ↓cP9_4, ↓cP9_5, ↓cP10_0, ↓cP11_0, ↓cP11_1, ↓cP11_2, ↓cP11_3, ↓cP11_4, ↓cP11_5, ↓cP11_6, ↓cP19_0, ↓cP19_1, ↓cP19_2, ↓cP19_3, ↓cP19_6, ↓cP37_0, ↓cP37_1, ↓cP37_2, ↓cP37_3, ↓cP42_0, ↓cP42_1, ↓cP42_2, ↓cP42_3, ↓cP42_4, ↓cP42_5, ↓cP42_8, ↓cP42_9, ↓cP51_0, ↓cP51_1, ↓cP51_2, ↓cP51_3, ↓cP103_0, ↓cP103_1, ↓cP103_2, ↓cP103_3, ↓cP103_4, ↓cP103_5, ↓cP103_6, ↓cP103_7, ↓cP103_8, ↓cIj, ↓cWj, ↓cZj, ↓cPj, ↓cQj, ↓cRj, ↓cAj, ↓bE_needNumber0, ↓b_xb _ _ _ _ x, ↓b_s126]
    · clear g n1 n2 n3 n4 n5 n6 n7 n8 n9 n10 n11 bs nd bm q2 c4
      unfold X12_plan
      simp (disch := (first | assumption | with_reducible rfl | (simp only [LayC_sI, LayC_sJ, LayC_sA, LayC_sB, LayC_sIr, LayC_exc, LayM_sI, LayM_sJ, LayM_sA, LayM_sB, LayM_sIr, LayM_exc, LayK_sI, LayK_sJ, LayK_sA, LayK_sB, LayK_sIr, LayK_exc]; assumption) | omega | decide | (simp (disch := (first | decide | omega)) only [gI_sJ, gI_sB, gI_sP, gI_exc, gI_sIe, aI_sJ, aI_sB, aI_sP, aI_exc, aI_sAe, aJ_sI, aJ_sA, aJ_sP, aJ_sIr, aJ_exc, aJ_sBe, gJ_sI, gJ_sA, gJ_sP, gJ_sIr, gJ_exc, gP_sI, gP_sJ, gP_sA, gP_sB, gP_sIr, gP_exc, gI_sIn, gI_sIk, gI_sAn, gI_sIrn, aI_sIn, aI_sAn, aI_sIrn, aI_sAk, aJ_sJn, aJ_sBn, gJ_sJn, gJ_sBn, gJ_sJe, gS_sI, gS_sJ, gS_sP, gS_sA, gS_sB, gS_sIr, gS_exc, w32i, w64i]; first | done | assumption | omega))) only [↓b_xbs, ↓b_xthr, ↓b_xthl, ↓b_xctr, ↓b_xctl, ↓b_xz, ↓b_xzX, ↓b_xd, ↓if_pos, ↓if_neg, ↓mI113, ↓mW113, ↓mZ113, ↓mJ113, ↓mV113, ↓mR113, ↓mA114, ↓mS114, ↓mL114, ↓mA115, ↓mS115, ↓mL115, ↓mA116, ↓mS116, ↓mL116, ↓mA117, ↓mS117, ↓mL117, ↓mA118, ↓mS118, ↓mL118, ↓mA119, ↓mS119, ↓mL119, ↓mA120, ↓mS120, ↓mL120, ↓mA121, ↓mS121, ↓mL121, ↓mA122, ↓mS122, ↓mL122, ↓mA123, ↓mS123, ↓mL123, ↓mA124, ↓mS124, ↓mL124, ↓mA125, ↓mS125, ↓mL125, ↓mA126, ↓mS126, ↓mL126, ↓mP113_1, ↓mP113_2, ↓mP113_4, ↓mP113_11, ↓mP113_12, ↓mP113_16, ↓mP113_17, ↓mP113_18, ↓mP113_24, ↓mP113_25, ↓mP113_29, ↓mP113_30, ↓bE_noTime0, ↓bE_throws0, ↓b_xb _ _ _ _ y, b27]
  · exact ⟨1, exc h, _, _, XC_plan_1 L R G a b c0, XM_plan_1 (h := exc h) LM G a b c0, OKJ.x r (by decide)⟩
theorem J_which (hF : 60000 ≤ F) {h : HP} {n : Int} (r : RA n h) (a b c : Int) : ∃ k h1 v h2, XL_which F (some 1) a b c (some 126) h = some (k, h1) ∧ X12_which F 113 a b c h1 = some (v, h2) ∧ OKJ n k v h2 := by
  have L := r.1
  have LK := r.2.1
  have LM := r.2.2.1
  have L6 := r.2.2.2.2.2.1
  have R := r.rf
  have G := r.gf
  by_cases d0 : 0 ≤ c ∧ c < aI h 114 8
  · by_cases c0 : (0 ≤ a ∧ a ≤ 1000) ∧ (0 ≤ b ∧ b ≤ 1000)
    · obtain ⟨n1, n2, n3, n4, n5, n6, n7, n8, n9, n10, n11⟩ := r.N
      have s8 : gI h 19 5 = aI h 114 8 := n1.2.2.2.2.2.2.2.2
      have g : JgW (aI h 114) := ⟨n2.g8, fun j hj => (n9 j hj).2.1⟩
      have g8 := n2.g8
      have o1 := n10.1
      simp only [Nat.add_zero] at o1
      obtain ⟨-, -, -, -, -, -, -, -, -, z7, z8, z9, z10, z11, -⟩ := id r
      have ok := pkL_ok (aI h 114) (aI h 114 8).toNat (aI h 114 8).toNat 0 [] (by omega) (by simp) (fun j hj => by simp at hj)
      change (pks (aI h 114)).length ≤ 7 ∧ ∀ j ∈ pks (aI h 114), j < (aI h 114 8).toNat at ok
      have hJ : ∀ j ∈ pks (aI h 114), (j : Int) < aI h 114 8 := fun j hj => by have := ok.2 j hj; omega
      obtain ⟨h3, x, q, c9, c4, bs⟩ := E_bw (F := F) (M := a) (C := b) g hF L s8 (fun j hj => n9.f j hj) o1 z7 z8 z9 z10 z11
      have ok0 : okW2 (msP (aI h 114) (pks (aI h 114))) (hsP (aI h 114) (pks (aI h 114))) (haP (aI h 114) (pks (aI h 114))) (blP (aI h 114) (pks (aI h 114))) a b [] := ⟨fun k a e => by simp at e, c0.1.1, c0.2.1, fun k i a b e => by simp at e⟩
      have hB : 0 ≤ (srB (wsP (aI h 114) (pks (aI h 114))) (msP (aI h 114) (pks (aI h 114))) (hsP (aI h 114) (pks (aI h 114))) (haP (aI h 114) (pks (aI h 114))) (blP (aI h 114) (pks (aI h 114))) (moP (aI h 114) (pks (aI h 114))) a b (pks (aI h 114)).length [] B0).1 := by
        rw [← en_sr (mo := moP (aI h 114) (pks (aI h 114))) (blP_self g _) (haP_3 (aI h 114) _) (fun p o => (msP_nn g hJ p o).1) (fun p o => (hsP_nn g hJ p o).1) (fun p o => wsP_mo g hJ p o) (pks (aI h 114)).length [] B0 ok0]
        exact en_pos g hJ c0.1.1 c0.2.1 _ [] B0 (fun a ha => by simp at ha)
      have L3 := L.Q q
      have xc := E_choC (F := F) (J := pks (aI h 114)) L3 ok.1 c9 c4 bs hB c (pks (aI h 114)).length 0 F (by omega) (by omega)
      obtain ⟨V, eV⟩ : ∃ V, V = fdN (pks (aI h 114)) (srB (wsP (aI h 114) (pks (aI h 114))) (msP (aI h 114) (pks (aI h 114))) (hsP (aI h 114) (pks (aI h 114))) (haP (aI h 114) (pks (aI h 114))) (blP (aI h 114) (pks (aI h 114))) (moP (aI h 114) (pks (aI h 114))) a b (pks (aI h 114)).length [] B0).2.2.2 c (pks (aI h 114)).length 0 := ⟨_, rfl⟩
      have L63 : gS h3 126 = (101, 1) := by rw [q.2.2.2.1]; exact L6
      have LM3 := LM.Q q
      have w3 : aI (sI (sJ h3 126 0 V) 113 0 0) 114 = aI h 114 := by simp (disch := (first | assumption | with_reducible rfl | (simp only [LayC_sI, LayC_sJ, LayC_sA, LayC_sB, LayC_sIr, LayC_exc, LayM_sI, LayM_sJ, LayM_sA, LayM_sB, LayM_sIr, LayM_exc, LayK_sI, LayK_sJ, LayK_sA, LayK_sB, LayK_sIr, LayK_exc]; assumption) | omega | decide | (simp (disch := (first | decide | omega)) only [gI_sJ, gI_sB, gI_sP, gI_exc, gI_sIe, aI_sJ, aI_sB, aI_sP, aI_exc, aI_sAe, aJ_sI, aJ_sA, aJ_sP, aJ_sIr, aJ_exc, aJ_sBe, gJ_sI, gJ_sA, gJ_sP, gJ_sIr, gJ_exc, gP_sI, gP_sJ, gP_sA, gP_sB, gP_sIr, gP_exc, gI_sIn, gI_sIk, gI_sAn, gI_sIrn, aI_sIn, aI_sAn, aI_sIrn, aI_sAk, aJ_sJn, aJ_sBn, gJ_sJn, gJ_sBn, gJ_sJe, gS_sI, gS_sJ, gS_sP, gS_sA, gS_sB, gS_sIr, gS_exc, w32i, w64i]; first | done | assumption | omega))) only [gI_sJ, gI_sB, gI_sP, gI_exc, gI_sIe, aI_sJ, aI_sB, aI_sP, aI_exc, aI_sAe, aJ_sI, aJ_sA, aJ_sP, aJ_sIr, aJ_exc, aJ_sBe, gJ_sI, gJ_sA, gJ_sP, gJ_sIr, gJ_exc, gP_sI, gP_sJ, gP_sA, gP_sB, gP_sIr, gP_exc, gI_sIn, gI_sIk, gI_sAn, gI_sIrn, aI_sIn, aI_sAn, aI_sIrn, aI_sAk, aJ_sJn, aJ_sBn, gJ_sJn, gJ_sBn, gJ_sJe, gS_sI, gS_sJ, gS_sP, gS_sA, gS_sB, gS_sIr, gS_exc]; exact q.aI (fun _ => rfl)
      obtain ⟨h4, m3, m4, y, q2, nd, bm, e0, eJ⟩ := E_plans (F := F) (M := a) (C := b) (h := sI (sJ h3 126 0 V) 113 0 0) g hF LM3 w3 c0.1.1 c0.2.1
      have yc := E_choM (F := F) ok.1 nd bm hB c (pks (aI h 114)).length 0 F (by omega) (by omega)
      rw [← eV] at xc yc
      have xc' : X6_chosen F 103 c h3 = some (V, h3) := xc
      have yc' : X12_which_L42 F F 113 c 0 h4 = some (V, h4) := yc
      have d8 : c < aI (sI (sJ h3 126 0 V) 113 0 0) 114 8 := by rw [w3]; exact d0.2
      have d9 : aI (sI (sJ h3 126 0 V) 113 0 0) 114 8 ≤ 12 := by rw [w3]; exact g8.2
      have nj := E_noJob0 (F := F) (h := sI (sJ h3 126 0 V) 113 0 0) c LM3 ⟨d0.1, d8⟩ d9
      refine ⟨0, sJ h3 126 0 V, V, h4, ?_, ?_, by rw [e0, gI_sIe], fun _ => by rw [eJ]; exact (by simp (disch := (first | assumption | with_reducible rfl | (simp only [LayC_sI, LayC_sJ, LayC_sA, LayC_sB, LayC_sIr, LayC_exc, LayM_sI, LayM_sJ, LayM_sA, LayM_sB, LayM_sIr, LayM_exc, LayK_sI, LayK_sJ, LayK_sA, LayK_sB, LayK_sIr, LayK_exc]; assumption) | omega | decide | (simp (disch := (first | decide | omega)) only [gI_sJ, gI_sB, gI_sP, gI_exc, gI_sIe, aI_sJ, aI_sB, aI_sP, aI_exc, aI_sAe, aJ_sI, aJ_sA, aJ_sP, aJ_sIr, aJ_exc, aJ_sBe, gJ_sI, gJ_sA, gJ_sP, gJ_sIr, gJ_exc, gP_sI, gP_sJ, gP_sA, gP_sB, gP_sIr, gP_exc, gI_sIn, gI_sIk, gI_sAn, gI_sIrn, aI_sIn, aI_sAn, aI_sIrn, aI_sAk, aJ_sJn, aJ_sBn, gJ_sJn, gJ_sBn, gJ_sJe, gS_sI, gS_sJ, gS_sP, gS_sA, gS_sB, gS_sIr, gS_exc, w32i, w64i]; first | done | assumption | omega))) only [gI_sJ, gI_sB, gI_sP, gI_exc, gI_sIe, aI_sJ, aI_sB, aI_sP, aI_exc, aI_sAe, aJ_sI, aJ_sA, aJ_sP, aJ_sIr, aJ_exc, aJ_sBe, gJ_sI, gJ_sA, gJ_sP, gJ_sIr, gJ_exc, gP_sI, gP_sJ, gP_sA, gP_sB, gP_sIr, gP_exc, gI_sIn, gI_sIk, gI_sAn, gI_sIrn, aI_sIn, aI_sAn, aI_sIrn, aI_sAk, aJ_sJn, aJ_sBn, gJ_sJn, gJ_sBn, gJ_sJe, gS_sI, gS_sJ, gS_sP, gS_sA, gS_sB, gS_sIr, gS_exc]), r.Q (Or.inl ((q.tr (Qs.sI rfl (Qs.sJ (by decide) (Qs.rf h3)))).tr q2))⟩
      · clear g n1 n2 n3 n4 n5 n6 n7 n8 n9 n10 n11 bs nd bm q2 c4 hB ok0 hJ yc yc' xc
        unfold XL_which X11_which
        simp (disch := (first | assumption | with_reducible rfl | (simp only [LayC_sI, LayC_sJ, LayC_sA, LayC_sB, LayC_sIr, LayC_exc, LayM_sI, LayM_sJ, LayM_sA, LayM_sB, LayM_sIr, LayM_exc, LayK_sI, LayK_sJ, LayK_sA, LayK_sB, LayK_sIr, LayK_exc]; assumption) | omega | decide | (simp (disch := (first | decide | omega)) only [gI_sJ, gI_sB, gI_sP, gI_exc, gI_sIe, aI_sJ, aI_sB, aI_sP, aI_exc, aI_sAe, aJ_sI, aJ_sA, aJ_sP, aJ_sIr, aJ_exc, aJ_sBe, gJ_sI, gJ_sA, gJ_sP, gJ_sIr, gJ_exc, gP_sI, gP_sJ, gP_sA, gP_sB, gP_sIr, gP_exc, gI_sIn, gI_sIk, gI_sAn, gI_sIrn, aI_sIn, aI_sAn, aI_sIrn, aI_sAk, aJ_sJn, aJ_sBn, gJ_sJn, gJ_sBn, gJ_sJe, gS_sI, gS_sJ, gS_sP, gS_sA, gS_sB, gS_sIr, gS_exc, w32i, w64i]; first | done | assumption | omega))) only [↓b_xbs, ↓b_xthr, ↓b_xthl, ↓b_xctr, ↓b_xctl, ↓b_xz, ↓b_xzX, ↓b_xd, ↓if_pos, ↓if_neg, ↓cI1, ↓cW1, ↓cZ1, ↓cR1, ↓cI2, ↓cW2, ↓cJ2, ↓cV2, ↓cR2, ↓cA3, ↓cS3, ↓cL3, ↓cA4, ↓cS4, ↓cL4, ↓cA5, ↓cS5, ↓cL5, ↓cA6, ↓cS6, ↓cL6, ↓cA7, ↓cS7, ↓cL7, ↓cA8, ↓cS8, ↓cL8, ↓cI9, ↓cW9, ↓cR9, ↓cI10, ↓cW10, ↓cJ10, ↓cV10, ↓cR10, ↓cI11, ↓cW11, ↓cR11, ↓cA12, ↓cS12, ↓cL12, ↓cA13, ↓cS13, ↓cL13, ↓cA14, ↓cS14, ↓cL14, ↓cA15, ↓cS15, ↓cL15, ↓cA16, ↓cS16, ↓cL16, ↓cA17, ↓cS17, ↓cL17, ↓cA18, ↓cS18, ↓cL18, ↓cI19, ↓cW19, ↓cZ19, ↓cR19, ↓cA21, ↓cS21, ↓cL21, ↓cA22, ↓cS22, ↓cL22, ↓cA23, ↓cS23, ↓cL23, ↓cI24, ↓cW24, ↓cZ24, ↓cR24, ↓cI37, ↓cW37, ↓cR37, ↓cA38, ↓cS38, ↓cL38, ↓cA39, ↓cS39, ↓cL39, ↓cA40, ↓cS40, ↓cL40, ↓cA41, ↓cS41, ↓cL41, ↓cI42, ↓cW42, ↓cR42, ↓cA43, ↓cS43, ↓cL43, ↓cA44, ↓cS44, ↓cL44, ↓cA45, ↓cS45, ↓cL45, ↓cA46, ↓cS46, ↓cL46, ↓cA47, ↓cS47, ↓cL47, ↓cA48, ↓cS48, ↓cL48, ↓cA49, ↓cS49, ↓cL49, ↓cA50, ↓cS50, ↓cL50, ↓cI51, ↓cW51, ↓cZ51, ↓cR51, ↓cA52, ↓cS52, ↓cL52, ↓cA53, ↓cS53, ↓cL53, ↓cA54, ↓cS54, ↓cL54, ↓cA55, ↓cS55, ↓cL55, ↓cI103, ↓cW103, ↓cR103, ↓cA104, ↓cS104, ↓cL104, ↓cA105, ↓cS105, ↓cL105, ↓cA106, ↓cS106, ↓cL106, ↓cA107, ↓cS107, ↓cL107, ↓cA108, ↓cS108, ↓cL108, ↓cA109, ↓cS109, ↓cL109, ↓cA110, ↓cS110, ↓cL110, ↓cA111, ↓cS111, ↓cL111, ↓cA112, ↓cS112, ↓cL112, ↓cP1_0, ↓cP1_2, ↓cP1_3, ↓cP1_5, ↓cP2_0, ↓cP2_2, ↓cP2_3, ↓cP2_4, ↓cP2_8, ↓cP2_10, ↓cP9_0, ↓cP9_1, ↓cP9_2, ↓cP9_3, ↓cP9_4, ↓cP9_5, ↓cP10_0, ↓cP11_0, ↓cP11_1, ↓cP11_2, ↓cP11_3, ↓cP11_4, ↓cP11_5, ↓cP11_6, ↓cP19_0, ↓cP19_1, ↓cP19_2, ↓cP19_3, ↓cP19_6, ↓cP37_0, ↓cP37_1, ↓cP37_2, ↓cP37_3, ↓cP42_0, ↓cP42_1, ↓cP42_2, ↓cP42_3, ↓cP42_4, ↓cP42_5, ↓cP42_8, ↓cP42_9, ↓cP51_0, ↓cP51_1, ↓cP51_2, ↓cP51_3, ↓cP103_0, ↓cP103_1, ↓cP103_2, ↓cP103_3, ↓cP103_4, ↓cP103_5, ↓cP103_6, ↓cP103_7, ↓cP103_8, ↓cIj, ↓cWj, ↓cZj, ↓cPj, ↓cQj, ↓cRj, ↓cAj, ↓bE_needPlace0, ↓bE_needNumber0, s8, ↓b_xb _ _ _ _ x, ↓b_xb _ _ _ _ xc', ↓b_s126]
      · clear g n1 n2 n3 n4 n5 n6 n7 n8 n9 n10 n11 bs nd bm q2 c4 hB ok0 hJ yc xc xc'
        unfold X12_which
        simp (disch := (first | assumption | with_reducible rfl | (simp only [LayC_sI, LayC_sJ, LayC_sA, LayC_sB, LayC_sIr, LayC_exc, LayM_sI, LayM_sJ, LayM_sA, LayM_sB, LayM_sIr, LayM_exc, LayK_sI, LayK_sJ, LayK_sA, LayK_sB, LayK_sIr, LayK_exc]; assumption) | omega | decide | (simp (disch := (first | decide | omega)) only [gI_sJ, gI_sB, gI_sP, gI_exc, gI_sIe, aI_sJ, aI_sB, aI_sP, aI_exc, aI_sAe, aJ_sI, aJ_sA, aJ_sP, aJ_sIr, aJ_exc, aJ_sBe, gJ_sI, gJ_sA, gJ_sP, gJ_sIr, gJ_exc, gP_sI, gP_sJ, gP_sA, gP_sB, gP_sIr, gP_exc, gI_sIn, gI_sIk, gI_sAn, gI_sIrn, aI_sIn, aI_sAn, aI_sIrn, aI_sAk, aJ_sJn, aJ_sBn, gJ_sJn, gJ_sBn, gJ_sJe, gS_sI, gS_sJ, gS_sP, gS_sA, gS_sB, gS_sIr, gS_exc, w32i, w64i]; first | done | assumption | omega))) only [↓b_xbs, ↓b_xthr, ↓b_xthl, ↓b_xctr, ↓b_xctl, ↓b_xz, ↓b_xzX, ↓b_xd, ↓if_pos, ↓if_neg, ↓mI113, ↓mW113, ↓mZ113, ↓mJ113, ↓mV113, ↓mR113, ↓mA114, ↓mS114, ↓mL114, ↓mA115, ↓mS115, ↓mL115, ↓mA116, ↓mS116, ↓mL116, ↓mA117, ↓mS117, ↓mL117, ↓mA118, ↓mS118, ↓mL118, ↓mA119, ↓mS119, ↓mL119, ↓mA120, ↓mS120, ↓mL120, ↓mA121, ↓mS121, ↓mL121, ↓mA122, ↓mS122, ↓mL122, ↓mA123, ↓mS123, ↓mL123, ↓mA124, ↓mS124, ↓mL124, ↓mA125, ↓mS125, ↓mL125, ↓mA126, ↓mS126, ↓mL126, ↓mP113_1, ↓mP113_2, ↓mP113_4, ↓mP113_11, ↓mP113_12, ↓mP113_16, ↓mP113_17, ↓mP113_18, ↓mP113_24, ↓mP113_25, ↓mP113_29, ↓mP113_30, ↓b_xb _ _ _ _ nj, ↓bE_noTime0, ↓bE_throws0, ↓b_xb _ _ _ _ y]
        exact yc'
    · exact ⟨2, exc h, _, _, XC_which_2 L R G a b c d0 c0, XM_which_2 (h := exc h) LM G a b c d0 c0, OKJ.x r (by decide)⟩
  · exact ⟨1, exc h, _, _, XC_which_1 L R G a b c d0, XM_which_1 (h := exc h) LM G a b c d0, OKJ.x r (by decide)⟩
end PJ
