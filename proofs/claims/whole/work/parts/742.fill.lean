/-! ovens and vans -/
/-- only the place a0 is other, and of it the longs alone -/
def Oj (a0 : Nat) (h h' : HP) : Prop := gI h' = gI h ∧ (∀ a, a ≠ a0 → gJ h' a = gJ h a) ∧ gP h' = gP h ∧ gS h' = gS h ∧ gn h' = gn h ∧ gc h' = gc h ∧ gs h' = gs h
theorem Oj.rf (a0 : Nat) (h : HP) : Oj a0 h h := ⟨rfl, fun _ _ => rfl, rfl, rfl, rfl, rfl, rfl⟩
theorem Oj.tr {a0 : Nat} {a b c : HP} (x : Oj a0 a b) (y : Oj a0 b c) : Oj a0 a c := by
  obtain ⟨x1, x2, x3, x4, x5, x6, x7⟩ := x
  obtain ⟨y1, y2, y3, y4, y5, y6, y7⟩ := y
  exact ⟨y1.trans x1, fun a q => (y2 a q).trans (x2 a q), y3.trans x3, y4.trans x4, y5.trans x5, y6.trans x6, y7.trans x7⟩
theorem Oj.B (a0 : Nat) (h : HP) (i v : Int) : Oj a0 h (sB h a0 i v) := ⟨rfl, fun a q => gJ_sJn h a0 i.toNat v a q, rfl, rfl, rfl, rfl, rfl⟩
theorem Oj.M {a0 : Nat} {h h' : HP} (o : Oj a0 h h') (L : LayM h) : LayM h' := L.of o.2.2.2.1 o.2.2.1
theorem Oj.C {a0 : Nat} {h h' : HP} (o : Oj a0 h h') (L : LayC h) : LayC h' := L.of o.2.2.2.1 o.2.2.1
theorem Oj.i {a0 : Nat} {h h' : HP} (o : Oj a0 h h') : aI h' = aI h := by funext a i; show gI h' a _ = gI h a _; rw [o.1]
theorem Oj.j {a0 : Nat} {h h' : HP} (o : Oj a0 h h') (a : Nat) (q : a ≠ a0) : aJ h' a = aJ h a := by funext i; show gJ h' a _ = gJ h a _; rw [o.2.1 a q]
theorem Oj.Q {a0 : Nat} {h h' : HP} (o : Oj a0 h h') (p : a0 ≤ 126) : Qs h h' := by
  obtain ⟨x1, x2, x3, x4, x5, x6, x7⟩ := o
  exact ⟨fun a k _ => by rw [x1], fun a k q => by rw [x2 a (by omega)], fun a k _ => by rw [x3], x4, x5, x6, x7⟩
def mz (W : Int → Int) (s g : Int) : Int := max 0 (W (9 + (4 * s + g)))
def nu (W : Int → Int) (g : Int) : Int := mz W 0 g + mz W 1 g + mz W 2 g + mz W 3 g
def mn (W : Int → Int) (g : Int) : Int := (nu W g + W (11254 + 4 * g) - 1) / W (11254 + 4 * g) * W (11254 + 4 * g + 1)
def wg (W : Int → Int) (g : Int) : Int := nu W g * W (11254 + 4 * g + 2)
def ld1 (W : Int → Int) (s g : Int) : Int := mz W s g * W (11254 + 4 * g + 2)
def ld (W : Int → Int) (s : Int) : Int := ld1 W s 0 + ld1 W s 1 + ld1 W s 2 + ld1 W s 3
/-- the words and the goods are as they must be -/
def BkW (W : Int → Int) : Prop := (∀ i : Int, 0 ≤ i → i < 64 → in32 (W (9 + i))) ∧ (∀ g : Int, 0 ≤ g → g < 4 → 1 ≤ W (11254 + 4 * g) ∧ W (11254 + 4 * g) ≤ 9999 ∧ 1 ≤ W (11254 + 4 * g + 1) ∧ W (11254 + 4 * g + 1) ≤ 100 ∧ 1 ≤ W (11254 + 4 * g + 2) ∧ W (11254 + 4 * g + 2) ≤ 100 ∧ 0 ≤ W (11254 + 4 * g + 3) ∧ W (11254 + 4 * g + 3) ≤ 9999)
theorem BkW.mk {h : HP} {W : Int → Int} (a : RWd h 0 W) (b : RBk h 0 W) : BkW W := ⟨fun i h0 h1 => (a i h0 h1).2.2.1, fun g h0 h1 => (b.1 g h0 h1).2.2.2.2⟩
theorem mz_b {W : Int → Int} (b : BkW W) (s g : Int) (s0 : 0 ≤ s) (s1 : s < 4) (g0 : 0 ≤ g) (g1 : g < 4) : 0 ≤ mz W s g ∧ mz W s g ≤ 2147483647 := by
  have := b.1 (4 * s + g) (by omega) (by omega)
  unfold in32 at this
  unfold mz
  omega
theorem nu_b {W : Int → Int} (b : BkW W) (g : Int) (g0 : 0 ≤ g) (g1 : g < 4) : 0 ≤ nu W g ∧ nu W g ≤ 8589934588 := by
  have := mz_b b 0 g (by decide) (by decide) g0 g1
  have := mz_b b 1 g (by decide) (by decide) g0 g1
  have := mz_b b 2 g (by decide) (by decide) g0 g1
  have := mz_b b 3 g (by decide) (by decide) g0 g1
  unfold nu; omega
theorem mul_b (a c A C : Int) (h0 : 0 ≤ a) (h1 : a ≤ A) (h2 : 0 ≤ c) (h3 : c ≤ C) : 0 ≤ a * c ∧ a * c ≤ A * C := ⟨Int.mul_nonneg h0 h2, Int.mul_le_mul h1 h3 h2 (by omega)⟩
theorem mnq_b {W : Int → Int} (b : BkW W) (g : Int) (g0 : 0 ≤ g) (g1 : g < 4) : 0 ≤ (nu W g + W (11254 + 4 * g) - 1) / W (11254 + 4 * g) ∧ (nu W g + W (11254 + 4 * g) - 1) / W (11254 + 4 * g) ≤ 8590000000 := by
  have n := nu_b b g g0 g1
  obtain ⟨b1, b2, b3, b4, b5, b6, b7, b8⟩ := b.2 g g0 g1
  refine ⟨Int.ediv_nonneg (by omega) (by omega), ?_⟩
  have := Int.ediv_le_self (a := nu W g + W (11254 + 4 * g) - 1) (W (11254 + 4 * g)) (by omega)
  omega
theorem mn_b {W : Int → Int} (b : BkW W) (g : Int) (g0 : 0 ≤ g) (g1 : g < 4) : 0 ≤ mn W g ∧ mn W g ≤ 859000000000 := by
  obtain ⟨b1, b2, b3, b4, b5, b6, b7, b8⟩ := b.2 g g0 g1
  have q := mnq_b b g g0 g1
  have := mul_b _ (W (11254 + 4 * g + 1)) _ 100 q.1 q.2 (by omega) b4
  unfold mn; omega
theorem wg_b {W : Int → Int} (b : BkW W) (g : Int) (g0 : 0 ≤ g) (g1 : g < 4) : 0 ≤ wg W g ∧ wg W g ≤ 859000000000 := by
  obtain ⟨b1, b2, b3, b4, b5, b6, b7, b8⟩ := b.2 g g0 g1
  have q := nu_b b g g0 g1
  have := mul_b _ (W (11254 + 4 * g + 2)) _ 100 q.1 q.2 (by omega) b6
  unfold wg; omega
theorem ld1_b {W : Int → Int} (b : BkW W) (s g : Int) (s0 : 0 ≤ s) (s1 : s < 4) (g0 : 0 ≤ g) (g1 : g < 4) : 0 ≤ ld1 W s g ∧ ld1 W s g ≤ 214748364700 := by
  obtain ⟨b1, b2, b3, b4, b5, b6, b7, b8⟩ := b.2 g g0 g1
  have q := mz_b b s g s0 s1 g0 g1
  have := mul_b _ (W (11254 + 4 * g + 2)) _ 100 q.1 q.2 (by omega) b6
  unfold ld1; omega
theorem ld_b {W : Int → Int} (b : BkW W) (s : Int) (s0 : 0 ≤ s) (s1 : s < 4) : 0 ≤ ld W s ∧ ld W s ≤ 859000000000 := by
  have := ld1_b b s 0 s0 s1 (by decide) (by decide)
  have := ld1_b b s 1 s0 s1 (by decide) (by decide)
  have := ld1_b b s 2 s0 s1 (by decide) (by decide)
  have := ld1_b b s 3 s0 s1 (by decide) (by decide)
  unfold ld; omega
/-- what the class's parts of a bakery ask of the heap -/
def BkC (W : Int → Int) (h : HP) : Prop := LayC h ∧ RWd h 0 W ∧ RBk h 0 W
theorem BkC.oj {a0 : Nat} {W : Int → Int} {h h' : HP} (o : Oj a0 h h') (b : BkC W h) : BkC W h' := by
  obtain ⟨b1, b2, b3⟩ := b
  refine ⟨o.C b1, ?_, ?_⟩
  · unfold RWd at *; rw [o.i]; exact b2
  · unfold RBk at *; rw [o.i, o.1]; exact b3
section FL
variable {F : Nat} {h : HP} {W : Int → Int}
theorem E_want (b : BkC W h) (s g : Int) (s0 : 0 ≤ s) (s1 : s < 4) (g0 : 0 ≤ g) (g1 : g < 4) : X0_wantedBy F (some 11) s g h = some (mz W s g, h) := by
  obtain ⟨L, b2, b3⟩ := b
  have e := (b2 (4 * s + g) (by omega) (by omega)).1
  rw [Nat.add_zero] at e
  unfold X0_wantedBy
  simp (disch := (first | assumption | with_reducible rfl | (simp only [LayC_sI, LayC_sJ, LayC_sA, LayC_sB, LayC_sIr, LayC_exc, LayM_sI, LayM_sJ, LayM_sA, LayM_sB, LayM_sIr, LayM_exc, LayK_sI, LayK_sJ, LayK_sA, LayK_sB, LayK_sIr, LayK_exc]; assumption) | omega | decide | (simp (disch := (first | decide | omega)) only [gI_sJ, gI_sB, gI_sP, gI_exc, gI_sIe, aI_sJ, aI_sB, aI_sP, aI_exc, aI_sAe, aJ_sI, aJ_sA, aJ_sP, aJ_sIr, aJ_exc, aJ_sBe, gJ_sI, gJ_sA, gJ_sP, gJ_sIr, gJ_exc, gP_sI, gP_sJ, gP_sA, gP_sB, gP_sIr, gP_exc, gI_sIn, gI_sIk, gI_sAn, gI_sIrn, aI_sIn, aI_sAn, aI_sIrn, aI_sAk, aJ_sJn, aJ_sBn, gJ_sJn, gJ_sBn, gJ_sJe, gS_sI, gS_sJ, gS_sP, gS_sA, gS_sB, gS_sIr, gS_exc, w32i, w64i]; first | done | assumption | omega))) only [↓b_xbs, ↓b_xthr, ↓b_xthl, ↓b_xctr, ↓b_xctl, ↓b_xz, ↓b_xzX, ↓b_xd, ↓if_pos, ↓if_neg, ↓cI1, ↓cW1, ↓cZ1, ↓cR1, ↓cI2, ↓cW2, ↓cJ2, ↓cV2, ↓cR2, ↓cA3, ↓cS3, ↓cL3, ↓cA4, ↓cS4, ↓cL4, ↓cA5, ↓cS5, ↓cL5, ↓cA6, ↓cS6, ↓cL6, ↓cA7, ↓cS7, ↓cL7, ↓cA8, ↓cS8, ↓cL8, ↓cI9, ↓cW9, ↓cR9, ↓cI10, ↓cW10, ↓cJ10, ↓cV10, ↓cR10, ↓cI11, ↓cW11, ↓cR11, ↓cA12, ↓cS12, ↓cL12, ↓cA13, ↓cS13, ↓cL13, ↓cA14, ↓cS14, ↓cL14, ↓cA15, ↓cS15, ↓cL15, ↓cA16, ↓cS16, ↓cL16, ↓cA17, ↓cS17, ↓cL17, ↓cA18, ↓cS18, ↓cL18, ↓cI19, ↓cW19, ↓cZ19, ↓cR19, ↓cA21, ↓cS21, ↓cL21, ↓cA22, ↓cS22, ↓cL22, ↓cA23, ↓cS23, ↓cL23, ↓cI24, ↓cW24, ↓cZ24, ↓cR24, ↓cI37, ↓cW37, ↓cR37, ↓cA38, ↓cS38, ↓cL38, ↓cA39, ↓cS39, ↓cL39, ↓cA40, ↓cS40, ↓cL40, ↓cA41, ↓cS41, ↓cL41, ↓cI42, ↓cW42, ↓cR42, ↓cA43, ↓cS43, ↓cL43, ↓cA44, ↓cS44, ↓cL44, ↓cA45, ↓cS45, ↓cL45, ↓cA46, ↓cS46, ↓cL46, ↓cA47, ↓cS47, ↓cL47, ↓cA48, ↓cS48, ↓cL48, ↓cA49, ↓cS49, ↓cL49, ↓cA50, ↓cS50, ↓cL50, ↓cI51, ↓cW51, ↓cZ51, ↓cR51, ↓cA52, ↓cS52, ↓cL52, ↓cA53, ↓cS53, ↓cL53, ↓cA54, ↓cS54, ↓cL54, ↓cA55, ↓cS55, ↓cL55, ↓cI103, ↓cW103, ↓cR103, ↓cA104, ↓cS104, ↓cL104, ↓cA105, ↓cS105, ↓cL105, ↓cA106, ↓cS106, ↓cL106, ↓cA107, ↓cS107, ↓cL107, ↓cA108, ↓cS108, ↓cL108, ↓cA109, ↓cS109, ↓cL109, ↓cA110, ↓cS110, ↓cL110, ↓cA111, ↓cS111, ↓cL111, ↓cA112, ↓cS112, ↓cL112, ↓cP1_0, ↓cP1_2, ↓cP1_3, ↓cP1_5, ↓cP2_0, ↓cP2_2, ↓cP2_3, ↓cP2_4, ↓cP2_8, ↓cP2_10, ↓cP9_0, ↓cP9_1, ↓cP9_2, ↓cP9_3, ↓cP9_4, ↓cP9_5, ↓cP10_0, ↓cP11_0, ↓cP11_1, ↓cP11_2, ↓cP11_3, ↓cP11_4, ↓cP11_5, ↓cP11_6, ↓cP19_0, ↓cP19_1, ↓cP19_2, ↓cP19_3, ↓cP19_6, ↓cP37_0, ↓cP37_1, ↓cP37_2, ↓cP37_3, ↓cP42_0, ↓cP42_1, ↓cP42_2, ↓cP42_3, ↓cP42_4, ↓cP42_5, ↓cP42_8, ↓cP42_9, ↓cP51_0, ↓cP51_1, ↓cP51_2, ↓cP51_3, ↓cP103_0, ↓cP103_1, ↓cP103_2, ↓cP103_3, ↓cP103_4, ↓cP103_5, ↓cP103_6, ↓cP103_7, ↓cP103_8, ↓cIj, ↓cWj, ↓cZj, ↓cPj, ↓cQj, ↓cRj, ↓cAj, w32i, ↓bE_wordAt, e]; rfl
theorem E_num1 (b : BkC W h) (k : Nat) (g s t : Int) (s0 : 0 ≤ s) (s1 : s < 4) (g0 : 0 ≤ g) (g1 : g < 4) : X0_wantedByAll_L5 F (k + 1) (some 11) g t s h = X0_wantedByAll_L5 F k (some 11) g (w64 (t + mz W s g)) (s + 1) h := by
  have e := E_want (F := F) b s g s0 s1 g0 g1
  have e1 : w32 (s + 1) = s + 1 := w32i _ (by omega) (by omega)
  rw [X0_wantedByAll_L5_s, if_neg (by omega), b_xb _ _ _ _ e, e1]
theorem E_numC (hF : 6 ≤ F) (b : BkC W h) (g : Int) (g0 : 0 ≤ g) (g1 : g < 4) : X0_wantedByAll F (some 11) g h = some (nu W g, h) := by
  have bw := BkW.mk b.2.1 b.2.2
  have := mz_b bw 0 g (by decide) (by decide) g0 g1
  have := mz_b bw 1 g (by decide) (by decide) g0 g1
  have := mz_b bw 2 g (by decide) (by decide) g0 g1
  have := mz_b bw 3 g (by decide) (by decide) g0 g1
  have key : ∀ k, X0_wantedByAll_L5 F (k + 5) (some 11) g 0 0 h = some (nu W g, h) := by
    intro k
    rw [E_num1 b (k + 4) g 0 _ (by decide) (by decide) g0 g1, E_num1 b (k + 3) g (0 + 1) _ (by decide) (by decide) g0 g1, E_num1 b (k + 2) g (0 + 1 + 1) _ (by decide) (by decide) g0 g1, E_num1 b (k + 1) g (0 + 1 + 1 + 1) _ (by decide) (by decide) g0 g1, X0_wantedByAll_L5_s, if_pos (by decide)]
    show some (w64 (w64 (w64 (w64 (0 + mz W 0 g) + mz W 1 g) + mz W 2 g) + mz W 3 g), h) = _
    rw [w64i (0 + mz W 0 g) (by omega) (by omega), w64i (0 + mz W 0 g + mz W 1 g) (by omega) (by omega), w64i (0 + mz W 0 g + mz W 1 g + mz W 2 g) (by omega) (by omega), w64i _ (by omega) (by omega)]
    unfold nu; rw [Int.zero_add]
  have := key (F - 5)
  rw [show F - 5 + 5 = F by omega] at this
  exact this
theorem E_pm1 (hF : 6 ≤ F) (b : BkC W h) (k : Nat) (g : Int) (g0 : 0 ≤ g) (g1 : g < 4) : X0_partByMinutes_L2 F (k + 1) 42 (some 11) g h = X0_partByMinutes_L2 F k 42 (some 11) (g + 1) (sB h 49 g (mn W g)) := by
  have bw := BkW.mk b.2.1 b.2.2
  have e := E_numC hF b g g0 g1
  obtain ⟨L, b2, b3⟩ := b
  obtain ⟨c1, c2, c3, c4, c5, c6, c7, c8, c9, c10, c11, c12⟩ := b3.1 g g0 g1
  rw [Nat.add_zero] at c1 c2
  have e1 : w32 (g + 1) = g + 1 := w32i _ (by omega) (by omega)
  have em : max 1 (W (11254 + 4 * g)) = W (11254 + 4 * g) := by omega
  have n := nu_b bw g g0 g1
  have q := mnq_b bw g g0 g1
  have m := mn_b bw g g0 g1
  have t1 : w64 (nu W g + W (11254 + 4 * g)) = nu W g + W (11254 + 4 * g) := w64i _ (by omega) (by omega)
  have t2 : w64 (nu W g + W (11254 + 4 * g) - 1) = nu W g + W (11254 + 4 * g) - 1 := w64i _ (by omega) (by omega)
  have t3 : w64 ((nu W g + W (11254 + 4 * g) - 1).tdiv (W (11254 + 4 * g))) = (nu W g + W (11254 + 4 * g) - 1) / W (11254 + 4 * g) := by
    rw [Int.tdiv_eq_ediv_of_nonneg (by omega)]; exact w64i _ (by omega) (by omega)
  have t4 : w64 ((nu W g + W (11254 + 4 * g) - 1) / W (11254 + 4 * g) * W (11254 + 4 * g + 1)) = mn W g := w64i _ (show _ ≤ mn W g by omega) (show mn W g < _ by omega)
  rw [X0_partByMinutes_L2_s]
  simp (disch := (first | assumption | with_reducible rfl | (simp only [LayC_sI, LayC_sJ, LayC_sA, LayC_sB, LayC_sIr, LayC_exc, LayM_sI, LayM_sJ, LayM_sA, LayM_sB, LayM_sIr, LayM_exc, LayK_sI, LayK_sJ, LayK_sA, LayK_sB, LayK_sIr, LayK_exc]; assumption) | omega | decide | (simp (disch := (first | decide | omega)) only [gI_sJ, gI_sB, gI_sP, gI_exc, gI_sIe, aI_sJ, aI_sB, aI_sP, aI_exc, aI_sAe, aJ_sI, aJ_sA, aJ_sP, aJ_sIr, aJ_exc, aJ_sBe, gJ_sI, gJ_sA, gJ_sP, gJ_sIr, gJ_exc, gP_sI, gP_sJ, gP_sA, gP_sB, gP_sIr, gP_exc, gI_sIn, gI_sIk, gI_sAn, gI_sIrn, aI_sIn, aI_sAn, aI_sIrn, aI_sAk, aJ_sJn, aJ_sBn, gJ_sJn, gJ_sBn, gJ_sJe, gS_sI, gS_sJ, gS_sP, gS_sA, gS_sB, gS_sIr, gS_exc, w32i, w64i]; first | done | assumption | omega))) only [↓b_xbs, ↓b_xthr, ↓b_xthl, ↓b_xctr, ↓b_xctl, ↓b_xz, ↓b_xzX, ↓b_xd, ↓if_pos, ↓if_neg, ↓cI1, ↓cW1, ↓cZ1, ↓cR1, ↓cI2, ↓cW2, ↓cJ2, ↓cV2, ↓cR2, ↓cA3, ↓cS3, ↓cL3, ↓cA4, ↓cS4, ↓cL4, ↓cA5, ↓cS5, ↓cL5, ↓cA6, ↓cS6, ↓cL6, ↓cA7, ↓cS7, ↓cL7, ↓cA8, ↓cS8, ↓cL8, ↓cI9, ↓cW9, ↓cR9, ↓cI10, ↓cW10, ↓cJ10, ↓cV10, ↓cR10, ↓cI11, ↓cW11, ↓cR11, ↓cA12, ↓cS12, ↓cL12, ↓cA13, ↓cS13, ↓cL13, ↓cA14, ↓cS14, ↓cL14, ↓cA15, ↓cS15, ↓cL15, ↓cA16, ↓cS16, ↓cL16, ↓cA17, ↓cS17, ↓cL17, ↓cA18, ↓cS18, ↓cL18, ↓cI19, ↓cW19, ↓cZ19, ↓cR19, ↓cA21, ↓cS21, ↓cL21, ↓cA22, ↓cS22, ↓cL22, ↓cA23, ↓cS23, ↓cL23, ↓cI24, ↓cW24, ↓cZ24, ↓cR24, ↓cI37, ↓cW37, ↓cR37, ↓cA38, ↓cS38, ↓cL38, ↓cA39, ↓cS39, ↓cL39, ↓cA40, ↓cS40, ↓cL40, ↓cA41, ↓cS41, ↓cL41, ↓cI42, ↓cW42, ↓cR42, ↓cA43, ↓cS43, ↓cL43, ↓cA44, ↓cS44, ↓cL44, ↓cA45, ↓cS45, ↓cL45, ↓cA46, ↓cS46, ↓cL46, ↓cA47, ↓cS47, ↓cL47, ↓cA48, ↓cS48, ↓cL48, ↓cA49, ↓cS49, ↓cL49, ↓cA50, ↓cS50, ↓cL50, ↓cI51, ↓cW51, ↓cZ51, ↓cR51, ↓cA52, ↓cS52, ↓cL52, ↓cA53, ↓cS53, ↓cL53, ↓cA54, ↓cS54, ↓cL54, ↓cA55, ↓cS55, ↓cL55, ↓cI103, ↓cW103, ↓cR103, ↓cA104, ↓cS104, ↓cL104, ↓cA105, ↓cS105, ↓cL105, ↓cA106, ↓cS106, ↓cL106, ↓cA107, ↓cS107, ↓cL107, ↓cA108, ↓cS108, ↓cL108, ↓cA109, ↓cS109, ↓cL109, ↓cA110, ↓cS110, ↓cL110, ↓cA111, ↓cS111, ↓cL111, ↓cA112, ↓cS112, ↓cL112, ↓cP1_0, ↓cP1_2, ↓cP1_3, ↓cP1_5, ↓cP2_0, ↓cP2_2, ↓cP2_3, ↓cP2_4, ↓cP2_8, ↓cP2_10, ↓cP9_0, ↓cP9_1, ↓cP9_2, ↓cP9_3, ↓cP9_4, ↓cP9_5, ↓cP10_0, ↓cP11_0, ↓cP11_1, ↓cP11_2, ↓cP11_3, ↓cP11_4, ↓cP11_5, ↓cP11_6, ↓cP19_0, ↓cP19_1, ↓cP19_2, ↓cP19_3, ↓cP19_6, ↓cP37_0, ↓cP37_1, ↓cP37_2, ↓cP37_3, ↓cP42_0, ↓cP42_1, ↓cP42_2, ↓cP42_3, ↓cP42_4, ↓cP42_5, ↓cP42_8, ↓cP42_9, ↓cP51_0, ↓cP51_1, ↓cP51_2, ↓cP51_3, ↓cP103_0, ↓cP103_1, ↓cP103_2, ↓cP103_3, ↓cP103_4, ↓cP103_5, ↓cP103_6, ↓cP103_7, ↓cP103_8, ↓cIj, ↓cWj, ↓cZj, ↓cPj, ↓cQj, ↓cRj, ↓cAj, ↓b_xb _ _ _ _ e, c1, c2, em, ↓b_xd, t1, t2, t3, t4, e1]
/-- four parts, laid -/
def P4 (h : HP) (p : Int → Int) : HP := sB (sB (sB (sB h 49 0 (p 0)) 49 (0 + 1) (p (0 + 1))) 49 (0 + 1 + 1) (p (0 + 1 + 1))) 49 (0 + 1 + 1 + 1) (p (0 + 1 + 1 + 1))
theorem P4.o (h : HP) (p : Int → Int) : Oj 49 h (P4 h p) := (((Oj.B 49 h _ _).tr (Oj.B 49 _ _ _)).tr (Oj.B 49 _ _ _)).tr (Oj.B 49 _ _ _)
theorem P4.a (h : HP) (p : Int → Int) (i : Int) (i0 : 0 ≤ i) (i1 : i < 4) : aJ (P4 h p) 49 i = p i := by
  unfold P4
  rw [aJ_sB _ _ _ _ _ (by decide) i0, aJ_sB _ _ _ _ _ (by decide) i0, aJ_sB _ _ _ _ _ (by decide) i0, aJ_sB _ _ _ _ _ (by decide) i0]
  by_cases c3 : i = 0 + 1 + 1 + 1
  · rw [if_pos c3, c3]
  · rw [if_neg c3]
    by_cases c2 : i = 0 + 1 + 1
    · rw [if_pos c2, c2]
    · rw [if_neg c2]
      by_cases c1 : i = 0 + 1
      · rw [if_pos c1, c1]
      · rw [if_neg c1, if_pos (by omega), show i = 0 by omega]
theorem E_pmC (hF : 6 ≤ F) (b : BkC W h) : X0_partByMinutes F 42 (some 11) h = some ((), P4 h (mn W)) := by
  have key : ∀ k, X0_partByMinutes_L2 F (k + 5) 42 (some 11) 0 h = some ((), P4 h (mn W)) := by
    intro k
    have b1 := b.oj (Oj.B 49 h 0 (mn W 0))
    have b2 := b1.oj (Oj.B 49 _ (0 + 1) (mn W (0 + 1)))
    have b3 := b2.oj (Oj.B 49 _ (0 + 1 + 1) (mn W (0 + 1 + 1)))
    rw [E_pm1 hF b (k + 4) 0 (by decide) (by decide), E_pm1 hF b1 (k + 3) (0 + 1) (by decide) (by decide), E_pm1 hF b2 (k + 2) (0 + 1 + 1) (by decide) (by decide), E_pm1 hF b3 (k + 1) (0 + 1 + 1 + 1) (by decide) (by decide), X0_partByMinutes_L2_s, if_pos (by decide)]
    rfl
  have := key (F - 5)
  rw [show F - 5 + 5 = F by omega] at this
  exact this
theorem E_pw1 (hF : 6 ≤ F) (b : BkC W h) (k : Nat) (g : Int) (g0 : 0 ≤ g) (g1 : g < 4) : X0_partByWeight_L2 F (k + 1) 42 (some 11) g h = X0_partByWeight_L2 F k 42 (some 11) (g + 1) (sB h 49 g (wg W g)) := by
  have bw := BkW.mk b.2.1 b.2.2
  have e := E_numC hF b g g0 g1
  obtain ⟨L, b2, b3⟩ := b
  obtain ⟨c1, c2, c3, c4, c5, c6, c7, c8, c9, c10, c11, c12⟩ := b3.1 g g0 g1
  rw [Nat.add_zero] at c3
  have e1 : w32 (g + 1) = g + 1 := w32i _ (by omega) (by omega)
  have m := wg_b bw g g0 g1
  have t4 : w64 (nu W g * W (11254 + 4 * g + 2)) = wg W g := w64i _ (show _ ≤ wg W g by omega) (show wg W g < _ by omega)
  rw [X0_partByWeight_L2_s]
  simp (disch := (first | assumption | with_reducible rfl | (simp only [LayC_sI, LayC_sJ, LayC_sA, LayC_sB, LayC_sIr, LayC_exc, LayM_sI, LayM_sJ, LayM_sA, LayM_sB, LayM_sIr, LayM_exc, LayK_sI, LayK_sJ, LayK_sA, LayK_sB, LayK_sIr, LayK_exc]; assumption) | omega | decide | (simp (disch := (first | decide | omega)) only [gI_sJ, gI_sB, gI_sP, gI_exc, gI_sIe, aI_sJ, aI_sB, aI_sP, aI_exc, aI_sAe, aJ_sI, aJ_sA, aJ_sP, aJ_sIr, aJ_exc, aJ_sBe, gJ_sI, gJ_sA, gJ_sP, gJ_sIr, gJ_exc, gP_sI, gP_sJ, gP_sA, gP_sB, gP_sIr, gP_exc, gI_sIn, gI_sIk, gI_sAn, gI_sIrn, aI_sIn, aI_sAn, aI_sIrn, aI_sAk, aJ_sJn, aJ_sBn, gJ_sJn, gJ_sBn, gJ_sJe, gS_sI, gS_sJ, gS_sP, gS_sA, gS_sB, gS_sIr, gS_exc, w32i, w64i]; first | done | assumption | omega))) only [↓b_xbs, ↓b_xthr, ↓b_xthl, ↓b_xctr, ↓b_xctl, ↓b_xz, ↓b_xzX, ↓b_xd, ↓if_pos, ↓if_neg, ↓cI1, ↓cW1, ↓cZ1, ↓cR1, ↓cI2, ↓cW2, ↓cJ2, ↓cV2, ↓cR2, ↓cA3, ↓cS3, ↓cL3, ↓cA4, ↓cS4, ↓cL4, ↓cA5, ↓cS5, ↓cL5, ↓cA6, ↓cS6, ↓cL6, ↓cA7, ↓cS7, ↓cL7, ↓cA8, ↓cS8, ↓cL8, ↓cI9, ↓cW9, ↓cR9, ↓cI10, ↓cW10, ↓cJ10, ↓cV10, ↓cR10, ↓cI11, ↓cW11, ↓cR11, ↓cA12, ↓cS12, ↓cL12, ↓cA13, ↓cS13, ↓cL13, ↓cA14, ↓cS14, ↓cL14, ↓cA15, ↓cS15, ↓cL15, ↓cA16, ↓cS16, ↓cL16, ↓cA17, ↓cS17, ↓cL17, ↓cA18, ↓cS18, ↓cL18, ↓cI19, ↓cW19, ↓cZ19, ↓cR19, ↓cA21, ↓cS21, ↓cL21, ↓cA22, ↓cS22, ↓cL22, ↓cA23, ↓cS23, ↓cL23, ↓cI24, ↓cW24, ↓cZ24, ↓cR24, ↓cI37, ↓cW37, ↓cR37, ↓cA38, ↓cS38, ↓cL38, ↓cA39, ↓cS39, ↓cL39, ↓cA40, ↓cS40, ↓cL40, ↓cA41, ↓cS41, ↓cL41, ↓cI42, ↓cW42, ↓cR42, ↓cA43, ↓cS43, ↓cL43, ↓cA44, ↓cS44, ↓cL44, ↓cA45, ↓cS45, ↓cL45, ↓cA46, ↓cS46, ↓cL46, ↓cA47, ↓cS47, ↓cL47, ↓cA48, ↓cS48, ↓cL48, ↓cA49, ↓cS49, ↓cL49, ↓cA50, ↓cS50, ↓cL50, ↓cI51, ↓cW51, ↓cZ51, ↓cR51, ↓cA52, ↓cS52, ↓cL52, ↓cA53, ↓cS53, ↓cL53, ↓cA54, ↓cS54, ↓cL54, ↓cA55, ↓cS55, ↓cL55, ↓cI103, ↓cW103, ↓cR103, ↓cA104, ↓cS104, ↓cL104, ↓cA105, ↓cS105, ↓cL105, ↓cA106, ↓cS106, ↓cL106, ↓cA107, ↓cS107, ↓cL107, ↓cA108, ↓cS108, ↓cL108, ↓cA109, ↓cS109, ↓cL109, ↓cA110, ↓cS110, ↓cL110, ↓cA111, ↓cS111, ↓cL111, ↓cA112, ↓cS112, ↓cL112, ↓cP1_0, ↓cP1_2, ↓cP1_3, ↓cP1_5, ↓cP2_0, ↓cP2_2, ↓cP2_3, ↓cP2_4, ↓cP2_8, ↓cP2_10, ↓cP9_0, ↓cP9_1, ↓cP9_2, ↓cP9_3, ↓cP9_4, ↓cP9_5, ↓cP10_0, ↓cP11_0, ↓cP11_1, ↓cP11_2, ↓cP11_3, ↓cP11_4, ↓cP11_5, ↓cP11_6, ↓cP19_0, ↓cP19_1, ↓cP19_2, ↓cP19_3, ↓cP19_6, ↓cP37_0, ↓cP37_1, ↓cP37_2, ↓cP37_3, ↓cP42_0, ↓cP42_1, ↓cP42_2, ↓cP42_3, ↓cP42_4, ↓cP42_5, ↓cP42_8, ↓cP42_9, ↓cP51_0, ↓cP51_1, ↓cP51_2, ↓cP51_3, ↓cP103_0, ↓cP103_1, ↓cP103_2, ↓cP103_3, ↓cP103_4, ↓cP103_5, ↓cP103_6, ↓cP103_7, ↓cP103_8, ↓cIj, ↓cWj, ↓cZj, ↓cPj, ↓cQj, ↓cRj, ↓cAj, ↓b_xb _ _ _ _ e, c3, t4, e1]
theorem E_pwC (hF : 6 ≤ F) (b : BkC W h) : X0_partByWeight F 42 (some 11) h = some ((), P4 h (wg W)) := by
  have key : ∀ k, X0_partByWeight_L2 F (k + 5) 42 (some 11) 0 h = some ((), P4 h (wg W)) := by
    intro k
    have b1 := b.oj (Oj.B 49 h 0 (wg W 0))
    have b2 := b1.oj (Oj.B 49 _ (0 + 1) (wg W (0 + 1)))
    have b3 := b2.oj (Oj.B 49 _ (0 + 1 + 1) (wg W (0 + 1 + 1)))
    rw [E_pw1 hF b (k + 4) 0 (by decide) (by decide), E_pw1 hF b1 (k + 3) (0 + 1) (by decide) (by decide), E_pw1 hF b2 (k + 2) (0 + 1 + 1) (by decide) (by decide), E_pw1 hF b3 (k + 1) (0 + 1 + 1 + 1) (by decide) (by decide), X0_partByWeight_L2_s, if_pos (by decide)]
    rfl
  have := key (F - 5)
  rw [show F - 5 + 5 = F by omega] at this
  exact this
theorem E_ps1 (b : BkC W h) (rc : Nat → Option Nat → Int → HP → Option (Unit × HP)) (k : Nat) (s g : Int) (s0 : 0 ≤ s) (s1 : s < 4) (g0 : 0 ≤ g) (g1 : g < 4) (t : Int) (ht : aJ h 49 s = t) (t0 : 0 ≤ t) (t1 : t ≤ 859000000000) : X0_partByShops_L16 F rc (k + 1) 42 (some 11) s g h = X0_partByShops_L16 F rc k 42 (some 11) s (g + 1) (sB h 49 s (t + ld1 W s g)) := by
  have bw := BkW.mk b.2.1 b.2.2
  have e := E_want (F := F) b s g s0 s1 g0 g1
  obtain ⟨L, b2, b3⟩ := b
  obtain ⟨c1, c2, c3, c4, c5, c6, c7, c8, c9, c10, c11, c12⟩ := b3.1 g g0 g1
  rw [Nat.add_zero] at c3
  have e1 : w32 (g + 1) = g + 1 := w32i _ (by omega) (by omega)
  have m := ld1_b bw s g s0 s1 g0 g1
  have t4 : w64 (mz W s g * W (11254 + 4 * g + 2)) = ld1 W s g := w64i _ (show _ ≤ ld1 W s g by omega) (show ld1 W s g < _ by omega)
  have t5 : w64 (t + ld1 W s g) = t + ld1 W s g := w64i _ (by omega) (by omega)
  rw [X0_partByShops_L16_s]
  simp (disch := (first | assumption | with_reducible rfl | (simp only [LayC_sI, LayC_sJ, LayC_sA, LayC_sB, LayC_sIr, LayC_exc, LayM_sI, LayM_sJ, LayM_sA, LayM_sB, LayM_sIr, LayM_exc, LayK_sI, LayK_sJ, LayK_sA, LayK_sB, LayK_sIr, LayK_exc]; assumption) | omega | decide | (simp (disch := (first | decide | omega)) only [gI_sJ, gI_sB, gI_sP, gI_exc, gI_sIe, aI_sJ, aI_sB, aI_sP, aI_exc, aI_sAe, aJ_sI, aJ_sA, aJ_sP, aJ_sIr, aJ_exc, aJ_sBe, gJ_sI, gJ_sA, gJ_sP, gJ_sIr, gJ_exc, gP_sI, gP_sJ, gP_sA, gP_sB, gP_sIr, gP_exc, gI_sIn, gI_sIk, gI_sAn, gI_sIrn, aI_sIn, aI_sAn, aI_sIrn, aI_sAk, aJ_sJn, aJ_sBn, gJ_sJn, gJ_sBn, gJ_sJe, gS_sI, gS_sJ, gS_sP, gS_sA, gS_sB, gS_sIr, gS_exc, w32i, w64i]; first | done | assumption | omega))) only [↓b_xbs, ↓b_xthr, ↓b_xthl, ↓b_xctr, ↓b_xctl, ↓b_xz, ↓b_xzX, ↓b_xd, ↓if_pos, ↓if_neg, ↓cI1, ↓cW1, ↓cZ1, ↓cR1, ↓cI2, ↓cW2, ↓cJ2, ↓cV2, ↓cR2, ↓cA3, ↓cS3, ↓cL3, ↓cA4, ↓cS4, ↓cL4, ↓cA5, ↓cS5, ↓cL5, ↓cA6, ↓cS6, ↓cL6, ↓cA7, ↓cS7, ↓cL7, ↓cA8, ↓cS8, ↓cL8, ↓cI9, ↓cW9, ↓cR9, ↓cI10, ↓cW10, ↓cJ10, ↓cV10, ↓cR10, ↓cI11, ↓cW11, ↓cR11, ↓cA12, ↓cS12, ↓cL12, ↓cA13, ↓cS13, ↓cL13, ↓cA14, ↓cS14, ↓cL14, ↓cA15, ↓cS15, ↓cL15, ↓cA16, ↓cS16, ↓cL16, ↓cA17, ↓cS17, ↓cL17, ↓cA18, ↓cS18, ↓cL18, ↓cI19, ↓cW19, ↓cZ19, ↓cR19, ↓cA21, ↓cS21, ↓cL21, ↓cA22, ↓cS22, ↓cL22, ↓cA23, ↓cS23, ↓cL23, ↓cI24, ↓cW24, ↓cZ24, ↓cR24, ↓cI37, ↓cW37, ↓cR37, ↓cA38, ↓cS38, ↓cL38, ↓cA39, ↓cS39, ↓cL39, ↓cA40, ↓cS40, ↓cL40, ↓cA41, ↓cS41, ↓cL41, ↓cI42, ↓cW42, ↓cR42, ↓cA43, ↓cS43, ↓cL43, ↓cA44, ↓cS44, ↓cL44, ↓cA45, ↓cS45, ↓cL45, ↓cA46, ↓cS46, ↓cL46, ↓cA47, ↓cS47, ↓cL47, ↓cA48, ↓cS48, ↓cL48, ↓cA49, ↓cS49, ↓cL49, ↓cA50, ↓cS50, ↓cL50, ↓cI51, ↓cW51, ↓cZ51, ↓cR51, ↓cA52, ↓cS52, ↓cL52, ↓cA53, ↓cS53, ↓cL53, ↓cA54, ↓cS54, ↓cL54, ↓cA55, ↓cS55, ↓cL55, ↓cI103, ↓cW103, ↓cR103, ↓cA104, ↓cS104, ↓cL104, ↓cA105, ↓cS105, ↓cL105, ↓cA106, ↓cS106, ↓cL106, ↓cA107, ↓cS107, ↓cL107, ↓cA108, ↓cS108, ↓cL108, ↓cA109, ↓cS109, ↓cL109, ↓cA110, ↓cS110, ↓cL110, ↓cA111, ↓cS111, ↓cL111, ↓cA112, ↓cS112, ↓cL112, ↓cP1_0, ↓cP1_2, ↓cP1_3, ↓cP1_5, ↓cP2_0, ↓cP2_2, ↓cP2_3, ↓cP2_4, ↓cP2_8, ↓cP2_10, ↓cP9_0, ↓cP9_1, ↓cP9_2, ↓cP9_3, ↓cP9_4, ↓cP9_5, ↓cP10_0, ↓cP11_0, ↓cP11_1, ↓cP11_2, ↓cP11_3, ↓cP11_4, ↓cP11_5, ↓cP11_6, ↓cP19_0, ↓cP19_1, ↓cP19_2, ↓cP19_3, ↓cP19_6, ↓cP37_0, ↓cP37_1, ↓cP37_2, ↓cP37_3, ↓cP42_0, ↓cP42_1, ↓cP42_2, ↓cP42_3, ↓cP42_4, ↓cP42_5, ↓cP42_8, ↓cP42_9, ↓cP51_0, ↓cP51_1, ↓cP51_2, ↓cP51_3, ↓cP103_0, ↓cP103_1, ↓cP103_2, ↓cP103_3, ↓cP103_4, ↓cP103_5, ↓cP103_6, ↓cP103_7, ↓cP103_8, ↓cIj, ↓cWj, ↓cZj, ↓cPj, ↓cQj, ↓cRj, ↓cAj, ht, ↓b_xb _ _ _ _ e, c3, t4, t5, e1]
theorem sB_sB (h : HP) (a : Nat) (i v w : Int) : sB (sB h a i v) a i w = sB h a i w := by
  show (h.1, upd2 (upd2 h.2.1 a i.toNat v) a i.toNat w, h.2.2) = (h.1, upd2 h.2.1 a i.toNat w, h.2.2)
  congr 2
  funext x y
  unfold upd2
  split <;> rfl
theorem E_ps4 (b : BkC W h) (rc : Nat → Option Nat → Int → HP → Option (Unit × HP)) (k : Nat) (s : Int) (s0 : 0 ≤ s) (s1 : s < 4) : X0_partByShops_L16 F rc (k + 5) 42 (some 11) s 0 (sB h 49 s 0) = rc 42 (some 11) (s + 1) (sB h 49 s (ld W s)) := by
  have bw := BkW.mk b.2.1 b.2.2
  have m0 := ld1_b bw s 0 s0 s1 (by decide) (by decide)
  have m1 := ld1_b bw s 1 s0 s1 (by decide) (by decide)
  have m2 := ld1_b bw s 2 s0 s1 (by decide) (by decide)
  have m3 := ld1_b bw s 3 s0 s1 (by decide) (by decide)
  have e1 : w32 (s + 1) = s + 1 := w32i _ (by omega) (by omega)
  rw [E_ps1 (b.oj (Oj.B 49 h s 0)) rc (k + 4) s 0 s0 s1 (by decide) (by decide) 0 (aJ_sBe _ _ _ _) (by decide) (by decide), sB_sB,
    E_ps1 (b.oj (Oj.B 49 h s _)) rc (k + 3) s (0 + 1) s0 s1 (by decide) (by decide) _ (aJ_sBe _ _ _ _) (by omega) (by omega), sB_sB,
    E_ps1 (b.oj (Oj.B 49 h s _)) rc (k + 2) s (0 + 1 + 1) s0 s1 (by decide) (by decide) _ (aJ_sBe _ _ _ _) (by show 0 ≤ 0 + ld1 W s 0 + ld1 W s 1; omega) (by show 0 + ld1 W s 0 + ld1 W s 1 ≤ _; omega), sB_sB,
    E_ps1 (b.oj (Oj.B 49 h s _)) rc (k + 1) s (0 + 1 + 1 + 1) s0 s1 (by decide) (by decide) _ (aJ_sBe _ _ _ _) (by show 0 ≤ 0 + ld1 W s 0 + ld1 W s 1 + ld1 W s 2; omega) (by show 0 + ld1 W s 0 + ld1 W s 1 + ld1 W s 2 ≤ _; omega), sB_sB, X0_partByShops_L16_s, if_pos (by decide), e1]
  show rc 42 (some 11) (s + 1) (sB h 49 s (0 + ld1 W s 0 + ld1 W s 1 + ld1 W s 2 + ld1 W s 3)) = _
  rw [Int.zero_add]; rfl
theorem E_ps5 (hF : 6 ≤ F) (b : BkC W h) (k : Nat) (s : Int) (s0 : 0 ≤ s) (s1 : s < 4) : X0_partByShops_L2 F (k + 1) 42 (some 11) s h = X0_partByShops_L2 F k 42 (some 11) (s + 1) (sB h 49 s (ld W s)) := by
  have x := E_ps4 (F := F) b (X0_partByShops_L2 F k) (F - 5) s s0 s1
  rw [show F - 5 + 5 = F by omega] at x
  have L := b.1
  rw [X0_partByShops_L2_s]
  simp (disch := (first | assumption | with_reducible rfl | (simp only [LayC_sI, LayC_sJ, LayC_sA, LayC_sB, LayC_sIr, LayC_exc, LayM_sI, LayM_sJ, LayM_sA, LayM_sB, LayM_sIr, LayM_exc, LayK_sI, LayK_sJ, LayK_sA, LayK_sB, LayK_sIr, LayK_exc]; assumption) | omega | decide | (simp (disch := (first | decide | omega)) only [gI_sJ, gI_sB, gI_sP, gI_exc, gI_sIe, aI_sJ, aI_sB, aI_sP, aI_exc, aI_sAe, aJ_sI, aJ_sA, aJ_sP, aJ_sIr, aJ_exc, aJ_sBe, gJ_sI, gJ_sA, gJ_sP, gJ_sIr, gJ_exc, gP_sI, gP_sJ, gP_sA, gP_sB, gP_sIr, gP_exc, gI_sIn, gI_sIk, gI_sAn, gI_sIrn, aI_sIn, aI_sAn, aI_sIrn, aI_sAk, aJ_sJn, aJ_sBn, gJ_sJn, gJ_sBn, gJ_sJe, gS_sI, gS_sJ, gS_sP, gS_sA, gS_sB, gS_sIr, gS_exc, w32i, w64i]; first | done | assumption | omega))) only [↓b_xbs, ↓b_xthr, ↓b_xthl, ↓b_xctr, ↓b_xctl, ↓b_xz, ↓b_xzX, ↓b_xd, ↓if_pos, ↓if_neg, ↓cI1, ↓cW1, ↓cZ1, ↓cR1, ↓cI2, ↓cW2, ↓cJ2, ↓cV2, ↓cR2, ↓cA3, ↓cS3, ↓cL3, ↓cA4, ↓cS4, ↓cL4, ↓cA5, ↓cS5, ↓cL5, ↓cA6, ↓cS6, ↓cL6, ↓cA7, ↓cS7, ↓cL7, ↓cA8, ↓cS8, ↓cL8, ↓cI9, ↓cW9, ↓cR9, ↓cI10, ↓cW10, ↓cJ10, ↓cV10, ↓cR10, ↓cI11, ↓cW11, ↓cR11, ↓cA12, ↓cS12, ↓cL12, ↓cA13, ↓cS13, ↓cL13, ↓cA14, ↓cS14, ↓cL14, ↓cA15, ↓cS15, ↓cL15, ↓cA16, ↓cS16, ↓cL16, ↓cA17, ↓cS17, ↓cL17, ↓cA18, ↓cS18, ↓cL18, ↓cI19, ↓cW19, ↓cZ19, ↓cR19, ↓cA21, ↓cS21, ↓cL21, ↓cA22, ↓cS22, ↓cL22, ↓cA23, ↓cS23, ↓cL23, ↓cI24, ↓cW24, ↓cZ24, ↓cR24, ↓cI37, ↓cW37, ↓cR37, ↓cA38, ↓cS38, ↓cL38, ↓cA39, ↓cS39, ↓cL39, ↓cA40, ↓cS40, ↓cL40, ↓cA41, ↓cS41, ↓cL41, ↓cI42, ↓cW42, ↓cR42, ↓cA43, ↓cS43, ↓cL43, ↓cA44, ↓cS44, ↓cL44, ↓cA45, ↓cS45, ↓cL45, ↓cA46, ↓cS46, ↓cL46, ↓cA47, ↓cS47, ↓cL47, ↓cA48, ↓cS48, ↓cL48, ↓cA49, ↓cS49, ↓cL49, ↓cA50, ↓cS50, ↓cL50, ↓cI51, ↓cW51, ↓cZ51, ↓cR51, ↓cA52, ↓cS52, ↓cL52, ↓cA53, ↓cS53, ↓cL53, ↓cA54, ↓cS54, ↓cL54, ↓cA55, ↓cS55, ↓cL55, ↓cI103, ↓cW103, ↓cR103, ↓cA104, ↓cS104, ↓cL104, ↓cA105, ↓cS105, ↓cL105, ↓cA106, ↓cS106, ↓cL106, ↓cA107, ↓cS107, ↓cL107, ↓cA108, ↓cS108, ↓cL108, ↓cA109, ↓cS109, ↓cL109, ↓cA110, ↓cS110, ↓cL110, ↓cA111, ↓cS111, ↓cL111, ↓cA112, ↓cS112, ↓cL112, ↓cP1_0, ↓cP1_2, ↓cP1_3, ↓cP1_5, ↓cP2_0, ↓cP2_2, ↓cP2_3, ↓cP2_4, ↓cP2_8, ↓cP2_10, ↓cP9_0, ↓cP9_1, ↓cP9_2, ↓cP9_3, ↓cP9_4, ↓cP9_5, ↓cP10_0, ↓cP11_0, ↓cP11_1, ↓cP11_2, ↓cP11_3, ↓cP11_4, ↓cP11_5, ↓cP11_6, ↓cP19_0, ↓cP19_1, ↓cP19_2, ↓cP19_3, ↓cP19_6, ↓cP37_0, ↓cP37_1, ↓cP37_2, ↓cP37_3, ↓cP42_0, ↓cP42_1, ↓cP42_2, ↓cP42_3, ↓cP42_4, ↓cP42_5, ↓cP42_8, ↓cP42_9, ↓cP51_0, ↓cP51_1, ↓cP51_2, ↓cP51_3, ↓cP103_0, ↓cP103_1, ↓cP103_2, ↓cP103_3, ↓cP103_4, ↓cP103_5, ↓cP103_6, ↓cP103_7, ↓cP103_8, ↓cIj, ↓cWj, ↓cZj, ↓cPj, ↓cQj, ↓cRj, ↓cAj]
  exact x
theorem E_psC (hF : 6 ≤ F) (b : BkC W h) : X0_partByShops F 42 (some 11) h = some ((), P4 h (ld W)) := by
  have key : ∀ k, X0_partByShops_L2 F (k + 5) 42 (some 11) 0 h = some ((), P4 h (ld W)) := by
    intro k
    have b1 := b.oj (Oj.B 49 h 0 (ld W 0))
    have b2 := b1.oj (Oj.B 49 _ (0 + 1) (ld W (0 + 1)))
    have b3 := b2.oj (Oj.B 49 _ (0 + 1 + 1) (ld W (0 + 1 + 1)))
    rw [E_ps5 hF b (k + 4) 0 (by decide) (by decide), E_ps5 hF b1 (k + 3) (0 + 1) (by decide) (by decide), E_ps5 hF b2 (k + 2) (0 + 1 + 1) (by decide) (by decide), E_ps5 hF b3 (k + 1) (0 + 1 + 1 + 1) (by decide) (by decide), X0_partByShops_L2_s, if_pos (by decide)]
    rfl
  have := key (F - 5)
  rw [show F - 5 + 5 = F by omega] at this
  exact this
end FL
