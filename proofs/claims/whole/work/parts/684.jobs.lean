/-! jobs: what they read and write, on which they lean, their order -/
theorem xcmp_0 (a b : Int) : xcmp a b = 0 ↔ a = b := by
  unfold xcmp
  by_cases c1 : b < a
  · rw [if_pos c1]; constructor
    · intro q; cases q
    · intro q; omega
  · rw [if_neg c1]
    by_cases c2 : a = b
    · rw [if_pos c2]; exact ⟨fun _ => c2, fun _ => rfl⟩
    · rw [if_neg c2]; constructor
      · intro q; cases q
      · intro q; exact absurd q c2
theorem lnN_b (W : Int → Int) (j : Int) : ∀ n : Nat, n ≤ 12 → 0 ≤ lnN W j n ∧ lnN W j n < ((2 ^ n : Nat) : Int) := by
  intro n
  induction n with
  | zero => intro _; exact ⟨Int.le_refl _, by show (0 : Int) < 1; decide⟩
  | succ n ih =>
    intro hn
    obtain ⟨i0, i1⟩ := ih (by omega)
    have h0 : 0 < 2 ^ n := Nat.two_pow_pos n
    have h1 : 2 ^ n ≤ 2 ^ 11 := Nat.pow_le_pow_right (by decide) (by omega)
    have h2 : 2 ^ (n + 1) = 2 ^ n + 2 ^ n := by rw [Nat.pow_succ]; omega
    unfold lnN
    split
    · have e := xor_low ((2 ^ n : Nat) : Int) (lnN W j n) n (by omega) (by omega) (by omega) (Int.emod_self) i0 i1
      have e2 : xor_ (lnN W j n) (xshl 1 n) = xor_ ((2 ^ n : Nat) : Int) (lnN W j n) := by
        rw [xshl_1 n (by omega), xor_nn _ _ i0 (by omega) (by omega) (by omega), xor_nn _ _ (by omega) (by omega) i0 (by omega), Nat.or_comm]
      rw [e2, e, h2]; omega
    · rw [h2]; omega
theorem lns_b (W : Int → Int) (j : Int) (g : 0 ≤ W 8 ∧ W 8 ≤ 12) : 0 ≤ lns W j ∧ lns W j < 4096 := by
  have h := lnN_b W j (W 8).toNat (by omega)
  have h2 : 2 ^ (W 8).toNat ≤ 2 ^ 12 := Nat.pow_le_pow_right (by decide) (by omega)
  unfold lns; omega
theorem xor_0 (a : Int) (h0 : 0 ≤ a) (h1 : a < 2147483648) : xor_ a 0 = a := by
  have q := xor_low a 0 0 h0 h1 (by decide) (by omega) (by omega) (by omega)
  omega
/-- only the place a0 is other, and of it the ints alone -/
def Oi (a0 : Nat) (h h' : HP) : Prop := (∀ a, a ≠ a0 → gI h' a = gI h a) ∧ gJ h' = gJ h ∧ gP h' = gP h ∧ gS h' = gS h ∧ gn h' = gn h ∧ gc h' = gc h ∧ gs h' = gs h
theorem Oi.rf (a0 : Nat) (h : HP) : Oi a0 h h := ⟨fun _ _ => rfl, rfl, rfl, rfl, rfl, rfl, rfl⟩
theorem Oi.tr {a0 : Nat} {a b c : HP} (x : Oi a0 a b) (y : Oi a0 b c) : Oi a0 a c := by
  obtain ⟨x1, x2, x3, x4, x5, x6, x7⟩ := x
  obtain ⟨y1, y2, y3, y4, y5, y6, y7⟩ := y
  exact ⟨fun a q => (y1 a q).trans (x1 a q), y2.trans x2, y3.trans x3, y4.trans x4, y5.trans x5, y6.trans x6, y7.trans x7⟩
theorem Oi.A (a0 : Nat) (h : HP) (i v : Int) : Oi a0 h (sA h a0 i v) := ⟨fun a q => gI_sAn h a0 i v a q, rfl, rfl, rfl, rfl, rfl, rfl⟩
theorem Oi.I (a0 : Nat) (h : HP) (k : Nat) (v : Int) : Oi a0 h (sI h a0 k v) := ⟨fun a q => gI_sIn h a0 k v a q, rfl, rfl, rfl, rfl, rfl, rfl⟩
theorem Oi.M {a0 : Nat} {h h' : HP} (o : Oi a0 h h') (L : LayM h) : LayM h' := L.of o.2.2.2.1 o.2.2.1
theorem Oi.C {a0 : Nat} {h h' : HP} (o : Oi a0 h h') (L : LayC h) : LayC h' := L.of o.2.2.2.1 o.2.2.1
theorem Oi.a {a0 : Nat} {h h' : HP} (o : Oi a0 h h') (a : Nat) (q : a ≠ a0) : aI h' a = aI h a := by
  funext i; show gI h' a _ = gI h a _; rw [o.1 a q]
theorem Oi.Q {a0 : Nat} {h h' : HP} (o : Oi a0 h h') (p : ∀ k, PC a0 k = false) : Qs h h' := by
  obtain ⟨x1, x2, x3, x4, x5, x6, x7⟩ := o
  refine ⟨fun a k c => ?_, fun a k _ => by rw [x2], fun a k _ => by rw [x3], x4, x5, x6, x7⟩
  rw [x1 a (fun e => by rw [e, p] at c; cases c)]
section JJ
variable {F : Nat} {h : HP}
theorem b_gJt {β : Type} (h : HP) (r : Option Nat) (t k : Nat) (f : Int → Option β) (hr : r = some t) (hs : gS h t = (9, 4)) : (xgJ h r 9 4 k).bind f = f (gJ h t k) := by rw [hr]; exact b_gJ h t 9 4 k f hs
theorem E_reads {W : Int → Int} (j : Nat) (L : LayC h) (g : W 8 ≤ 12) (r : RJb h 0 W) (hj : (j : Int) < W 8) : X2_reads F (25 + j) h = some (rdM W j, h) := by
  obtain ⟨f1, f2, t, f3, A, q, n, f4, f5, f6, f7, f8, f9, f10, f11, f12, f13, f14, f15, f16, f17, f18⟩ := r j hj
  rw [Nat.add_zero] at f3
  unfold X2_reads
  rw [cPj h j 5 _ L (by omega), f3, if_neg (by intro e; cases e), cPj h j 5 _ L (by omega), f3, b_gJ h t 9 4 2 _ f6, f17]; rfl
theorem E_writesC {W : Int → Int} (j : Nat) (L : LayC h) (g : W 8 ≤ 12) (r : RJb h 0 W) (hj : (j : Int) < W 8) : X2_writes F (25 + j) h = some (wrM W j, h) := by
  obtain ⟨f1, f2, t, f3, A, q, n, f4, f5, f6, f7, f8, f9, f10, f11, f12, f13, f14, f15, f16, f17, f18, f19⟩ := r j hj
  rw [Nat.add_zero] at f3
  unfold X2_writes
  rw [cPj h j 5 _ L (by omega), f3, if_neg (by intro e; cases e), cPj h j 5 _ L (by omega), f3, b_gJ h t 9 4 3 _ f6, f18]; rfl
theorem E_bitsR (j : Int) (L : LayM h) (c : 0 ≤ j ∧ j < 12)  : X12_bitsOf F 113 j 17 h = some (rdM (aI h 114) j, h) := by
  rw [E_bitsOf j 17 L (by omega)]; rfl
theorem bE_bitsR {γ : Type} (j : Int) (L : LayM h) (c : 0 ≤ j ∧ j < 12)  (f : _ → HP → Option γ) : xb (X12_bitsOf F 113 j 17 h) f = f (rdM (aI h 114) j) (h) := b_xb _ f _ _ (by apply E_bitsR <;> assumption)

theorem E_bitsW (j : Int) (L : LayM h) (c : 0 ≤ j ∧ j < 12)  : X12_bitsOf F 113 j 19 h = some (wrM (aI h 114) j, h) := by
  rw [E_bitsOf j 19 L (by omega)]; rfl
theorem bE_bitsW {γ : Type} (j : Int) (L : LayM h) (c : 0 ≤ j ∧ j < 12)  (f : _ → HP → Option γ) : xb (X12_bitsOf F 113 j 19 h) f = f (wrM (aI h 114) j) (h) := b_xb _ f _ _ (by apply E_bitsW <;> assumption)

theorem E_lnM (L : LayM h) (g : 0 ≤ aI h 114 8 ∧ aI h 114 8 ≤ 12) (j : Int) (hj : 0 ≤ j ∧ j < 12) : ∀ (m i k : Nat), m < k → ((i + m : Nat) : Int) = aI h 114 8 → X12_leansOf_L4 F k 113 j (lnN (aI h 114) j i) i h = some (lns (aI h 114) j, h) := by
  intro m
  induction m with
  | zero =>
    intro i k hk hi
    obtain ⟨k, rfl⟩ : ∃ k', k = k' + 1 := ⟨k - 1, by omega⟩
    rw [X12_leansOf_L4_s]
    simp (disch := (first | assumption | with_reducible rfl | (simp only [LayC_sI, LayC_sJ, LayC_sA, LayC_sB, LayC_sIr, LayC_exc, LayM_sI, LayM_sJ, LayM_sA, LayM_sB, LayM_sIr, LayM_exc, LayK_sI, LayK_sJ, LayK_sA, LayK_sB, LayK_sIr, LayK_exc]; assumption) | omega | decide | (simp (disch := (first | decide | omega)) only [gI_sJ, gI_sB, gI_sP, gI_exc, gI_sIe, aI_sJ, aI_sB, aI_sP, aI_exc, aI_sAe, aJ_sI, aJ_sA, aJ_sP, aJ_sIr, aJ_exc, aJ_sBe, gJ_sI, gJ_sA, gJ_sP, gJ_sIr, gJ_exc, gP_sI, gP_sJ, gP_sA, gP_sB, gP_sIr, gP_exc, gI_sIn, gI_sIk, gI_sAn, gI_sIrn, aI_sIn, aI_sAn, aI_sIrn, aI_sAk, aJ_sJn, aJ_sBn, gJ_sJn, gJ_sBn, gJ_sJe, gS_sI, gS_sJ, gS_sP, gS_sA, gS_sB, gS_sIr, gS_exc, w32i, w64i]; first | done | assumption | omega))) only [↓b_xbs, ↓b_xthr, ↓b_xthl, ↓b_xctr, ↓b_xctl, ↓b_xz, ↓b_xzX, ↓b_xd, ↓if_pos, ↓if_neg, ↓mI113, ↓mW113, ↓mZ113, ↓mJ113, ↓mV113, ↓mR113, ↓mA114, ↓mS114, ↓mL114, ↓mA115, ↓mS115, ↓mL115, ↓mA116, ↓mS116, ↓mL116, ↓mA117, ↓mS117, ↓mL117, ↓mA118, ↓mS118, ↓mL118, ↓mA119, ↓mS119, ↓mL119, ↓mA120, ↓mS120, ↓mL120, ↓mA121, ↓mS121, ↓mL121, ↓mA122, ↓mS122, ↓mL122, ↓mA123, ↓mS123, ↓mL123, ↓mA124, ↓mS124, ↓mL124, ↓mA125, ↓mS125, ↓mL125, ↓mA126, ↓mS126, ↓mL126, ↓mP113_1, ↓mP113_2, ↓mP113_4, ↓mP113_11, ↓mP113_12, ↓mP113_16, ↓mP113_17, ↓mP113_18, ↓mP113_24, ↓mP113_25, ↓mP113_29, ↓mP113_30]
    unfold lns
    rw [← hi]; rfl
  | succ m ih =>
    intro i k hk hi
    obtain ⟨k, rfl⟩ : ∃ k', k = k' + 1 := ⟨k - 1, by omega⟩
    have hb := lnN_b (aI h 114) j i (by omega)
    have hp : 2 ^ i ≤ 2 ^ 12 := Nat.pow_le_pow_right (by decide) (by omega)
    have hr := ih (i + 1) k (by omega) (by omega)
    have e1 : w32 ((i : Int) + 1) = ((i + 1 : Nat) : Int) := by rw [w32i _ (by omega) (by omega)]; omega
    rw [X12_leansOf_L4_s]
    unfold X12_leansOf_L47 X12_leansOf_L48
    have e2 : lnN (aI h 114) j (i + 1) = if (i : Int) ≠ j ∧ yand (rdM (aI h 114) j) (wrM (aI h 114) i) ≠ 0 then xor_ (lnN (aI h 114) j i) (xshl 1 i) else lnN (aI h 114) j i := rfl
    by_cases c1 : (i : Int) = j
    · have e3 : lnN (aI h 114) j (i + 1) = lnN (aI h 114) j i := by rw [e2, if_neg (fun q => q.1 c1)]
      rw [e3] at hr
      have e4 := xor_0 (lnN (aI h 114) j i) hb.1 (by omega)
      simp (disch := (first | assumption | with_reducible rfl | (simp only [LayC_sI, LayC_sJ, LayC_sA, LayC_sB, LayC_sIr, LayC_exc, LayM_sI, LayM_sJ, LayM_sA, LayM_sB, LayM_sIr, LayM_exc, LayK_sI, LayK_sJ, LayK_sA, LayK_sB, LayK_sIr, LayK_exc]; assumption) | omega | decide | (simp (disch := (first | decide | omega)) only [gI_sJ, gI_sB, gI_sP, gI_exc, gI_sIe, aI_sJ, aI_sB, aI_sP, aI_exc, aI_sAe, aJ_sI, aJ_sA, aJ_sP, aJ_sIr, aJ_exc, aJ_sBe, gJ_sI, gJ_sA, gJ_sP, gJ_sIr, gJ_exc, gP_sI, gP_sJ, gP_sA, gP_sB, gP_sIr, gP_exc, gI_sIn, gI_sIk, gI_sAn, gI_sIrn, aI_sIn, aI_sAn, aI_sIrn, aI_sAk, aJ_sJn, aJ_sBn, gJ_sJn, gJ_sBn, gJ_sJe, gS_sI, gS_sJ, gS_sP, gS_sA, gS_sB, gS_sIr, gS_exc, w32i, w64i]; first | done | assumption | omega))) only [↓b_xbs, ↓b_xthr, ↓b_xthl, ↓b_xctr, ↓b_xctl, ↓b_xz, ↓b_xzX, ↓b_xd, ↓if_pos, ↓if_neg, ↓mI113, ↓mW113, ↓mZ113, ↓mJ113, ↓mV113, ↓mR113, ↓mA114, ↓mS114, ↓mL114, ↓mA115, ↓mS115, ↓mL115, ↓mA116, ↓mS116, ↓mL116, ↓mA117, ↓mS117, ↓mL117, ↓mA118, ↓mS118, ↓mL118, ↓mA119, ↓mS119, ↓mL119, ↓mA120, ↓mS120, ↓mL120, ↓mA121, ↓mS121, ↓mL121, ↓mA122, ↓mS122, ↓mL122, ↓mA123, ↓mS123, ↓mL123, ↓mA124, ↓mS124, ↓mL124, ↓mA125, ↓mS125, ↓mL125, ↓mA126, ↓mS126, ↓mL126, ↓mP113_1, ↓mP113_2, ↓mP113_4, ↓mP113_11, ↓mP113_12, ↓mP113_16, ↓mP113_17, ↓mP113_18, ↓mP113_24, ↓mP113_25, ↓mP113_29, ↓mP113_30]
      rw [e4, e1]; exact hr
    · by_cases c2 : yand (rdM (aI h 114) j) (wrM (aI h 114) i) = 0
      · have e3 : lnN (aI h 114) j (i + 1) = lnN (aI h 114) j i := by rw [e2, if_neg (fun q => q.2 c2)]
        rw [e3] at hr
        have e4 := xor_0 (lnN (aI h 114) j i) hb.1 (by omega)
        have c3 : xcmp (yand (rdM (aI h 114) j) (wrM (aI h 114) i)) 0 = 0 := (xcmp_0 _ _).mpr c2
        simp (disch := (first | assumption | with_reducible rfl | (simp only [LayC_sI, LayC_sJ, LayC_sA, LayC_sB, LayC_sIr, LayC_exc, LayM_sI, LayM_sJ, LayM_sA, LayM_sB, LayM_sIr, LayM_exc, LayK_sI, LayK_sJ, LayK_sA, LayK_sB, LayK_sIr, LayK_exc]; assumption) | omega | decide | (simp (disch := (first | decide | omega)) only [gI_sJ, gI_sB, gI_sP, gI_exc, gI_sIe, aI_sJ, aI_sB, aI_sP, aI_exc, aI_sAe, aJ_sI, aJ_sA, aJ_sP, aJ_sIr, aJ_exc, aJ_sBe, gJ_sI, gJ_sA, gJ_sP, gJ_sIr, gJ_exc, gP_sI, gP_sJ, gP_sA, gP_sB, gP_sIr, gP_exc, gI_sIn, gI_sIk, gI_sAn, gI_sIrn, aI_sIn, aI_sAn, aI_sIrn, aI_sAk, aJ_sJn, aJ_sBn, gJ_sJn, gJ_sBn, gJ_sJe, gS_sI, gS_sJ, gS_sP, gS_sA, gS_sB, gS_sIr, gS_exc, w32i, w64i]; first | done | assumption | omega))) only [↓b_xbs, ↓b_xthr, ↓b_xthl, ↓b_xctr, ↓b_xctl, ↓b_xz, ↓b_xzX, ↓b_xd, ↓if_pos, ↓if_neg, ↓mI113, ↓mW113, ↓mZ113, ↓mJ113, ↓mV113, ↓mR113, ↓mA114, ↓mS114, ↓mL114, ↓mA115, ↓mS115, ↓mL115, ↓mA116, ↓mS116, ↓mL116, ↓mA117, ↓mS117, ↓mL117, ↓mA118, ↓mS118, ↓mL118, ↓mA119, ↓mS119, ↓mL119, ↓mA120, ↓mS120, ↓mL120, ↓mA121, ↓mS121, ↓mL121, ↓mA122, ↓mS122, ↓mL122, ↓mA123, ↓mS123, ↓mL123, ↓mA124, ↓mS124, ↓mL124, ↓mA125, ↓mS125, ↓mL125, ↓mA126, ↓mS126, ↓mL126, ↓mP113_1, ↓mP113_2, ↓mP113_4, ↓mP113_11, ↓mP113_12, ↓mP113_16, ↓mP113_17, ↓mP113_18, ↓mP113_24, ↓mP113_25, ↓mP113_29, ↓mP113_30, ↓bE_bitsR, ↓bE_bitsW]
        rw [e4, e1]; exact hr
      · have e3 : lnN (aI h 114) j (i + 1) = xor_ (lnN (aI h 114) j i) (xshl 1 i) := by rw [e2, if_pos ⟨c1, c2⟩]
        rw [e3] at hr
        have c3 : ¬ xcmp (yand (rdM (aI h 114) j) (wrM (aI h 114) i)) 0 = 0 := fun q => c2 ((xcmp_0 _ _).mp q)
        simp (disch := (first | assumption | with_reducible rfl | (simp only [LayC_sI, LayC_sJ, LayC_sA, LayC_sB, LayC_sIr, LayC_exc, LayM_sI, LayM_sJ, LayM_sA, LayM_sB, LayM_sIr, LayM_exc, LayK_sI, LayK_sJ, LayK_sA, LayK_sB, LayK_sIr, LayK_exc]; assumption) | omega | decide | (simp (disch := (first | decide | omega)) only [gI_sJ, gI_sB, gI_sP, gI_exc, gI_sIe, aI_sJ, aI_sB, aI_sP, aI_exc, aI_sAe, aJ_sI, aJ_sA, aJ_sP, aJ_sIr, aJ_exc, aJ_sBe, gJ_sI, gJ_sA, gJ_sP, gJ_sIr, gJ_exc, gP_sI, gP_sJ, gP_sA, gP_sB, gP_sIr, gP_exc, gI_sIn, gI_sIk, gI_sAn, gI_sIrn, aI_sIn, aI_sAn, aI_sIrn, aI_sAk, aJ_sJn, aJ_sBn, gJ_sJn, gJ_sBn, gJ_sJe, gS_sI, gS_sJ, gS_sP, gS_sA, gS_sB, gS_sIr, gS_exc, w32i, w64i]; first | done | assumption | omega))) only [↓b_xbs, ↓b_xthr, ↓b_xthl, ↓b_xctr, ↓b_xctl, ↓b_xz, ↓b_xzX, ↓b_xd, ↓if_pos, ↓if_neg, ↓mI113, ↓mW113, ↓mZ113, ↓mJ113, ↓mV113, ↓mR113, ↓mA114, ↓mS114, ↓mL114, ↓mA115, ↓mS115, ↓mL115, ↓mA116, ↓mS116, ↓mL116, ↓mA117, ↓mS117, ↓mL117, ↓mA118, ↓mS118, ↓mL118, ↓mA119, ↓mS119, ↓mL119, ↓mA120, ↓mS120, ↓mL120, ↓mA121, ↓mS121, ↓mL121, ↓mA122, ↓mS122, ↓mL122, ↓mA123, ↓mS123, ↓mL123, ↓mA124, ↓mS124, ↓mL124, ↓mA125, ↓mS125, ↓mL125, ↓mA126, ↓mS126, ↓mL126, ↓mP113_1, ↓mP113_2, ↓mP113_4, ↓mP113_11, ↓mP113_12, ↓mP113_16, ↓mP113_17, ↓mP113_18, ↓mP113_24, ↓mP113_25, ↓mP113_29, ↓mP113_30, ↓bE_bitsR, ↓bE_bitsW]
        rw [e1]; exact hr
theorem E_lnsM (j : Int) (L : LayM h) (hF : 13 ≤ F) (g : 0 ≤ aI h 114 8 ∧ aI h 114 8 ≤ 12) (hj : 0 ≤ j ∧ j < 12)  : X12_leansOf F 113 j h = some (lns (aI h 114) j, h) := by
  exact E_lnM L g j hj (aI h 114 8).toNat 0 F (by omega) (by omega)
theorem bE_lnsM {γ : Type} (j : Int) (L : LayM h) (hF : 13 ≤ F) (g : 0 ≤ aI h 114 8 ∧ aI h 114 8 ≤ 12) (hj : 0 ≤ j ∧ j < 12)  (f : _ → HP → Option γ) : xb (X12_leansOf F 113 j h) f = f (lns (aI h 114) j) (h) := b_xb _ f _ _ (by apply E_lnsM <;> assumption)

theorem E_ordI (L : LayM h) (g : 0 ≤ aI h 114 8 ∧ aI h 114 8 ≤ 12) (hF : 13 ≤ F) (rc : Nat → Int → Int → HP → Option (Int × HP)) (pl p : Int) : ∀ (m i k : Nat), m < k → ((i + m : Nat) : Int) = aI h 114 8 → X12_orders_L17 F rc k 113 pl p i h = X12_orders_L55 F rc 113 pl p (nxN (aI h 114) pl m i) h := by
  intro m
  induction m with
  | zero =>
    intro i k hk hi
    obtain ⟨k, rfl⟩ : ∃ k', k = k' + 1 := ⟨k - 1, by omega⟩
    rw [X12_orders_L17_s]
    simp (disch := (first | assumption | with_reducible rfl | (simp only [LayC_sI, LayC_sJ, LayC_sA, LayC_sB, LayC_sIr, LayC_exc, LayM_sI, LayM_sJ, LayM_sA, LayM_sB, LayM_sIr, LayM_exc, LayK_sI, LayK_sJ, LayK_sA, LayK_sB, LayK_sIr, LayK_exc]; assumption) | omega | decide | (simp (disch := (first | decide | omega)) only [gI_sJ, gI_sB, gI_sP, gI_exc, gI_sIe, aI_sJ, aI_sB, aI_sP, aI_exc, aI_sAe, aJ_sI, aJ_sA, aJ_sP, aJ_sIr, aJ_exc, aJ_sBe, gJ_sI, gJ_sA, gJ_sP, gJ_sIr, gJ_exc, gP_sI, gP_sJ, gP_sA, gP_sB, gP_sIr, gP_exc, gI_sIn, gI_sIk, gI_sAn, gI_sIrn, aI_sIn, aI_sAn, aI_sIrn, aI_sAk, aJ_sJn, aJ_sBn, gJ_sJn, gJ_sBn, gJ_sJe, gS_sI, gS_sJ, gS_sP, gS_sA, gS_sB, gS_sIr, gS_exc, w32i, w64i]; first | done | assumption | omega))) only [↓b_xbs, ↓b_xthr, ↓b_xthl, ↓b_xctr, ↓b_xctl, ↓b_xz, ↓b_xzX, ↓b_xd, ↓if_pos, ↓if_neg, ↓mI113, ↓mW113, ↓mZ113, ↓mJ113, ↓mV113, ↓mR113, ↓mA114, ↓mS114, ↓mL114, ↓mA115, ↓mS115, ↓mL115, ↓mA116, ↓mS116, ↓mL116, ↓mA117, ↓mS117, ↓mL117, ↓mA118, ↓mS118, ↓mL118, ↓mA119, ↓mS119, ↓mL119, ↓mA120, ↓mS120, ↓mL120, ↓mA121, ↓mS121, ↓mL121, ↓mA122, ↓mS122, ↓mL122, ↓mA123, ↓mS123, ↓mL123, ↓mA124, ↓mS124, ↓mL124, ↓mA125, ↓mS125, ↓mL125, ↓mA126, ↓mS126, ↓mL126, ↓mP113_1, ↓mP113_2, ↓mP113_4, ↓mP113_11, ↓mP113_12, ↓mP113_16, ↓mP113_17, ↓mP113_18, ↓mP113_24, ↓mP113_25, ↓mP113_29, ↓mP113_30]
    rfl
  | succ m ih =>
    intro i k hk hi
    obtain ⟨k, rfl⟩ : ∃ k', k = k' + 1 := ⟨k - 1, by omega⟩
    have hr := ih (i + 1) k (by omega) (by omega)
    have e1 : w32 ((i : Int) + 1) = ((i + 1 : Nat) : Int) := by rw [w32i _ (by omega) (by omega)]; omega
    have e0 : nxN (aI h 114) pl (m + 1) (i : Int) = if xand (xshr pl i) 1 ≠ 1 ∧ xand (lns (aI h 114) i) (xxor pl (-1)) = 0 then (i : Int) else nxN (aI h 114) pl m ((i : Int) + 1) := rfl
    have e9 : ((i : Int) + 1) = ((i + 1 : Nat) : Int) := by omega
    by_cases c1 : xand (xshr pl i) 1 = 1
    · have e3 : nxN (aI h 114) pl (m + 1) (i : Int) = nxN (aI h 114) pl m ((i + 1 : Nat) : Int) := by rw [e0, if_neg (fun q => q.1 c1), e9]
      rw [X12_orders_L17_s, e3]
      unfold X12_orders_L49
      simp (disch := (first | assumption | with_reducible rfl | (simp only [LayC_sI, LayC_sJ, LayC_sA, LayC_sB, LayC_sIr, LayC_exc, LayM_sI, LayM_sJ, LayM_sA, LayM_sB, LayM_sIr, LayM_exc, LayK_sI, LayK_sJ, LayK_sA, LayK_sB, LayK_sIr, LayK_exc]; assumption) | omega | decide | (simp (disch := (first | decide | omega)) only [gI_sJ, gI_sB, gI_sP, gI_exc, gI_sIe, aI_sJ, aI_sB, aI_sP, aI_exc, aI_sAe, aJ_sI, aJ_sA, aJ_sP, aJ_sIr, aJ_exc, aJ_sBe, gJ_sI, gJ_sA, gJ_sP, gJ_sIr, gJ_exc, gP_sI, gP_sJ, gP_sA, gP_sB, gP_sIr, gP_exc, gI_sIn, gI_sIk, gI_sAn, gI_sIrn, aI_sIn, aI_sAn, aI_sIrn, aI_sAk, aJ_sJn, aJ_sBn, gJ_sJn, gJ_sBn, gJ_sJe, gS_sI, gS_sJ, gS_sP, gS_sA, gS_sB, gS_sIr, gS_exc, w32i, w64i]; first | done | assumption | omega))) only [↓b_xbs, ↓b_xthr, ↓b_xthl, ↓b_xctr, ↓b_xctl, ↓b_xz, ↓b_xzX, ↓b_xd, ↓if_pos, ↓if_neg, ↓mI113, ↓mW113, ↓mZ113, ↓mJ113, ↓mV113, ↓mR113, ↓mA114, ↓mS114, ↓mL114, ↓mA115, ↓mS115, ↓mL115, ↓mA116, ↓mS116, ↓mL116, ↓mA117, ↓mS117, ↓mL117, ↓mA118, ↓mS118, ↓mL118, ↓mA119, ↓mS119, ↓mL119, ↓mA120, ↓mS120, ↓mL120, ↓mA121, ↓mS121, ↓mL121, ↓mA122, ↓mS122, ↓mL122, ↓mA123, ↓mS123, ↓mL123, ↓mA124, ↓mS124, ↓mL124, ↓mA125, ↓mS125, ↓mL125, ↓mA126, ↓mS126, ↓mL126, ↓mP113_1, ↓mP113_2, ↓mP113_4, ↓mP113_11, ↓mP113_12, ↓mP113_16, ↓mP113_17, ↓mP113_18, ↓mP113_24, ↓mP113_25, ↓mP113_29, ↓mP113_30]
      rw [e1]; exact hr
    · by_cases c2 : xand (lns (aI h 114) i) (xxor pl (-1)) = 0
      · have e3 : nxN (aI h 114) pl (m + 1) (i : Int) = (i : Int) := by rw [e0, if_pos ⟨c1, c2⟩]
        rw [X12_orders_L17_s, e3]
        simp (disch := (first | assumption | with_reducible rfl | (simp only [LayC_sI, LayC_sJ, LayC_sA, LayC_sB, LayC_sIr, LayC_exc, LayM_sI, LayM_sJ, LayM_sA, LayM_sB, LayM_sIr, LayM_exc, LayK_sI, LayK_sJ, LayK_sA, LayK_sB, LayK_sIr, LayK_exc]; assumption) | omega | decide | (simp (disch := (first | decide | omega)) only [gI_sJ, gI_sB, gI_sP, gI_exc, gI_sIe, aI_sJ, aI_sB, aI_sP, aI_exc, aI_sAe, aJ_sI, aJ_sA, aJ_sP, aJ_sIr, aJ_exc, aJ_sBe, gJ_sI, gJ_sA, gJ_sP, gJ_sIr, gJ_exc, gP_sI, gP_sJ, gP_sA, gP_sB, gP_sIr, gP_exc, gI_sIn, gI_sIk, gI_sAn, gI_sIrn, aI_sIn, aI_sAn, aI_sIrn, aI_sAk, aJ_sJn, aJ_sBn, gJ_sJn, gJ_sBn, gJ_sJe, gS_sI, gS_sJ, gS_sP, gS_sA, gS_sB, gS_sIr, gS_exc, w32i, w64i]; first | done | assumption | omega))) only [↓b_xbs, ↓b_xthr, ↓b_xthl, ↓b_xctr, ↓b_xctl, ↓b_xz, ↓b_xzX, ↓b_xd, ↓if_pos, ↓if_neg, ↓mI113, ↓mW113, ↓mZ113, ↓mJ113, ↓mV113, ↓mR113, ↓mA114, ↓mS114, ↓mL114, ↓mA115, ↓mS115, ↓mL115, ↓mA116, ↓mS116, ↓mL116, ↓mA117, ↓mS117, ↓mL117, ↓mA118, ↓mS118, ↓mL118, ↓mA119, ↓mS119, ↓mL119, ↓mA120, ↓mS120, ↓mL120, ↓mA121, ↓mS121, ↓mL121, ↓mA122, ↓mS122, ↓mL122, ↓mA123, ↓mS123, ↓mL123, ↓mA124, ↓mS124, ↓mL124, ↓mA125, ↓mS125, ↓mL125, ↓mA126, ↓mS126, ↓mL126, ↓mP113_1, ↓mP113_2, ↓mP113_4, ↓mP113_11, ↓mP113_12, ↓mP113_16, ↓mP113_17, ↓mP113_18, ↓mP113_24, ↓mP113_25, ↓mP113_29, ↓mP113_30, ↓bE_lnsM]
      · have e3 : nxN (aI h 114) pl (m + 1) (i : Int) = nxN (aI h 114) pl m ((i + 1 : Nat) : Int) := by rw [e0, if_neg (fun q => c2 q.2), e9]
        rw [X12_orders_L17_s, e3]
        unfold X12_orders_L49
        simp (disch := (first | assumption | with_reducible rfl | (simp only [LayC_sI, LayC_sJ, LayC_sA, LayC_sB, LayC_sIr, LayC_exc, LayM_sI, LayM_sJ, LayM_sA, LayM_sB, LayM_sIr, LayM_exc, LayK_sI, LayK_sJ, LayK_sA, LayK_sB, LayK_sIr, LayK_exc]; assumption) | omega | decide | (simp (disch := (first | decide | omega)) only [gI_sJ, gI_sB, gI_sP, gI_exc, gI_sIe, aI_sJ, aI_sB, aI_sP, aI_exc, aI_sAe, aJ_sI, aJ_sA, aJ_sP, aJ_sIr, aJ_exc, aJ_sBe, gJ_sI, gJ_sA, gJ_sP, gJ_sIr, gJ_exc, gP_sI, gP_sJ, gP_sA, gP_sB, gP_sIr, gP_exc, gI_sIn, gI_sIk, gI_sAn, gI_sIrn, aI_sIn, aI_sAn, aI_sIrn, aI_sAk, aJ_sJn, aJ_sBn, gJ_sJn, gJ_sBn, gJ_sJe, gS_sI, gS_sJ, gS_sP, gS_sA, gS_sB, gS_sIr, gS_exc, w32i, w64i]; first | done | assumption | omega))) only [↓b_xbs, ↓b_xthr, ↓b_xthl, ↓b_xctr, ↓b_xctl, ↓b_xz, ↓b_xzX, ↓b_xd, ↓if_pos, ↓if_neg, ↓mI113, ↓mW113, ↓mZ113, ↓mJ113, ↓mV113, ↓mR113, ↓mA114, ↓mS114, ↓mL114, ↓mA115, ↓mS115, ↓mL115, ↓mA116, ↓mS116, ↓mL116, ↓mA117, ↓mS117, ↓mL117, ↓mA118, ↓mS118, ↓mL118, ↓mA119, ↓mS119, ↓mL119, ↓mA120, ↓mS120, ↓mL120, ↓mA121, ↓mS121, ↓mL121, ↓mA122, ↓mS122, ↓mL122, ↓mA123, ↓mS123, ↓mL123, ↓mA124, ↓mS124, ↓mL124, ↓mA125, ↓mS125, ↓mL125, ↓mA126, ↓mS126, ↓mL126, ↓mP113_1, ↓mP113_2, ↓mP113_4, ↓mP113_11, ↓mP113_12, ↓mP113_16, ↓mP113_17, ↓mP113_18, ↓mP113_24, ↓mP113_25, ↓mP113_29, ↓mP113_30, ↓bE_lnsM]
        rw [e1]; exact hr
theorem nxN_r (W : Int → Int) (pl : Int) : ∀ (m : Nat) (i : Int), i ≤ nxN W pl m i ∧ nxN W pl m i ≤ i + m := by
  intro m
  induction m with
  | zero => intro i; unfold nxN; omega
  | succ m ih => intro i; unfold nxN; have := ih (i + 1); split <;> omega
theorem plN_none (W : Int → Int) (n : Nat) (e : plN W n = none) : ∀ m : Nat, plN W (n + m) = none := by
  intro m
  induction m with
  | zero => exact e
  | succ m ih => show plN W (n + m + 1) = none; unfold plN; rw [ih]; rfl
theorem E_ordO : ∀ (m p k : Nat) (pl : Int) (h : HP), m < k → LayM h → (0 ≤ aI h 114 8 ∧ aI h 114 8 ≤ 12) → 13 ≤ F → ((p + m : Nat) : Int) = aI h 114 8 → plN (aI h 114) p = some pl → ∃ r h', X12_orders_L4 F k 113 pl p h = some (r, h') ∧ Oi 119 h h' ∧ (r = 1 ∧ ordOk (aI h 114) ∧ (∀ q : Nat, p ≤ q → (q : Int) < aI h 114 8 → aI h' 119 q = ordA (aI h 114) q) ∧ (∀ q : Nat, q < p → aI h' 119 q = aI h 119 q) ∨ r = 0 ∧ ¬ ordOk (aI h 114)) := by
  intro m
  induction m with
  | zero =>
    intro p k pl h hk L g hF hp hpl
    obtain ⟨k, rfl⟩ : ∃ k', k = k' + 1 := ⟨k - 1, by omega⟩
    refine ⟨1, h, ?_, Oi.rf _ _, Or.inl ⟨rfl, ⟨pl, ?_⟩, fun q a b => by omega, fun q _ => rfl⟩⟩
    · rw [X12_orders_L4_s]
      simp (disch := (first | assumption | with_reducible rfl | (simp only [LayC_sI, LayC_sJ, LayC_sA, LayC_sB, LayC_sIr, LayC_exc, LayM_sI, LayM_sJ, LayM_sA, LayM_sB, LayM_sIr, LayM_exc, LayK_sI, LayK_sJ, LayK_sA, LayK_sB, LayK_sIr, LayK_exc]; assumption) | omega | decide | (simp (disch := (first | decide | omega)) only [gI_sJ, gI_sB, gI_sP, gI_exc, gI_sIe, aI_sJ, aI_sB, aI_sP, aI_exc, aI_sAe, aJ_sI, aJ_sA, aJ_sP, aJ_sIr, aJ_exc, aJ_sBe, gJ_sI, gJ_sA, gJ_sP, gJ_sIr, gJ_exc, gP_sI, gP_sJ, gP_sA, gP_sB, gP_sIr, gP_exc, gI_sIn, gI_sIk, gI_sAn, gI_sIrn, aI_sIn, aI_sAn, aI_sIrn, aI_sAk, aJ_sJn, aJ_sBn, gJ_sJn, gJ_sBn, gJ_sJe, gS_sI, gS_sJ, gS_sP, gS_sA, gS_sB, gS_sIr, gS_exc, w32i, w64i]; first | done | assumption | omega))) only [↓b_xbs, ↓b_xthr, ↓b_xthl, ↓b_xctr, ↓b_xctl, ↓b_xz, ↓b_xzX, ↓b_xd, ↓if_pos, ↓if_neg, ↓mI113, ↓mW113, ↓mZ113, ↓mJ113, ↓mV113, ↓mR113, ↓mA114, ↓mS114, ↓mL114, ↓mA115, ↓mS115, ↓mL115, ↓mA116, ↓mS116, ↓mL116, ↓mA117, ↓mS117, ↓mL117, ↓mA118, ↓mS118, ↓mL118, ↓mA119, ↓mS119, ↓mL119, ↓mA120, ↓mS120, ↓mL120, ↓mA121, ↓mS121, ↓mL121, ↓mA122, ↓mS122, ↓mL122, ↓mA123, ↓mS123, ↓mL123, ↓mA124, ↓mS124, ↓mL124, ↓mA125, ↓mS125, ↓mL125, ↓mA126, ↓mS126, ↓mL126, ↓mP113_1, ↓mP113_2, ↓mP113_4, ↓mP113_11, ↓mP113_12, ↓mP113_16, ↓mP113_17, ↓mP113_18, ↓mP113_24, ↓mP113_25, ↓mP113_29, ↓mP113_30]
    · rw [← hp, Int.toNat_natCast]; exact hpl
  | succ m ih =>
    intro p k pl h hk L g hF hp hpl
    obtain ⟨k, rfl⟩ : ∃ k', k = k' + 1 := ⟨k - 1, by omega⟩
    have hI := E_ordI (F := F) L g hF (X12_orders_L4 F k) pl p (aI h 114 8).toNat 0 F (by omega) (by omega)
    have hn : nxN (aI h 114) pl (aI h 114 8).toNat ((0 : Nat) : Int) = nxt (aI h 114) pl := rfl
    rw [hn] at hI
    have hnr := nxN_r (aI h 114) pl (aI h 114 8).toNat 0
    have hnr2 : 0 ≤ nxt (aI h 114) pl ∧ nxt (aI h 114) pl ≤ aI h 114 8 := by unfold nxt; omega
    have e1 : w32 ((p : Int) + 1) = ((p + 1 : Nat) : Int) := by rw [w32i _ (by omega) (by omega)]; omega
    have eS : plN (aI h 114) (p + 1) = if nxt (aI h 114) pl = aI h 114 8 then none else some (xor_ pl (xshl 1 (nxt (aI h 114) pl))) := by
      show (plN (aI h 114) p).bind _ = _; rw [hpl]; rfl
    rw [X12_orders_L4_s]
    have hI0 : X12_orders_L17 F (X12_orders_L4 F k) F 113 pl (p : Int) 0 h = X12_orders_L55 F (X12_orders_L4 F k) 113 pl p (nxt (aI h 114) pl) h := hI
    by_cases c : nxt (aI h 114) pl = aI h 114 8
    · refine ⟨0, h, ?_, Oi.rf _ _, Or.inr ⟨rfl, ?_⟩⟩
      · simp (disch := (first | assumption | with_reducible rfl | (simp only [LayC_sI, LayC_sJ, LayC_sA, LayC_sB, LayC_sIr, LayC_exc, LayM_sI, LayM_sJ, LayM_sA, LayM_sB, LayM_sIr, LayM_exc, LayK_sI, LayK_sJ, LayK_sA, LayK_sB, LayK_sIr, LayK_exc]; assumption) | omega | decide | (simp (disch := (first | decide | omega)) only [gI_sJ, gI_sB, gI_sP, gI_exc, gI_sIe, aI_sJ, aI_sB, aI_sP, aI_exc, aI_sAe, aJ_sI, aJ_sA, aJ_sP, aJ_sIr, aJ_exc, aJ_sBe, gJ_sI, gJ_sA, gJ_sP, gJ_sIr, gJ_exc, gP_sI, gP_sJ, gP_sA, gP_sB, gP_sIr, gP_exc, gI_sIn, gI_sIk, gI_sAn, gI_sIrn, aI_sIn, aI_sAn, aI_sIrn, aI_sAk, aJ_sJn, aJ_sBn, gJ_sJn, gJ_sBn, gJ_sJe, gS_sI, gS_sJ, gS_sP, gS_sA, gS_sB, gS_sIr, gS_exc, w32i, w64i]; first | done | assumption | omega))) only [↓b_xbs, ↓b_xthr, ↓b_xthl, ↓b_xctr, ↓b_xctl, ↓b_xz, ↓b_xzX, ↓b_xd, ↓if_pos, ↓if_neg, ↓mI113, ↓mW113, ↓mZ113, ↓mJ113, ↓mV113, ↓mR113, ↓mA114, ↓mS114, ↓mL114, ↓mA115, ↓mS115, ↓mL115, ↓mA116, ↓mS116, ↓mL116, ↓mA117, ↓mS117, ↓mL117, ↓mA118, ↓mS118, ↓mL118, ↓mA119, ↓mS119, ↓mL119, ↓mA120, ↓mS120, ↓mL120, ↓mA121, ↓mS121, ↓mL121, ↓mA122, ↓mS122, ↓mL122, ↓mA123, ↓mS123, ↓mL123, ↓mA124, ↓mS124, ↓mL124, ↓mA125, ↓mS125, ↓mL125, ↓mA126, ↓mS126, ↓mL126, ↓mP113_1, ↓mP113_2, ↓mP113_4, ↓mP113_11, ↓mP113_12, ↓mP113_16, ↓mP113_17, ↓mP113_18, ↓mP113_24, ↓mP113_25, ↓mP113_29, ↓mP113_30]
        rw [hI0]; unfold X12_orders_L55
        simp (disch := (first | assumption | with_reducible rfl | (simp only [LayC_sI, LayC_sJ, LayC_sA, LayC_sB, LayC_sIr, LayC_exc, LayM_sI, LayM_sJ, LayM_sA, LayM_sB, LayM_sIr, LayM_exc, LayK_sI, LayK_sJ, LayK_sA, LayK_sB, LayK_sIr, LayK_exc]; assumption) | omega | decide | (simp (disch := (first | decide | omega)) only [gI_sJ, gI_sB, gI_sP, gI_exc, gI_sIe, aI_sJ, aI_sB, aI_sP, aI_exc, aI_sAe, aJ_sI, aJ_sA, aJ_sP, aJ_sIr, aJ_exc, aJ_sBe, gJ_sI, gJ_sA, gJ_sP, gJ_sIr, gJ_exc, gP_sI, gP_sJ, gP_sA, gP_sB, gP_sIr, gP_exc, gI_sIn, gI_sIk, gI_sAn, gI_sIrn, aI_sIn, aI_sAn, aI_sIrn, aI_sAk, aJ_sJn, aJ_sBn, gJ_sJn, gJ_sBn, gJ_sJe, gS_sI, gS_sJ, gS_sP, gS_sA, gS_sB, gS_sIr, gS_exc, w32i, w64i]; first | done | assumption | omega))) only [↓b_xbs, ↓b_xthr, ↓b_xthl, ↓b_xctr, ↓b_xctl, ↓b_xz, ↓b_xzX, ↓b_xd, ↓if_pos, ↓if_neg, ↓mI113, ↓mW113, ↓mZ113, ↓mJ113, ↓mV113, ↓mR113, ↓mA114, ↓mS114, ↓mL114, ↓mA115, ↓mS115, ↓mL115, ↓mA116, ↓mS116, ↓mL116, ↓mA117, ↓mS117, ↓mL117, ↓mA118, ↓mS118, ↓mL118, ↓mA119, ↓mS119, ↓mL119, ↓mA120, ↓mS120, ↓mL120, ↓mA121, ↓mS121, ↓mL121, ↓mA122, ↓mS122, ↓mL122, ↓mA123, ↓mS123, ↓mL123, ↓mA124, ↓mS124, ↓mL124, ↓mA125, ↓mS125, ↓mL125, ↓mA126, ↓mS126, ↓mL126, ↓mP113_1, ↓mP113_2, ↓mP113_4, ↓mP113_11, ↓mP113_12, ↓mP113_16, ↓mP113_17, ↓mP113_18, ↓mP113_24, ↓mP113_25, ↓mP113_29, ↓mP113_30]
      · rintro ⟨pl', q⟩
        rw [if_pos c] at eS
        have q2 := plN_none _ _ eS m
        rw [show p + 1 + m = (aI h 114 8).toNat by omega, q] at q2
        cases q2
    · rw [if_neg c] at eS
      have L2 : LayM (sA h 119 p (nxt (aI h 114) pl)) := L
      have w1 : aI (sA h 119 (p : Int) (nxt (aI h 114) pl)) 114 = aI h 114 := aI_sAn _ _ _ _ _ (by decide)
      obtain ⟨r, h', x1, x2, x3⟩ := ih (p + 1) k (xor_ pl (xshl 1 (nxt (aI h 114) pl))) (sA h 119 p (nxt (aI h 114) pl)) (by omega) L2 (by rw [w1]; exact g) hF (by rw [w1]; omega) (by rw [w1]; exact eS)
      rw [w1] at x3
      refine ⟨r, h', ?_, (Oi.A 119 h p (nxt (aI h 114) pl)).tr x2, ?_⟩
      · simp (disch := (first | assumption | with_reducible rfl | (simp only [LayC_sI, LayC_sJ, LayC_sA, LayC_sB, LayC_sIr, LayC_exc, LayM_sI, LayM_sJ, LayM_sA, LayM_sB, LayM_sIr, LayM_exc, LayK_sI, LayK_sJ, LayK_sA, LayK_sB, LayK_sIr, LayK_exc]; assumption) | omega | decide | (simp (disch := (first | decide | omega)) only [gI_sJ, gI_sB, gI_sP, gI_exc, gI_sIe, aI_sJ, aI_sB, aI_sP, aI_exc, aI_sAe, aJ_sI, aJ_sA, aJ_sP, aJ_sIr, aJ_exc, aJ_sBe, gJ_sI, gJ_sA, gJ_sP, gJ_sIr, gJ_exc, gP_sI, gP_sJ, gP_sA, gP_sB, gP_sIr, gP_exc, gI_sIn, gI_sIk, gI_sAn, gI_sIrn, aI_sIn, aI_sAn, aI_sIrn, aI_sAk, aJ_sJn, aJ_sBn, gJ_sJn, gJ_sBn, gJ_sJe, gS_sI, gS_sJ, gS_sP, gS_sA, gS_sB, gS_sIr, gS_exc, w32i, w64i]; first | done | assumption | omega))) only [↓b_xbs, ↓b_xthr, ↓b_xthl, ↓b_xctr, ↓b_xctl, ↓b_xz, ↓b_xzX, ↓b_xd, ↓if_pos, ↓if_neg, ↓mI113, ↓mW113, ↓mZ113, ↓mJ113, ↓mV113, ↓mR113, ↓mA114, ↓mS114, ↓mL114, ↓mA115, ↓mS115, ↓mL115, ↓mA116, ↓mS116, ↓mL116, ↓mA117, ↓mS117, ↓mL117, ↓mA118, ↓mS118, ↓mL118, ↓mA119, ↓mS119, ↓mL119, ↓mA120, ↓mS120, ↓mL120, ↓mA121, ↓mS121, ↓mL121, ↓mA122, ↓mS122, ↓mL122, ↓mA123, ↓mS123, ↓mL123, ↓mA124, ↓mS124, ↓mL124, ↓mA125, ↓mS125, ↓mL125, ↓mA126, ↓mS126, ↓mL126, ↓mP113_1, ↓mP113_2, ↓mP113_4, ↓mP113_11, ↓mP113_12, ↓mP113_16, ↓mP113_17, ↓mP113_18, ↓mP113_24, ↓mP113_25, ↓mP113_29, ↓mP113_30]
        rw [hI0]; unfold X12_orders_L55
        simp (disch := (first | assumption | with_reducible rfl | (simp only [LayC_sI, LayC_sJ, LayC_sA, LayC_sB, LayC_sIr, LayC_exc, LayM_sI, LayM_sJ, LayM_sA, LayM_sB, LayM_sIr, LayM_exc, LayK_sI, LayK_sJ, LayK_sA, LayK_sB, LayK_sIr, LayK_exc]; assumption) | omega | decide | (simp (disch := (first | decide | omega)) only [gI_sJ, gI_sB, gI_sP, gI_exc, gI_sIe, aI_sJ, aI_sB, aI_sP, aI_exc, aI_sAe, aJ_sI, aJ_sA, aJ_sP, aJ_sIr, aJ_exc, aJ_sBe, gJ_sI, gJ_sA, gJ_sP, gJ_sIr, gJ_exc, gP_sI, gP_sJ, gP_sA, gP_sB, gP_sIr, gP_exc, gI_sIn, gI_sIk, gI_sAn, gI_sIrn, aI_sIn, aI_sAn, aI_sIrn, aI_sAk, aJ_sJn, aJ_sBn, gJ_sJn, gJ_sBn, gJ_sJe, gS_sI, gS_sJ, gS_sP, gS_sA, gS_sB, gS_sIr, gS_exc, w32i, w64i]; first | done | assumption | omega))) only [↓b_xbs, ↓b_xthr, ↓b_xthl, ↓b_xctr, ↓b_xctl, ↓b_xz, ↓b_xzX, ↓b_xd, ↓if_pos, ↓if_neg, ↓mI113, ↓mW113, ↓mZ113, ↓mJ113, ↓mV113, ↓mR113, ↓mA114, ↓mS114, ↓mL114, ↓mA115, ↓mS115, ↓mL115, ↓mA116, ↓mS116, ↓mL116, ↓mA117, ↓mS117, ↓mL117, ↓mA118, ↓mS118, ↓mL118, ↓mA119, ↓mS119, ↓mL119, ↓mA120, ↓mS120, ↓mL120, ↓mA121, ↓mS121, ↓mL121, ↓mA122, ↓mS122, ↓mL122, ↓mA123, ↓mS123, ↓mL123, ↓mA124, ↓mS124, ↓mL124, ↓mA125, ↓mS125, ↓mL125, ↓mA126, ↓mS126, ↓mL126, ↓mP113_1, ↓mP113_2, ↓mP113_4, ↓mP113_11, ↓mP113_12, ↓mP113_16, ↓mP113_17, ↓mP113_18, ↓mP113_24, ↓mP113_25, ↓mP113_29, ↓mP113_30]
        rw [e1]; exact x1
      · rcases x3 with ⟨y1, y2, y3, y4⟩ | ⟨y1, y2⟩
        · refine Or.inl ⟨y1, y2, fun q a b => ?_, fun q a => ?_⟩
          · by_cases e : q = p
            · subst e
              rw [y4 q (by omega), aI_sAe]
              unfold ordA; rw [hpl]; rfl
            · exact y3 q (by omega) b
          · rw [y4 q (by omega), aI_sAk _ _ _ _ _ (by omega) (by omega) (by omega)]
        · exact Or.inr ⟨y1, y2⟩
theorem E_orders (L : LayM h) (g : 0 ≤ aI h 114 8 ∧ aI h 114 8 ≤ 12) (hF : 13 ≤ F) : ∃ r h', X12_orders F 113 h = some (r, h') ∧ Oi 119 h h' ∧ (r = 1 ∧ ordOk (aI h 114) ∧ (∀ q : Nat, (q : Int) < aI h 114 8 → aI h' 119 q = ordA (aI h 114) q) ∨ r = 0 ∧ ¬ ordOk (aI h 114)) := by
  obtain ⟨r, h', x1, x2, x3⟩ := E_ordO (F := F) (aI h 114 8).toNat 0 F 0 h (by omega) L g hF (by omega) rfl
  refine ⟨r, h', x1, x2, ?_⟩
  rcases x3 with ⟨y1, y2, y3, y4⟩ | y
  · exact Or.inl ⟨y1, y2, fun q b => y3 q (Nat.zero_le q) b⟩
  · exact Or.inr y
end JJ
