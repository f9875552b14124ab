/-! a line that sets a word, in the reference: pass by pass, the word itself -/
theorem aI_sAf (h : HP) (a : Nat) (i v : Int) (hi : 0 < i) : aI (sA h a i v) a = fun x => if x = i then v else aI h a x := by
  funext x
  show gI (sI h a i.toNat v) a x.toNat = _
  by_cases e : x = i
  · rw [if_pos e, e, gI_sIe]
  · rw [if_neg e, gI_sIk _ _ _ _ _ (by omega)]
    rfl
theorem aI_sAw (h : HP) (w v : Int) (hw : 0 ≤ w) : aI (sA h 114 (9 + w) v) 114 = wW (aI h 114) w v := aI_sAf h 114 (9 + w) v (by omega)
theorem wW_wW (W : Int → Int) (w u v : Int) : wW (wW W w u) w v = wW W w v := by
  funext i
  unfold wW
  split
  · rfl
  · rfl
theorem Mwr_Wf {W : Int → Int} {w v bj fi how : Int} {h : HP} (hw : 0 ≤ w ∧ w < 64) (h0 : 0 ≤ aI h 114 11356) : aI (Mwr h w v bj fi how) 114 = wrW (aI h 114) w v bj fi how := by
  funext i
  by_cases hi : 0 ≤ i
  · exact Mwr_W hw h0 i hi
  · have e1 : aI (Mwr h w v bj fi how) 114 i = aI (Mwr h w v bj fi how) 114 0 := by
      show gI _ _ _ = gI _ _ _
      rw [show i.toNat = (0 : Int).toNat by omega]
    have e2 : aI h 114 i = aI h 114 0 := by
      show gI _ _ _ = gI _ _ _
      rw [show i.toNat = (0 : Int).toNat by omega]
    rw [e1, Mwr_W hw h0 0 (by omega), wrW_o 0 (by omega) (by omega) (by omega), wrW_o i (by omega) (by omega) (by omega), e2]
def XM : Nat → Bool := fun a => a == 114 || a == 120
theorem Ox.A {X : Nat → Bool} (h : HP) (a : Nat) (k v : Int) (q : X a = true) : Ox X h (sA h a k v) := Ox.I h a k.toNat v q
theorem Oj.x {X : Nat → Bool} {a0 : Nat} {h h' : HP} (o : Oj a0 h h') (q : X a0 = true) : Ox X h h' := by
  obtain ⟨x1, x2, x3, x4, x5, x6, x7⟩ := o
  exact ⟨fun a p => ⟨by rw [x1], x2 a (fun e => by rw [e, q] at p; cases p)⟩, x3, x4, x5, x6, x7⟩
section SM
variable {F : Nat} {W : Int → Int}
theorem E_setM (hF : 500 ≤ F) (oW : okWT W) (rc8 : Nat → Int → Int → Int → Int → HP → Option (Int × HP)) (j : Nat) (hj : j < 12) {A : List Lin} (p : MPr W (169 + 882 * j) A) (n : Nat) (l : Lin) (e : A[n]? = some l) (kl : okL l) (q0 : l.1 = 0) (how fi : Int) (w : Int) (hw : 0 ≤ w ∧ w < 64) (t : Nat) (ht : t ≤ 9) (et : l.2.2.1 = t) : ∀ (m l9 k : Nat) (v0 : Int) (g : HP), l9 + m = t → m < k → LayM g → aI g 114 = wW W w v0 → in32 v0 → ∃ g', X12_goes_L70 F rc8 k 113 j how fi n (22 + 6 * (n : Int)) w (W (9 + w)) l9 g = (match setN W w l.2.2.2.2.1 m v0 with | none => some (0, g') | some u => xb (X12_puts F 113 j w u fi how g') (fun v7 h8 => if v7 = 0 then some (0, h8) else X12_goes_L327 F rc8 113 j how fi n h8)) ∧ Ox XM g g' ∧ (setN W w l.2.2.2.2.1 m v0 = none → aI g' 114 = W) ∧ (∀ u, setN W w l.2.2.2.2.1 m v0 = some u → aI g' 114 = wW W w u) := by
  obtain ⟨p1, p2, p3⟩ := id p
  have hn : n < A.length := (List.getElem?_eq_some_iff.mp e).1
  obtain ⟨q1, q2, q3, q4, q5, q6, q7, q8⟩ := p3 n l e
  have i2 : w32 (22 + 6 * (n : Int) + 2) = 22 + 6 * n + 2 := w32i _ (by omega) (by omega)
  have tt : ∀ v0 : Int, wW W w v0 (169 + 882 * (j : Int) + (22 + 6 * (n : Int) + 2)) = t := by
    intro v0
    rw [wW_n _ (by omega), show 169 + 882 * (j : Int) + (22 + 6 * (n : Int) + 2) = 169 + 882 * j + 22 + 6 * n + 2 by omega, q3 (by omega), et]
  have i9 : w32 (9 + w) = 9 + w := w32i _ (by omega) (by omega)
  intro m
  induction m with
  | zero =>
    intro l9 k v0 g em hk L rW hv
    obtain ⟨k, rfl⟩ : ∃ k', k = k' + 1 := ⟨k - 1, by omega⟩
    have t2 := E_its (F := F) (h := g) (j : Int) (22 + 6 * n + 2) L (by omega)
    rw [rW, tt] at t2
    refine ⟨g, ?_, Ox.rf _ _, fun z => (by cases z), fun u z => ?_⟩
    · show ((xrc g (some 113) 12 31).bind fun a3 => xb (X12_its F a3 j (w32 (22 + 6 * (n : Int) + 2)) g) fun v1 h2 => if v1 ≤ (l9 : Int) then _ else _) = _
      rw [mR113 g _ L, i2, b_xb _ _ _ _ t2, if_pos (by omega)]
      simp (disch := (first | assumption | with_reducible rfl | (simp only [LayC_sI, LayC_sJ, LayC_sA, LayC_sB, LayC_sIr, LayC_exc, LayM_sI, LayM_sJ, LayM_sA, LayM_sB, LayM_sIr, LayM_exc, LayK_sI, LayK_sJ, LayK_sA, LayK_sB, LayK_sIr, LayK_exc]; assumption) | omega | decide | (simp (disch := (first | decide | omega)) only [gI_sJ, gI_sB, gI_sP, gI_exc, gI_sIe, aI_sJ, aI_sB, aI_sP, aI_exc, aI_sAe, aJ_sI, aJ_sA, aJ_sP, aJ_sIr, aJ_exc, aJ_sBe, gJ_sI, gJ_sA, gJ_sP, gJ_sIr, gJ_exc, gP_sI, gP_sJ, gP_sA, gP_sB, gP_sIr, gP_exc, gI_sIn, gI_sIk, gI_sAn, gI_sIrn, aI_sIn, aI_sAn, aI_sIrn, aI_sAk, aJ_sJn, aJ_sBn, gJ_sJn, gJ_sBn, gJ_sJe, gS_sI, gS_sJ, gS_sP, gS_sA, gS_sB, gS_sIr, gS_exc, w32i, w64i]; first | done | assumption | omega))) only [↓b_xbs, ↓b_xthr, ↓b_xthl, ↓b_xctr, ↓b_xctl, ↓b_xz, ↓b_xzX, ↓b_xd, ↓if_pos, ↓if_neg, ↓mI113, ↓mW113, ↓mZ113, ↓mJ113, ↓mV113, ↓mR113, ↓mA114, ↓mS114, ↓mL114, ↓mA115, ↓mS115, ↓mL115, ↓mA116, ↓mS116, ↓mL116, ↓mA117, ↓mS117, ↓mL117, ↓mA118, ↓mS118, ↓mL118, ↓mA119, ↓mS119, ↓mL119, ↓mA120, ↓mS120, ↓mL120, ↓mA121, ↓mS121, ↓mL121, ↓mA122, ↓mS122, ↓mL122, ↓mA123, ↓mS123, ↓mL123, ↓mA124, ↓mS124, ↓mL124, ↓mA125, ↓mS125, ↓mL125, ↓mA126, ↓mS126, ↓mL126, ↓mP113_1, ↓mP113_2, ↓mP113_4, ↓mP113_11, ↓mP113_12, ↓mP113_16, ↓mP113_17, ↓mP113_18, ↓mP113_24, ↓mP113_25, ↓mP113_29, ↓mP113_30, i9]
      rw [rW, wW_e]
      rfl
    · cases z; exact rW
  | succ m ih =>
    intro l9 k v0 g em hk L rW hv
    obtain ⟨k, rfl⟩ : ∃ k', k = k' + 1 := ⟨k - 1, by omega⟩
    have t2 := E_its (F := F) (h := g) (j : Int) (22 + 6 * n + 2) L (by omega)
    rw [rW, tt] at t2
    have oe : okE (envM (wW W w v0)) := (oW.w hw hv).e
    have p' : MPr (wW W w v0) (169 + 882 * j) A := p.cg (fun i h0 h1 h2 => wW_n i (by omega))
    obtain ⟨g1, ew, og⟩ := E_workedM (F := F) hF L rW j hj p' n l e kl (Or.inl q0) oe
    have el : linV (envM (wW W w v0)) l = suV (envM (wW W w v0)) l.2.2.2.2.1 0 := by unfold linV; rw [if_pos q0]
    rw [el] at ew
    have L1 : LayM g1 := og.M L
    have rW1 : aI g1 114 = wW W w v0 := by rw [og.i]; exact rW
    have e32 : w32 ((l9 : Int) + 1) = ((l9 + 1 : Nat) : Int) := by rw [w32i _ (by omega) (by omega)]; omega
    have step : ∀ R, (if inb (suV (envM (wW W w v0)) l.2.2.2.2.1 0) then X12_goes_L70 F rc8 k 113 j how fi n (22 + 6 * (n : Int)) w (W (9 + w)) ((l9 + 1 : Nat) : Int) (sA g1 114 (9 + w) (suV (envM (wW W w v0)) l.2.2.2.2.1 0)) else some (0, sA g1 114 (9 + w) (W (9 + w)))) = R → X12_goes_L70 F rc8 (k + 1) 113 j how fi n (22 + 6 * (n : Int)) w (W (9 + w)) l9 g = R := by
      intro R hR
      show ((xrc g (some 113) 12 31).bind fun a3 => xb (X12_its F a3 j (w32 (22 + 6 * (n : Int) + 2)) g) fun v1 h2 => if v1 ≤ (l9 : Int) then _ else _) = _
      rw [mR113 g _ L, i2, b_xb _ _ _ _ t2, if_neg (by omega), mR113 g _ L, b_xb _ _ _ _ ew, ← hR]
      by_cases c : inb (suV (envM (wW W w v0)) l.2.2.2.2.1 0)
      · rw [if_pos c, if_neg (by rw [xcmp_lt]; unfold inb at c; omega), if_pos (by rw [xcmp_le]; unfold inb at c; omega)]
        have ev : w32 (suV (envM (wW W w v0)) l.2.2.2.2.1 0) = suV (envM (wW W w v0)) l.2.2.2.2.1 0 := w32i _ (by unfold inb at c; omega) (by unfold inb at c; omega)
        simp (disch := (first | assumption | with_reducible rfl | (simp only [LayC_sI, LayC_sJ, LayC_sA, LayC_sB, LayC_sIr, LayC_exc, LayM_sI, LayM_sJ, LayM_sA, LayM_sB, LayM_sIr, LayM_exc, LayK_sI, LayK_sJ, LayK_sA, LayK_sB, LayK_sIr, LayK_exc]; assumption) | omega | decide | (simp (disch := (first | decide | omega)) only [gI_sJ, gI_sB, gI_sP, gI_exc, gI_sIe, aI_sJ, aI_sB, aI_sP, aI_exc, aI_sAe, aJ_sI, aJ_sA, aJ_sP, aJ_sIr, aJ_exc, aJ_sBe, gJ_sI, gJ_sA, gJ_sP, gJ_sIr, gJ_exc, gP_sI, gP_sJ, gP_sA, gP_sB, gP_sIr, gP_exc, gI_sIn, gI_sIk, gI_sAn, gI_sIrn, aI_sIn, aI_sAn, aI_sIrn, aI_sAk, aJ_sJn, aJ_sBn, gJ_sJn, gJ_sBn, gJ_sJe, gS_sI, gS_sJ, gS_sP, gS_sA, gS_sB, gS_sIr, gS_exc, w32i, w64i]; first | done | assumption | omega))) only [↓b_xbs, ↓b_xthr, ↓b_xthl, ↓b_xctr, ↓b_xctl, ↓b_xz, ↓b_xzX, ↓b_xd, ↓if_pos, ↓if_neg, ↓mI113, ↓mW113, ↓mZ113, ↓mJ113, ↓mV113, ↓mR113, ↓mA114, ↓mS114, ↓mL114, ↓mA115, ↓mS115, ↓mL115, ↓mA116, ↓mS116, ↓mL116, ↓mA117, ↓mS117, ↓mL117, ↓mA118, ↓mS118, ↓mL118, ↓mA119, ↓mS119, ↓mL119, ↓mA120, ↓mS120, ↓mL120, ↓mA121, ↓mS121, ↓mL121, ↓mA122, ↓mS122, ↓mL122, ↓mA123, ↓mS123, ↓mL123, ↓mA124, ↓mS124, ↓mL124, ↓mA125, ↓mS125, ↓mL125, ↓mA126, ↓mS126, ↓mL126, ↓mP113_1, ↓mP113_2, ↓mP113_4, ↓mP113_11, ↓mP113_12, ↓mP113_16, ↓mP113_17, ↓mP113_18, ↓mP113_24, ↓mP113_25, ↓mP113_29, ↓mP113_30, i9, ev, e32]
        rfl
      · rw [if_neg c]
        have e111 : X12_goes_L111 F 113 w (W (9 + w)) g1 = some (0, sA g1 114 (9 + w) (W (9 + w))) := by
          unfold X12_goes_L111
          simp (disch := (first | assumption | with_reducible rfl | (simp only [LayC_sI, LayC_sJ, LayC_sA, LayC_sB, LayC_sIr, LayC_exc, LayM_sI, LayM_sJ, LayM_sA, LayM_sB, LayM_sIr, LayM_exc, LayK_sI, LayK_sJ, LayK_sA, LayK_sB, LayK_sIr, LayK_exc]; assumption) | omega | decide | (simp (disch := (first | decide | omega)) only [gI_sJ, gI_sB, gI_sP, gI_exc, gI_sIe, aI_sJ, aI_sB, aI_sP, aI_exc, aI_sAe, aJ_sI, aJ_sA, aJ_sP, aJ_sIr, aJ_exc, aJ_sBe, gJ_sI, gJ_sA, gJ_sP, gJ_sIr, gJ_exc, gP_sI, gP_sJ, gP_sA, gP_sB, gP_sIr, gP_exc, gI_sIn, gI_sIk, gI_sAn, gI_sIrn, aI_sIn, aI_sAn, aI_sIrn, aI_sAk, aJ_sJn, aJ_sBn, gJ_sJn, gJ_sBn, gJ_sJe, gS_sI, gS_sJ, gS_sP, gS_sA, gS_sB, gS_sIr, gS_exc, w32i, w64i]; first | done | assumption | omega))) only [↓b_xbs, ↓b_xthr, ↓b_xthl, ↓b_xctr, ↓b_xctl, ↓b_xz, ↓b_xzX, ↓b_xd, ↓if_pos, ↓if_neg, ↓mI113, ↓mW113, ↓mZ113, ↓mJ113, ↓mV113, ↓mR113, ↓mA114, ↓mS114, ↓mL114, ↓mA115, ↓mS115, ↓mL115, ↓mA116, ↓mS116, ↓mL116, ↓mA117, ↓mS117, ↓mL117, ↓mA118, ↓mS118, ↓mL118, ↓mA119, ↓mS119, ↓mL119, ↓mA120, ↓mS120, ↓mL120, ↓mA121, ↓mS121, ↓mL121, ↓mA122, ↓mS122, ↓mL122, ↓mA123, ↓mS123, ↓mL123, ↓mA124, ↓mS124, ↓mL124, ↓mA125, ↓mS125, ↓mL125, ↓mA126, ↓mS126, ↓mL126, ↓mP113_1, ↓mP113_2, ↓mP113_4, ↓mP113_11, ↓mP113_12, ↓mP113_16, ↓mP113_17, ↓mP113_18, ↓mP113_24, ↓mP113_25, ↓mP113_29, ↓mP113_30, i9]
        by_cases c1 : suV (envM (wW W w v0)) l.2.2.2.2.1 0 < -999999999
        · rw [if_pos (by rw [xcmp_lt]; exact c1), e111]
        · rw [if_neg (by rw [xcmp_lt]; exact c1), if_neg (by rw [xcmp_le]; unfold inb at c; omega), e111]
    by_cases c : inb (suV (envM (wW W w v0)) l.2.2.2.2.1 0)
    · have ox : Ox XM g (sA g1 114 (9 + w) (suV (envM (wW W w v0)) l.2.2.2.2.1 0)) := (og.x rfl).tr (Ox.A _ 114 _ _ rfl)
      obtain ⟨g', a1, a2, a3, a4⟩ := ih (l9 + 1) k _ _ (by omega) (by omega) (ox.M L) (by rw [aI_sAw _ _ _ hw.1, rW1, wW_wW]) (by unfold inb at c; unfold in32; omega)
      have es : setN W w l.2.2.2.2.1 (m + 1) v0 = setN W w l.2.2.2.2.1 m (suV (envM (wW W w v0)) l.2.2.2.2.1 0) := by
        show (if _ then _ else _) = _
        rw [if_pos c]
      rw [es]
      exact ⟨g', step _ (by rw [if_pos c]; exact a1), ox.tr a2, a3, a4⟩
    · have es : setN W w l.2.2.2.2.1 (m + 1) v0 = none := by
        show (if _ then _ else _) = _
        rw [if_neg c]
      rw [es]
      refine ⟨sA g1 114 (9 + w) (W (9 + w)), step _ (by rw [if_neg c]), (og.x rfl).tr (Ox.A _ 114 _ _ rfl), fun _ => ?_, fun u z => (by cases z)⟩
      rw [aI_sAw _ _ _ hw.1, rW1, wW_wW, wW_id]
end SM
