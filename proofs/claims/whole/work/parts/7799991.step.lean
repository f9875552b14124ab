/-! the running job's minute, the machine's minute -/
section SP
variable {F : Nat} {h : HP} {W : Int → Int}
theorem E_step (hF : 2000 ≤ F) (m : MC h W) (j : Nat) (h4 : W 4 = (j : Int)) : ∃ h' W1, xb (X4_runMachine_L43 F 9 h) (fun v5 h6 => X4_oneMinute_L37 F 9 v5 h6) = X4_oneMinute_L48 F 9 h' ∧ MS h h' W W1 ∧ ∀ g, LayM g → aI g 114 = W → ∃ g', X12_machine_L33 F 113 g = some ((), g') ∧ Ox XM g g' ∧ aI g' 114 = W1 := by
  obtain ⟨L, r, e5, hp⟩ := id m
  have g8 := r.2.1.g8
  have hj : (j : Int) < W 8 := by
    have q := r.2.1
    unfold GSc at q
    rw [← h4]; exact q.2.2.2.2.2.2.2.2.2.1
  have hj12 : j < 12 := by omega
  have n11 := r.2.2.2.2.2.2.2.2.2.2
  unfold RRn at n11
  rw [h4] at n11
  have st1 := n11 (by omega)
  have g0 := r.g j hj
  have l9 : 0 ≤ W (169 + 882 * (j : Int) + 9) := by
    unfold JBg at g0
    exact g0.2.2.2.2.2.2.2.2.2.2.2.2.2.2.2.2.2.1
  obtain ⟨-, s10, s12, -⟩ := r.st j hj
  have b9 : W (169 + 882 * (j : Int) + 9) ≤ 60 := by
    have q := g0
    unfold JBg at q
    exact q.2.2.2.2.2.2.2.2.2.2.2.2.2.2.2.2.2.2.1
  have e32 : Unit → w32 (W (169 + 882 * (j : Int) + 9) - 1) = W (169 + 882 * (j : Int) + 9) - 1 := fun _ => w32i _ (by omega) (by omega)
  have d10 : gI h 9 10 = j := r.1.2.2.2.2.1.trans h4
  have n9 : (9 : Nat) ≠ 25 + j := by omega
  have o12 : OC h (sI h (25 + j) 12 (W (169 + 882 * (j : Int) + 9) - 1)) := OC.I _ _ _ _ (by omega) (Or.inr (by decide))
  by_cases c : W (169 + 882 * (j : Int) + 9) - 1 ≤ 0
  · have r3 := r.w.left (h4 := -1) j hj (W (169 + 882 * (j : Int) + 9) - 1) (Or.inl rfl)
    have cl : X4_runMachine_L43 F 9 h = some ((j : Int), sI (sI h (25 + j) 12 (W (169 + 882 * (j : Int) + 9) - 1)) 9 10 (-1)) := by
      unfold X4_runMachine_L43
      rw [cP9_2 h _ L, cI9 h 10 _ L, d10, cR19 h _ L, b_xb _ _ _ _ (E_atj L j hj12), cIj h j 12 _ L hj12, s12, e32 (), cWj h j 12 _ _ L hj12, cIj _ j 12 _ (by exact L) hj12, gI_sIe, if_pos c, cI9 _ 10 _ (by exact L), gI_sIn _ _ _ _ 9 n9, d10, cW9 _ 10 _ _ (by exact L)]
    have v4 : sW (lefW W (169 + 882 * (j : Int)) (W (169 + 882 * (j : Int) + 9) - 1)) 4 (-1) 4 = -1 := sW_e _ _
    have vo : ∀ i : Int, i ≠ 4 → i ≠ 169 + 882 * (j : Int) + 9 → sW (lefW W (169 + 882 * (j : Int)) (W (169 + 882 * (j : Int) + 9) - 1)) 4 (-1) i = W i := fun i a b => by unfold lefW; rw [sW_n a, sW_n b]
    have gj3 : JBw (sW (lefW W (169 + 882 * (j : Int)) (W (169 + 882 * (j : Int) + 9) - 1)) 4 (-1)) (169 + 882 * (j : Int)) := JBw.cg (fun k a b c d e f => vo _ (by omega) (by omega)) (by rw [vo _ (by omega) (by omega)]; exact g0.w.i15.2.2.1) (by rw [vo _ (by omega) (by omega)]; exact g0.w.i15.1) g0.w
    have gk3 : ∀ k : Nat, (k : Int) < (sW (lefW W (169 + 882 * (j : Int)) (W (169 + 882 * (j : Int) + 9) - 1)) 4 (-1)) 8 → k ≠ j → JBg (sW (lefW W (169 + 882 * (j : Int)) (W (169 + 882 * (j : Int) + 9) - 1)) 4 (-1)) (169 + 882 * (k : Int)) := fun k hk e => by
      rw [vo 8 (by decide) (by omega)] at hk
      exact JBg.ot (W := W) g8.2 j (fun i a c d e => vo i (by omega) (by omega)) k hk e (r.g k hk)
    have pt : ptl (sW (lefW W (169 + 882 * (j : Int)) (W (169 + 882 * (j : Int) + 9) - 1)) 4 (-1)) = ptl W := ptl_w2 g8 (vo 8 (by decide) (by omega)) (vo 11356 (by decide) (by omega)) (fun k hk => vo _ (by omega) (by omega))
    have L3 : LayC (sI (sI h (25 + j) 12 (W (169 + 882 * (j : Int) + 9) - 1)) 9 10 (-1)) := L
    have o3 : OC h (sI (sI h (25 + j) 12 (W (169 + 882 * (j : Int) + 9) - 1)) 9 10 (-1)) := o12.tr (OC.I _ _ _ _ (by omega) (Or.inl (by decide)))
    have e53 : gI (sI (sI h (25 + j) 12 (W (169 + 882 * (j : Int) + 9) - 1)) 9 10 (-1)) 10 5 = -1 := by rw [gI_sIn _ _ _ _ _ (by decide), gI_sIn _ _ _ _ _ (by omega)]; exact e5
    have mg : ∀ g, LayM g → aI g 114 = W → ∀ R, (if W (169 + 882 * (j : Int) + 11) = 1 then xb (X12_goesShort F 113 j (sA (sA g 114 (169 + 882 * (j : Int) + 9) (W (169 + 882 * (j : Int) + 9) - 1)) 114 4 (-1))) (fun v h2 => (xrc h2 (some 113) 12 31).bind fun a => xb (X12_ends F a j v 3 h2) fun _ h3 => some ((), h3)) else xb (X12_goes F 113 j 3 (sA (sA g 114 (169 + 882 * (j : Int) + 9) (W (169 + 882 * (j : Int) + 9) - 1)) 114 4 (-1))) (fun v h2 => (xrc h2 (some 113) 12 31).bind fun a => xb (X12_ends F a j v 2 h2) fun _ h3 => some ((), h3))) = R → X12_machine_L33 F 113 g = R := by
      intro g LM rW R hR
      rw [← hR]
      have t9 := E_itW (F := F) LM rW hj12 9 (by omega)
      have S9 := E_sets (F := F) (h := g) (j : Int) 9 (W (169 + 882 * (j : Int) + 9) - 1) LM ⟨by omega, by omega, by decide, by decide⟩
      have L2 : LayM (sA g 114 (169 + 882 * (j : Int) + 9) (W (169 + 882 * (j : Int) + 9) - 1)) := LM
      have r2 : aI (sA g 114 (169 + 882 * (j : Int) + 9) (W (169 + 882 * (j : Int) + 9) - 1)) 114 = lefW W (169 + 882 * (j : Int)) (W (169 + 882 * (j : Int) + 9) - 1) := by rw [← rW]; exact aI_sAf g 114 _ _ (by omega)
      have t92 := E_itW (F := F) L2 r2 hj12 9 (by omega)
      rw [show lefW W (169 + 882 * (j : Int)) (W (169 + 882 * (j : Int) + 9) - 1) (169 + 882 * (j : Int) + 9) = W (169 + 882 * (j : Int) + 9) - 1 from sW_e _ _] at t92
      have L3 : LayM (sA (sA g 114 (169 + 882 * (j : Int) + 9) (W (169 + 882 * (j : Int) + 9) - 1)) 114 4 (-1)) := LM
      have r3' : aI (sA (sA g 114 (169 + 882 * (j : Int) + 9) (W (169 + 882 * (j : Int) + 9) - 1)) 114 4 (-1)) 114 = sW (lefW W (169 + 882 * (j : Int)) (W (169 + 882 * (j : Int) + 9) - 1)) 4 (-1) := by rw [← r2]; exact aI_sAf _ 114 4 _ (by decide)
      have t11 := E_itW (F := F) L3 r3' hj12 11 (by omega)
      rw [vo (169 + 882 * (j : Int) + 11) (by omega) (by omega)] at t11
      unfold X12_machine_L33
      rw [mP113_1 g _ LM, mA114 g 4 _ LM (by decide) (by decide), rW, h4, if_pos (by omega), mR113 g _ LM, b_xb _ _ _ _ t9, mR113 g _ LM, e32 (), b_xb _ _ _ _ S9, mR113 _ _ L2, b_xb _ _ _ _ t92, if_pos c, mP113_1 _ _ L2, mS114 _ 4 _ _ L2 (by decide) (by decide), mR113 _ _ L3, b_xb _ _ _ _ t11]
      by_cases w : W (169 + 882 * (j : Int) + 11) = 1
      · rw [if_pos w, if_pos w, mR113 _ _ L3]
      · rw [if_neg w, if_neg w, mR113 _ _ L3]
    have mw : ∀ g, LayM g → aI g 114 = W → LayM (sA (sA g 114 (169 + 882 * (j : Int) + 9) (W (169 + 882 * (j : Int) + 9) - 1)) 114 4 (-1)) ∧ aI (sA (sA g 114 (169 + 882 * (j : Int) + 9) (W (169 + 882 * (j : Int) + 9) - 1)) 114 4 (-1)) 114 = sW (lefW W (169 + 882 * (j : Int)) (W (169 + 882 * (j : Int) + 9) - 1)) 4 (-1) ∧ Ox XM g (sA (sA g 114 (169 + 882 * (j : Int) + 9) (W (169 + 882 * (j : Int) + 9) - 1)) 114 4 (-1)) := fun g LM rW => by
      refine ⟨LM, ?_, (Ox.A _ 114 _ _ rfl).tr (Ox.A _ 114 _ _ rfl)⟩
      rw [aI_sAf _ 114 4 _ (by decide), aI_sAf g 114 _ _ (by omega), rW]
      rfl
    have j1 : ¬ (j : Int) = -1 := by omega
    have v8 := vo 8 (by decide) (by omega)
    have vs : sW (lefW W (169 + 882 * (j : Int)) (W (169 + 882 * (j : Int) + 9) - 1)) 4 (-1) (169 + 882 * (j : Int) + 8) ≤ 1 := by rw [vo _ (by omega) (by omega), st1]; decide
    have v11 := vo (169 + 882 * (j : Int) + 11) (by omega) (by omega)
    have vn : sW (lefW W (169 + 882 * (j : Int)) (W (169 + 882 * (j : Int) + 9) - 1)) 4 (-1) 4 ≠ (j : Int) := by rw [v4]; omega
    have vp : ptl (sW (lefW W (169 + 882 * (j : Int)) (W (169 + 882 * (j : Int) + 9) - 1)) 4 (-1)) ≤ 5110 := by rw [pt]; exact hp
    have vj : (j : Int) < sW (lefW W (169 + 882 * (j : Int)) (W (169 + 882 * (j : Int) + 9) - 1)) 4 (-1) 8 := by rw [v8]; exact hj
    by_cases w : W (169 + 882 * (j : Int) + 11) = 1
    · obtain ⟨h', W1, a1, a2, a3, a4, a5, a6⟩ := E_finS (F := F) hF L3 r3 e53 j vj gj3 gk3 (by rw [v11]; exact w) vn vs vp
      refine ⟨h', W1, ?_, ⟨⟨a2.C L3, a4, a3, Int.le_trans a5 vp⟩, o3.tr a2, by rw [← pt]; exact a5⟩, fun g LM rW => ?_⟩
      · rw [b_xb _ _ _ _ cl]
        unfold X4_oneMinute_L37
        rw [if_neg j1, cR9 _ _ L3, b_xb _ _ _ _ a1]
      · obtain ⟨q1, q2, q3⟩ := mw g LM rW
        obtain ⟨g', z1, z2, z3⟩ := a6 _ q1 q2
        exact ⟨g', mg g LM rW _ (by rw [if_pos w]; exact z1), q3.tr z2, z3⟩
    · obtain ⟨h', W1, a1, a2, a3, a4, a5, a6⟩ := E_finT (F := F) hF L3 r3 e53 j vj gj3 gk3 1 3 2 (Or.inl ⟨rfl, rfl, rfl, by rw [v11]; exact w⟩) vn vs vp
      refine ⟨h', W1, ?_, ⟨⟨a2.C L3, a4, a3, Int.le_trans a5 vp⟩, o3.tr a2, by rw [← pt]; exact a5⟩, fun g LM rW => ?_⟩
      · rw [b_xb _ _ _ _ cl]
        unfold X4_oneMinute_L37
        rw [if_neg j1, cR9 _ _ L3, b_xb _ _ _ _ a1]
      · obtain ⟨q1, q2, q3⟩ := mw g LM rW
        obtain ⟨g', z1, z2, z3⟩ := a6 _ q1 q2
        exact ⟨g', mg g LM rW _ (by rw [if_neg w]; exact z1), q3.tr z2, z3⟩
  · have b21 : W (169 + 882 * (j : Int) + 9) ≤ W (169 + 882 * (j : Int) + 21) := by
      have q := g0
      unfold JBg at q
      exact q.2.2.2.2.2.2.2.2.2.2.2.2.2.2.2.2.2.2.2.2.2.2.2.2.2.2.2.2.2.1
    have r3 := r.left j hj (W (169 + 882 * (j : Int) + 9) - 1) ⟨by omega, by omega⟩ (by omega)
    have vo : ∀ i : Int, i ≠ 169 + 882 * (j : Int) + 9 → lefW W (169 + 882 * (j : Int)) (W (169 + 882 * (j : Int) + 9) - 1) i = W i := fun i b => sW_n b
    have pt : ptl (lefW W (169 + 882 * (j : Int)) (W (169 + 882 * (j : Int) + 9) - 1)) = ptl W := ptl_w2 g8 (vo 8 (by omega)) (vo 11356 (by omega)) (fun k hk => vo _ (by omega))
    have cl : X4_runMachine_L43 F 9 h = some (-1, sI h (25 + j) 12 (W (169 + 882 * (j : Int) + 9) - 1)) := by
      unfold X4_runMachine_L43
      rw [cP9_2 h _ L, cI9 h 10 _ L, d10, cR19 h _ L, b_xb _ _ _ _ (E_atj L j hj12), cIj h j 12 _ L hj12, s12, e32 (), cWj h j 12 _ _ L hj12, cIj _ j 12 _ (by exact L) hj12, gI_sIe, if_neg c]
    refine ⟨sI h (25 + j) 12 (W (169 + 882 * (j : Int) + 9) - 1), lefW W (169 + 882 * (j : Int)) (W (169 + 882 * (j : Int) + 9) - 1), ?_, ⟨⟨L, r3, ?_, by rw [pt]; exact hp⟩, o12, by rw [pt]; exact Int.le_refl _⟩, fun g LM rW => ?_⟩
    · rw [b_xb _ _ _ _ cl]
      unfold X4_oneMinute_L37
      rw [if_pos rfl]
    · rw [gI_sIn _ _ _ _ _ (by omega)]; exact e5
    · have t9 := E_itW (F := F) LM rW hj12 9 (by omega)
      have S9 := E_sets (F := F) (h := g) (j : Int) 9 (W (169 + 882 * (j : Int) + 9) - 1) LM ⟨by omega, by omega, by decide, by decide⟩
      have L2 : LayM (sA g 114 (169 + 882 * (j : Int) + 9) (W (169 + 882 * (j : Int) + 9) - 1)) := LM
      have r2 : aI (sA g 114 (169 + 882 * (j : Int) + 9) (W (169 + 882 * (j : Int) + 9) - 1)) 114 = lefW W (169 + 882 * (j : Int)) (W (169 + 882 * (j : Int) + 9) - 1) := by rw [← rW]; exact aI_sAf g 114 _ _ (by omega)
      have t92 := E_itW (F := F) L2 r2 hj12 9 (by omega)
      rw [show lefW W (169 + 882 * (j : Int)) (W (169 + 882 * (j : Int) + 9) - 1) (169 + 882 * (j : Int) + 9) = W (169 + 882 * (j : Int) + 9) - 1 from sW_e _ _] at t92
      refine ⟨sA g 114 (169 + 882 * (j : Int) + 9) (W (169 + 882 * (j : Int) + 9) - 1), ?_, Ox.A _ 114 _ _ rfl, r2⟩
      unfold X12_machine_L33
      rw [mP113_1 g _ LM, mA114 g 4 _ LM (by decide) (by decide), rW, h4, if_pos (by omega), mR113 g _ LM, b_xb _ _ _ _ t9, mR113 g _ LM, e32 (), b_xb _ _ _ _ S9, mR113 _ _ L2, b_xb _ _ _ _ t92, if_neg c]
/-- the machine's minute -/
theorem E_mach (hF : 2000 ≤ F) (m : MC h W) : ∃ h' W1, ((xgI h (some 9) 4 12 9).bind fun v3 => if v3 ≤ 0 then (xrc h (some 9) 4 12).bind fun a7 => xb (X4_runMachine F a7 h) fun v5 h6 => X4_oneMinute_L37 F 9 v5 h6 else (xgI h (some 9) 4 12 9).bind fun v8 => (xpI h (some 9) 4 12 9 (w32 (v8 - 1))).bind fun h9 => X4_oneMinute_L37 F 9 (-1) h9) = X4_oneMinute_L48 F 9 h' ∧ MS h h' W W1 ∧ ∀ g, LayM g → aI g 114 = W → ∃ g', X12_machine F 113 g = some ((), g') ∧ Ox XNm g g' ∧ aI g' 114 = W1 := by
  obtain ⟨L, r, e5, hp⟩ := id m
  have g8 := r.2.1.g8
  have gs := r.2.1
  unfold GSc at gs
  have d9 : gI h 9 9 = W 3 := r.1.2.2.2.1
  have d10 : gI h 9 10 = W 4 := r.1.2.2.2.2.1
  by_cases c : W 3 ≤ 0
  · by_cases c4 : 0 ≤ W 4
    · obtain ⟨j, hj⟩ := Int.eq_ofNat_of_zero_le c4
      obtain ⟨h', W1, a1, a2, a3⟩ := E_step hF m j hj
      refine ⟨h', W1, ?_, a2, fun g LM rW => ?_⟩
      · rw [cI9 h 9 _ L, d9, if_pos c, cR9 h _ L]
        unfold X4_runMachine
        rw [cI9 h 10 _ L, d10, if_neg (by omega)]
        exact a1
      · obtain ⟨g', z1, z2, z3⟩ := a3 g LM rW
        refine ⟨g', ?_, z2.toN, z3⟩
        unfold X12_machine
        rw [mP113_1 g _ LM, mA114 g 3 _ LM (by decide) (by decide), rW, if_pos c, mP113_1 g _ LM, mA114 g 4 _ LM (by decide) (by decide), rW, if_pos c4]
        exact z1
    · have e4 : W 4 = -1 := by omega
      rw [e4] at d10
      obtain ⟨o, ob⟩ := r.ord
      obtain ⟨v, y1, y2⟩ := E_nfm (F := F) hF L r ob
      have ob2 : (o = true ∧ ordOk W) ∨ (o = false ∧ ¬ ordOk W) := by
        rcases ob with ⟨a, b, c, d⟩ | ⟨a, b, c⟩
        · exact Or.inl ⟨a, c⟩
        · exact Or.inr ⟨a, c⟩
      rcases y2 with ⟨n1, n2⟩ | ⟨p, n0, n1, n2, n3, n4⟩
      · have iv : sI h 9 10 (-1) = h := sI_id _ _ _ _ d10
        refine ⟨h, W, ?_, MS.rf m, fun g LM rW => ?_⟩
        · rw [cI9 h 9 _ L, d9, if_pos c, cR9 h _ L]
          unfold X4_runMachine
          rw [cI9 h 10 _ L, d10, if_pos rfl, cP9_2 h _ L, cR19 h _ L, b_xb _ _ _ _ y1, n1, cW9 h 10 _ _ L, iv, cI9 h 10 _ L, d10, if_pos rfl]
          unfold X4_oneMinute_L37
          rw [b_xbs, if_pos rfl]
        · rcases E_begM (F := F) (v := v) hF LM rW g8 ob2 (Or.inl ⟨n1, n2⟩) with ⟨q, g', z1, z2, z3⟩ | ⟨q, g', q1, -⟩
          · refine ⟨g', ?_, z2, z3⟩
            unfold X12_machine
            rw [mP113_1 g _ LM, mA114 g 3 _ LM (by decide) (by decide), rW, if_pos c, mP113_1 g _ LM, mA114 g 4 _ LM (by decide) (by decide), rW, if_neg c4, mR113 g _ LM, b_xb _ _ _ _ z1]
            unfold X12_machine_L33
            rw [mP113_1 g' _ (z2.M LM), mA114 g' 4 _ (z2.M LM) (by decide) (by decide), z3, if_neg c4]
          · omega
      · obtain ⟨q, eq, hq⟩ := qOr_lt g8 ob p n1
        rw [eq] at n2 n3
        have hq12 : q < 12 := by omega
        obtain ⟨k9, k10, k12, k13, k0, k6, -⟩ := r.st q hq
        have rb := r.beg q hq
        have pb := ptl_beg (tot := totW W (169 + 882 * (q : Int))) g8 q hq n3.1
        have ob9 : OC h (begH h (25 + q) (totW W (169 + 882 * (q : Int))) q) := by
          unfold begH
          exact (((OC.I _ 9 10 _ (by decide) (Or.inl (by decide))).tr (OC.I _ _ _ _ (by omega) (Or.inr (by decide)))).tr (OC.I _ _ _ _ (by omega) (Or.inr (by decide)))).tr (OC.I _ _ _ _ (by omega) (Or.inr (by decide)))
        have e5b : gI (begH h (25 + q) (totW W (169 + 882 * (q : Int))) q) 10 5 = -1 := by
          unfold begH
          rw [gI_sIn _ _ _ _ 10 (by omega), gI_sIn _ _ _ _ 10 (by omega), gI_sIn _ _ _ _ 10 (by omega), gI_sIn _ _ _ _ 10 (by omega)]
          exact e5
        have mb : MC (begH h (25 + q) (totW W (169 + 882 * (q : Int))) q) (begW W (169 + 882 * (q : Int)) (totW W (169 + 882 * (q : Int))) q) := ⟨L, rb, e5b, by rw [pb]; exact hp⟩
        obtain ⟨h', W1, a1, a2, a3⟩ := E_step hF mb q (begW_v (by omega)).1
        refine ⟨h', W1, ?_, ⟨a2.1, ob9.tr a2.2.1, by rw [← pb]; exact a2.2.2⟩, fun g LM rW => ?_⟩
        · have bc := E_beginC (F := F) (h := sI h 9 10 (q : Int)) L q hq12 (W (169 + 882 * (q : Int) + 5)) (W (169 + 882 * (q : Int) + 0)) (W (169 + 882 * (q : Int) + 11)) (by rw [gI_sIn _ _ _ _ _ (by omega)]; exact k10) (by rw [gI_sIn _ _ _ _ _ (by omega)]; exact k6) (by rw [gI_sIn _ _ _ _ _ (by omega)]; exact k0)
          rw [cI9 h 9 _ L, d9, if_pos c, cR9 h _ L]
          unfold X4_runMachine
          rw [cI9 h 10 _ L, d10, if_pos rfl, cP9_2 h _ L, cR19 h _ L, b_xb _ _ _ _ y1, n2, cW9 h 10 _ _ L, cI9 _ 10 _ (by exact L), gI_sIe, if_neg (by omega), cP9_2 _ _ (by exact L), cI9 _ 10 _ (by exact L), gI_sIe, cR19 _ _ (by exact L), b_xb _ _ _ _ (E_atj (F := F) (h := sI h 9 10 (q : Int)) L q hq12), cRj _ q _ (by exact L) hq12, b_xb _ _ _ _ bc]
          exact a1
        · rcases E_begM (F := F) (v := v) hF LM rW g8 ob2 (Or.inr ⟨p, n0, n1, by rw [eq]; exact n2, by rw [eq]; exact n3, n4⟩) with ⟨q1, -⟩ | ⟨q', g', q1, q2, q3, z1, z2, z3⟩
          · omega
          · have eqq : q' = q := by omega
            subst eqq
            obtain ⟨g2, y1, y2, y3⟩ := a3 g' (z2.M LM) z3
            refine ⟨g2, ?_, z2.tr y2.toN, y3⟩
            unfold X12_machine
            rw [mP113_1 g _ LM, mA114 g 3 _ LM (by decide) (by decide), rW, if_pos c, mP113_1 g _ LM, mA114 g 4 _ LM (by decide) (by decide), rW, if_neg c4, mR113 g _ LM, b_xb _ _ _ _ z1]
            exact y1
  · have e32 : Unit → w32 (W 3 - 1) = W 3 - 1 := fun _ => w32i _ (by omega) (by omega)
    have vo : ∀ i : Int, i ≠ 3 → sW W 3 (W 3 - 1) i = W i := fun i q => sW_n q
    have v3 : sW W 3 (W 3 - 1) 3 = W 3 - 1 := sW_e _ _
    have s : SmX (fun a _ => decide (a = 9)) h (sI h 9 9 (W 3 - 1)) 0 0 := (SmX.rf _ h 0).uI 9 9 _ (by omega) (Or.inr (decide_eq_true rfl))
    have n11 := r.2.2.2.2.2.2.2.2.2.2
    obtain ⟨s1, s2, s3, s4, s5, s6, s7, s8, s9⟩ := r.1
    simp only [Nat.add_zero] at s1 s2 s3 s4 s5 s6 s7 s8 s9
    have r3 : RN (sI h 9 9 (W 3 - 1)) 0 (sW W 3 (W 3 - 1)) := by
      refine r.sc9 s ?_ ?_ (fun i a _ => vo i (by omega)) (vo 8 (by decide)) ?_
      · unfold RSc
        simp only [Nat.add_zero]
        rw [vo 0 (by decide), vo 1 (by decide), vo 2 (by decide), v3, vo 4 (by decide), vo 5 (by decide), vo 6 (by decide), vo 7 (by decide), vo 8 (by decide), gI_sIk _ 9 9 _ 6 (by decide), gI_sIk _ 9 9 _ 7 (by decide), gI_sIk _ 9 9 _ 8 (by decide), gI_sIe, gI_sIk _ 9 9 _ 10 (by decide), gI_sIk _ 9 9 _ 11 (by decide), gI_sIn _ 9 9 _ 51 (by decide), gI_sIn _ 9 9 _ 11 (by decide), gI_sIn _ 9 9 _ 19 (by decide)]
        exact ⟨s1, s2, s3, rfl, s5, s6, s7, s8, s9⟩
      · unfold GSc
        rw [vo 0 (by decide), vo 1 (by decide), vo 2 (by decide), v3, vo 4 (by decide), vo 5 (by decide), vo 6 (by decide), vo 8 (by decide)]
        obtain ⟨a1, a2, a3, a4, a5, a6, a7, a8, a9⟩ := gs
        exact ⟨a1, a2, a3, a4, a5, a6, by omega, by omega, a9⟩
      · intro q
        rw [vo 4 (by decide)] at q ⊢
        rw [vo (169 + 882 * W 4 + 8) (by omega)]
        exact n11 q
    have pt : ptl (sW W 3 (W 3 - 1)) = ptl W := ptl_w2 g8 (vo 8 (by decide)) (vo 11356 (by decide)) (fun k hk => vo _ (by omega))
    refine ⟨sI h 9 9 (W 3 - 1), sW W 3 (W 3 - 1), ?_, ⟨⟨L, r3, by rw [gI_sIn _ _ _ _ _ (by decide)]; exact e5, by rw [pt]; exact hp⟩, OC.I _ _ _ _ (by decide) (Or.inl (by decide)), by rw [pt]; exact Int.le_refl _⟩, fun g LM rW => ⟨sA g 114 3 (W 3 - 1), ?_, Ox.N g 3 _, by rw [aI_sAf _ 114 3 _ (by decide), rW]; rfl⟩⟩
    · rw [cI9 h 9 _ L, d9, if_neg c, cI9 h 9 _ L, d9, e32 (), cW9 h 9 _ _ L]
      unfold X4_oneMinute_L37
      rw [if_pos rfl]
    · unfold X12_machine
      rw [mP113_1 g _ LM, mA114 g 3 _ LM (by decide) (by decide), rW, if_neg c, mP113_1 g _ LM, mA114 g 3 _ LM (by decide) (by decide), rW, e32 (), mS114 g 3 _ _ LM (by decide) (by decide)]
end SP
