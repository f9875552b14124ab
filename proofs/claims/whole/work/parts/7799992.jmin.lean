/-! the clerks' minute, all minutes, the call -/
def ckB (W : Int → Int) (p : Nat) : Prop := W (169 + 882 * (p : Int) + 8) = 0 ∧ W (169 + 882 * (p : Int) + 11) = 2
def CK (W : Int → Int) (v p0 : Nat) : Prop := p0 ≤ v ∧ (v : Int) ≤ W 8 ∧ (∀ p : Nat, p0 ≤ p → p < v → ¬ ckB W p) ∧ ((v : Int) < W 8 → ckB W v)
theorem CK.next {W : Int → Int} {v p0 : Nat} (n : CK W v (p0 + 1)) (h : ¬ ckB W p0) : CK W v p0 := by
  obtain ⟨a, b, c, d⟩ := n
  refine ⟨by omega, b, fun p q1 q2 => ?_, d⟩
  by_cases x : p = p0
  · rw [x]; exact h
  · exact c p (by omega) q2
theorem CK.step {W : Int → Int} {v p0 : Nat} (n : CK W v p0) (h : ¬ ckB W p0) (hp : (p0 : Int) < W 8) : CK W v (p0 + 1) := by
  obtain ⟨a, b, c, d⟩ := n
  have x : v ≠ p0 := fun q => by rw [q] at d; exact h (d hp)
  exact ⟨by omega, b, fun p q1 q2 => c p (by omega) q2, d⟩
theorem CK.hit {W : Int → Int} {v p0 : Nat} (n : CK W v p0) (h : ckB W p0) : v = p0 := by
  obtain ⟨a, b, c, d⟩ := n
  rcases Nat.lt_or_ge p0 v with q | q
  · exact absurd h (c p0 (Nat.le_refl _) q)
  · omega
section CL
variable {F : Nat}
theorem E_ckC {h : HP} {W : Int → Int} (L : LayC h) (r : RN h 0 W) : ∀ (m p k : Nat), m < k → ((p + m : Nat) : Int) = W 8 → ∃ v : Nat, CK W v p ∧ X3_nextForClerks_L2 F k 19 p h = some (if (v : Int) < W 8 then (v : Int) else -1, h) := by
  have g8 := r.2.1.g8
  have e8 : gI h 19 5 = W 8 := r.1.2.2.2.2.2.2.2.2
  intro m
  induction m with
  | zero =>
    intro p k hk hp
    obtain ⟨k, rfl⟩ : ∃ k', k = k' + 1 := ⟨k - 1, by omega⟩
    refine ⟨p, ⟨Nat.le_refl _, by omega, fun p' q1 q2 => by omega, fun q => by omega⟩, ?_⟩
    show ((xgI h (some 19) 3 7 5).bind fun v1 => if v1 ≤ (p : Int) then _ else _) = _
    rw [cI19 h 5 _ L, e8, if_pos (by omega), if_neg (by omega)]
  | succ m ih =>
    intro p k hk hp
    obtain ⟨k, rfl⟩ : ∃ k', k = k' + 1 := ⟨k - 1, by omega⟩
    have e32 : Unit → w32 ((p : Int) + 1) = ((p + 1 : Nat) : Int) := fun _ => by rw [w32i _ (by omega) (by omega)]; omega
    have hp8 : (p : Int) < W 8 := by omega
    have hp12 : p < 12 := by omega
    obtain ⟨s9, s10, -⟩ := r.st p hp8
    obtain ⟨v, y1, y2⟩ := ih (p + 1) k (by omega) (by omega)
    have st : ∀ R, (if W (169 + 882 * (p : Int) + 8) = 0 then (if W (169 + 882 * (p : Int) + 11) = 2 then some ((p : Int), h) else X3_nextForClerks_L2 F k 19 ((p + 1 : Nat) : Int) h) else X3_nextForClerks_L2 F k 19 ((p + 1 : Nat) : Int) h) = R → X3_nextForClerks_L2 F (k + 1) 19 p h = R := by
      intro R hR
      rw [← hR]
      show ((xgI h (some 19) 3 7 5).bind fun v1 => if v1 ≤ (p : Int) then _ else _) = _
      rw [cI19 h 5 _ L, e8, if_neg (by omega), cR19 h _ L, b_xb _ _ _ _ (E_atj L p hp12), cIj h p 9 _ L hp12, s9]
      unfold X3_nextForClerks_L35
      rw [e32 ()]
      by_cases c : W (169 + 882 * (p : Int) + 8) = 0
      · rw [if_pos c, if_pos c, cR19 h _ L, b_xb _ _ _ _ (E_atj L p hp12), cIj h p 10 _ L hp12, s10]
        rfl
      · rw [if_neg c, if_neg c]
        rfl
    by_cases c : W (169 + 882 * (p : Int) + 8) = 0
    · rw [if_pos c] at st
      by_cases d : W (169 + 882 * (p : Int) + 11) = 2
      · rw [if_pos d] at st
        refine ⟨p, ⟨Nat.le_refl _, by omega, fun p' q1 q2 => by omega, fun _ => ⟨c, d⟩⟩, st _ ?_⟩
        rw [if_pos hp8]
      · rw [if_neg d] at st
        exact ⟨v, y1.next (fun q => d q.2), st _ y2⟩
    · rw [if_neg c] at st
      exact ⟨v, y1.next (fun q => c q.1), st _ y2⟩
theorem E_ckM {g : HP} {W : Int → Int} (L : LayM g) (rW : aI g 114 = W) (g8 : W 8 ≤ 12) (v : Nat) : ∀ (m p k : Nat), m < k → ((p + m : Nat) : Int) = W 8 → CK W v p → X12_clerks_L2 F k 113 p g = X12_clerks_L40 F 113 v g := by
  intro m
  induction m with
  | zero =>
    intro p k hk hp n
    obtain ⟨k, rfl⟩ : ∃ k', k = k' + 1 := ⟨k - 1, by omega⟩
    have e : v = p := by
      have := n.1
      have := n.2.1
      omega
    show ((xgP g (some 113) 12 31 1).bind fun v1 => (xaI g v1 100 8).bind fun v2 => if v2 ≤ (p : Int) then _ else _) = _
    rw [mP113_1 g _ L, mA114 g 8 _ L (by decide) (by decide), rW, if_pos (by omega), e]
  | succ m ih =>
    intro p k hk hp n
    obtain ⟨k, rfl⟩ : ∃ k', k = k' + 1 := ⟨k - 1, by omega⟩
    have e32 : Unit → w32 ((p : Int) + 1) = ((p + 1 : Nat) : Int) := fun _ => by rw [w32i _ (by omega) (by omega)]; omega
    have hp8 : (p : Int) < W 8 := by omega
    have t8 := E_itW (F := F) (j := p) L rW (by omega) 8 (by omega)
    have t11 := E_itW (F := F) (j := p) L rW (by omega) 11 (by omega)
    show ((xgP g (some 113) 12 31 1).bind fun v1 => (xaI g v1 100 8).bind fun v2 => if v2 ≤ (p : Int) then _ else _) = _
    rw [mP113_1 g _ L, mA114 g 8 _ L (by decide) (by decide), rW, if_neg (by omega), mR113 g _ L, b_xb _ _ _ _ t8]
    unfold X12_clerks_L34
    rw [e32 ()]
    by_cases c : W (169 + 882 * (p : Int) + 8) = 0
    · rw [if_pos c, mR113 g _ L, b_xb _ _ _ _ t11]
      by_cases d : W (169 + 882 * (p : Int) + 11) = 2
      · rw [if_pos d, n.hit ⟨c, d⟩]
      · rw [if_neg d]
        exact ih (p + 1) k (by omega) (by omega) (n.step (fun q => d q.2) hp8)
    · rw [if_neg c]
      exact ih (p + 1) k (by omega) (by omega) (n.step (fun q => c q.1) hp8)
theorem E_clerk {h : HP} {W : Int → Int} (hF : 2000 ≤ F) (m : MC h W) : ∃ h' W1, X4_oneMinute_L48 F 9 h = some ((), h') ∧ MS h h' W W1 ∧ ∀ g, LayM g → aI g 114 = W → ∃ g', X12_clerks F 113 g = some ((), g') ∧ Ox XM g g' ∧ aI g' 114 = W1 := by
  obtain ⟨L, r, e5, hp⟩ := id m
  have g8 := r.2.1.g8
  obtain ⟨v, ck, nc⟩ := E_ckC (F := F) L r (W 8).toNat 0 F (by omega) (by omega)
  have nc' : X3_nextForClerks F 19 h = some (if (v : Int) < W 8 then (v : Int) else -1, h) := nc
  have mc : ∀ g, LayM g → aI g 114 = W → X12_clerks F 113 g = X12_clerks_L40 F 113 v g := fun g LM rW => E_ckM (F := F) LM rW g8.2 v (W 8).toNat 0 F (by omega) (by omega) ck
  by_cases hv : (v : Int) < W 8
  · rw [if_pos hv] at nc'
    have hv12 : v < 12 := by omega
    obtain ⟨c8, c11⟩ := ck.2.2.2 hv
    obtain ⟨-, -, -, s13, -, -, s2⟩ := r.st v hv
    have g0 := r.g v hv
    have b31 : W (169 + 882 * (v : Int) + 10) < W (169 + 882 * (v : Int) + 2) := by
      have q := g0
      unfold JBg at q
      obtain ⟨Q0, Q1, Q2, Q3, Q4, Q5, Q6, Q7, Q8, Q9, Q10, Q11, Q12, Q13, Q14, Q15, Q16, Q17, Q18, Q19, Q20, Q21, Q22, Q23, Q24, Q25, Q26, Q27, Q28, Q29, Q30, Q31, Q32⟩ := q
      exact Q31 c8 c11
    have b5 : W (169 + 882 * (v : Int) + 2) ≤ 480 := by
      have q := g0
      unfold JBg at q
      exact q.2.2.2.2.2.1
    have b19 := g0.w.i15.2.2.1
    have e32 : Unit → w32 (W (169 + 882 * (v : Int) + 10) + 1) = W (169 + 882 * (v : Int) + 10) + 1 := fun _ => w32i _ (by omega) (by omega)
    have v1 : ¬ (v : Int) = -1 := by omega
    have cl : X4_runClerks F 9 h = some (if W (169 + 882 * (v : Int) + 10) + 1 < W (169 + 882 * (v : Int) + 2) then -1 else (v : Int), sI h (25 + v) 13 (W (169 + 882 * (v : Int) + 10) + 1)) := by
      unfold X4_runClerks
      rw [cP9_2 h _ L, cR19 h _ L, b_xb _ _ _ _ nc', if_neg v1, cP9_2 h _ L, cR19 h _ L, b_xb _ _ _ _ (E_atj L v hv12), cIj h v 13 _ L hv12, s13, e32 (), cWj h v 13 _ _ L hv12, cIj _ v 13 _ (by exact L) hv12, gI_sIe, cIj _ v 2 _ (by exact L) hv12, gI_sIk _ _ _ _ _ (by decide), s2]
    have o13 : OC h (sI h (25 + v) 13 (W (169 + 882 * (v : Int) + 10) + 1)) := OC.I _ _ _ _ (by omega) (Or.inr (by decide))
    have e53 : gI (sI h (25 + v) 13 (W (169 + 882 * (v : Int) + 10) + 1)) 10 5 = -1 := by rw [gI_sIn _ _ _ _ _ (by omega)]; exact e5
    have vo : ∀ i : Int, i ≠ 169 + 882 * (v : Int) + 10 → sW W (169 + 882 * (v : Int) + 10) (W (169 + 882 * (v : Int) + 10) + 1) i = W i := fun i q => sW_n q
    have pt : ptl (sW W (169 + 882 * (v : Int) + 10) (W (169 + 882 * (v : Int) + 10) + 1)) = ptl W := ptl_w2 g8 (vo 8 (by omega)) (vo 11356 (by omega)) (fun k hk => vo _ (by omega))
    have mg : ∀ g, LayM g → aI g 114 = W → LayM (sA g 114 (169 + 882 * (v : Int) + 10) (W (169 + 882 * (v : Int) + 10) + 1)) ∧ aI (sA g 114 (169 + 882 * (v : Int) + 10) (W (169 + 882 * (v : Int) + 10) + 1)) 114 = sW W (169 + 882 * (v : Int) + 10) (W (169 + 882 * (v : Int) + 10) + 1) ∧ ∀ R, (if W (169 + 882 * (v : Int) + 10) + 1 = W (169 + 882 * (v : Int) + 2) then xb (X12_goes F 113 v 2 (sA g 114 (169 + 882 * (v : Int) + 10) (W (169 + 882 * (v : Int) + 10) + 1))) (fun b h2 => (xrc h2 (some 113) 12 31).bind fun a => xb (X12_ends F a v b 4 h2) fun _ h3 => some ((), h3)) else some ((), sA g 114 (169 + 882 * (v : Int) + 10) (W (169 + 882 * (v : Int) + 10) + 1))) = R → X12_clerks F 113 g = R := by
      intro g LM rW
      have L2 : LayM (sA g 114 (169 + 882 * (v : Int) + 10) (W (169 + 882 * (v : Int) + 10) + 1)) := LM
      have r2 : aI (sA g 114 (169 + 882 * (v : Int) + 10) (W (169 + 882 * (v : Int) + 10) + 1)) 114 = sW W (169 + 882 * (v : Int) + 10) (W (169 + 882 * (v : Int) + 10) + 1) := by rw [← rW]; exact aI_sAf g 114 _ _ (by omega)
      refine ⟨L2, r2, fun R hR => ?_⟩
      rw [mc g LM rW, ← hR]
      have t10 := E_itW (F := F) LM rW hv12 10 (by omega)
      have S10 := E_sets (F := F) (h := g) (v : Int) 10 (W (169 + 882 * (v : Int) + 10) + 1) LM ⟨by omega, by omega, by decide, by decide⟩
      have t102 := E_itW (F := F) L2 r2 hv12 10 (by omega)
      rw [sW_e] at t102
      have t2 := E_itW (F := F) L2 r2 hv12 2 (by omega)
      rw [vo _ (by omega)] at t2
      unfold X12_clerks_L40
      rw [mP113_1 g _ LM, mA114 g 8 _ LM (by decide) (by decide), rW, if_neg (by omega), mR113 g _ LM, b_xb _ _ _ _ t10, mR113 g _ LM, e32 (), b_xb _ _ _ _ S10, mR113 _ _ L2, b_xb _ _ _ _ t102, mR113 _ _ L2, b_xb _ _ _ _ t2]
      by_cases w : W (169 + 882 * (v : Int) + 10) + 1 = W (169 + 882 * (v : Int) + 2)
      · rw [if_pos w, if_pos w, mR113 _ _ L2]
      · rw [if_neg w, if_neg w]
    by_cases w : W (169 + 882 * (v : Int) + 10) + 1 = W (169 + 882 * (v : Int) + 2)
    · have rw3 := r.w.hand v hv (W (169 + 882 * (v : Int) + 10) + 1)
      have gj3 : JBw (sW W (169 + 882 * (v : Int) + 10) (W (169 + 882 * (v : Int) + 10) + 1)) (169 + 882 * (v : Int)) := JBw.cg (fun k a b c d e f => vo _ (by omega)) (by rw [sW_e]; exact ⟨by omega, by omega⟩) (by rw [vo _ (by omega)]; exact g0.w.i15.1) g0.w
      have gk3 : ∀ k : Nat, (k : Int) < sW W (169 + 882 * (v : Int) + 10) (W (169 + 882 * (v : Int) + 10) + 1) 8 → k ≠ v → JBg (sW W (169 + 882 * (v : Int) + 10) (W (169 + 882 * (v : Int) + 10) + 1)) (169 + 882 * (k : Int)) := fun k hk e => by
        rw [vo 8 (by omega)] at hk
        exact JBg.ot (W := W) g8.2 v (fun i a c d e => vo i (by omega)) k hk e (r.g k hk)
      have hn : W 4 ≠ (v : Int) := fun e => by
        have n11 := r.2.2.2.2.2.2.2.2.2.2
        unfold RRn at n11
        rw [e] at n11
        have := n11 (by omega)
        omega
      obtain ⟨h', W1, a1, a2, a3, a4, a5, a6⟩ := E_finT (F := F) (h := sI h (25 + v) 13 (W (169 + 882 * (v : Int) + 10) + 1)) hF L rw3 e53 v (by rw [vo 8 (by omega)]; exact hv) gj3 gk3 0 2 4 (Or.inr ⟨rfl, rfl, rfl⟩) (by rw [vo 4 (by omega)]; exact hn) (by rw [vo _ (by omega), c8]; decide) (by rw [pt]; exact hp)
      refine ⟨h', W1, ?_, ⟨⟨a2.C L, a4, a3, by rw [← pt] at hp; exact Int.le_trans a5 hp⟩, o13.tr a2, by rw [← pt]; exact a5⟩, fun g LM rW => ?_⟩
      · unfold X4_oneMinute_L48
        rw [if_neg (show ¬ W (169 + 882 * (v : Int) + 10) + 1 < W (169 + 882 * (v : Int) + 2) by omega)] at cl
        rw [cR9 h _ L, b_xb _ _ _ _ cl, if_neg v1, cR9 _ _ (by exact L), b_xb _ _ _ _ a1]
      · obtain ⟨q1, q2, q3⟩ := mg g LM rW
        obtain ⟨g', z1, z2, z3⟩ := a6 _ q1 q2
        exact ⟨g', q3 _ (by rw [if_pos w]; exact z1), (Ox.A _ 114 _ _ rfl).tr z2, z3⟩
    · have r3 := r.hand v hv (W (169 + 882 * (v : Int) + 10) + 1) ⟨by omega, by omega⟩ c11 (by omega)
      refine ⟨sI h (25 + v) 13 (W (169 + 882 * (v : Int) + 10) + 1), sW W (169 + 882 * (v : Int) + 10) (W (169 + 882 * (v : Int) + 10) + 1), ?_, ⟨⟨L, r3, e53, by rw [pt]; exact hp⟩, o13, by rw [pt]; exact Int.le_refl _⟩, fun g LM rW => ?_⟩
      · unfold X4_oneMinute_L48
        rw [if_pos (show W (169 + 882 * (v : Int) + 10) + 1 < W (169 + 882 * (v : Int) + 2) by omega)] at cl
        rw [cR9 h _ L, b_xb _ _ _ _ cl, if_pos rfl]
      · obtain ⟨q1, q2, q3⟩ := mg g LM rW
        exact ⟨_, q3 _ (by rw [if_neg w]), Ox.A _ 114 _ _ rfl, q2⟩
  · rw [if_neg hv] at nc'
    refine ⟨h, W, ?_, MS.rf m, fun g LM rW => ⟨g, ?_, Ox.rf _ _, rW⟩⟩
    · unfold X4_oneMinute_L48 X4_runClerks
      rw [cR9 h _ L, cP9_2 h _ L, cR19 h _ L, b_xb _ _ _ _ nc', if_pos rfl, b_xbs, if_pos rfl]
    · have q := ck.2.1
      rw [mc g LM rW]
      unfold X12_clerks_L40
      rw [mP113_1 g _ LM, mA114 g 8 _ LM (by decide) (by decide), rW, if_pos (by omega)]
/-- the minute's own cell -/
def miW (W : Int → Int) (v : Int) : Int → Int := fun x => if x ≤ 0 then v else W x
theorem aI_sA0 (h : HP) (a : Nat) (v : Int) : aI (sA h a 0 v) a = miW (aI h a) v := by
  funext x
  unfold miW
  show gI (sI h a 0 v) a x.toNat = _
  by_cases c : x ≤ 0
  · rw [if_pos c, show x.toNat = 0 by omega, gI_sIe]
  · rw [if_neg c, gI_sIk _ _ _ _ _ (by omega)]
    rfl
theorem E_minute {h : HP} {W : Int → Int} (hF : 2000 ≤ F) (m : MC h W) (h0 : W 0 < 480) : ∃ h' W1, X4_oneMinute F 9 h = some ((), h') ∧ MS h h' W W1 ∧ ∀ g, LayM g → aI g 114 = W → ∃ g', (∀ R : HP → Option (Int × HP), ((xgP g (some 113) 12 31 1).bind fun v6 => (xaI g v6 100 0).bind fun v7 => (xsI g v6 0 (w32 (v7 + 1))).bind fun h8 => (xrc h8 (some 113) 12 31).bind fun a11 => xb (X12_machine F a11 h8) fun _ h10 => (xrc h10 (some 113) 12 31).bind fun a14 => xb (X12_clerks F a14 h10) fun _ h13 => R h13) = R g') ∧ Ox XNm g g' ∧ aI g' 114 = W1 := by
  obtain ⟨L, r, e5, hp⟩ := id m
  have g8 := r.2.1.g8
  have d6 : gI h 9 6 = W 0 := r.1.1
  have p0 : 0 ≤ W 0 := r.2.1.1
  have e32 : Unit → w32 (W 0 + 1) = W 0 + 1 := fun _ => w32i _ (by omega) (by omega)
  have vo : ∀ i : Int, 0 < i → miW W (W 0 + 1) i = W i := fun i q => if_neg (by omega)
  have v0 : miW W (W 0 + 1) 0 = W 0 + 1 := if_pos (by decide)
  have s : SmX (fun a _ => decide (a = 9)) h (sI h 9 6 (W 0 + 1)) 0 0 := (SmX.rf _ h 0).uI 9 6 _ (by omega) (Or.inr (decide_eq_true rfl))
  have n11 := r.2.2.2.2.2.2.2.2.2.2
  obtain ⟨s1, s2, s3, s4, s5, s6, s7, s8, s9⟩ := r.1
  simp only [Nat.add_zero] at s1 s2 s3 s4 s5 s6 s7 s8 s9
  have r3 : RN (sI h 9 6 (W 0 + 1)) 0 (miW W (W 0 + 1)) := by
    refine r.sc9 s ?_ ?_ (fun i a _ => vo i (by omega)) (vo 8 (by decide)) ?_
    · unfold RSc
      simp only [Nat.add_zero]
      rw [v0, vo 1 (by decide), vo 2 (by decide), vo 3 (by decide), vo 4 (by decide), vo 5 (by decide), vo 6 (by decide), vo 7 (by decide), vo 8 (by decide), gI_sIe, gI_sIk _ 9 6 _ 7 (by decide), gI_sIk _ 9 6 _ 8 (by decide), gI_sIk _ 9 6 _ 9 (by decide), gI_sIk _ 9 6 _ 10 (by decide), gI_sIk _ 9 6 _ 11 (by decide), gI_sIn _ 9 6 _ 51 (by decide), gI_sIn _ 9 6 _ 11 (by decide), gI_sIn _ 9 6 _ 19 (by decide)]
      exact ⟨rfl, s2, s3, s4, s5, s6, s7, s8, s9⟩
    · have gs := r.2.1
      unfold GSc at gs ⊢
      rw [v0, vo 1 (by decide), vo 2 (by decide), vo 3 (by decide), vo 4 (by decide), vo 5 (by decide), vo 6 (by decide), vo 8 (by decide)]
      obtain ⟨a1, a2, a3⟩ := gs
      exact ⟨by omega, by omega, a3⟩
    · intro q
      rw [vo 4 (by decide)] at q ⊢
      rw [vo (169 + 882 * W 4 + 8) (by omega)]
      exact n11 q
  have pt : ptl (miW W (W 0 + 1)) = ptl W := ptl_w2 g8 (vo 8 (by decide)) (vo 11356 (by decide)) (fun k hk => vo _ (by omega))
  have m1 : MC (sI h 9 6 (W 0 + 1)) (miW W (W 0 + 1)) := ⟨L, r3, by rw [gI_sIn _ _ _ _ _ (by decide)]; exact e5, by rw [pt]; exact hp⟩
  have ms1 : MS h (sI h 9 6 (W 0 + 1)) W (miW W (W 0 + 1)) := ⟨m1, OC.I _ _ _ _ (by decide) (Or.inl (by decide)), by rw [pt]; exact Int.le_refl _⟩
  obtain ⟨h2, W2, a1, a2, a3⟩ := E_mach (F := F) hF m1
  obtain ⟨h3, W3, b1, b2, b3⟩ := E_clerk (F := F) hF a2.1
  refine ⟨h3, W3, ?_, (ms1.tr a2).tr b2, fun g LM rW => ?_⟩
  · unfold X4_oneMinute
    rw [cI9 h 6 _ L, d6, e32 (), cW9 h 6 _ _ L]
    exact a1.trans b1
  · have L1 : LayM (sA g 114 0 (W 0 + 1)) := LM
    have r1 : aI (sA g 114 0 (W 0 + 1)) 114 = miW W (W 0 + 1) := by rw [aI_sA0, rW]
    obtain ⟨g2, c1, c2, c3⟩ := a3 _ L1 r1
    obtain ⟨g3, d1, d2, d3⟩ := b3 g2 (c2.M L1) c3
    refine ⟨g3, fun R => ?_, ((Ox.N g 0 _).tr c2).tr d2.toN, d3⟩
    rw [mP113_1 g _ LM, mA114 g 0 _ LM (by decide) (by decide), rW, e32 (), mS114 g 0 _ _ LM (by decide) (by decide), mR113 _ _ L1, b_xb _ _ _ _ c1, mR113 g2 _ (c2.M L1), b_xb _ _ _ _ d1]
theorem E_mins {n : Nat} (hn : n ≤ 120) (hF : 2000 ≤ F) : ∀ (m i k : Nat) (h : HP) (W : Int → Int), i + m = n → m < k → MC h W → ∃ h' W1, X11_minutes_L9 F k 1 n i h = some (.inr (W1 0), h') ∧ MS h h' W W1 ∧ ∀ g, LayM g → aI g 114 = W → ∃ g', X12_minutes_L32 F k 113 n i g = some (W1 0, g') ∧ Ox XNm g g' ∧ aI g' 114 = W1 := by
  intro m
  induction m with
  | zero =>
    intro i k h W hi hk m
    obtain ⟨k, rfl⟩ : ∃ k', k = k' + 1 := ⟨k - 1, by omega⟩
    have L := m.1
    have d6 : gI h 9 6 = W 0 := m.2.1.1.1
    refine ⟨h, W, ?_, MS.rf m, fun g LM rW => ⟨g, ?_, Ox.rf _ _, rW⟩⟩
    · show (if (n : Int) ≤ i then X11_minutes_L40 F 1 h else _) = _
      unfold X11_minutes_L40
      rw [if_pos (by omega), cP1_2 h _ L, cI9 h 6 _ L, d6]
    · show (if (n : Int) ≤ i then X12_minutes_L71 F 113 g else _) = _
      unfold X12_minutes_L71
      rw [if_pos (by omega), mR113 g _ LM, b_xb _ _ _ _ (E_now (F := F) LM), rW]
  | succ m ih =>
    intro i k h W hi hk mm
    obtain ⟨k, rfl⟩ : ∃ k', k = k' + 1 := ⟨k - 1, by omega⟩
    have L := mm.1
    have d6 : gI h 9 6 = W 0 := mm.2.1.1.1
    have e32 : Unit → w32 ((i : Int) + 1) = ((i + 1 : Nat) : Int) := fun _ => by rw [w32i _ (by omega) (by omega)]; omega
    by_cases c : 480 ≤ W 0
    · refine ⟨h, W, ?_, MS.rf mm, fun g LM rW => ⟨g, ?_, Ox.rf _ _, rW⟩⟩
      · show (if (n : Int) ≤ i then X11_minutes_L40 F 1 h else (xgP h (some 1) 11 6 2).bind fun v2 => (xgI h v2 4 12 6).bind fun v3 => if 480 ≤ v3 then X11_minutes_L40 F 1 h else _) = _
        unfold X11_minutes_L40
        rw [if_neg (by omega), cP1_2 h _ L, cI9 h 6 _ L, d6, if_pos c, cP1_2 h _ L, cI9 h 6 _ L, d6]
      · show (if (n : Int) ≤ i then X12_minutes_L71 F 113 g else (xrc g (some 113) 12 31).bind fun a4 => xb (X12_now F a4 g) fun v2 h3 => if 480 ≤ v2 then X12_minutes_L71 F 113 h3 else _) = _
        unfold X12_minutes_L71
        rw [if_neg (by omega), mR113 g _ LM, b_xb _ _ _ _ (E_now (F := F) LM), rW, if_pos c, mR113 g _ LM, b_xb _ _ _ _ (E_now (F := F) LM), rW]
    · obtain ⟨h1, W1, a1, a2, a3⟩ := E_minute (F := F) hF mm (by omega)
      obtain ⟨h2, W2, b1, b2, b3⟩ := ih (i + 1) k h1 W1 (by omega) (by omega) a2.1
      refine ⟨h2, W2, ?_, a2.tr b2, fun g LM rW => ?_⟩
      · show (if (n : Int) ≤ i then X11_minutes_L40 F 1 h else (xgP h (some 1) 11 6 2).bind fun v2 => (xgI h v2 4 12 6).bind fun v3 => if 480 ≤ v3 then X11_minutes_L40 F 1 h else (xgP h (some 1) 11 6 2).bind fun v5 => (xrc h v5 4 12).bind fun a8 => xb (X4_oneMinute F a8 h) fun v6 h7 => X11_minutes_L9 F k 1 n (w32 ((i : Int) + 1)) h7) = _
        rw [if_neg (by omega), cP1_2 h _ L, cI9 h 6 _ L, d6, if_neg c, cP1_2 h _ L, cR9 h _ L, b_xb _ _ _ _ a1, e32 ()]
        exact b1
      · obtain ⟨g1, c1, c2, c3⟩ := a3 g LM rW
        obtain ⟨g2, d1, d2, d3⟩ := b3 g1 (c2.M LM) c3
        refine ⟨g2, ?_, c2.tr d2, d3⟩
        show (if (n : Int) ≤ i then X12_minutes_L71 F 113 g else (xrc g (some 113) 12 31).bind fun a4 => xb (X12_now F a4 g) fun v2 h3 => if 480 ≤ v2 then X12_minutes_L71 F 113 h3 else (xgP h3 (some 113) 12 31 1).bind fun v6 => (xaI h3 v6 100 0).bind fun v7 => (xsI h3 v6 0 (w32 (v7 + 1))).bind fun h8 => (xrc h8 (some 113) 12 31).bind fun a11 => xb (X12_machine F a11 h8) fun _ h10 => (xrc h10 (some 113) 12 31).bind fun a14 => xb (X12_clerks F a14 h10) fun _ h13 => X12_minutes_L32 F k 113 n (w32 ((i : Int) + 1)) h13) = _
        rw [if_neg (by omega), mR113 g _ LM, b_xb _ _ _ _ (E_now (F := F) LM), rW, if_neg c, c1 (fun h13 => X12_minutes_L32 F k 113 n (w32 ((i : Int) + 1)) h13), e32 ()]
        exact d1
theorem Ox.S {h h' : HP} (o : Ox XNm h h') (b : Nat) (hb : b ≤ 47) : SmN h h' b b := by
  have z : ∀ a, (a < 114 ∨ 120 < a) → XNm a = false := fun a q => decide_eq_false (by omega)
  refine ⟨fun a k h1 h2 _ _ => by rw [(o.1 _ (z _ (by omega))).1], fun j _ => by rw [o.2.1], fun t ht _ => ?_, by rw [o.2.2.2.1]; exact Nat.le_refl _⟩
  obtain ⟨x1, x2⟩ := o.1 t (z t (by omega))
  exact ⟨x1, x2, by rw [o.2.1], by rw [o.2.2.1]⟩
theorem SmN.tr {a b c : HP} {p q s : Nat} (x : SmN a b p q) (y : SmN b c q s) : SmN a c p s :=
  ⟨fun i k h1 h2 h3 h4 => (y.1 i k h1 h2 h3 h4).trans (x.1 i k h1 h2 h3 h4), fun j hj => (y.2.1 j hj).trans (x.2.1 j hj), fun t h1 h2 => by
    obtain ⟨a1, a2, a3, a4⟩ := x.2.2.1 t h1 h2
    obtain ⟨b1, b2, b3, b4⟩ := y.2.2.1 t h1 (Nat.le_trans h2 x.2.2.2)
    exact ⟨b1.trans a1, b2.trans a2, b3.trans a3, b4.trans a4⟩, Nat.le_trans x.2.2.2 y.2.2.2⟩
theorem J_minutes {h : HP} {n : Int} (hF : 60000 ≤ F) (r : RA n h) (hn : n < 512) (a : Int) : ∃ k h1 v h2, XL_minutes F (some 1) a (some 126) h = some (k, h1) ∧ X12_minutes F 113 a h1 = some (v, h2) ∧ OKJ n k v h2 := by
  have L := r.1
  have LK := r.2.1
  have LM := r.2.2.1
  have L6 := r.2.2.2.2.2.1
  have e10 := r.2.2.2.2.2.2.1
  have R := r.rf
  have G := r.gf
  by_cases c0 : 0 ≤ a ∧ a ≤ 120
  · obtain ⟨na, rfl⟩ := Int.eq_ofNat_of_zero_le c0.1
    have pp := r.pt
    have m : MC h (aI h 114) := ⟨L, r.N, e10, by omega⟩
    obtain ⟨h', W1, a1, a2, a3⟩ := E_mins (F := F) (n := na) (by omega) (by omega) na 0 F h (aI h 114) (Nat.zero_add _) (by omega) m
    obtain ⟨⟨L1, rn1, e51, -⟩, oc, pl⟩ := a2
    have LM2 : LayM (sI (sJ h' 126 0 (W1 0)) 113 0 0) := oc.M LM
    have rW2 : aI (sI (sJ h' 126 0 (W1 0)) 113 0 0) 114 = aI h 114 := by
      rw [aI_sIn _ _ _ _ _ (by decide)]
      funext i
      show gI h' 114 _ = gI h 114 _
      rw [oc.1 114 (by omega)]
    obtain ⟨g', b1, b2, b3⟩ := a3 _ LM2 rW2
    have z : ∀ a, (a < 114 ∨ 120 < a) → XNm a = false := fun a q => decide_eq_false (by omega)
    have GG : ∀ a k, (a < 9 ∨ 36 < a) → (a < 114 ∨ 120 < a) → ¬ (a = 113 ∧ k = 0) → gI g' a k = gI h a k := fun a k q1 q2 q3 => by
      rw [(b2.1 a (z a q2)).1, gI_sI, if_neg q3]
      show gI h' a k = gI h a k
      rw [oc.1 a q1]
    have G5 : ∀ a k, (a = 115 ∨ a = 116) → gI g' a k = gI h a k := fun a k q => by
      rw [(b2.1 a (decide_eq_false (by omega))).1, gI_sI, if_neg (by omega)]
      show gI h' a k = gI h a k
      rw [oc.1 a (by omega)]
    have LC9 : LayC g' := b2.C (L1 : LayC (sI (sJ h' 126 0 (W1 0)) 113 0 0))
    have LK9 : LayK g' := (oc.K LK : LayK (sI (sJ h' 126 0 (W1 0)) 113 0 0)).of b2.2.2.1 b2.2.1
    have s0 : SmN h' (sI (sJ h' 126 0 (W1 0)) 113 0 0) 0 0 := ((SmX.rf noX h' 0).uJ 126 0 _ (by decide)).uI 113 0 _ (by decide) (Or.inl (by decide))
    have s47 : SmN h' (sI (sJ h' 126 0 (W1 0)) 113 0 0) 47 47 := ((SmX.rf noX h' 47).uJ 126 0 _ (by decide)).uIk 113 0 _ (by decide) (by decide)
    refine ⟨0, sJ h' 126 0 (W1 0), W1 0, g', ?_, ?_, ?_, fun _ => ?_, ?_⟩
    · unfold XL_minutes X11_minutes
      have nn := E_needNumber0 (F := F) (h := h) (na : Int) 0 120 c0
      rw [cR1 h _ L, nn, b_xthr]
      rw [show X11_minutes_L9 F F 1 (na : Int) 0 h = some (.inr (W1 0), h') from a1, b_xctr, b_s126 h' _ _ (by rw [oc.2.2.2.1]; exact L6)]
    · unfold X12_minutes X12_minutes_L21
      have i1 := E_in1 (F := F) (h := sI (sJ h' 126 0 (W1 0)) 113 0 0) (na : Int) 0 120 c0
      have t0 := E_throws0 (F := F) (h := sI (sJ h' 126 0 (W1 0)) 113 0 0) 1 LM2
      rw [mW113 _ 0 _ _ (by exact LM2), b_xb _ _ _ _ i1, if_neg (by decide), mR113 _ _ LM2, b_xb _ _ _ _ t0, if_pos rfl]
      exact b1
    · rw [(b2.1 113 (z 113 (by decide))).1, gI_sIe]
    · rw [(b2.1 126 (z 126 (by decide))).2]
      show gJ (sJ h' 126 0 (W1 0)) 126 0 = W1 0
      rw [gJ_sJe]
    · refine r.M LC9 LK9 (b2.M LM2) (b2.2.2.2.1.trans oc.2.2.2.2.1) (b2.2.2.1.trans oc.2.2.2.1) ?_ (GG 1 4 (by decide) (by decide) (by decide)) (GG 113 3 (by decide) (by decide) (by decide)) (GG 107 0 (by decide) (by decide) (by decide)) (GG 108 0 (by decide) (by decide) (by decide)) (GG 109 0 (by decide) (by decide) (by decide)) (GG 110 0 (by decide) (by decide) (by decide)) (GG 111 0 (by decide) (by decide) (by decide)) ?_ ?_ ?_ ?_ ?_ (b2.2.2.2.2.1.trans oc.2.2.2.2.2.1) (b2.2.2.2.2.2.trans oc.2.2.2.2.2.2.1) (fun j hj => ?_)
      · rw [(b2.1 10 (z 10 (by decide))).1, gI_sIn _ _ _ _ _ (by decide), e10]
        exact e51
      · have t := r.tp
        have A3 : aI g' 3 = aI h 3 := by funext i; exact GG 3 _ (by decide) (by decide) (by omega)
        have A6 : aI g' 116 = aI h 116 := by funext i; exact G5 116 _ (Or.inr rfl)
        unfold RTp at t ⊢
        rw [GG 2 1 (by decide) (by decide) (by decide), GG 113 5 (by decide) (by decide) (by decide), GG 1 1 (by decide) (by decide) (by decide), GG 113 10 (by decide) (by decide) (by decide), A3, A6]
        exact t
      · rw [b3]
        exact (rn1.cg s0 (fun _ _ _ => rfl)).cg (b2.S 0 (by decide)) (fun _ _ _ => rfl)
      · rw [b3]; omega
      · exact (oc.k.tr s47).tr (b2.S 47 (by decide))
      · funext i
        exact G5 115 _ (Or.inl rfl)
      · rw [(b2.1 (25 + j) (z _ (by omega))).1, gI_sIn _ _ _ _ _ (by omega)]
        exact oc.2.2.2.2.2.2.2 j hj
  · exact ⟨1, exc h, _, _, XC_minutes_1 L R G a c0, XM_minutes_1 (h := exc h) LM G a c0, OKJ.x r (by decide)⟩
end CL
