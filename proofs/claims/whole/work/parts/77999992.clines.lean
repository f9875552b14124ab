/-! the class reads a line -/
def rdl (l : Lin) (i : Nat) : Bool := if l.1 = 0 then rdS l.2.2.2.2.1 i else if l.1 = 1 then decide (l.2.2.1 ≤ (i : Int)) && decide ((i : Int) ≤ l.2.2.2.1) else if l.1 = 2 then decide (l.2.1 = (i : Int)) else rdC l.2.2.2.2.2 i
def wrl (l : Lin) (i : Nat) : Bool := decide (l.1 < 3) && decide (l.2.1 = (i : Int))
theorem dec_w (w i : Nat) : decide ((w : Int) = (i : Int)) = decide (i = w) := by
  by_cases q : i = w
  · rw [decide_eq_true q, decide_eq_true (by omega)]
  · rw [decide_eq_false q, decide_eq_false (by omega)]
section LN
variable {F : Nat} {K N B : Nat → Int} {T : Nat} {rd wr : Nat → Bool} {j : Nat} {cd : List Int} {nm : Nat → Bool} {h : HP}
theorem SC.wrc {wr' : Nat → Bool} (d : SC K N B T h j cd nm rd wr) (e : ∀ i, i < 64 → wr' i = wr i) : SC K N B T h j cd nm rd wr' := by
  obtain ⟨L, d1, d2, d3, d4, d5, d6, d7, d8, d9, d10, d11⟩ := d
  exact ⟨L, d1, d2, d3, d4, d5, d6, d7, d8, d9, fun i hi => (d10 i hi).trans (e i hi).symm, d11⟩
theorem T_tgt1 (o : okK K N T) (d : SC K N B T h j cd nm rd wr) (z : Int) (e : K j = -2 ∧ 16 ≤ N j ∧ N j ≤ 63) (room : cd.length + 2 ≤ 1208) : ∃ h', X8_takeTarget F 2 z h = some (1, h') ∧ SC K N B T h' (j + 1) (cd ++ [z, N j]) nm rd (fun i => wr i || decide (N j = (i : Int))) ∧ OT h h' ∧ gI h' 2 7 = N j := by
  have L := d.1
  have lt := o.lt (j := j) (by omega)
  have d1 := (d.fld 7 (N j) (by decide)).at (j + 1) (by omega)
  obtain ⟨h1, p1, p2, p3, p4, p5⟩ := T_emit (F := F) d1 z (by omega)
  have l1 : (cd ++ [z]).length = cd.length + 1 := by rw [List.length_append]; rfl
  obtain ⟨h2, q1, q2, q3, q4, q5⟩ := T_emit (F := F) p2 (N j) (by omega)
  obtain ⟨w, hw⟩ := Int.eq_ofNat_of_zero_le (show 0 ≤ N j by omega)
  have w64 : w < 64 := by omega
  have d3 := q2.bit15 w w64
  have g1 : gI h1 2 7 = N j := by rw [p4 7 (by decide), gI_sIk _ _ _ _ _ (by decide), gI_sIe]
  have g2 : gI h2 2 7 = N j := by rw [q4 7 (by decide)]; exact g1
  refine ⟨sJ h2 2 15 (yor (gJ h2 2 15) (yshl 1 (w : Int))), ?_, ?_, ((((OT.I h 7 _ (by decide)).tr (OT.I _ 6 _ (by decide))).tr p3).tr q3).tr (OT.J _ 15 _), g2⟩
  · unfold X8_takeTarget
    rw [cR2 h _ L, b_xb _ _ _ _ (T_num1 o d 16 63 e.1 e.2.1 e.2.2), if_neg (by decide), cR2 _ _ (by exact L), b_xb _ _ _ _ p1, cI2 h1 7 _ p2.1, g1, cR2 _ _ p2.1, b_xb _ _ _ _ q1, cJ2 h2 15 _ q2.1, cI2 h2 7 _ q2.1, g2, hw, cV2 h2 15 _ _ q2.1]
  · have ec : cd ++ [z] ++ [N j] = cd ++ [z, N j] := by rw [List.append_assoc]; rfl
    rw [← ec]
    refine d3.wrc (fun i _ => ?_)
    rw [hw, dec_w]
theorem T_tgt0 (o : okK K N T) (d : SC K N B T h j cd nm rd wr) (z : Int) (e : ¬ (K j = -2 ∧ 16 ≤ N j ∧ N j ≤ 63)) : X8_takeTarget F 2 z h = some (0, h) := by
  have L := d.1
  unfold X8_takeTarget
  rw [cR2 h _ L, b_xb _ _ _ _ (T_num0 o d 16 63 e), if_pos rfl]
/-- a line, or its rest, read: fine, or wrong -/
def RsL (K N B : Nat → Int) (T : Nat) (rd wr : Nat → Bool) (h : HP) (P : Option (Int × HP)) (r : Rs Lin) (cd : List Int) (nm : Nat → Bool) : Prop :=
  match r with
  | .inl e => ∃ h', P = some (0, h') ∧ SF0 K N B T h' e ∧ OT h h'
  | .inr (l, k) => ∃ h', P = some (1, h') ∧ SC K N B T h' k (cd ++ linC l) (fun i => nm i || rdl l i) rd (fun i => wr i || wrl l i) ∧ OT h h'
theorem RsL.pre {g : HP} {P : Option (Int × HP)} {r : Rs Lin} (y : RsL K N B T rd wr g P r cd nm) (ot : OT h g) : RsL K N B T rd wr h P r cd nm := by
  cases r with
  | inl e => obtain ⟨h', a, b, c⟩ := y; exact ⟨h', a, b, ot.tr c⟩
  | inr x => obtain ⟨h', a, b, c⟩ := y; exact ⟨h', a, b, ot.tr c⟩
theorem T_set (o : okK K N T) (hF : 500 ≤ F) (d : SC K N B T h j cd nm rd wr) (r : Int) (room : cd.length ≤ 3 * j) : RsL K N B T rd wr h (X8_readSet F 2 r h) (pSet K N r j) cd nm := by
  have L := d.1
  have hT := o.1
  have hjT := d.2.2.2.2.1
  unfold X8_readSet pSet
  rw [cR2 h _ L]
  by_cases c1 : K j = -2 ∧ 16 ≤ N j ∧ N j ≤ 63
  · have lt := o.lt (j := j) (by omega)
    obtain ⟨h1, p1, p2, p3, p4⟩ := T_tgt1 (F := F) o d 257 c1 (by omega)
    rw [if_pos c1, b_xb _ _ _ _ p1, if_neg (by decide), cR2 _ _ p2.1]
    by_cases c2 : K (j + 1) = 61
    · have lt2 := o.lt (j := j + 1) (by omega)
      have l2 : (cd ++ [257, N j]).length = cd.length + 2 := by rw [List.length_append]; rfl
      have d2 := p2.at (j + 1 + 1) (by omega)
      obtain ⟨h2, q1, q2, q3, q4, q5⟩ := T_emit (F := F) d2 r (by omega)
      have l3 : (cd ++ [257, N j] ++ [r]).length = cd.length + 3 := by rw [List.length_append, l2]; rfl
      have x := T_sum (F := F) o hF q2 (by rw [l3]; omega)
      have ot := (p3.tr (OT.I h1 6 ((j + 1 + 1 : Nat) : Int) (by decide))).tr q3
      rw [if_pos c2, b_xb _ _ _ _ (T_takes1 o p2 61 c2), if_neg (by decide), cR2 _ _ (by exact p2.1), b_xb _ _ _ _ q1, cR2 _ _ q2.1]
      cases e : pSum K N (j + 2) with
      | inl y =>
        rw [show pSum K N (j + 1 + 1) = .inl y from e] at x
        obtain ⟨h', a1, a2, a3⟩ := x
        rw [b_xb _ _ _ _ a1]
        exact ⟨h', rfl, a2, ot.tr a3.1⟩
      | inr y =>
        obtain ⟨s, k⟩ := y
        rw [show pSum K N (j + 1 + 1) = .inr (s, k) from e] at x
        obtain ⟨h', a1, a2, a3⟩ := x
        rw [b_xb _ _ _ _ a1]
        refine ⟨h', rfl, ?_, ot.tr a3.1⟩
        have ec : cd ++ [257, N j] ++ [r] ++ sumC s = cd ++ linC (0, N j, r, 0, s, []) := by
          rw [List.append_assoc, List.append_assoc]
          rfl
        show SC K N B T h' k (cd ++ linC (0, N j, r, 0, s, [])) _ rd _
        rw [← ec]
        exact a2
    · rw [if_neg c2, b_xb _ _ _ _ (T_takes0 o p2 61 c2), if_pos rfl]
      exact ⟨h1, rfl, p2.f0, p3⟩
  · rw [if_neg c1, b_xb _ _ _ _ (T_tgt0 o d 257 c1), if_pos rfl]
    exact ⟨h, rfl, d.f0, OT.rf h⟩
theorem T_totL (t : Nat) (ht : t < 64) : ∀ (m w k : Nat) (h : HP) (nm : Nat → Bool), w + m = t + 1 → m < k → SC K N B T h j cd nm rd wr → gI h 2 7 = t → ∃ h', X8_readTotal_L74 F k 2 w h = some (1, h') ∧ SC K N B T h' j cd (fun i => nm i || (decide ((w : Int) ≤ (i : Int)) && decide ((i : Int) ≤ (t : Int)))) rd wr ∧ OT h h' := by
  intro m
  induction m with
  | zero =>
    intro w k h nm hw hk d g7
    obtain ⟨k, rfl⟩ : ∃ k', k = k' + 1 := ⟨k - 1, by omega⟩
    refine ⟨h, ?_, d.nmc (fun i _ => ?_), OT.rf h⟩
    · show ((xgI h (some 2) 8 17 7).bind fun v1 => if v1 < (w : Int) then _ else _) = _
      rw [cI2 h 7 _ d.1, g7, if_pos (by omega)]
    · have : (decide ((w : Int) ≤ (i : Int)) && decide ((i : Int) ≤ (t : Int))) = false := by
        by_cases q : (w : Int) ≤ (i : Int)
        · rw [decide_eq_false (show ¬ (i : Int) ≤ (t : Int) by omega), Bool.and_false]
        · rw [decide_eq_false q, Bool.false_and]
      rw [this, Bool.or_false]
  | succ m ih =>
    intro w k h nm hw hk d g7
    obtain ⟨k, rfl⟩ : ∃ k', k = k' + 1 := ⟨k - 1, by omega⟩
    have L := d.1
    have d1 := d.bit13 w (by omega)
    obtain ⟨h', p1, p2, p3⟩ := ih (w + 1) k _ _ (by omega) (by omega) d1 g7
    refine ⟨h', ?_, p2.nmc (fun i _ => ?_), (OT.J h 13 _).tr p3⟩
    · show ((xgI h (some 2) 8 17 7).bind fun v1 => if v1 < (w : Int) then _ else (xgJ h (some 2) 8 17 13).bind fun v3 => _) = _
      rw [cI2 h 7 _ L, g7, if_neg (by omega), cJ2 h 13 _ L, cV2 h 13 _ _ L, w32j (by omega)]
      exact p1
    · rw [Bool.or_assoc]
      congr 1
      by_cases q : i = w
      · rw [decide_eq_true q, decide_eq_true (show (w : Int) ≤ (i : Int) by omega), decide_eq_true (show (i : Int) ≤ (t : Int) by omega)]
        rfl
      · rw [decide_eq_false q, Bool.false_or]
        by_cases q2 : (w : Int) ≤ (i : Int)
        · rw [decide_eq_true q2, decide_eq_true (show ((w + 1 : Nat) : Int) ≤ (i : Int) by omega)]
        · rw [decide_eq_false q2, decide_eq_false (show ¬ ((w + 1 : Nat) : Int) ≤ (i : Int) by omega)]
theorem T_tot (o : okK K N T) (hF : 500 ≤ F) (d : SC K N B T h j cd nm rd wr) (room : cd.length ≤ 3 * j) : RsL K N B T rd wr h (X8_readTotal F 2 h) (pTot K N j) cd nm := by
  have L := d.1
  have hT := o.1
  have hjT := d.2.2.2.2.1
  unfold X8_readTotal pTot
  rw [cR2 h _ L]
  by_cases c1 : K j = -2 ∧ 16 ≤ N j ∧ N j ≤ 63
  · have lt := o.lt (j := j) (by omega)
    obtain ⟨h1, p1, p2, p3, p4⟩ := T_tgt1 (F := F) o d 258 c1 (by omega)
    have l2 : (cd ++ [258, N j]).length = cd.length + 2 := by rw [List.length_append]; rfl
    rw [if_pos c1, b_xb _ _ _ _ p1, if_neg (by decide), cR2 _ _ p2.1]
    by_cases c2 : K (j + 1) = 259
    · have lt2 := o.lt (j := j + 1) (by omega)
      have d2 := p2.at (j + 1 + 1) (by omega)
      have o2 := p3.tr (OT.I h1 6 ((j + 1 + 1 : Nat) : Int) (by decide))
      rw [if_pos c2, b_xb _ _ _ _ (T_takes1 o p2 259 c2), if_neg (by decide), cR2 _ _ (by exact p2.1)]
      by_cases c3 : K (j + 2) = -2 ∧ N (j + 2) ≤ 63
      · have b3 := o.2.2 (j + 2) c3.1
        have lt3 := o.lt (j := j + 2) (by omega)
        have d3 := (d2.fld 7 (N (j + 2)) (by decide)).at (j + 1 + 1 + 1) (by omega)
        have o3 := o2.tr ((OT.I (sI h1 2 6 ((j + 1 + 1 : Nat) : Int)) 7 (N (j + 2)) (by decide)).tr (OT.I _ 6 ((j + 1 + 1 + 1 : Nat) : Int) (by decide)))
        have g7 : gI (sI (sI (sI h1 2 6 ((j + 1 + 1 : Nat) : Int)) 2 7 (N (j + 2))) 2 6 ((j + 1 + 1 + 1 : Nat) : Int)) 2 7 = N (j + 2) := by rw [gI_sIk _ _ _ _ _ (by decide), gI_sIe]
        rw [if_pos c3, b_xb _ _ _ _ (T_num1 o d2 0 63 c3.1 b3.1 c3.2), if_neg (by decide), cI2 _ 7 _ d3.1, g7, cR2 _ _ d3.1]
        by_cases c4 : K (j + 3) = 260
        · have lt4 := o.lt (j := j + 3) (by omega)
          have d4 := d3.at (j + 1 + 1 + 1 + 1) (by omega)
          have o4 := o3.tr (OT.I (sI (sI (sI h1 2 6 ((j + 1 + 1 : Nat) : Int)) 2 7 (N (j + 2))) 2 6 ((j + 1 + 1 + 1 : Nat) : Int)) 6 ((j + 1 + 1 + 1 + 1 : Nat) : Int) (by decide))
          rw [if_pos c4, b_xb _ _ _ _ (T_takes1 o d3 260 c4), if_neg (by decide), cR2 _ _ d4.1]
          by_cases c5 : K (j + 4) = -2 ∧ N (j + 2) ≤ N (j + 4) ∧ N (j + 4) ≤ 63
          · have lt5 := o.lt (j := j + 4) (by omega)
            have d5 := (d4.fld 7 (N (j + 4)) (by decide)).at (j + 1 + 1 + 1 + 1 + 1) (by omega)
            have n5 := T_num1 (F := F) o d4 (N (j + 2)) 63 c5.1 c5.2.1 c5.2.2
            have o5 := o4.tr ((OT.I (sI (sI (sI (sI h1 2 6 ((j + 1 + 1 : Nat) : Int)) 2 7 (N (j + 2))) 2 6 ((j + 1 + 1 + 1 : Nat) : Int)) 2 6 ((j + 1 + 1 + 1 + 1 : Nat) : Int)) 7 (N (j + 4)) (by decide)).tr (OT.I _ 6 ((j + 1 + 1 + 1 + 1 + 1 : Nat) : Int) (by decide)))
            have g5 : gI (sI (sI (sI (sI (sI (sI h1 2 6 ((j + 1 + 1 : Nat) : Int)) 2 7 (N (j + 2))) 2 6 ((j + 1 + 1 + 1 : Nat) : Int)) 2 6 ((j + 1 + 1 + 1 + 1 : Nat) : Int)) 2 7 (N (j + 4))) 2 6 ((j + 1 + 1 + 1 + 1 + 1 : Nat) : Int)) 2 7 = N (j + 4) := by rw [gI_sIk _ _ _ _ _ (by decide), gI_sIe]
            generalize (sI (sI (sI (sI (sI (sI h1 2 6 ((j + 1 + 1 : Nat) : Int)) 2 7 (N (j + 2))) 2 6 ((j + 1 + 1 + 1 : Nat) : Int)) 2 6 ((j + 1 + 1 + 1 + 1 : Nat) : Int)) 2 7 (N (j + 4))) 2 6 ((j + 1 + 1 + 1 + 1 + 1 : Nat) : Int)) = g at *
            obtain ⟨h2, q1, q2, q3, q4, q5⟩ := T_emit (F := F) d5 (N (j + 2)) (by omega)
            have l3 : (cd ++ [258, N j] ++ [N (j + 2)]).length = cd.length + 3 := by rw [List.length_append, l2]; rfl
            obtain ⟨h3, r1, r2, r3, r4, r5⟩ := T_emit (F := F) q2 (N (j + 4)) (by omega)
            have g2 : gI h2 2 7 = N (j + 4) := by rw [q4 7 (by decide)]; exact g5
            have g3 : gI h3 2 7 = N (j + 4) := by rw [r4 7 (by decide)]; exact g2
            obtain ⟨f, hf⟩ := Int.eq_ofNat_of_zero_le b3.1
            obtain ⟨t, ht⟩ := Int.eq_ofNat_of_zero_le (show 0 ≤ N (j + 4) by omega)
            obtain ⟨h', s1, s2, s3⟩ := T_totL (F := F) t (by omega) (t + 1 - f) f F h3 nm (by omega) (by omega) r2 (by rw [g3, ht])
            rw [if_pos c5, b_xb _ _ _ _ n5, if_neg (by decide), cR2 _ _ d5.1, b_xb _ _ _ _ q1, cI2 h2 7 _ q2.1, g2, cR2 _ _ q2.1, b_xb _ _ _ _ r1]
            rw [← hf] at s1
            refine ⟨h', s1, ?_, ((o5.tr q3).tr r3).tr s3⟩
            have ec : cd ++ [258, N j] ++ [N (j + 2)] ++ [N (j + 4)] = cd ++ linC (1, N j, N (j + 2), N (j + 4), [], []) := by
              rw [List.append_assoc, List.append_assoc]
              rfl
            show SC K N B T h' (j + 5) (cd ++ linC (1, N j, N (j + 2), N (j + 4), [], [])) (fun i => nm i || (decide (N (j + 2) ≤ (i : Int)) && decide ((i : Int) ≤ N (j + 4)))) rd _
            rw [← ec]
            rw [← hf, ← ht] at s2
            exact s2
          · rw [if_neg c5, b_xb _ _ _ _ (T_num0 o d4 (N (j + 2)) 63 c5), if_pos rfl]
            exact ⟨_, rfl, d4.f0, o4⟩
        · rw [if_neg c4, b_xb _ _ _ _ (T_takes0 o d3 260 c4), if_pos rfl]
          exact ⟨_, rfl, d3.f0, o3⟩
      · have c3' : ¬ (K (j + 1 + 1) = -2 ∧ 0 ≤ N (j + 1 + 1) ∧ N (j + 1 + 1) ≤ 63) := fun q => c3 ⟨q.1, q.2.2⟩
        rw [if_neg c3, b_xb _ _ _ _ (T_num0 o d2 0 63 c3'), if_pos rfl]
        exact ⟨_, rfl, d2.f0, o2⟩
    · rw [if_neg c2, b_xb _ _ _ _ (T_takes0 o p2 259 c2), if_pos rfl]
      exact ⟨h1, rfl, p2.f0, p3⟩
  · rw [if_neg c1, b_xb _ _ _ _ (T_tgt0 o d 258 c1), if_pos rfl]
    exact ⟨h, rfl, d.f0, OT.rf h⟩
theorem T_rnd (o : okK K N T) (d : SC K N B T h j cd nm rd wr) (room : cd.length ≤ 3 * j) : RsL K N B T rd wr h (X8_readRound F 2 h) (pRnd K N j) cd nm := by
  have L := d.1
  have hT := o.1
  have hjT := d.2.2.2.2.1
  unfold X8_readRound pRnd
  rw [cR2 h _ L]
  by_cases c1 : K j = -2 ∧ 16 ≤ N j ∧ N j ≤ 63
  · have lt := o.lt (j := j) (by omega)
    obtain ⟨h1, p1, p2, p3, p4⟩ := T_tgt1 (F := F) o d 261 c1 (by omega)
    have l2 : (cd ++ [261, N j]).length = cd.length + 2 := by rw [List.length_append]; rfl
    obtain ⟨w, hw⟩ := Int.eq_ofNat_of_zero_le (show 0 ≤ N j by omega)
    have db := p2.bit13 w (by omega)
    have ob := p3.tr (OT.J h1 13 (yor (gJ h1 2 13) (yshl 1 (w : Int))))
    rw [if_pos c1, b_xb _ _ _ _ p1, if_neg (by decide), cJ2 h1 13 _ p2.1, cI2 h1 7 _ p2.1, p4]
    rw [hw, cV2 h1 13 _ _ p2.1, cR2 _ _ (by exact p2.1)]
    rw [← hw]
    by_cases c2 : K (j + 1) = 262
    · have lt2 := o.lt (j := j + 1) (by omega)
      have d2 := db.at (j + 1 + 1) (by omega)
      have o2 := ob.tr (OT.I (sJ h1 2 13 (yor (gJ h1 2 13) (yshl 1 (w : Int)))) 6 ((j + 1 + 1 : Nat) : Int) (by decide))
      have tk := T_takes1 (F := F) o db 262 c2
      rw [← hw] at tk d2 o2
      rw [if_pos c2, b_xb _ _ _ _ tk, if_neg (by decide), cR2 _ _ d2.1]
      by_cases c3 : K (j + 2) = -2 ∧ 1 ≤ N (j + 2) ∧ N (j + 2) ≤ 9999
      · have lt3 := o.lt (j := j + 2) (by omega)
        have d3 := (d2.fld 7 (N (j + 2)) (by decide)).at (j + 1 + 1 + 1) (by omega)
        obtain ⟨h2, q1, q2, q3, q4, q5⟩ := T_emit (F := F) d3 (N (j + 2)) (by omega)
        have nk := T_num1 (F := F) o d2 1 9999 c3.1 c3.2.1 c3.2.2
        rw [if_pos c3, b_xb _ _ _ _ nk, if_neg (by decide), cI2 _ 7 _ (by exact d2.1), gI_sIk _ _ _ _ _ (by decide), gI_sIe, cR2 _ _ (by exact d2.1), b_xb _ _ _ _ q1]
        refine ⟨h2, rfl, ?_, o2.tr (((OT.I _ 7 _ (by decide)).tr (OT.I _ 6 _ (by decide))).tr q3)⟩
        have ec : cd ++ [261, N j] ++ [N (j + 2)] = cd ++ linC (2, N j, N (j + 2), 0, [], []) := by
          rw [List.append_assoc]
          rfl
        show SC K N B T h2 (j + 3) (cd ++ linC (2, N j, N (j + 2), 0, [], [])) (fun i => nm i || decide (N j = (i : Int))) rd _
        rw [← ec]
        refine q2.nmc (fun i _ => ?_)
        rw [hw, dec_w]
      · rw [if_neg c3, b_xb _ _ _ _ (T_num0 o d2 1 9999 c3), if_pos rfl]
        exact ⟨_, rfl, d2.f0, o2⟩
    · have tk := T_takes0 (F := F) o db 262 c2
      rw [← hw] at tk db ob
      rw [if_neg c2, b_xb _ _ _ _ tk, if_pos rfl]
      exact ⟨_, rfl, db.f0, ob⟩
  · rw [if_neg c1, b_xb _ _ _ _ (T_tgt0 o d 261 c1), if_pos rfl]
    exact ⟨h, rfl, d.f0, OT.rf h⟩
theorem T_if (o : okK K N T) (hF : 500 ≤ F) (d : SC K N B T h j cd nm rd wr) (hj : 1 ≤ j) (so z : Int) (hz : so = 3 ∧ z = 263 ∨ so = 4 ∧ z = 264) (room : cd.length ≤ 3 * j) : RsL K N B T rd wr h (X8_readLine_L124 F 2 z h) (pIf K N so j) cd nm := by
  have L := d.1
  have hT := o.1
  have hjT := d.2.2.2.2.1
  obtain ⟨h1, p1, p2, p3, p4, p5⟩ := T_emit (F := F) d z (by omega)
  have l1 : (cd ++ [z]).length = cd.length + 1 := by rw [List.length_append]; rfl
  unfold X8_readLine_L124 pIf
  rw [cR2 h _ L, b_xb _ _ _ _ p1, cR2 _ _ p2.1]
  by_cases c1 : K j = 265
  · have lt := o.lt (j := j) (by omega)
    have d2 := p2.at (j + 1) (by omega)
    have o2 := p3.tr (OT.I h1 6 ((j + 1 : Nat) : Int) (by decide))
    have x := T_cond (F := F) o hF d2 (by omega) (by rw [l1]; omega)
    rw [if_pos c1, b_xb _ _ _ _ (T_takes1 o p2 265 c1), if_neg (by decide), cR2 _ _ (by exact p2.1)]
    cases e : pC K (pT K N 6) (j + 1) with
    | inl y =>
      rw [e] at x
      obtain ⟨h', a1, a2, a3⟩ := x
      rw [b_xb _ _ _ _ a1, if_pos rfl]
      exact ⟨h', rfl, a2, o2.tr a3⟩
    | inr y =>
      obtain ⟨ts, k⟩ := y
      rw [e] at x
      obtain ⟨h', a1, a2, a3⟩ := x
      rw [b_xb _ _ _ _ a1, if_neg (by decide)]
      refine ⟨h', rfl, ?_, o2.tr a3⟩
      have ec : cd ++ [z] ++ cdl ts ++ [-1] = cd ++ linC (so, 0, 0, 0, [], ts) := by
        rw [List.append_assoc, List.append_assoc]
        rcases hz with ⟨a, b⟩ | ⟨a, b⟩ <;> rw [a, b] <;> rfl
      have er : ∀ i, rdl (so, 0, 0, 0, [], ts) i = rdC ts i := fun i => by rcases hz with ⟨a, b⟩ | ⟨a, b⟩ <;> rw [a] <;> rfl
      have ew : ∀ i, wrl (so, 0, 0, 0, [], ts) i = false := fun i => by rcases hz with ⟨a, b⟩ | ⟨a, b⟩ <;> rw [a] <;> rfl
      show SC K N B T h' k (cd ++ linC (so, 0, 0, 0, [], ts)) _ rd _
      rw [← ec]
      exact (a2.nmc (fun i _ => by rw [er]; rfl)).wrc (fun i _ => by rw [ew, Bool.or_false])
  · rw [if_neg c1, b_xb _ _ _ _ (T_takes0 o p2 265 c1), if_pos rfl]
    exact ⟨h1, rfl, p2.f0, p3⟩
theorem T_line (o : okK K N T) (hF : 500 ≤ F) (d : SC K N B T h j cd nm rd wr) (room : cd.length ≤ 3 * j) : RsL K N B T rd wr h (X8_readLine F 2 h) (pLine K N j) cd nm := by
  have L := d.1
  have hT := o.1
  have hjT := d.2.2.2.2.1
  unfold X8_readLine pLine
  rw [cR2 h _ L]
  have pz : ∀ (P : Option (Int × HP)) (r : Rs Lin) (g : HP), RsL K N B T rd wr g P r cd nm → OT h g → RsL K N B T rd wr h (xb P fun v h => xz v h) r cd nm := by
    intro P r g y og
    cases r with
    | inl e => obtain ⟨h', a, b, c⟩ := y; exact ⟨h', by rw [b_xb _ _ _ _ a]; rfl, b, og.tr c⟩
    | inr x => obtain ⟨h', a, b, c⟩ := y; exact ⟨h', by rw [b_xb _ _ _ _ a]; rfl, b, og.tr c⟩
  have st : ∀ (z : Int), K j = z → z ≠ -1 → SC K N B T (sI h 2 6 ((j + 1 : Nat) : Int)) (j + 1) cd nm rd wr ∧ OT h (sI h 2 6 ((j + 1 : Nat) : Int)) ∧ j < T := fun z e hz => by
    have lt := o.lt (j := j) (by omega)
    exact ⟨d.at (j + 1) (by omega), OT.I h 6 _ (by decide), lt⟩
  by_cases c1 : K j = 256
  · obtain ⟨d1, o1, lt⟩ := st 256 c1 (by decide)
    rw [if_pos c1, b_xb _ _ _ _ (T_takes1 o d 256 c1), if_neg (by decide), cR2 _ _ d1.1]
    by_cases c2 : K (j + 1) = -2 ∧ 1 ≤ N (j + 1) ∧ N (j + 1) ≤ 9
    · have lt2 := o.lt (j := j + 1) (by omega)
      have d2 := (d1.fld 7 (N (j + 1)) (by decide)).at (j + 1 + 1) (by omega)
      have o2 := o1.tr ((OT.I (sI h 2 6 ((j + 1 : Nat) : Int)) 7 (N (j + 1)) (by decide)).tr (OT.I _ 6 ((j + 1 + 1 : Nat) : Int) (by decide)))
      rw [if_pos c2, b_xb _ _ _ _ (T_num1 o d1 1 9 c2.1 c2.2.1 c2.2.2), if_neg (by decide), cI2 _ 7 _ d2.1, gI_sIk _ _ _ _ _ (by decide), gI_sIe, cR2 _ _ d2.1]
      by_cases c3 : K (j + 2) = 257
      · have lt3 := o.lt (j := j + 2) (by omega)
        have d3 := d2.at (j + 1 + 1 + 1) (by omega)
        have y := T_set (F := F) o hF d3 (N (j + 1)) (by omega)
        rw [if_pos c3, b_xb _ _ _ _ (T_takes1 o d2 257 c3), if_neg (by decide), cR2 _ _ d3.1]
        have o3 := o2.tr (OT.I (sI (sI (sI h 2 6 ((j + 1 : Nat) : Int)) 2 7 (N (j + 1))) 2 6 ((j + 1 + 1 : Nat) : Int)) 6 ((j + 1 + 1 + 1 : Nat) : Int) (by decide))
        have y' := y.pre o3
        cases e : pSet K N (N (j + 1)) (j + 3) with
        | inl f =>
          rw [show pSet K N (N (j + 1)) (j + 1 + 1 + 1) = .inl f from e] at y'
          obtain ⟨h', a, b, c⟩ := y'
          rw [b_xb _ _ _ _ a, if_pos rfl]
          exact ⟨h', rfl, b, c⟩
        | inr x =>
          rw [show pSet K N (N (j + 1)) (j + 1 + 1 + 1) = .inr x from e] at y'
          obtain ⟨h', a, b, c⟩ := y'
          rw [b_xb _ _ _ _ a, if_neg (by decide)]
          exact ⟨h', rfl, b, c⟩
      · rw [if_neg c3, b_xb _ _ _ _ (T_takes0 o d2 257 c3), if_pos rfl]
        exact ⟨_, rfl, d2.f0, o2⟩
    · rw [if_neg c2, b_xb _ _ _ _ (T_num0 o d1 1 9 c2), if_pos rfl]
      exact ⟨_, rfl, d1.f0, o1⟩
  rw [if_neg c1, b_xb _ _ _ _ (T_takes0 o d 256 c1), if_pos rfl, cR2 h _ L]
  by_cases c2 : K j = 257
  · obtain ⟨d1, o1, lt⟩ := st 257 c2 (by decide)
    rw [if_pos c2, b_xb _ _ _ _ (T_takes1 o d 257 c2), if_neg (by decide), cR2 _ _ d1.1]
    exact pz _ _ _ (T_set (F := F) o hF d1 1 (by omega)) o1
  rw [if_neg c2, b_xb _ _ _ _ (T_takes0 o d 257 c2), if_pos rfl, cR2 h _ L]
  by_cases c3 : K j = 258
  · obtain ⟨d1, o1, lt⟩ := st 258 c3 (by decide)
    rw [if_pos c3, b_xb _ _ _ _ (T_takes1 o d 258 c3), if_neg (by decide), cR2 _ _ d1.1]
    exact pz _ _ _ (T_tot (F := F) o hF d1 (by omega)) o1
  rw [if_neg c3, b_xb _ _ _ _ (T_takes0 o d 258 c3), if_pos rfl, cR2 h _ L]
  by_cases c4 : K j = 261
  · obtain ⟨d1, o1, lt⟩ := st 261 c4 (by decide)
    rw [if_pos c4, b_xb _ _ _ _ (T_takes1 o d 261 c4), if_neg (by decide), cR2 _ _ d1.1]
    exact pz _ _ _ (T_rnd (F := F) o d1 (by omega)) o1
  rw [if_neg c4, b_xb _ _ _ _ (T_takes0 o d 261 c4), if_pos rfl, cR2 h _ L, b_xb _ _ _ _ (T_kind o d), cR2 h _ L]
  by_cases c5 : K j = 263
  · obtain ⟨d1, o1, lt⟩ := st 263 c5 (by decide)
    rw [if_pos c5, b_xb _ _ _ _ (T_takes1 o d 263 c5), if_neg (by decide), c5]
    exact (T_if (F := F) o hF d1 (by omega) 3 263 (Or.inl ⟨rfl, rfl⟩) (by omega)).pre o1
  rw [if_neg c5, b_xb _ _ _ _ (T_takes0 o d 263 c5), if_pos rfl, cR2 h _ L]
  by_cases c6 : K j = 264
  · obtain ⟨d1, o1, lt⟩ := st 264 c6 (by decide)
    rw [if_pos c6, b_xb _ _ _ _ (T_takes1 o d 264 c6), if_neg (by decide), c6]
    exact (T_if (F := F) o hF d1 (by omega) 4 264 (Or.inr ⟨rfl, rfl⟩) (by omega)).pre o1
  rw [if_neg c6, b_xb _ _ _ _ (T_takes0 o d 264 c6), if_pos rfl]
  exact ⟨h, rfl, d.f0, OT.rf h⟩
end LN
