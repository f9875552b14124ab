/-! the reference reads a line, lines, a text -/
def RLl (c : Nat → Int) (R : Nat) (h : HP) (P : Option (Int × HP)) (r : Rs Lin) (j : Nat) (S : List (Int × Int)) (rd wr : Nat → Bool) (o : Int) : Prop :=
  match r with
  | .inl e => ∃ h', P = some (0, h') ∧ MF c R h' e ∧ OL o h h'
  | .inr (l, k) => ∃ (h' : HP) (dp' : Int), P = some (1, h') ∧ MR c R h' (S ++ linM l) (fun i => rd i || (rdl l i && !wr i)) (fun i => wr i || wrl l i) dp' ∧ PA c R h' k ∧ OL o h h' ∧ RowL h' o l ∧ aI h' 118 (o + 4) = (S.length : Int) ∧ aI h' 118 (o + 5) = ((S.length + (linM l).length : Nat) : Int) ∧ (linM l).length + j ≤ k
def pTail (K N : Nat → Int) (r : Int) (j : Nat) : Rs Lin := if K j = 257 then pSet K N r (j + 1) else if K j = 258 then pTot K N (j + 1) else if K j = 261 then pRnd K N (j + 1) else if K j = 263 then pIf K N 3 (j + 1) else if K j = 264 then pIf K N 4 (j + 1) else .inl j
section RFM
variable {F : Nat} {c : Nat → Int} {R : Nat} {h : HP} {j : Nat} {S : List (Int × Int)} {rd wr : Nat → Bool} {dp : Int}
theorem RLl.pre {g : HP} {P : Option (Int × HP)} {r : Rs Lin} {o : Int} (y : RLl c R g P r j S rd wr o) (ol : OL o h g) : RLl c R h P r j S rd wr o := by
  cases r with
  | inl e => obtain ⟨h', a, b, q⟩ := y; exact ⟨h', a, b, ol.tr q⟩
  | inr x => obtain ⟨h', dp', a, b, q, l, w⟩ := y; exact ⟨h', dp', a, b, q, ol.tr l, w⟩
theorem RLl.lo {P : Option (Int × HP)} {r : Rs Lin} {o : Int} {i : Nat} (y : RLl c R h P r j S rd wr o) (le : i ≤ j) : RLl c R h P r i S rd wr o := by
  cases r with
  | inl e => exact y
  | inr x => obtain ⟨h', dp', a, b, q, l, w1, w2, w3, w4⟩ := y; exact ⟨h', dp', a, b, q, l, w1, w2, w3, by omega⟩
theorem wd1 : Wd 1 256 := ⟨by decide, by decide, 0, rfl, rfl⟩
theorem wd2 : Wd 2 257 := ⟨by decide, by decide, 1, rfl, rfl⟩
theorem wd3 : Wd 3 258 := ⟨by decide, by decide, 2, rfl, rfl⟩
theorem wd4 : Wd 4 261 := ⟨by decide, by decide, 5, rfl, rfl⟩
theorem wd5 : Wd 5 263 := ⟨by decide, by decide, 7, rfl, rfl⟩
theorem wd6 : Wd 6 264 := ⟨by decide, by decide, 8, rfl, rfl⟩
theorem LtS.of {h' : HP} (l : LtS c R h j) (e6 : gI h' 113 6 = gI h 113 6) (e8 : gI h' 113 8 = gI h 113 8) : LtS c R h' j := by
  obtain ⟨p, l1, l2, l3, l4⟩ := l
  refine ⟨p, e8.trans l1, l2, l3, ?_⟩
  rcases l4 with ⟨a, b, q, d⟩ | ⟨a, b⟩
  · exact Or.inl ⟨a, e6.trans b, q, d⟩
  · exact Or.inr ⟨e6.trans a, b⟩
theorem LtS.row (l : LtS c R h j) (a v : Int) : LtS c R (sA h 118 a v) j := l.of (by rw [gI_sAn _ _ _ _ _ (by decide)]) (by rw [gI_sAn _ _ _ _ _ (by decide)])
theorem M_needsL (hF : 500 ≤ F) (d : MCx c R h j S rd wr dp) {w : Nat} {kk : Int} (hw : Wd w kk) (k : (Kf c R (Lf c R)) j = kk) : ∃ h', X12_needs F 113 (some (1000000 + w)) h = some (1, h') ∧ MR c R h' S rd wr dp ∧ OR h h' ∧ LtS c R h' j := by
  obtain ⟨g, e, m, o, l⟩ := M_letters hF d
  have y := M_isw hF m.1 l hw
  rw [if_pos k] at y
  refine ⟨g, ?_, m, o, l⟩
  unfold X12_needs
  rw [mR113 h _ d.1.1.1, b_xb _ _ _ _ e, mR113 g _ m.1.1, b_xb _ _ _ _ y]
  rfl
theorem M_158 (m : MR c R h S rd wr dp) {q so : Int} (hq : 22 ≤ q ∧ q + 6 ≤ 82) (hs : 0 ≤ so) {r : Rs Lin} (x : RLn c R (sA h 118 q so) (X12_readRest F 113 q (sA h 118 q so)) r j S rd wr q) (e4 : aI h 118 (q + 4) = (S.length : Int)) : RLl c R h (X12_readLine_L158 F 113 q so q (some 118) h) r j S rd wr q := by
  have m1 := m.row q so (by omega)
  have o1 := (UP.A h q so (by omega)).ol (o := q) (by omega)
  unfold X12_readLine_L158
  rw [mS118 h _ _ _ m.L (by omega) (by omega), mP113_12 _ _ m1.L, mA118 _ _ _ m1.L (by omega) (by omega), aI_sA _ _ _ _ _ (by omega) (by omega), if_pos rfl, if_neg (by omega), mR113 _ _ m1.L]
  cases r with
  | inl e =>
    obtain ⟨g, x1, x2, x3⟩ := x
    rw [b_xb _ _ _ _ x1, if_pos rfl]
    exact ⟨g, rfl, x2, o1.tr x3⟩
  | inr y =>
    obtain ⟨l, k⟩ := y
    obtain ⟨g, dp', x1, x2, x3, x4, ⟨x5, x6, x7, x8⟩, x9, x10⟩ := x
    have lS : (S ++ linM l).length = S.length + (linM l).length := List.length_append
    rw [b_xb _ _ _ _ x1, if_neg (by decide), mP113_12 g _ x2.L, mI113 g 13 _ x2.L, x2.2.1.1, w32o hq 5 (by decide), mS118 g _ _ _ x2.L (by omega) (by omega)]
    have r6 : ∀ (v i : Int), 0 ≤ i → i ≠ q + 5 → aI (sA g 118 (q + 5) v) 118 i = aI g 118 i := fun v i q1 q2 => by rw [aI_sA _ _ _ _ _ (by omega) (by omega), if_neg q2]
    refine ⟨_, dp', rfl, x2.row _ _ (by omega), x3.of (by rw [gI_sAn _ _ _ _ _ (by decide)]), (o1.tr x4).tr ((UP.A g (q + 5) _ (by omega)).ol (by omega)), ⟨?_, fun w => ?_, fun w => ?_, fun w => ?_⟩, ?_, ?_, x10⟩
    · rw [r6 _ _ (by omega) (by omega)]; exact x5
    · rw [r6 _ _ (by omega) (by omega)]; exact x6 w
    · rw [r6 _ _ (by omega) (by omega)]; exact x7 w
    · rw [r6 _ _ (by omega) (by omega)]; exact x8 w
    · rw [r6 _ _ (by omega) (by omega), x9, aI_sA _ _ _ _ _ (by omega) (by omega), if_neg (by omega)]; exact e4
    · rw [aI_sA _ _ _ _ _ (by omega) (by omega), if_pos rfl, lS]
theorem M_87 (hF : 500 ≤ F) (b : BM c R h) (l : LtS c R h j) (q : Int) : X12_readLine_L87 F 113 q h = X12_readLine_L158 F 113 q (if (Kf c R (Lf c R)) j = 257 then 0 else if (Kf c R (Lf c R)) j = 258 then 1 else if (Kf c R (Lf c R)) j = 261 then 2 else if (Kf c R (Lf c R)) j = 263 then 3 else if (Kf c R (Lf c R)) j = 264 then 4 else -1) q (some 118) h := by
  have L := b.1
  have i2 : X12_isWord F 113 (some 1000002) h = some (if (Kf c R (Lf c R)) j = 257 then 1 else 0, h) := M_isw hF b l wd2
  have i3 : X12_isWord F 113 (some 1000003) h = some (if (Kf c R (Lf c R)) j = 258 then 1 else 0, h) := M_isw hF b l wd3
  have i4 : X12_isWord F 113 (some 1000004) h = some (if (Kf c R (Lf c R)) j = 261 then 1 else 0, h) := M_isw hF b l wd4
  have i5 : X12_isWord F 113 (some 1000005) h = some (if (Kf c R (Lf c R)) j = 263 then 1 else 0, h) := M_isw hF b l wd5
  have i6 : X12_isWord F 113 (some 1000006) h = some (if (Kf c R (Lf c R)) j = 264 then 1 else 0, h) := M_isw hF b l wd6
  unfold X12_readLine_L87
  rw [mP113_12 h _ L, mR113 h _ L, b_xb _ _ _ _ i2]
  by_cases c2 : (Kf c R (Lf c R)) j = 257
  · rw [if_pos c2, if_neg (by decide), if_pos c2]
  rw [if_neg c2, if_pos rfl, if_neg c2, mR113 h _ L, b_xb _ _ _ _ i3]
  by_cases c3 : (Kf c R (Lf c R)) j = 258
  · rw [if_pos c3, if_neg (by decide), if_pos c3]
  rw [if_neg c3, if_pos rfl, if_neg c3, mR113 h _ L, b_xb _ _ _ _ i4]
  by_cases c4 : (Kf c R (Lf c R)) j = 261
  · rw [if_pos c4, if_neg (by decide), if_pos c4]
  rw [if_neg c4, if_pos rfl, if_neg c4, mR113 h _ L, b_xb _ _ _ _ i5]
  by_cases c5 : (Kf c R (Lf c R)) j = 263
  · rw [if_pos c5, if_neg (by decide), if_pos c5]
  rw [if_neg c5, if_pos rfl, if_neg c5, mR113 h _ L, b_xb _ _ _ _ i6]
  by_cases c6 : (Kf c R (Lf c R)) j = 264
  · rw [if_pos c6, if_neg (by decide), if_pos c6]
  · rw [if_neg c6, if_pos rfl, if_neg c6]
theorem M_tail (o : okK (Kf c R (Lf c R)) (Nf c R (Lf c R)) (Lf c R).length) (hF : 500 ≤ F) (m : MR c R h S rd wr dp) (l : LtS c R h j) (room : S.length ≤ j) {q r : Int} (hq : 22 ≤ q ∧ q + 6 ≤ 82) (e4 : aI h 118 (q + 4) = (S.length : Int)) (e2 : aI h 118 (q + 2) = r) : RLl c R h (X12_readLine_L87 F 113 q h) (pTail (Kf c R (Lf c R)) (Nf c R (Lf c R)) r j) j S rd wr q := by
  have row : ∀ v : Int, aI (sA h 118 q v) 118 q = v ∧ aI (sA h 118 q v) 118 (q + 2) = r := fun v => ⟨by rw [aI_sA _ _ _ _ _ (by omega) (by omega), if_pos rfl], by rw [aI_sA _ _ _ _ _ (by omega) (by omega), if_neg (by omega)]; exact e2⟩
  have go : ∀ v : Int, 256 ≤ (Kf c R (Lf c R)) j → MCx c R (sA h 118 q v) (j + 1) S rd wr dp := fun v w => ⟨m.row q v (by omega), (l.on w).of (by rw [gI_sAn _ _ _ _ _ (by decide)])⟩
  rw [M_87 hF m.1 l q]
  unfold pTail
  by_cases c2 : (Kf c R (Lf c R)) j = 257
  · rw [if_pos c2, if_pos c2]
    exact (M_158 m hq (by decide) (M_rSet o hF hq (go 0 (by omega)) (by omega) (row 0).1 (row 0).2) e4).lo (by omega)
  rw [if_neg c2, if_neg c2]
  by_cases c3 : (Kf c R (Lf c R)) j = 258
  · rw [if_pos c3, if_pos c3]
    exact (M_158 m hq (by decide) (M_rTot o hF hq (go 1 (by omega)) (row 1).1) e4).lo (by omega)
  rw [if_neg c3, if_neg c3]
  by_cases c4 : (Kf c R (Lf c R)) j = 261
  · rw [if_pos c4, if_pos c4]
    exact (M_158 m hq (by decide) (M_rRnd o hF hq (go 2 (by omega)) (row 2).1) e4).lo (by omega)
  rw [if_neg c4, if_neg c4]
  by_cases c5 : (Kf c R (Lf c R)) j = 263
  · rw [if_pos c5, if_pos c5]
    exact (M_158 m hq (by decide) (M_rIf o hF hq (Or.inl rfl) (go 3 (by omega)) (by omega) (row 3).1) e4).lo (by omega)
  rw [if_neg c5, if_neg c5]
  by_cases c6 : (Kf c R (Lf c R)) j = 264
  · rw [if_pos c6, if_pos c6]
    exact (M_158 m hq (by decide) (M_rIf o hF hq (Or.inr rfl) (go 4 (by omega)) (by omega) (row 4).1) e4).lo (by omega)
  rw [if_neg c6, if_neg c6]
  have m1 := m.row q (-1) (by omega)
  unfold X12_readLine_L158
  rw [mS118 h _ _ _ m.L (by omega) (by omega), mP113_12 _ _ m1.L, mA118 _ _ _ m1.L (by omega) (by omega), (row (-1)).1, if_pos (by decide)]
  exact ⟨_, rfl, MF.row ⟨m.1, l.bg⟩ _ _, (UP.A h q (-1) (by omega)).ol (by omega)⟩
theorem M_line10 (hF : 500 ≤ F) (d : MCx c R h j S rd wr dp) : ∃ h', X12_readLine F 113 10 h = some (0, h') ∧ MF c R h' j ∧ OR h h' := by
  obtain ⟨g, e, m, og, l⟩ := M_letters hF d
  refine ⟨g, ?_, l.mf m.1, og⟩
  unfold X12_readLine
  rw [mR113 h _ d.1.L, b_xb _ _ _ _ e, if_pos rfl]
theorem M_line (o : okK (Kf c R (Lf c R)) (Nf c R (Lf c R)) (Lf c R).length) (hF : 500 ≤ F) (d : MCx c R h j S rd wr dp) (room : S.length ≤ j) {n : Nat} (hn : n < 10) : RLl c R h (X12_readLine F 113 (n : Int) h) (pLine (Kf c R (Lf c R)) (Nf c R (Lf c R)) j) j S rd wr (22 + 6 * (n : Int)) := by
  obtain ⟨g, e, m, og, l⟩ := M_letters hF d
  have e6 : w32 (6 * (n : Int)) = 6 * (n : Int) := w32i _ (by omega) (by omega)
  have e22 : w32 (22 + 6 * (n : Int)) = 22 + 6 * (n : Int) := w32i _ (by omega) (by omega)
  have n10 : ¬ (n : Int) = 10 := by omega
  unfold X12_readLine
  rw [mR113 h _ d.1.L, b_xb _ _ _ _ e, if_neg n10, e6, e22]
  have hq : 22 ≤ 22 + 6 * (n : Int) ∧ 22 + 6 * (n : Int) + 6 ≤ 82 := by omega
  revert hq
  generalize 22 + 6 * (n : Int) = q
  intro hq
  clear e6 e22 n10 hn
  have m1 := m.row (q + 2) 1 (by omega)
  have m2 := m1.row (q + 4) (S.length : Int) (by omega)
  have l2 := (l.row (q + 2) 1).row (q + 4) (S.length : Int)
  have og2 : OL q h (sA (sA g 118 (q + 2) 1) 118 (q + 4) (S.length : Int)) := ((og.ol q).tr ((UP.A g (q + 2) 1 (by omega)).ol (by omega))).tr ((UP.A _ (q + 4) _ (by omega)).ol (by omega))
  rw [mP113_12 g _ m.L, w32o hq 2 (by decide), w32o hq 4 (by decide), mS118 g _ _ _ m.L (by omega) (by omega), mP113_12 _ _ m1.L, mI113 _ 13 _ m1.L, m1.2.1.1, mS118 _ _ _ _ m1.L (by omega) (by omega)]
  have a4 : aI (sA (sA g 118 (q + 2) 1) 118 (q + 4) (S.length : Int)) 118 (q + 4) = (S.length : Int) := by rw [aI_sA _ _ _ _ _ (by omega) (by omega), if_pos rfl]
  have a2 : aI (sA (sA g 118 (q + 2) 1) 118 (q + 4) (S.length : Int)) 118 (q + 2) = 1 := by rw [aI_sA _ _ _ _ _ (by omega) (by omega), if_neg (by omega), aI_sA _ _ _ _ _ (by omega) (by omega), if_pos rfl]
  revert m2 l2 og2 a4 a2
  generalize sA (sA g 118 (q + 2) 1) 118 (q + 4) (S.length : Int) = x
  intro m2 l2 og2 a4 a2
  have i1 : X12_isWord F 113 (some 1000001) x = some (if (Kf c R (Lf c R)) j = 256 then 1 else 0, x) := M_isw hF m2.1 l2 wd1
  rw [mR113 x _ m2.L, b_xb _ _ _ _ i1]
  unfold pLine
  by_cases c1 : (Kf c R (Lf c R)) j = 256
  · have d2 : MCx c R x (j + 1) S rd wr dp := ⟨m2, l2.on (by omega)⟩
    rw [if_pos c1, if_neg (by decide), if_pos c1, mP113_12 x _ m2.L, mR113 x _ m2.L]
    by_cases c3 : (Kf c R (Lf c R)) (j + 1) = -2 ∧ 1 ≤ (Nf c R (Lf c R)) (j + 1) ∧ (Nf c R (Lf c R)) (j + 1) ≤ 9
    · obtain ⟨g3, t1, t2, t3, -⟩ := M_num1 hF d2 1 9 c3
      have t4 := t2.row (q + 2) ((Nf c R (Lf c R)) (j + 1)) (by omega)
      have up := (UP.A g3 (q + 2) ((Nf c R (Lf c R)) (j + 1)) (by omega)).pre t3
      have og3 := og2.tr (up.ol (o := q) (by omega))
      rw [b_xb _ _ _ _ t1, mS118 g3 _ _ _ t2.1.L (by omega) (by omega), mP113_12 _ _ t4.1.L, mA118 _ _ _ t4.1.L (by omega) (by omega), up.2 (q + 2) (by omega) (by omega), if_pos rfl, if_neg (by omega), mR113 _ _ t4.1.L, if_pos c3]
      by_cases c4 : (Kf c R (Lf c R)) (j + 2) = 257
      · obtain ⟨g5, s1, s2, s3, s4⟩ := M_needsL hF t4 wd2 c4
        have s1' : X12_needs F 113 (some 1000002) (sA g3 118 (q + 2) ((Nf c R (Lf c R)) (j + 1))) = some (1, g5) := s1
        have y := M_tail o hF s2 s4 (by omega) hq (by rw [s3.2 _ (by omega) (by omega), up.2 _ (by omega) (by omega), if_neg (by omega)]; exact a4) (r := (Nf c R (Lf c R)) (j + 1)) (by rw [s3.2 _ (by omega) (by omega), up.2 _ (by omega) (by omega), if_pos rfl])
        unfold pTail at y
        rw [if_pos c4] at y
        rw [b_xb _ _ _ _ s1', if_neg (by decide), if_pos c4]
        exact (y.pre (og3.tr (s3.ol q))).lo (by omega)
      · obtain ⟨g5, s1, s2, s3⟩ := M_needs0 hF t4 wd2 c4
        have s1' : X12_needs F 113 (some 1000002) (sA g3 118 (q + 2) ((Nf c R (Lf c R)) (j + 1))) = some (0, g5) := s1
        rw [b_xb _ _ _ _ s1', if_pos rfl, if_neg c4]
        exact ⟨g5, rfl, s2, og3.tr (s3.ol q)⟩
    · obtain ⟨g3, t1, t2, t3, t5⟩ := M_num0 hF d2 1 9 c3
      have t4 := t3.row (q + 2) (-1) (by omega)
      have up := (UP.A g3 (q + 2) (-1) (by omega)).pre t5
      rw [b_xb _ _ _ _ t1, mS118 g3 _ _ _ t3.L (by omega) (by omega), mP113_12 _ _ t4.L, mA118 _ _ _ t4.L (by omega) (by omega), up.2 (q + 2) (by omega) (by omega), if_pos rfl, if_pos (by decide), if_neg c3]
      exact ⟨_, rfl, t2.row _ _, og2.tr (up.ol (by omega))⟩
  · rw [if_neg c1, if_pos rfl, if_neg c1]
    exact (M_tail o hF m2 l2 room hq a4 a2).pre og2
/-! lines -/
def LnOk (h : HP) (St : List (Int × Int)) (q : Int) (l : Lin) : Prop := RowL h q l ∧ ∃ st : Nat, aI h 118 (q + 4) = (st : Int) ∧ aI h 118 (q + 5) = ((st + (linM l).length : Nat) : Int) ∧ st + (linM l).length ≤ 400 ∧ ∀ (i : Nat) (s : Int × Int), (linM l)[i]? = some s → St[st + i]? = some s
theorem LnOk.on {h h' : HP} {St : List (Int × Int)} {q : Int} {l : Lin} (x : LnOk h St q l) (Sn : List (Int × Int)) (e : ∀ i : Int, q ≤ i → i < q + 6 → aI h' 118 i = aI h 118 i) : LnOk h' (St ++ Sn) q l := by
  obtain ⟨⟨x1, x2, x3, x4⟩, st, y1, y2, y4, y3⟩ := x
  refine ⟨⟨?_, fun w => ?_, fun w => ?_, fun w => ?_⟩, st, ?_, ?_, y4, fun i s w => ?_⟩
  · rw [e _ (by omega) (by omega)]; exact x1
  · rw [e _ (by omega) (by omega)]; exact x2 w
  · rw [e _ (by omega) (by omega)]; exact x3 w
  · rw [e _ (by omega) (by omega)]; exact x4 w
  · rw [e _ (by omega) (by omega)]; exact y1
  · rw [e _ (by omega) (by omega)]; exact y2
  · have z := y3 i s w
    rw [List.getElem?_append_left (List.getElem?_eq_some_iff.mp z).1]
    exact z
theorem M_lines (o : okK (Kf c R (Lf c R)) (Nf c R (Lf c R)) (Lf c R).length) (hF : 500 ≤ F) : ∀ (f n kk j : Nat) (h : HP) (S : List (Int × Int)) (rd wr : Nat → Bool) (dp : Int), f + n = 10 → f + 1 < kk → MCx c R h j S rd wr dp → S.length ≤ j →
  match pLs (Kf c R (Lf c R)) (Nf c R (Lf c R)) f j with
  | .inl e => ∃ h', X12_readAll_L39 F kk 113 (n : Int) h = some (-1, h') ∧ MF c R h' e ∧ OM h h'
  | .inr (A, _) => ∃ (h' : HP) (dp' : Int), X12_readAll_L39 F kk 113 (n : Int) h = some (((n + A.length : Nat) : Int), h') ∧ MR c R h' (S ++ A.flatMap linM) (rdF rd wr A) (wrF wr A) dp' ∧ OM h h' ∧ (∀ i : Int, 0 ≤ i → i < 22 + 6 * (n : Int) → aI h' 118 i = aI h 118 i) ∧ (∀ (m : Nat) (l : Lin), A[m]? = some l → LnOk h' (S ++ A.flatMap linM) (22 + 6 * ((n + m : Nat) : Int)) l) := by
  intro f
  induction f with
  | zero =>
    intro n kk j h S rd wr dp hn hk d room
    obtain ⟨kk, rfl⟩ : ∃ k', kk = k' + 1 := ⟨kk - 1, by omega⟩
    obtain ⟨g, e, m, og⟩ := M_line10 hF d
    have n10 : (n : Int) = 10 := by omega
    show ∃ h', X12_readAll_L39 F (kk + 1) 113 (n : Int) h = some (-1, h') ∧ MF c R h' j ∧ OM h h'
    refine ⟨g, ?_, m, og.1⟩
    rw [X12_readAll_L39_s, mR113 h _ d.1.L, n10, b_xb _ _ _ _ e, if_pos rfl]
  | succ f ih =>
    intro n kk j h S rd wr dp hn hk d room
    obtain ⟨kk, rfl⟩ : ∃ k', kk = k' + 1 := ⟨kk - 1, by omega⟩
    have hT := o.1
    have x := M_line o hF d room (n := n) (by omega)
    unfold pLs
    cases el : pLine (Kf c R (Lf c R)) (Nf c R (Lf c R)) j with
    | inl e =>
      rw [el] at x
      obtain ⟨g, x1, x2, x3⟩ := x
      show ∃ h', X12_readAll_L39 F (kk + 1) 113 (n : Int) h = some (-1, h') ∧ MF c R h' e ∧ OM h h'
      refine ⟨g, ?_, x2, x3.1⟩
      rw [X12_readAll_L39_s, mR113 h _ d.1.L, b_xb _ _ _ _ x1, if_pos rfl]
    | inr y =>
      obtain ⟨l, k⟩ := y
      rw [el] at x
      obtain ⟨g, dp', x1, x2, x3, x4, x5, x6, x7, x8⟩ := x
      have lS : (S ++ linM l).length = S.length + (linM l).length := List.length_append
      have dk : MCx c R g k (S ++ linM l) _ _ dp' := ⟨x2, x3⟩
      have kT := dk.jT
      obtain ⟨p, b1, b2, b3, b4⟩ := M_blanks hF dk
      obtain ⟨k1, k2, k3⟩ := at_kind x2.1 b4 b3
      have bb := x2.1.pt (p : Int) (p : Int)
      have hR := bb.2.1
      have og : OM h (ptH g (p : Int) (p : Int)) := x4.1.tr (OR.pt g _ _).1
      have base : LnOk (ptH g (p : Int) (p : Int)) (S ++ linM l) (22 + 6 * (n : Int)) l := by
        have z : LnOk g (S ++ linM l) (22 + 6 * (n : Int)) l := ⟨x5, S.length, x6, x7, by omega, fun i s w => by rw [List.getElem?_append_right (Nat.le_add_right _ _), Nat.add_sub_cancel_left]; exact w⟩
        have z2 := z.on (h' := ptH g (p : Int) (p : Int)) [] (fun i q1 q2 => (OR.pt g _ _).2 i (by omega) (by omega))
        rw [List.append_nil] at z2
        exact z2
      have st : X12_readAll_L39 F (kk + 1) 113 (n : Int) h = if (p : Int) = (R : Int) then some (w32 ((n : Int) + 1), ptH g (p : Int) (p : Int)) else xb (X12_isAt F 113 59 59 (ptH g (p : Int) (p : Int))) fun v11 h12 => if v11 = 0 then some (-1, h12) else (xgI h12 (some 113) 12 31 6).bind fun v15 => (xpI h12 (some 113) 12 31 6 (w32 (v15 + 1))).bind fun h16 => X12_readAll_L39 F kk 113 (w32 ((n : Int) + 1)) h16 := by
        rw [X12_readAll_L39_s, mR113 h _ d.1.L, b_xb _ _ _ _ x1, if_neg (by decide), mR113 g _ x2.L, b_xb _ _ _ _ b1, mI113 _ 6 _ bb.1, mI113 _ 7 _ bb.1, ptH_g6, bb.2.2.1, mR113 _ _ bb.1]
      rw [st]
      show match (if (Kf c R (Lf c R)) k = -1 then Sum.inr ([l], k) else if (Kf c R (Lf c R)) k = 59 then (match pLs (Kf c R (Lf c R)) (Nf c R (Lf c R)) f (k + 1) with | .inl e => Sum.inl e | .inr (ls, m) => Sum.inr (l :: ls, m)) else Sum.inl k : Rs (List Lin)) with
        | .inl e => _
        | .inr (A, _) => _
      by_cases c1 : (Kf c R (Lf c R)) k = -1
      · have pe : p = R := by
          rcases Nat.lt_or_ge p R with w | w
          · exact absurd ((k2 w).1.symm.trans c1) (knD_1 (x2.1.c0 w).1)
          · omega
        have ef : [l].flatMap linM = linM l := by rw [List.flatMap_singleton]
        rw [if_pos c1, if_pos (by rw [pe]), w32j (by omega)]
        show ∃ (h' : HP) (dp' : Int), some (((n + 1 : Nat) : Int), ptH g (p : Int) (p : Int)) = some (((n + 1 : Nat) : Int), h') ∧ MR c R h' (S ++ [l].flatMap linM) (rdF rd wr [l]) (wrF wr [l]) dp' ∧ OM h h' ∧ (∀ i : Int, 0 ≤ i → i < 22 + 6 * (n : Int) → aI h' 118 i = aI h 118 i) ∧ (∀ (m : Nat) (l' : Lin), [l][m]? = some l' → LnOk h' (S ++ [l].flatMap linM) (22 + 6 * ((n + m : Nat) : Int)) l')
        rw [ef]
        refine ⟨_, dp', rfl, (x2.pt _ _).wrc (fun i _ => ?_), og, fun i q1 q2 => ?_, fun m l' w => ?_⟩
        · unfold wrF
          rw [List.any_cons, List.any_nil, Bool.or_false]
        · rw [(OR.pt g _ _).2 i q1 (by omega)]; exact x4.2 i q1 (by omega) (by omega)
        · cases m with
          | zero =>
            have w' : some l = some l' := w
            cases w'
            exact base
          | succ m =>
            have w' : ([] : List Lin)[m]? = some l' := w
            rw [List.getElem?_nil] at w'
            cases w'
      have pl : p < R := by
        rcases Nat.lt_or_ge p R with w | w
        · exact w
        · exact absurd (k3 w) c1
      obtain ⟨m1, m2, m3⟩ := k2 pl
      have pR : ¬ ((p : Int) = (R : Int)) := by omega
      rw [if_neg c1, if_neg pR]
      by_cases c2 : (Kf c R (Lf c R)) k = 59
      · have cp : c p = 59 := (knD_sym (R := R) (by decide)).mp (m1.symm.trans c2)
        rw [enD_sym (by decide) cp] at m3
        have d8 : MCx c R (ptH g ((p + 1 : Nat) : Int) (p : Int)) (k + 1) (S ++ linM l) _ _ dp' := ⟨x2.pt _ _, p + 1, ptH_g6 _ _ _, m3⟩
        have z := ih (n + 1) kk (k + 1) _ _ _ _ _ (by omega) (by omega) d8 (by omega)
        rw [if_pos c2, b_xb _ _ _ _ (Q_at1 bb (ptH_g6 _ _ _) pl (by decide) (by decide) (by omega)), if_neg (by decide), mI113 _ 6 _ bb.1, ptH_g6, w32j (by omega), mW113 _ 6 _ _ bb.1, ptH_s6, w32j (by omega)]
        have o9 : OM h (ptH g ((p + 1 : Nat) : Int) (p : Int)) := x4.1.tr (OR.pt g _ _).1
        cases e2 : pLs (Kf c R (Lf c R)) (Nf c R (Lf c R)) f (k + 1) with
        | inl e =>
          rw [e2] at z
          obtain ⟨h', z1, z2, z3⟩ := z
          exact ⟨h', z1, z2, o9.tr z3⟩
        | inr y =>
          obtain ⟨A, m⟩ := y
          rw [e2] at z
          obtain ⟨h', dp2, z1, z2, z3, z4, z5⟩ := z
          have ep : S ++ linM l ++ A.flatMap linM = S ++ (l :: A).flatMap linM := by rw [List.flatMap_cons, List.append_assoc]
          have en : n + 1 + A.length = n + (l :: A).length := by rw [List.length_cons]; omega
          rw [ep] at z2 z5
          show ∃ (h' : HP) (dp' : Int), X12_readAll_L39 F kk 113 ((n + 1 : Nat) : Int) (ptH g ((p + 1 : Nat) : Int) (p : Int)) = some (((n + (l :: A).length : Nat) : Int), h') ∧ MR c R h' (S ++ (l :: A).flatMap linM) (rdF rd wr (l :: A)) (wrF wr (l :: A)) dp' ∧ OM h h' ∧ (∀ i : Int, 0 ≤ i → i < 22 + 6 * (n : Int) → aI h' 118 i = aI h 118 i) ∧ (∀ (m : Nat) (l' : Lin), (l :: A)[m]? = some l' → LnOk h' (S ++ (l :: A).flatMap linM) (22 + 6 * ((n + m : Nat) : Int)) l')
          refine ⟨h', dp2, ?_, ?_, o9.tr z3, fun i q1 q2 => ?_, fun m l' w => ?_⟩
          · rw [z1, en]
          · rw [← wrF_cons]
            exact z2
          · rw [z4 i q1 (by omega), (OR.pt g _ _).2 i q1 (by omega)]; exact x4.2 i q1 (by omega) (by omega)
          · cases m with
            | zero =>
              have w' : some l = some l' := w
              cases w'
              rw [← ep]
              exact base.on (A.flatMap linM) (fun i q1 q2 => by
                rw [z4 i (by omega) (by omega), (OR.pt g _ _).2 i (by omega) (by omega), (OR.pt g _ _).2 i (by omega) (by omega)])
            | succ m =>
              have w' : A[m]? = some l' := w
              have v := z5 m l' w'
              rw [show n + (m + 1) = n + 1 + m by omega]
              exact v
      · have cp : ¬ (p < R ∧ 59 ≤ c p ∧ c p ≤ 59) := fun w => c2 (m1.trans ((knD_sym (R := R) (by decide)).mpr (by omega)))
        rw [if_neg c2, b_xb _ _ _ _ (Q_at0 bb (ptH_g6 _ _ _) (by decide) (by decide) cp), if_pos rfl]
        exact ⟨_, rfl, ⟨bb, (ptH_g8 _ _ _).trans k1.symm⟩, og⟩
/-- the reference reads the text that lies on its tape -/
theorem M_text (hF : 500 ≤ F) (b : BM c R h) (hc : ∀ i, i < R → 0 ≤ c i) : match pTx c R with
  | .inl e => ∃ h', X12_readAll F 113 h = some (-1, h') ∧ MF c R h' e ∧ OM h h'
  | .inr (A, _) => ∃ h', X12_readAll F 113 h = some ((A.length : Int), h') ∧ LayM h' ∧ STp h' (A.flatMap linM) ∧ (∀ i, i < 64 → tb (gJ h' 113 15) i = rdF (fun _ => false) (fun _ => false) A i) ∧ (∀ i, i < 64 → tb (gJ h' 113 14) i = wrF (fun _ => false) A i) ∧ OM h h' ∧ ∀ (m : Nat) (l : Lin), A[m]? = some l → LnOk h' (A.flatMap linM) (22 + 6 * (m : Int)) l := by
  have hR := b.2.1
  obtain ⟨lf1, lf2⟩ := Lf_in c R
  have o := Kf_ok hR hc (Lf c R) lf1 lf2
  have L := b.1
  have o4 : OM h (sJ (sJ (sI (sI h 113 6 0) 113 13 0) 113 14 0) 113 15 0) := (((OM.I h 6 0 (by omega)).tr (OM.I _ 13 0 (by omega))).tr (OM.J _ 14 0)).tr (OM.J _ 15 0)
  have d4 : MCx c R (sJ (sJ (sI (sI h 113 6 0) 113 13 0) 113 14 0) 113 15 0) 0 [] (fun _ => false) (fun _ => false) (gI h 113 9) := by
    refine ⟨⟨b.om o4, ⟨?_, fun i s e => (by cases e)⟩, ?_, fun i hi => ?_, fun i hi => ?_⟩, 0, ?_, atP_0 c R⟩
    · rw [gI_sJ, gI_sJ, gI_sIe]; rfl
    · rw [gI_sJ, gI_sJ, gI_sIk _ _ _ _ _ (by decide), gI_sIk _ _ _ _ _ (by decide)]
    · rw [gJ_sJe]; exact tb_0 i
    · rw [gJ_sJ, if_neg (by omega), gJ_sJe]; exact tb_0 i
    · rw [gI_sJ, gI_sJ, gI_sIk _ _ _ _ _ (by decide), gI_sIe]; rfl
  have e4 : X12_readAll F 113 h = xb (X12_blanks F 113 (sJ (sJ (sI (sI h 113 6 0) 113 13 0) 113 14 0) 113 15 0)) fun _ h6 => (xgI h6 (some 113) 12 31 6).bind fun v8 => (xgI h6 (some 113) 12 31 7).bind fun v9 => if v8 = v9 then some (0, h6) else X12_readAll_L39 F F 113 0 h6 := by
    unfold X12_readAll
    rw [mW113 h 6 _ _ L, mW113 _ 13 _ _ (by exact L), mV113 _ 14 _ _ (by exact L), mV113 _ 15 _ _ (by exact L), mR113 _ _ (by exact L)]
  rw [e4]
  revert d4 o4
  generalize sJ (sJ (sI (sI h 113 6 0) 113 13 0) 113 14 0) 113 15 0 = g
  intro o4 d4
  obtain ⟨p, b1, b2, b3, b4⟩ := M_blanks hF d4
  obtain ⟨k1, k2, k3⟩ := at_kind d4.1.1 b4 b3
  have bb := d4.1.1.pt (p : Int) (p : Int)
  have og : OM h (ptH g (p : Int) (p : Int)) := o4.tr (OR.pt g _ _).1
  have d5 : MCx c R (ptH g (p : Int) (p : Int)) 0 [] (fun _ => false) (fun _ => false) (gI h 113 9) := ⟨d4.1.pt _ _, p, ptH_g6 _ _ _, b4⟩
  rw [b_xb _ _ _ _ b1, mI113 _ 6 _ bb.1, mI113 _ 7 _ bb.1, ptH_g6, bb.2.2.1]
  show match (if (Kf c R (Lf c R)) 0 = -1 then Sum.inr ([], 0) else pLs (Kf c R (Lf c R)) (Nf c R (Lf c R)) 10 0 : Rs (List Lin)) with
    | .inl e => _
    | .inr (A, _) => _
  by_cases c1 : (Kf c R (Lf c R)) 0 = -1
  · have pe : p = R := by
      rcases Nat.lt_or_ge p R with w | w
      · exact absurd ((k2 w).1.symm.trans c1) (knD_1 (b.c0 w).1)
      · omega
    rw [if_pos c1, if_pos (by rw [pe])]
    exact ⟨_, rfl, d5.1.L, d5.1.2.1, fun i hi => d5.1.2.2.2.1 i hi, fun i hi => (d5.1.2.2.2.2 i hi).trans (by unfold wrF; rw [List.any_nil]; rfl), og, fun m l w => (by cases w)⟩
  · have pl : ¬ ((p : Int) = (R : Int)) := fun w => c1 (k3 (by omega))
    have z := M_lines o hF 10 0 F 0 _ _ _ _ _ rfl (by omega) d5 (Nat.le_refl _)
    rw [if_neg c1, if_neg pl]
    cases e2 : pLs (Kf c R (Lf c R)) (Nf c R (Lf c R)) 10 0 with
    | inl e =>
      rw [e2] at z
      obtain ⟨h', z1, z2, z3⟩ := z
      exact ⟨h', z1, z2, og.tr z3⟩
    | inr y =>
      obtain ⟨A, m⟩ := y
      rw [e2] at z
      obtain ⟨h', dp2, z1, z2, z3, z4, z5⟩ := z
      rw [List.nil_append] at z2 z5
      rw [Nat.zero_add] at z1
      refine ⟨h', z1, z2.L, z2.2.1, fun i hi => z2.2.2.2.1 i hi, fun i hi => z2.2.2.2.2 i hi, og.tr z3, fun m l w => ?_⟩
      have v := z5 m l w
      rw [Nat.zero_add] at v
      exact v
end RFM
