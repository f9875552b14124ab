/-! the reference reads lines: the rows of the draft -/
def OL (o : Int) (h h' : HP) : Prop := OM h h' ∧ ∀ i : Int, 0 ≤ i → i < 82 → ¬ (o ≤ i ∧ i < o + 6) → aI h' 118 i = aI h 118 i
theorem OL.rf (o : Int) (h : HP) : OL o h h := ⟨OM.rf h, fun _ _ _ _ => rfl⟩
theorem OL.tr {o : Int} {a b d : HP} (x : OL o a b) (y : OL o b d) : OL o a d := ⟨x.1.tr y.1, fun i q1 q2 q3 => (y.2 i q1 q2 q3).trans (x.2 i q1 q2 q3)⟩
theorem OR.ol {a b : HP} (x : OR a b) (o : Int) : OL o a b := ⟨x.1, fun i q1 q2 _ => x.2 i q1 q2⟩
/-- one row written -/
def UP (h h' : HP) (a v : Int) : Prop := OM h h' ∧ ∀ i : Int, 0 ≤ i → i < 82 → aI h' 118 i = if i = a then v else aI h 118 i
theorem UP.ol {h h' : HP} {a v o : Int} (x : UP h h' a v) (q : o ≤ a ∧ a < o + 6) : OL o h h' := ⟨x.1, fun i q1 q2 q3 => by rw [x.2 i q1 q2, if_neg (by omega)]⟩
theorem UP.A (h : HP) (a v : Int) (q : 0 ≤ a ∧ a < 82) : UP h (sA h 118 a v) a v := ⟨OM.A h a v, fun i q1 q2 => by rw [aI_sA _ _ _ _ _ (by omega) (by omega)]⟩
theorem UP.pre {h g h' : HP} {a v : Int} (o : OR h g) (x : UP g h' a v) : UP h h' a v := ⟨o.1.tr x.1, fun i q1 q2 => by rw [x.2 i q1 q2, o.2 i q1 q2]⟩
theorem w32o {o : Int} (ho : 22 ≤ o ∧ o + 6 ≤ 82) (k : Int) (hk : 0 ≤ k ∧ k < 6) : w32 (o + k) = o + k := w32i _ (by omega) (by omega)
section RFL
variable {F : Nat} {c : Nat → Int} {R : Nat} {h : HP} {j : Nat} {S : List (Int × Int)} {rd wr : Nat → Bool} {dp : Int}
theorem MR.L (d : MR c R h S rd wr dp) : LayM h := d.1.1
theorem MR.row (d : MR c R h S rd wr dp) (a v : Int) (q : 0 ≤ a ∧ a < 82) : MR c R (sA h 118 a v) S rd wr dp := by
  obtain ⟨b1, ⟨b2, b3⟩, b4, b5, b6⟩ := d
  refine ⟨b1.om (OM.A h a v), ⟨?_, fun i s e => ?_⟩, ?_, b5, b6⟩
  · rw [gI_sAn _ _ _ _ _ (by decide)]; exact b2
  · rw [aI_sA _ _ _ _ _ (by omega) (by omega), aI_sA _ _ _ _ _ (by omega) (by omega), if_neg (by omega), if_neg (by omega)]; exact b3 i s e
  · rw [gI_sAn _ _ _ _ _ (by decide)]; exact b4
theorem MCx.row (d : MCx c R h j S rd wr dp) (a v : Int) (q : 0 ≤ a ∧ a < 82) : MCx c R (sA h 118 a v) j S rd wr dp := ⟨d.1.row a v q, d.2.of (by rw [gI_sAn _ _ _ _ _ (by decide)])⟩
theorem MF.row {e : Nat} (d : MF c R h e) (a v : Int) : MF c R (sA h 118 a v) e := ⟨d.1.om (OM.A h a v), by rw [gI_sAn _ _ _ _ _ (by decide)]; exact d.2⟩
theorem MR.wrc {wr' : Nat → Bool} (d : MR c R h S rd wr dp) (e : ∀ i, i < 64 → wr' i = wr i) : MR c R h S rd wr' dp := ⟨d.1, d.2.1, d.2.2.1, d.2.2.2.1, fun i hi => (d.2.2.2.2 i hi).trans (e i hi).symm⟩
theorem M_tw1 (o : okK (Kf c R (Lf c R)) (Nf c R (Lf c R)) (Lf c R).length) (hF : 500 ≤ F) (d : MCx c R h j S rd wr dp) (a : Int) (ha : 0 ≤ a ∧ a < 82) (low : Int) (q : (Kf c R (Lf c R)) j = -2 ∧ low ≤ (Nf c R (Lf c R)) j ∧ (Nf c R (Lf c R)) j ≤ 63) : ∃ h', X12_tellsWord F 113 a low h = some (1, h') ∧ MCx c R h' (j + 1) S rd wr dp ∧ UP h h' a ((Nf c R (Lf c R)) j) := by
  have b := o.2.2 j q.1
  obtain ⟨g, a1, a2, a3, a4⟩ := M_num1 hF d low 63 q
  refine ⟨sA g 118 a ((Nf c R (Lf c R)) j), ?_, a2.row a _ ha, (UP.A g a _ ha).pre a3⟩
  unfold X12_tellsWord
  rw [mP113_12 h _ d.1.L, mR113 h _ d.1.L, b_xb _ _ _ _ a1, mS118 g _ _ _ a2.1.L ha.1 (by omega), mP113_12 _ _ (by exact a2.1.L), mA118 _ _ _ (by exact a2.1.L) ha.1 (by omega), aI_sA _ _ _ _ _ ha.1 ha.1, if_pos rfl, if_neg (by omega)]
theorem M_tw0 (hF : 500 ≤ F) (d : MCx c R h j S rd wr dp) (a : Int) (ha : 0 ≤ a ∧ a < 82) (low : Int) (q : ¬ ((Kf c R (Lf c R)) j = -2 ∧ low ≤ (Nf c R (Lf c R)) j ∧ (Nf c R (Lf c R)) j ≤ 63)) : ∃ h', X12_tellsWord F 113 a low h = some (0, h') ∧ MF c R h' j ∧ UP h h' a (-1) := by
  obtain ⟨g, a1, a2, a3, a4⟩ := M_num0 hF d low 63 q
  refine ⟨sA g 118 a (-1), ?_, a2.row a _, (UP.A g a _ ha).pre a4⟩
  unfold X12_tellsWord
  rw [mP113_12 h _ d.1.L, mR113 h _ d.1.L, b_xb _ _ _ _ a1, mS118 g _ _ _ a3.L ha.1 (by omega), mP113_12 _ _ (by exact a3.L), mA118 _ _ _ (by exact a3.L) ha.1 (by omega), aI_sA _ _ _ _ _ ha.1 ha.1, if_pos rfl, if_pos (by decide)]
theorem M_named (d : MR c R h S rd wr dp) {o w : Int} (ho : 22 ≤ o ∧ o + 6 ≤ 82) (hw : 0 ≤ w ∧ w < 64) (e : aI h 118 (o + 1) = w) : ∃ h', X12_readRest_L221 F 113 o h = some (1, h') ∧ MR c R h' S rd (fun i => wr i || decide (w = (i : Int))) dp ∧ gI h' = gI h ∧ OR h h' := by
  obtain ⟨n, rfl⟩ := Int.eq_ofNat_of_zero_le hw.1
  have hn : n < 64 := by omega
  obtain ⟨b1, b2, b4, b5, b6⟩ := d
  have L := b1.1
  refine ⟨sJ h 113 14 (yor (gJ h 113 14) (yshl 1 (n : Int))), ?_, ⟨b1.om (OM.J h 14 _), b2, b4, fun i hi => ?_, fun i hi => ?_⟩, rfl, OR.J h 14 _⟩
  · unfold X12_readRest_L221
    rw [mJ113 h 14 _ L, mP113_12 h _ L, w32o ho 1 (by decide), mA118 h _ _ L (by omega) (by omega), e, mV113 h 14 _ _ L]
  · rw [gJ_sJ, if_neg (by omega)]; exact b5 i hi
  · show _ = (wr i || decide ((n : Int) = (i : Int)))
    rw [gJ_sJe, tb_or, b6 i hi, tb_shl1 n hn i hi, dec_w]
theorem M_readsL {o : Int} (ho : 22 ≤ o ∧ o + 6 ≤ 82) (b : Nat) (hb : b < 64) : ∀ (f k a : Nat) (h : HP) (rd : Nat → Bool), MR c R h S rd wr dp → a + f = b + 1 → f < k → aI h 118 (o + 3) = (b : Int) → ∃ h', X12_readRest_L143 F k 113 o (a : Int) h = X12_readRest_L221 F 113 o h' ∧ MR c R h' S (fun i => rd i || ((decide ((a : Int) ≤ (i : Int)) && decide ((i : Int) ≤ (b : Int))) && !wr i)) wr dp ∧ gI h' = gI h ∧ OR h h' := by
  intro f
  induction f with
  | zero =>
    intro k a h rd d ha hk e
    obtain ⟨k, rfl⟩ : ∃ k', k = k' + 1 := ⟨k - 1, by omega⟩
    refine ⟨h, ?_, d.rdc (fun i _ => ?_), rfl, OR.rf h⟩
    · rw [X12_readRest_L143_s, mP113_12 h _ d.L, w32o ho 3 (by decide), mA118 h _ _ d.L (by omega) (by omega), e, if_pos (by omega)]
    · have q : (decide ((a : Int) ≤ (i : Int)) && decide ((i : Int) ≤ (b : Int))) = false := by
        by_cases w : (a : Int) ≤ (i : Int)
        · rw [decide_eq_false (show ¬ (i : Int) ≤ (b : Int) by omega), Bool.and_false]
        · rw [decide_eq_false w, Bool.false_and]
      show (rd i || ((decide ((a : Int) ≤ (i : Int)) && decide ((i : Int) ≤ (b : Int))) && !wr i)) = rd i
      rw [q, Bool.false_and, Bool.or_false]
  | succ f ih =>
    intro k a h rd d ha hk e
    obtain ⟨k, rfl⟩ : ∃ k', k = k' + 1 := ⟨k - 1, by omega⟩
    obtain ⟨g, r1, r2, r3, r4⟩ := M_isRead (F := F) d (a : Int) (by omega)
    have e' : aI g 118 (o + 3) = (b : Int) := by
      show gI g 118 _ = _
      rw [r4]
      exact e
    obtain ⟨g2, s1, s2, s3, s4⟩ := ih k (a + 1) g _ r2 (by omega) (by omega) e'
    refine ⟨g2, ?_, s2.rdc (fun i _ => ?_), s3.trans r4, r3.tr s4⟩
    · rw [X12_readRest_L143_s, mP113_12 h _ d.L, w32o ho 3 (by decide), mA118 h _ _ d.L (by omega) (by omega), e, if_neg (by omega), mR113 h _ d.L, b_xb _ _ _ _ r1, w32j (by omega)]
      exact s1
    · have q : (decide ((a : Int) ≤ (i : Int)) && decide ((i : Int) ≤ (b : Int))) = (decide ((a : Int) = (i : Int)) || (decide (((a + 1 : Nat) : Int) ≤ (i : Int)) && decide ((i : Int) ≤ (b : Int)))) := by
        by_cases w : (a : Int) = (i : Int)
        · rw [decide_eq_true w, decide_eq_true (show (a : Int) ≤ (i : Int) by omega), decide_eq_true (show (i : Int) ≤ (b : Int) by omega), Bool.true_or]; rfl
        · rw [decide_eq_false w, Bool.false_or]
          by_cases w2 : (a : Int) ≤ (i : Int)
          · rw [decide_eq_true w2, decide_eq_true (show ((a + 1 : Nat) : Int) ≤ (i : Int) by omega)]
          · rw [decide_eq_false w2, decide_eq_false (show ¬ ((a + 1 : Nat) : Int) ≤ (i : Int) by omega)]
      show (rd i || ((decide ((a : Int) ≤ (i : Int)) && decide ((i : Int) ≤ (b : Int))) && !wr i)) = _
      rw [q]
      exact (rd_join (rd i) (decide ((a : Int) = (i : Int))) (decide (((a + 1 : Nat) : Int) ≤ (i : Int)) && decide ((i : Int) ≤ (b : Int))) (wr i)).symm
/-! the rest of a line, by its sort -/
def RowL (h : HP) (o : Int) (l : Lin) : Prop := aI h 118 o = l.1 ∧ (l.1 < 3 → aI h 118 (o + 1) = l.2.1) ∧ (l.1 < 3 → aI h 118 (o + 2) = l.2.2.1) ∧ (l.1 = 1 → aI h 118 (o + 3) = l.2.2.2.1)
def RLn (c : Nat → Int) (R : Nat) (h : HP) (P : Option (Int × HP)) (r : Rs Lin) (j : Nat) (S : List (Int × Int)) (rd wr : Nat → Bool) (o : Int) : Prop :=
  match r with
  | .inl e => ∃ h', P = some (0, h') ∧ MF c R h' e ∧ OL o h h'
  | .inr (l, k) => ∃ (h' : HP) (dp' : Int), P = some (1, h') ∧ MR c R h' (S ++ linM l) (fun i => rd i || (rdl l i && !wr i)) (fun i => wr i || wrl l i) dp' ∧ PA c R h' k ∧ OL o h h' ∧ RowL h' o l ∧ aI h' 118 (o + 4) = aI h 118 (o + 4) ∧ (linM l).length + j ≤ k
theorem wd7 : Wd 7 265 := ⟨by decide, by decide, 9, rfl, rfl⟩
theorem wd15 : Wd 15 259 := ⟨by decide, by decide, 3, rfl, rfl⟩
theorem wd16 : Wd 16 260 := ⟨by decide, by decide, 4, rfl, rfl⟩
theorem wd17 : Wd 17 262 := ⟨by decide, by decide, 6, rfl, rfl⟩
theorem M_rSet (o : okK (Kf c R (Lf c R)) (Nf c R (Lf c R)) (Lf c R).length) (hF : 500 ≤ F) {q r : Int} (hq : 22 ≤ q ∧ q + 6 ≤ 82) (d : MCx c R h j S rd wr dp) (room : S.length ≤ j) (e1 : aI h 118 q = 0) (e2 : aI h 118 (q + 2) = r) : RLn c R h (X12_readRest F 113 q h) (pSet (Kf c R (Lf c R)) (Nf c R (Lf c R)) r j) j S rd wr q := by
  have hT := o.1
  unfold X12_readRest pSet
  rw [mP113_12 h _ d.1.L, mA118 h _ _ d.1.L (by omega) (by omega), e1, if_neg (by decide), if_neg (by decide), mR113 h _ d.1.L, w32o hq 1 (by decide)]
  by_cases c1 : (Kf c R (Lf c R)) j = -2 ∧ 16 ≤ (Nf c R (Lf c R)) j ∧ (Nf c R (Lf c R)) j ≤ 63
  · obtain ⟨g, a1, a2, a3⟩ := M_tw1 o hF d (q + 1) (by omega) 16 c1
    rw [b_xb _ _ _ _ a1, if_neg (by decide), if_pos rfl, mR113 g _ a2.1.L, if_pos c1]
    have og := a3.ol (o := q) (by omega)
    by_cases c2 : (Kf c R (Lf c R)) (j + 1) = 61
    · obtain ⟨g2, s1, s2, s3, -⟩ := M_sign1 hF a2 61 (by decide) c2
      have x := M_sum o hF s2 (by omega)
      rw [b_xb _ _ _ _ s1, if_neg (by decide), mR113 g2 _ s2.1.L, if_pos c2, show j + 2 = j + 1 + 1 from rfl]
      have og2 := og.tr (s3.ol q)
      cases es : pSum (Kf c R (Lf c R)) (Nf c R (Lf c R)) (j + 1 + 1) with
      | inl e =>
        rw [es] at x
        obtain ⟨g3, x1, x2, x3⟩ := x
        rw [b_xb _ _ _ _ x1, if_pos rfl]
        exact ⟨g3, rfl, x2, og2.tr (x3.ol q)⟩
      | inr y =>
        obtain ⟨s, k⟩ := y
        rw [es] at x
        obtain ⟨g3, x1, x2, x3, x4⟩ := x
        have rw_ : ∀ i : Int, 0 ≤ i → i < 82 → aI g3 118 i = if i = q + 1 then (Nf c R (Lf c R)) j else aI h 118 i := fun i q1 q2 => by rw [x3.2 i q1 q2, s3.2 i q1 q2, a3.2 i q1 q2]
        obtain ⟨g4, n1, n2, n3, n4⟩ := M_named (F := F) x2.1 hq (w := (Nf c R (Lf c R)) j) (by omega) (by rw [rw_ (q + 1) (by omega) (by omega), if_pos rfl])
        rw [b_xb _ _ _ _ x1, if_neg (by decide)]
        have r4 : ∀ i : Int, 0 ≤ i → i < 82 → aI g4 118 i = if i = q + 1 then (Nf c R (Lf c R)) j else aI h 118 i := fun i q1 q2 => by rw [n4.2 i q1 q2]; exact rw_ i q1 q2
        refine ⟨g4, dp, n1, n2.wrc (fun i _ => ?_), x2.2.of (by rw [n3]), (og2.tr (x3.ol q)).tr (n4.ol q), ⟨?_, fun _ => ?_, fun _ => ?_, fun w => ?_⟩, ?_, ?_⟩
        · show (wr i || (true && decide ((Nf c R (Lf c R)) j = (i : Int)))) = _
          rw [Bool.true_and]
        · rw [r4 q (by omega) (by omega), if_neg (by omega)]; exact e1
        · rw [r4 (q + 1) (by omega) (by omega), if_pos rfl]
        · rw [r4 (q + 2) (by omega) (by omega), if_neg (by omega)]; exact e2
        · exact absurd w (by show ¬ (0 : Int) = 1; decide)
        · rw [r4 (q + 4) (by omega) (by omega), if_neg (by omega)]
        · show (sumM s).length + j ≤ k; omega
    · obtain ⟨g2, s1, s2, s3, s4⟩ := M_sign0 hF a2 61 (by decide) c2
      rw [b_xb _ _ _ _ s1, if_pos rfl, if_neg c2]
      exact ⟨g2, rfl, ⟨s2.1.1, s4⟩, og.tr (s3.ol q)⟩
  · obtain ⟨g, a1, a2, a3⟩ := M_tw0 hF d (q + 1) (by omega) 16 c1
    rw [b_xb _ _ _ _ a1, if_pos rfl, if_neg c1]
    exact ⟨g, rfl, a2, a3.ol (by omega)⟩
theorem M_rTot (o : okK (Kf c R (Lf c R)) (Nf c R (Lf c R)) (Lf c R).length) (hF : 500 ≤ F) {q : Int} (hq : 22 ≤ q ∧ q + 6 ≤ 82) (d : MCx c R h j S rd wr dp) (e1 : aI h 118 q = 1) : RLn c R h (X12_readRest F 113 q h) (pTot (Kf c R (Lf c R)) (Nf c R (Lf c R)) j) j S rd wr q := by
  have hT := o.1
  unfold X12_readRest pTot
  rw [mP113_12 h _ d.1.L, mA118 h _ _ d.1.L (by omega) (by omega), e1, if_neg (by decide), if_neg (by decide), mR113 h _ d.1.L, w32o hq 1 (by decide)]
  by_cases c1 : (Kf c R (Lf c R)) j = -2 ∧ 16 ≤ (Nf c R (Lf c R)) j ∧ (Nf c R (Lf c R)) j ≤ 63
  · obtain ⟨g, a1, a2, a3⟩ := M_tw1 o hF d (q + 1) (by omega) 16 c1
    rw [b_xb _ _ _ _ a1, if_neg (by decide), if_neg (by decide), if_pos rfl, mR113 g _ a2.1.L, if_pos c1]
    have og := a3.ol (o := q) (by omega)
    by_cases c2 : (Kf c R (Lf c R)) (j + 1) = 259
    · obtain ⟨g2, s1, s2, s3⟩ := M_needs1 hF a2 wd15 c2
      have s1' : X12_needs F 113 (some 1000015) g = some (1, g2) := s1
      have og2 := og.tr (s3.ol q)
      rw [b_xb _ _ _ _ s1', if_neg (by decide), mR113 g2 _ s2.1.L, if_pos c2, w32o hq 2 (by decide)]
      by_cases c3 : (Kf c R (Lf c R)) (j + 2) = -2 ∧ (Nf c R (Lf c R)) (j + 2) ≤ 63
      · have b3 := o.2.2 (j + 2) c3.1
        obtain ⟨g3, t1, t2, t3⟩ := M_tw1 o hF s2 (q + 2) (by omega) 0 ⟨c3.1, b3.1, c3.2⟩
        have og3 := og2.tr (t3.ol (o := q) (by omega))
        rw [b_xb _ _ _ _ t1, if_neg (by decide), mR113 g3 _ t2.1.L, if_pos c3]
        by_cases c4 : (Kf c R (Lf c R)) (j + 3) = 260
        · obtain ⟨g4, u1, u2, u3⟩ := M_needs1 hF t2 wd16 c4
          have u1' : X12_needs F 113 (some 1000016) g3 = some (1, g4) := u1
          have og4 := og3.tr (u3.ol q)
          have v2 : aI g4 118 (q + 2) = (Nf c R (Lf c R)) (j + 2) := by rw [u3.2 _ (by omega) (by omega), t3.2 _ (by omega) (by omega), if_pos rfl]
          rw [b_xb _ _ _ _ u1', if_neg (by decide), mP113_12 g4 _ u2.1.L, mA118 g4 _ _ u2.1.L (by omega) (by omega), v2, mR113 g4 _ u2.1.L, if_pos c4, w32o hq 3 (by decide)]
          by_cases c5 : (Kf c R (Lf c R)) (j + 4) = -2 ∧ (Nf c R (Lf c R)) (j + 2) ≤ (Nf c R (Lf c R)) (j + 4) ∧ (Nf c R (Lf c R)) (j + 4) ≤ 63
          · obtain ⟨g5, p1, p2, p3⟩ := M_tw1 o hF u2 (q + 3) (by omega) ((Nf c R (Lf c R)) (j + 2)) c5
            have og5 := og4.tr (p3.ol (o := q) (by omega))
            have r5 : ∀ i : Int, 0 ≤ i → i < 82 → aI g5 118 i = if i = q + 3 then (Nf c R (Lf c R)) (j + 4) else if i = q + 2 then (Nf c R (Lf c R)) (j + 2) else if i = q + 1 then (Nf c R (Lf c R)) j else aI h 118 i := fun i q1 q2 => by rw [p3.2 i q1 q2, u3.2 i q1 q2, t3.2 i q1 q2, s3.2 i q1 q2, a3.2 i q1 q2]
            obtain ⟨x, hx⟩ := Int.eq_ofNat_of_zero_le b3.1
            obtain ⟨y, hy⟩ := Int.eq_ofNat_of_zero_le (show 0 ≤ (Nf c R (Lf c R)) (j + 4) by omega)
            obtain ⟨g6, m1, m2, m3, m4⟩ := M_readsL (F := F) hq y (by omega) (y + 1 - x) F x g5 rd p2.1 (by omega) (by omega) (by rw [r5 (q + 3) (by omega) (by omega), if_pos rfl]; exact hy)
            have r6 : ∀ i : Int, 0 ≤ i → i < 82 → aI g6 118 i = if i = q + 3 then (Nf c R (Lf c R)) (j + 4) else if i = q + 2 then (Nf c R (Lf c R)) (j + 2) else if i = q + 1 then (Nf c R (Lf c R)) j else aI h 118 i := fun i q1 q2 => by rw [m4.2 i q1 q2]; exact r5 i q1 q2
            obtain ⟨g7, n1, n2, n3, n4⟩ := M_named (F := F) m2 hq (w := (Nf c R (Lf c R)) j) (by omega) (by rw [r6 (q + 1) (by omega) (by omega), if_neg (by omega), if_neg (by omega), if_pos rfl])
            have r7 : ∀ i : Int, 0 ≤ i → i < 82 → aI g7 118 i = if i = q + 3 then (Nf c R (Lf c R)) (j + 4) else if i = q + 2 then (Nf c R (Lf c R)) (j + 2) else if i = q + 1 then (Nf c R (Lf c R)) j else aI h 118 i := fun i q1 q2 => by rw [n4.2 i q1 q2]; exact r6 i q1 q2
            rw [b_xb _ _ _ _ p1, if_neg (by decide), mP113_12 g5 _ p2.1.L, mA118 g5 _ _ p2.1.L (by omega) (by omega), r5 (q + 2) (by omega) (by omega), if_neg (by omega), if_pos rfl, hx, m1, n1, if_pos (by rw [← hx]; exact c5)]
            refine ⟨g7, dp, rfl, ?_, p2.2.of (by rw [n3, m3]), (og5.tr (m4.ol q)).tr (n4.ol q), ⟨?_, fun _ => ?_, fun _ => ?_, fun _ => ?_⟩, ?_, ?_⟩
            · show MR c R g7 (S ++ []) _ _ dp
              rw [List.append_nil]
              refine (n2.wrc (wr' := fun i => wr i || wrl (1, (Nf c R (Lf c R)) j, (x : Int), (Nf c R (Lf c R)) (j + 4), [], []) i) (fun i _ => ?_)).rdc (fun i _ => ?_)
              · show (wr i || (true && decide ((Nf c R (Lf c R)) j = (i : Int)))) = _
                rw [Bool.true_and]
              · show (rd i || ((decide ((x : Int) ≤ (i : Int)) && decide ((i : Int) ≤ (Nf c R (Lf c R)) (j + 4))) && !wr i)) = (rd i || ((decide ((x : Int) ≤ (i : Int)) && decide ((i : Int) ≤ (y : Int))) && !wr i))
                rw [hy]
            · rw [r7 q (by omega) (by omega), if_neg (by omega), if_neg (by omega), if_neg (by omega)]; exact e1
            · rw [r7 (q + 1) (by omega) (by omega), if_neg (by omega), if_neg (by omega), if_pos rfl]
            · rw [r7 (q + 2) (by omega) (by omega), if_neg (by omega), if_pos rfl]; exact hx
            · rw [r7 (q + 3) (by omega) (by omega), if_pos rfl]
            · rw [r7 (q + 4) (by omega) (by omega), if_neg (by omega), if_neg (by omega), if_neg (by omega)]
            · show 0 + j ≤ j + 5; omega
          · obtain ⟨g5, p1, p2, p3⟩ := M_tw0 hF u2 (q + 3) (by omega) ((Nf c R (Lf c R)) (j + 2)) c5
            rw [b_xb _ _ _ _ p1, if_pos rfl, if_neg c5]
            exact ⟨g5, rfl, p2, og4.tr (p3.ol (by omega))⟩
        · obtain ⟨g4, u1, u2, u3⟩ := M_needs0 hF t2 wd16 c4
          have u1' : X12_needs F 113 (some 1000016) g3 = some (0, g4) := u1
          rw [b_xb _ _ _ _ u1', if_pos rfl, if_neg c4]
          exact ⟨g4, rfl, u2, og3.tr (u3.ol q)⟩
      · obtain ⟨g3, t1, t2, t3⟩ := M_tw0 hF s2 (q + 2) (by omega) 0 (fun w => c3 ⟨w.1, w.2.2⟩)
        rw [b_xb _ _ _ _ t1, if_pos rfl, if_neg c3]
        exact ⟨g3, rfl, t2, og2.tr (t3.ol (by omega))⟩
    · obtain ⟨g2, s1, s2, s3⟩ := M_needs0 hF a2 wd15 c2
      have s1' : X12_needs F 113 (some 1000015) g = some (0, g2) := s1
      rw [b_xb _ _ _ _ s1', if_pos rfl, if_neg c2]
      exact ⟨g2, rfl, s2, og.tr (s3.ol q)⟩
  · obtain ⟨g, a1, a2, a3⟩ := M_tw0 hF d (q + 1) (by omega) 16 c1
    rw [b_xb _ _ _ _ a1, if_pos rfl, if_neg c1]
    exact ⟨g, rfl, a2, a3.ol (by omega)⟩
theorem M_rRnd (o : okK (Kf c R (Lf c R)) (Nf c R (Lf c R)) (Lf c R).length) (hF : 500 ≤ F) {q : Int} (hq : 22 ≤ q ∧ q + 6 ≤ 82) (d : MCx c R h j S rd wr dp) (e1 : aI h 118 q = 2) : RLn c R h (X12_readRest F 113 q h) (pRnd (Kf c R (Lf c R)) (Nf c R (Lf c R)) j) j S rd wr q := by
  have hT := o.1
  unfold X12_readRest pRnd
  rw [mP113_12 h _ d.1.L, mA118 h _ _ d.1.L (by omega) (by omega), e1, if_neg (by decide), if_neg (by decide), mR113 h _ d.1.L, w32o hq 1 (by decide)]
  by_cases c1 : (Kf c R (Lf c R)) j = -2 ∧ 16 ≤ (Nf c R (Lf c R)) j ∧ (Nf c R (Lf c R)) j ≤ 63
  · obtain ⟨g, a1, a2, a3⟩ := M_tw1 o hF d (q + 1) (by omega) 16 c1
    rw [b_xb _ _ _ _ a1, if_neg (by decide), if_neg (by decide), if_neg (by decide), mR113 g _ a2.1.L, if_pos c1]
    have og := a3.ol (o := q) (by omega)
    by_cases c2 : (Kf c R (Lf c R)) (j + 1) = 262
    · obtain ⟨g2, s1, s2, s3⟩ := M_needs1 hF a2 wd17 c2
      have s1' : X12_needs F 113 (some 1000017) g = some (1, g2) := s1
      have og2 := og.tr (s3.ol q)
      rw [b_xb _ _ _ _ s1', if_neg (by decide), mP113_12 g2 _ s2.1.L, mR113 g2 _ s2.1.L, if_pos c2, w32o hq 2 (by decide)]
      by_cases c3 : (Kf c R (Lf c R)) (j + 2) = -2 ∧ 1 ≤ (Nf c R (Lf c R)) (j + 2) ∧ (Nf c R (Lf c R)) (j + 2) ≤ 9999
      · obtain ⟨g3, t1, t2, t3, -⟩ := M_num1 hF s2 1 9999 c3
        have t1' : X12_number F 113 1 9999 g2 = some ((Nf c R (Lf c R)) (j + 2), g3) := t1
        have t4 := t2.row (q + 2) ((Nf c R (Lf c R)) (j + 2)) (by omega)
        have up := (UP.A g3 (q + 2) ((Nf c R (Lf c R)) (j + 2)) (by omega)).pre t3
        have og3 := og2.tr (up.ol (o := q) (by omega))
        have r4 : ∀ i : Int, 0 ≤ i → i < 82 → aI (sA g3 118 (q + 2) ((Nf c R (Lf c R)) (j + 2))) 118 i = if i = q + 2 then (Nf c R (Lf c R)) (j + 2) else if i = q + 1 then (Nf c R (Lf c R)) j else aI h 118 i := fun i q1 q2 => by rw [up.2 i q1 q2, s3.2 i q1 q2, a3.2 i q1 q2]
        obtain ⟨g5, m1, m2, m3, m4⟩ := M_isRead (F := F) t4.1 ((Nf c R (Lf c R)) j) (by omega)
        have r5 : ∀ i : Int, 0 ≤ i → i < 82 → aI g5 118 i = if i = q + 2 then (Nf c R (Lf c R)) (j + 2) else if i = q + 1 then (Nf c R (Lf c R)) j else aI h 118 i := fun i q1 q2 => by rw [m3.2 i q1 q2]; exact r4 i q1 q2
        obtain ⟨g7, n1, n2, n3, n4⟩ := M_named (F := F) m2 hq (w := (Nf c R (Lf c R)) j) (by omega) (by rw [r5 (q + 1) (by omega) (by omega), if_neg (by omega), if_pos rfl])
        have r7 : ∀ i : Int, 0 ≤ i → i < 82 → aI g7 118 i = if i = q + 2 then (Nf c R (Lf c R)) (j + 2) else if i = q + 1 then (Nf c R (Lf c R)) j else aI h 118 i := fun i q1 q2 => by rw [n4.2 i q1 q2]; exact r5 i q1 q2
        rw [b_xb _ _ _ _ t1', mS118 g3 _ _ _ t2.1.L (by omega) (by omega), mP113_12 _ _ t4.1.L, mA118 _ _ _ t4.1.L (by omega) (by omega), r4 (q + 2) (by omega) (by omega), if_pos rfl, if_pos (by omega), mP113_12 _ _ t4.1.L, mA118 _ _ _ t4.1.L (by omega) (by omega), r4 (q + 1) (by omega) (by omega), if_neg (by omega), if_pos rfl, mR113 _ _ t4.1.L, b_xb _ _ _ _ m1, n1, if_pos c3]
        refine ⟨g7, dp, rfl, ?_, t4.2.of (by rw [n3, m4]), (og3.tr (m3.ol q)).tr (n4.ol q), ⟨?_, fun _ => ?_, fun _ => ?_, fun w => ?_⟩, ?_, ?_⟩
        · show MR c R g7 (S ++ []) _ _ dp
          rw [List.append_nil]
          refine (n2.wrc (wr' := fun i => wr i || wrl (2, (Nf c R (Lf c R)) j, (Nf c R (Lf c R)) (j + 2), 0, [], []) i) (fun i _ => ?_)).rdc (fun i _ => ?_)
          · show (wr i || (true && decide ((Nf c R (Lf c R)) j = (i : Int)))) = _
            rw [Bool.true_and]
          · rfl
        · rw [r7 q (by omega) (by omega), if_neg (by omega), if_neg (by omega)]; exact e1
        · rw [r7 (q + 1) (by omega) (by omega), if_neg (by omega), if_pos rfl]
        · rw [r7 (q + 2) (by omega) (by omega), if_pos rfl]
        · exact absurd w (by show ¬ (2 : Int) = 1; decide)
        · rw [r7 (q + 4) (by omega) (by omega), if_neg (by omega), if_neg (by omega)]
        · show 0 + j ≤ j + 3; omega
      · obtain ⟨g3, t1, t2, t3, t5⟩ := M_num0 hF s2 1 9999 c3
        have t4 := t3.row (q + 2) (-1) (by omega)
        have up := (UP.A g3 (q + 2) (-1) (by omega)).pre t5
        rw [b_xb _ _ _ _ t1, mS118 g3 _ _ _ t3.L (by omega) (by omega), mP113_12 _ _ t4.L, mA118 _ _ _ t4.L (by omega) (by omega), up.2 (q + 2) (by omega) (by omega), if_pos rfl, if_neg (by decide), if_neg c3]
        exact ⟨_, rfl, t2.row _ _, og2.tr (up.ol (by omega))⟩
    · obtain ⟨g2, s1, s2, s3⟩ := M_needs0 hF a2 wd17 c2
      have s1' : X12_needs F 113 (some 1000017) g = some (0, g2) := s1
      rw [b_xb _ _ _ _ s1', if_pos rfl, if_neg c2]
      exact ⟨g2, rfl, s2, og.tr (s3.ol q)⟩
  · obtain ⟨g, a1, a2, a3⟩ := M_tw0 hF d (q + 1) (by omega) 16 c1
    rw [b_xb _ _ _ _ a1, if_pos rfl, if_neg c1]
    exact ⟨g, rfl, a2, a3.ol (by omega)⟩
theorem M_rIf (o : okK (Kf c R (Lf c R)) (Nf c R (Lf c R)) (Lf c R).length) (hF : 500 ≤ F) {q so : Int} (hq : 22 ≤ q ∧ q + 6 ≤ 82) (hs : so = 3 ∨ so = 4) (d : MCx c R h j S rd wr dp) (room : S.length ≤ j) (e1 : aI h 118 q = so) : RLn c R h (X12_readRest F 113 q h) (pIf (Kf c R (Lf c R)) (Nf c R (Lf c R)) so j) j S rd wr q := by
  have hT := o.1
  have st : X12_readRest F 113 q h = X12_readRest_L17 F 113 h := by
    unfold X12_readRest
    rw [mP113_12 h _ d.1.L, mA118 h _ _ d.1.L (by omega) (by omega), e1]
    rcases hs with e | e
    · rw [if_pos e]
    · rw [if_neg (by omega), if_pos e]
  have d0 := d.dpt 0
  have o0 : OR h (sI h 113 9 0) := OR.I h 9 0 (by omega)
  rw [st]
  unfold X12_readRest_L17 pIf
  rw [mW113 h 9 _ _ d.1.L, mR113 _ _ d0.1.L]
  by_cases c1 : (Kf c R (Lf c R)) j = 265
  · obtain ⟨g, s1, s2, s3⟩ := M_needs1 hF d0 wd7 c1
    have s1' : X12_needs F 113 (some 1000007) (sI h 113 9 0) = some (1, g) := s1
    have x := M_cond o hF s2 (by omega)
    rw [b_xb _ _ _ _ s1', if_neg (by decide), mR113 g _ s2.1.L, if_pos c1]
    have og := o0.tr s3
    cases ep : pC (Kf c R (Lf c R)) (pT (Kf c R (Lf c R)) (Nf c R (Lf c R)) 6) (j + 1) with
    | inl e =>
      rw [ep] at x
      obtain ⟨g2, x1, x2, x3⟩ := x
      rw [b_xb _ _ _ _ x1]
      exact ⟨g2, rfl, x2, (og.tr x3).ol q⟩
    | inr y =>
      obtain ⟨ts, k⟩ := y
      rw [ep] at x
      obtain ⟨g2, x1, x2, x3, x4⟩ := x
      rw [b_xb _ _ _ _ x1]
      have r2 : ∀ i : Int, 0 ≤ i → i < 82 → aI g2 118 i = aI h 118 i := (og.tr x3).2
      have el : linM (so, 0, 0, 0, [], ts) = stC ts := by
        show (if so = 0 then sumM [] else if 3 ≤ so then ts.flatMap tokM else []) = _
        rw [if_neg (by omega), if_pos (by omega)]
        rfl
      have er : ∀ i, rdl (so, 0, 0, 0, [], ts) i = rdC ts i := fun i => by
        show (if so = 0 then rdS [] i else if so = 1 then _ else if so = 2 then _ else rdC ts i) = _
        rw [if_neg (by omega), if_neg (by omega), if_neg (by omega)]
      have ew : ∀ i, wrl (so, 0, 0, 0, [], ts) i = false := fun i => by
        show (decide (so < 3) && _) = false
        rw [decide_eq_false (by omega), Bool.false_and]
      refine ⟨g2, 0, rfl, ?_, x2.2, (og.tr x3).ol q, ⟨?_, fun w => ?_, fun w => ?_, fun w => ?_⟩, r2 _ (by omega) (by omega), ?_⟩
      · show MR c R g2 (S ++ linM (so, 0, 0, 0, [], ts)) (fun i => rd i || (rdl (so, 0, 0, 0, [], ts) i && !wr i)) (fun i => wr i || wrl (so, 0, 0, 0, [], ts) i) 0
        rw [el]
        refine (x2.1.wrc (fun i _ => ?_)).rdc (fun i _ => ?_)
        · rw [ew, Bool.or_false]
        · rw [er]
      · rw [r2 q (by omega) (by omega)]; exact e1
      · exact absurd w (by show ¬ so < 3; omega)
      · exact absurd w (by show ¬ so < 3; omega)
      · exact absurd w (by show ¬ so = 1; omega)
      · show (linM (so, 0, 0, 0, [], ts)).length + j ≤ k
        rw [el]; omega
  · obtain ⟨g, s1, s2, s3⟩ := M_needs0 hF d0 wd7 c1
    have s1' : X12_needs F 113 (some 1000007) (sI h 113 9 0) = some (0, g) := s1
    rw [b_xb _ _ _ _ s1', if_pos rfl, if_neg c1]
    exact ⟨g, rfl, s2, (o0.tr s3).ol q⟩
end RFL
