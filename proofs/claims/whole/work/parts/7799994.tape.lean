/-! the class's tape, scanned: how things are taken, how code is laid -/
def SC (K N B : Nat → Int) (T : Nat) (h : HP) (j : Nat) (cd : List Int) (nm rd wr : Nat → Bool) : Prop := LayC h ∧ (∀ t : Nat, t ≤ T → aI h 4 t = K t ∧ aI h 5 t = B t ∧ aI h 6 t = N t) ∧ gI h 2 5 = T + 1 ∧ gI h 2 6 = j ∧ j ≤ T ∧ gI h 2 9 = cd.length ∧ cd.length ≤ 1208 ∧ (∀ (i : Nat) (z : Int), cd[i]? = some z → aI h 7 i = z) ∧ (∀ i, i < 64 → tb (gJ h 2 13) i = nm i) ∧ (∀ i, i < 64 → tb (gJ h 2 14) i = rd i) ∧ (∀ i, i < 64 → tb (gJ h 2 15) i = wr i) ∧ in64 (gJ h 2 14) ∧ in64 (gJ h 2 15)
def SF0 (K N B : Nat → Int) (T : Nat) (h : HP) (j : Nat) : Prop := ∃ cd nm rd wr, SC K N B T h j cd nm rd wr
def XTp : Nat → Bool := fun a => decide (a = 2 ∨ (4 ≤ a ∧ a ≤ 8))
def OT (h h' : HP) : Prop := Ox XTp h h' ∧ gI h' 2 1 = gI h 2 1
theorem OT.rf (h : HP) : OT h h := ⟨Ox.rf _ _, rfl⟩
theorem OT.tr {a b c : HP} (x : OT a b) (y : OT b c) : OT a c := ⟨x.1.tr y.1, y.2.trans x.2⟩
theorem OT.I (h : HP) (k : Nat) (v : Int) (q : k ≠ 1) : OT h (sI h 2 k v) := ⟨Ox.I h 2 k v rfl, by rw [gI_sIk _ _ _ _ _ (Ne.symm q)]⟩
theorem OT.A (h : HP) (a : Nat) (i v : Int) (q : 4 ≤ a ∧ a ≤ 8) : OT h (sA h a i v) := ⟨Ox.A h a i v (decide_eq_true (Or.inr q)), by rw [gI_sAn _ _ _ _ _ (by omega)]⟩
theorem OT.J (h : HP) (k : Nat) (v : Int) : OT h (sJ h 2 k v) := ⟨Ox.J h 2 k v rfl, rfl⟩
section TP
variable {F : Nat} {K N B : Nat → Int} {T : Nat} {h : HP} {j : Nat} {cd : List Int} {nm rd wr : Nat → Bool}
theorem SC.f0 (d : SC K N B T h j cd nm rd wr) : SF0 K N B T h j := ⟨cd, nm, rd, wr, d⟩
theorem SC.at (d : SC K N B T h j cd nm rd wr) (k : Nat) (hk : k ≤ T) : SC K N B T (sI h 2 6 k) k cd nm rd wr := by
  obtain ⟨L, d1, d2, d3, d4, d5, d6, d7, d8, d9, d10⟩ := d
  refine ⟨L, fun t ht => ?_, ?_, gI_sIe _ _ _ _, hk, ?_, d6, fun i z e => ?_, d8, d9, d10⟩
  · rw [aI_sIn _ _ _ _ _ (by decide), aI_sIn _ _ _ _ _ (by decide), aI_sIn _ _ _ _ _ (by decide)]; exact d1 t ht
  · rw [gI_sIk _ _ _ _ _ (by decide)]; exact d2
  · rw [gI_sIk _ _ _ _ _ (by decide)]; exact d5
  · rw [aI_sIn _ _ _ _ _ (by decide)]; exact d7 i z e
theorem SC.fld (d : SC K N B T h j cd nm rd wr) (f : Nat) (v : Int) (hf : f ≠ 5 ∧ f ≠ 6 ∧ f ≠ 9) : SC K N B T (sI h 2 f v) j cd nm rd wr := by
  obtain ⟨L, d1, d2, d3, d4, d5, d6, d7, d8, d9, d10⟩ := d
  refine ⟨L, fun t ht => ?_, ?_, ?_, d4, ?_, d6, fun i z e => ?_, d8, d9, d10⟩
  · rw [aI_sIn _ _ _ _ _ (by decide), aI_sIn _ _ _ _ _ (by decide), aI_sIn _ _ _ _ _ (by decide)]; exact d1 t ht
  · rw [gI_sIk _ _ _ _ _ (Ne.symm hf.1)]; exact d2
  · rw [gI_sIk _ _ _ _ _ (Ne.symm hf.2.1)]; exact d3
  · rw [gI_sIk _ _ _ _ _ (Ne.symm hf.2.2)]; exact d5
  · rw [aI_sIn _ _ _ _ _ (by decide)]; exact d7 i z e
theorem SC.open8 (d : SC K N B T h j cd nm rd wr) (i v : Int) : SC K N B T (sA h 8 i v) j cd nm rd wr := by
  obtain ⟨L, d1, d2, d3, d4, d5, d6, d7, d8, d9, d10⟩ := d
  refine ⟨L, fun t ht => ?_, ?_, ?_, d4, ?_, d6, fun i z e => ?_, d8, d9, d10⟩
  · rw [aI_sAn _ _ _ _ _ (by decide), aI_sAn _ _ _ _ _ (by decide), aI_sAn _ _ _ _ _ (by decide)]; exact d1 t ht
  · rw [gI_sAn _ _ _ _ _ (by decide)]; exact d2
  · rw [gI_sAn _ _ _ _ _ (by decide)]; exact d3
  · rw [gI_sAn _ _ _ _ _ (by decide)]; exact d5
  · rw [aI_sAn _ _ _ _ _ (by decide)]; exact d7 i z e
/-- the code is another, as long as its cells say so -/
theorem SC.code {h' : HP} (d : SC K N B T h j cd nm rd wr) (ce : List Int) (hc : ce.length ≤ 1208) (o : ∀ a, a ≠ 7 → a ≠ 2 → gI h' a = gI h a) (oj : gJ h' = gJ h) (op : gP h' = gP h) (os : gS h' = gS h) (k2 : ∀ k, k ≠ 9 → gI h' 2 k = gI h 2 k) (e9 : gI h' 2 9 = ce.length) (e7 : ∀ (i : Nat) (z : Int), ce[i]? = some z → aI h' 7 i = z) : SC K N B T h' j ce nm rd wr := by
  obtain ⟨L, d1, d2, d3, d4, d5, d6, d7, d8, d9, d10⟩ := d
  have a : ∀ x, x ≠ 7 → x ≠ 2 → aI h' x = aI h x := fun x q1 q2 => by funext i; show gI h' x _ = gI h x _; rw [o x q1 q2]
  refine ⟨L.of os op, fun t ht => ?_, ?_, ?_, d4, e9, hc, e7, by rw [oj]; exact d8, by rw [oj]; exact d9, by rw [oj]; exact d10⟩
  · rw [a 4 (by decide) (by decide), a 5 (by decide) (by decide), a 6 (by decide) (by decide)]; exact d1 t ht
  · rw [k2 5 (by decide)]; exact d2
  · rw [k2 6 (by decide)]; exact d3
theorem SC.bit13 (d : SC K N B T h j cd nm rd wr) (w : Nat) (hw : w < 64) : SC K N B T (sJ h 2 13 (yor (gJ h 2 13) (yshl 1 w))) j cd (fun i => nm i || decide (i = w)) rd wr := by
  obtain ⟨L, d1, d2, d3, d4, d5, d6, d7, d8, d9, d10, d11, d12⟩ := d
  refine ⟨L, d1, d2, d3, d4, d5, d6, d7, fun i hi => ?_, fun i hi => ?_, fun i hi => ?_, ?_, ?_⟩
  · rw [gJ_sJe, tb_or, d8 i hi, tb_shl1 w hw i hi]
  · rw [gJ_sJ, if_neg (by omega)]; exact d9 i hi
  · rw [gJ_sJ, if_neg (by omega)]; exact d10 i hi
  · rw [gJ_sJ, if_neg (by omega)]; exact d11
  · rw [gJ_sJ, if_neg (by omega)]; exact d12
theorem SC.bit15 (d : SC K N B T h j cd nm rd wr) (w : Nat) (hw : w < 64) : SC K N B T (sJ h 2 15 (yor (gJ h 2 15) (yshl 1 w))) j cd nm rd (fun i => wr i || decide (i = w)) := by
  obtain ⟨L, d1, d2, d3, d4, d5, d6, d7, d8, d9, d10, d11, d12⟩ := d
  refine ⟨L, d1, d2, d3, d4, d5, d6, d7, fun i hi => ?_, fun i hi => ?_, fun i hi => ?_, ?_, ?_⟩
  · rw [gJ_sJ, if_neg (by omega)]; exact d8 i hi
  · rw [gJ_sJ, if_neg (by omega)]; exact d9 i hi
  · rw [gJ_sJe, tb_or, d10 i hi, tb_shl1 w hw i hi]
  · rw [gJ_sJ, if_neg (by omega)]; exact d11
  · rw [gJ_sJe]; exact yor_in _ _
/-! the small methods -/
theorem T_kind (o : okK K N T) (d : SC K N B T h j cd nm rd wr) : X8_kind F 2 h = some (K j, h) := by
  obtain ⟨L, d1, d2, d3, d4, -⟩ := d
  have hT := o.1
  have e4 := (d1 j d4).1
  unfold X8_kind
  rw [cI2 h 6 _ L, d3, if_neg (by omega), cI2 h 6 _ L, d3, cI2 h 5 _ L, d2, if_neg (by omega), cI2 h 6 _ L, d3, if_neg (by omega), cP2_2 h _ L, cI2 h 6 _ L, d3, cA4 h _ _ L (by omega) (by omega), e4]
theorem T_begin (o : okK K N T) (d : SC K N B T h j cd nm rd wr) : X8_begin F 2 h = some (B j, h) := by
  obtain ⟨L, d1, d2, d3, d4, -⟩ := d
  have hT := o.1
  have e4 := (d1 j d4).2.1
  unfold X8_begin
  rw [cI2 h 6 _ L, d3, if_neg (by omega), cI2 h 6 _ L, d3, cI2 h 5 _ L, d2, if_neg (by omega), cI2 h 6 _ L, d3, if_neg (by omega), cP2_3 h _ L, cI2 h 6 _ L, d3, cA5 h _ _ L (by omega) (by omega), e4]
theorem w32j {j : Nat} (h : j ≤ 100000) : w32 ((j : Int) + 1) = ((j + 1 : Nat) : Int) := by rw [w32i _ (by omega) (by omega)]; omega
theorem T_takes1 (o : okK K N T) (d : SC K N B T h j cd nm rd wr) (k : Int) (e : K j = k) : X8_takes F 2 k h = some (1, sI h 2 6 ((j + 1 : Nat) : Int)) := by
  obtain ⟨L, d1, d2, d3, d4, -⟩ := d
  have hT := o.1
  have e4 := (d1 j d4).1
  unfold X8_takes
  rw [cI2 h 6 _ L, d3, if_neg (by omega), cI2 h 6 _ L, d3, cI2 h 5 _ L, d2, if_neg (by omega), cI2 h 6 _ L, d3, if_neg (by omega), cP2_2 h _ L, cI2 h 6 _ L, d3, cA4 h _ _ L (by omega) (by omega), e4, if_pos e, cI2 h 6 _ L, d3, w32j (by omega), cW2 h 6 _ _ L]
theorem T_takes0 (o : okK K N T) (d : SC K N B T h j cd nm rd wr) (k : Int) (e : K j ≠ k) : X8_takes F 2 k h = some (0, h) := by
  obtain ⟨L, d1, d2, d3, d4, -⟩ := d
  have hT := o.1
  have e4 := (d1 j d4).1
  unfold X8_takes
  rw [cI2 h 6 _ L, d3, if_neg (by omega), cI2 h 6 _ L, d3, cI2 h 5 _ L, d2, if_neg (by omega), cI2 h 6 _ L, d3, if_neg (by omega), cP2_2 h _ L, cI2 h 6 _ L, d3, cA4 h _ _ L (by omega) (by omega), e4, if_neg e]
theorem T_num1 (o : okK K N T) (d : SC K N B T h j cd nm rd wr) (lo hi : Int) (e : K j = -2) (n0 : lo ≤ N j) (n1 : N j ≤ hi) : X8_takeNumber F 2 lo hi h = some (1, sI (sI h 2 7 (N j)) 2 6 ((j + 1 : Nat) : Int)) := by
  obtain ⟨L, d1, d2, d3, d4, -⟩ := d
  have hT := o.1
  have e4 := (d1 j d4).1
  have e6 := (d1 j d4).2.2
  unfold X8_takeNumber
  rw [cI2 h 6 _ L, d3, if_neg (by omega), cI2 h 6 _ L, d3, cI2 h 5 _ L, d2, if_neg (by omega), cI2 h 6 _ L, d3, if_neg (by omega), cP2_2 h _ L, cI2 h 6 _ L, d3, cA4 h _ _ L (by omega) (by omega), e4, if_pos e, cP2_4 h _ L, cI2 h 6 _ L, d3, cA6 h _ _ L (by omega) (by omega), e6, if_neg (by omega), cP2_4 h _ L, cI2 h 6 _ L, d3, cA6 h _ _ L (by omega) (by omega), e6, if_pos n1, cP2_4 h _ L, cI2 h 6 _ L, d3, cA6 h _ _ L (by omega) (by omega), e6, cW2 h 7 _ _ L, cI2 _ 6 _ (by exact L), gI_sIk _ _ _ _ _ (by decide), d3, w32j (by omega), cW2 _ 6 _ _ (by exact L)]
theorem T_num0 (o : okK K N T) (d : SC K N B T h j cd nm rd wr) (lo hi : Int) (e : ¬ (K j = -2 ∧ lo ≤ N j ∧ N j ≤ hi)) : X8_takeNumber F 2 lo hi h = some (0, h) := by
  obtain ⟨L, d1, d2, d3, d4, -⟩ := d
  have hT := o.1
  have e4 := (d1 j d4).1
  have e6 := (d1 j d4).2.2
  unfold X8_takeNumber
  rw [cI2 h 6 _ L, d3, if_neg (by omega), cI2 h 6 _ L, d3, cI2 h 5 _ L, d2, if_neg (by omega), cI2 h 6 _ L, d3, if_neg (by omega), cP2_2 h _ L, cI2 h 6 _ L, d3, cA4 h _ _ L (by omega) (by omega), e4]
  by_cases c : K j = -2
  · rw [if_pos c, cP2_4 h _ L, cI2 h 6 _ L, d3, cA6 h _ _ L (by omega) (by omega), e6]
    by_cases c1 : N j < lo
    · rw [if_pos c1]
    · rw [if_neg c1, cP2_4 h _ L, cI2 h 6 _ L, d3, cA6 h _ _ L (by omega) (by omega), e6, if_neg (fun q => e ⟨c, by omega, q⟩)]
  · rw [if_neg c]
theorem app_get {a b : List Int} {i : Nat} {z : Int} (e : (a ++ b)[i]? = some z) : i < a.length ∧ a[i]? = some z ∨ a.length ≤ i ∧ b[i - a.length]? = some z := by
  rcases Nat.lt_or_ge i a.length with q | q
  · rw [List.getElem?_append_left q] at e; exact Or.inl ⟨q, e⟩
  · rw [List.getElem?_append_right q] at e; exact Or.inr ⟨q, e⟩
theorem T_emit (d : SC K N B T h j cd nm rd wr) (z : Int) (room : cd.length < 1208) : ∃ h', X8_emit F 2 z h = some ((), h') ∧ SC K N B T h' j (cd ++ [z]) nm rd wr ∧ OT h h' ∧ (∀ k, k ≠ 9 → gI h' 2 k = gI h 2 k) ∧ gI h' 8 = gI h 8 := by
  obtain ⟨L, d1, d2, d3, d4, d5, d6, d7, d8, d9, d10⟩ := id d
  have k2 : ∀ k, k ≠ 9 → gI (sI (sA h 7 (cd.length : Int) z) 2 9 ((cd.length + 1 : Nat) : Int)) 2 k = gI h 2 k := fun k q => by rw [gI_sIk _ _ _ _ _ q, gI_sAn _ _ _ _ _ (by decide)]
  refine ⟨sI (sA h 7 (cd.length : Int) z) 2 9 ((cd.length + 1 : Nat) : Int), ?_, ?_, (OT.A h 7 _ _ (by decide)).tr (OT.I _ 9 _ (by decide)), k2, ?_⟩
  · unfold X8_emit
    rw [cI2 h 9 _ L, d5, if_neg (by omega), cI2 h 9 _ L, d5, cP2_8 h _ L, cL7 h _ L, if_neg (by omega), cP2_8 h _ L, cI2 h 9 _ L, d5, cS7 h _ _ _ L (by omega) (by omega), cI2 _ 9 _ (by exact L), gI_sAn _ _ _ _ _ (by decide), d5, w32j (by omega), cW2 _ 9 _ _ (by exact L)]
  · refine d.code (cd ++ [z]) (by rw [List.length_append]; show cd.length + 1 ≤ 1208; omega) (fun a q1 q2 => by rw [gI_sIn _ _ _ _ _ q2, gI_sAn _ _ _ _ _ q1]) rfl rfl rfl k2 (by rw [gI_sIe, List.length_append]; rfl) (fun i y e => ?_)
    rw [aI_sIn _ _ _ _ _ (by decide), aI_sA _ _ _ _ _ (by omega) (by omega)]
    rcases app_get e with ⟨q1, q2⟩ | ⟨q1, q2⟩
    · rw [if_neg (by omega)]; exact d7 i y q2
    · have q3 : i - cd.length < 1 := (List.getElem?_eq_some_iff.mp q2).1
      have q4 : i = cd.length := by omega
      rw [q4, Nat.sub_self] at q2
      have q5 : some z = some y := q2
      cases q5
      rw [if_pos (by omega)]
  · rw [gI_sIn _ _ _ _ _ (by decide), gI_sAn _ _ _ _ _ (by decide)]
theorem T_emit3 (d : SC K N B T h j cd nm rd wr) (a b c : Int) (room : cd.length + 3 ≤ 1208) : ∃ h', X8_emitPart F 2 a b c h = some (1, h') ∧ SC K N B T h' j (cd ++ [a, b, c]) nm rd wr ∧ OT h h' ∧ (∀ k, k ≠ 9 → gI h' 2 k = gI h 2 k) ∧ gI h' 8 = gI h 8 := by
  obtain ⟨L, d1, d2, d3, d4, d5, d6, d7, d8, d9, d10⟩ := id d
  have n3 : w32 ((cd.length : Int) + 3) = (cd.length : Int) + 3 := w32i _ (by omega) (by omega)
  have n1 : w32 ((cd.length : Int) + 1) = (cd.length : Int) + 1 := w32i _ (by omega) (by omega)
  have n2 : w32 ((cd.length : Int) + 2) = (cd.length : Int) + 2 := w32i _ (by omega) (by omega)
  have k2 : ∀ k, k ≠ 9 → gI (sI (sA (sA (sA h 7 (cd.length : Int) a) 7 ((cd.length : Int) + 1) b) 7 ((cd.length : Int) + 2) c) 2 9 ((cd.length : Int) + 3)) 2 k = gI h 2 k := fun k q => by rw [gI_sIk _ _ _ _ _ q, gI_sAn _ _ _ _ _ (by decide), gI_sAn _ _ _ _ _ (by decide), gI_sAn _ _ _ _ _ (by decide)]
  refine ⟨sI (sA (sA (sA h 7 (cd.length : Int) a) 7 ((cd.length : Int) + 1) b) 7 ((cd.length : Int) + 2) c) 2 9 ((cd.length : Int) + 3), ?_, ?_, (((OT.A h 7 _ _ (by decide)).tr (OT.A _ 7 _ _ (by decide))).tr (OT.A _ 7 _ _ (by decide))).tr (OT.I _ 9 _ (by decide)), k2, ?_⟩
  · unfold X8_emitPart
    rw [cI2 h 9 _ L, d5, if_neg (by omega), cI2 h 9 _ L, d5, cP2_8 h _ L, cL7 h _ L, n3, if_pos (by omega), cP2_8 h _ L, cI2 h 9 _ L, d5, cS7 h _ _ _ L (by omega) (by omega), cP2_8 _ _ (by exact L), cI2 _ 9 _ (by exact L), gI_sAn _ _ _ _ _ (by decide), d5, n1, cS7 _ _ _ _ (by exact L) (by omega) (by omega), cP2_8 _ _ (by exact L), cI2 _ 9 _ (by exact L), gI_sAn _ _ _ _ _ (by decide), gI_sAn _ _ _ _ _ (by decide), d5, n2, cS7 _ _ _ _ (by exact L) (by omega) (by omega), cI2 _ 9 _ (by exact L), gI_sAn _ _ _ _ _ (by decide), gI_sAn _ _ _ _ _ (by decide), gI_sAn _ _ _ _ _ (by decide), d5, n3, cW2 _ 9 _ _ (by exact L)]
  · clear n1 n2 n3
    refine d.code (cd ++ [a, b, c]) (by rw [List.length_append]; show cd.length + 3 ≤ 1208; omega) (fun x q1 q2 => by rw [gI_sIn _ _ _ _ _ q2, gI_sAn _ _ _ _ _ q1, gI_sAn _ _ _ _ _ q1, gI_sAn _ _ _ _ _ q1]) rfl rfl rfl k2 (by rw [gI_sIe, List.length_append]; rfl) (fun i y e => ?_)
    rw [aI_sIn _ _ _ _ _ (by decide), aI_sA _ _ _ _ _ (by omega) (by omega), aI_sA _ _ _ _ _ (by omega) (by omega), aI_sA _ _ _ _ _ (by omega) (by omega)]
    rcases app_get e with ⟨q1, q2⟩ | ⟨q1, q2⟩
    · rw [if_neg (by omega), if_neg (by omega), if_neg (by omega)]; exact d7 i y q2
    · have q3 : i - cd.length < 3 := (List.getElem?_eq_some_iff.mp q2).1
      obtain ⟨m, hm⟩ : ∃ m, i = cd.length + m := ⟨i - cd.length, by omega⟩
      subst hm
      rw [Nat.add_sub_cancel_left] at q2
      match m, q2 with
      | 0, q2 => cases q2; rw [if_neg (by omega), if_neg (by omega), if_pos (by omega)]
      | 1, q2 => cases q2; rw [if_neg (by omega), if_pos (by omega)]
      | 2, q2 => cases q2; rw [if_pos (by omega)]
      | m + 3, q2 => omega
  · rw [gI_sIn _ _ _ _ _ (by decide), gI_sAn _ _ _ _ _ (by decide), gI_sAn _ _ _ _ _ (by decide), gI_sAn _ _ _ _ _ (by decide)]
/-- an earlier cell mended -/
theorem T_amend (a : List Int) (x : Int) (b : List Int) (d : SC K N B T h j (a ++ x :: b) nm rd wr) (z : Int) : ∃ h', X8_amend F 2 a.length z h = some ((), h') ∧ SC K N B T h' j (a ++ z :: b) nm rd wr ∧ OT h h' ∧ (∀ k, gI h' 2 k = gI h 2 k) ∧ gI h' 8 = gI h 8 := by
  obtain ⟨L, d1, d2, d3, d4, d5, d6, d7, d8, d9, d10⟩ := id d
  have len : (a ++ x :: b).length = a.length + b.length + 1 := by rw [List.length_append, List.length_cons]; omega
  have len2 : (a ++ z :: b).length = a.length + b.length + 1 := by rw [List.length_append, List.length_cons]; omega
  rw [len] at d5 d6
  refine ⟨sA h 7 (a.length : Int) z, ?_, ?_, OT.A h 7 _ _ (by decide), fun k => by rw [gI_sAn _ _ _ _ _ (by decide)], by rw [gI_sAn _ _ _ _ _ (by decide)]⟩
  · unfold X8_amend
    rw [if_neg (by omega), cP2_8 h _ L, cL7 h _ L, if_neg (by omega), cP2_8 h _ L, cS7 h _ _ _ L (by omega) (by omega)]
  · refine d.code (a ++ z :: b) (by rw [len2]; exact d6) (fun x q1 q2 => by rw [gI_sAn _ _ _ _ _ q1]) rfl rfl rfl (fun k _ => by rw [gI_sAn _ _ _ _ _ (by decide)]) (by rw [gI_sAn _ _ _ _ _ (by decide), len2]; exact d5) (fun i y e => ?_)
    rw [aI_sA _ _ _ _ _ (by omega) (by omega)]
    rcases app_get e with ⟨q1, q2⟩ | ⟨q1, q2⟩
    · rw [if_neg (by omega)]
      exact d7 i y (by rw [List.getElem?_append_left q1]; exact q2)
    · by_cases c : i = a.length
      · rw [c, Nat.sub_self] at q2
        have q5 : some z = some y := q2
        cases q5
        rw [if_pos (by omega)]
      · rw [if_neg (by omega)]
        refine d7 i y ?_
        rw [List.getElem?_append_right q1]
        obtain ⟨m, hm⟩ : ∃ m, i - a.length = m + 1 := ⟨i - a.length - 1, by omega⟩
        rw [hm] at q2 ⊢
        exact q2
end TP
