/-! longs in two words -/
theorem tb_key (x : Int) (i : Nat) (hi : i < 32) : tb x i = ((x % 18446744073709551616).toNat % 4294967296).testBit i := by
  have e : (x % 18446744073709551616).toNat = (BitVec.ofInt 64 x).toNat := by
    rw [BitVec.toNat_ofInt]
    rfl
  rw [e, show (4294967296 : Nat) = 2 ^ 32 from rfl, Nat.testBit_mod_two_pow, decide_eq_true hi, Bool.true_and, BitVec.testBit_toNat]
  rfl
theorem tb_w32 (z : Int) (i : Nat) (hi : i < 32) : tb (w32 z) i = tb z i := by
  rw [tb_key _ i hi, tb_key _ i hi]
  congr 1
  unfold w32
  omega
theorem tb_lo : ∀ i, i < 64 → tb 4294967295 i = decide (i < 32) := by decide +kernel
theorem ush_m : (((Int32.ofInt 32).toInt64.toUInt64 &&& Int64.toUInt64 63).toBitVec % 64#64) = 32#64 := by decide +kernel
theorem tb_us32 (a : Int) (i : Nat) : tb (yush a 32) i = tb a (32 + i) := by
  have e : yush a 32 = (BitVec.ofInt 64 a >>> (((Int32.ofInt 32).toInt64.toUInt64 &&& Int64.toUInt64 63).toBitVec % 64#64)).toInt := rfl
  rw [ush_m] at e
  unfold tb
  rw [e, BitVec.ofInt_toInt, BitVec.ushiftRight_eq', BitVec.getLsbD_ushiftRight]
  rfl
theorem tb_shl32 (a : Int) (i : Nat) (hi : i < 64) : tb (yshl a 32) i = (!decide (i < 32) && tb a (i - 32)) := by
  have e : yshl a 32 = (BitVec.ofInt 64 a <<< (((Int32.ofInt ((32 : Nat) : Int)).toInt64 &&& 63).toBitVec.smod 64#64)).toInt := rfl
  rw [yshr_m 32 (by decide)] at e
  unfold tb
  rw [e, BitVec.ofInt_toInt, BitVec.shiftLeft_eq', BitVec.getLsbD_shiftLeft, decide_eq_true hi, Bool.true_and]
  rfl
theorem bits_rt (r : Int) (i : Nat) (hi : i < 64) : tb (bits64 (w32 r) (w32 (yush r 32))) i = tb r i := by
  unfold bits64
  rw [tb_or, tb_and, tb_lo i hi, tb_shl32 _ i hi]
  by_cases q : i < 32
  · rw [decide_eq_true q, tb_w32 r i q, Bool.and_true]
    show (tb r i || (false && _)) = _
    rw [Bool.false_and, Bool.or_false]
  · rw [decide_eq_false q, Bool.and_false, Bool.false_or, tb_w32 _ (i - 32) (by omega), tb_us32, show 32 + (i - 32) = i by omega]
    show (true && _) = _
    rw [Bool.true_and]
theorem bits_in (a b : Int) : in64 (bits64 a b) := yor_in _ _
theorem bits_eq {x r : Int} (hx : in64 x) (e : ∀ i, i < 64 → tb x i = tb r i) : x = bits64 (w32 r) (w32 (yush r 32)) := tb_ext hx (bits_in _ _) (fun i hi => (e i hi).trans (bits_rt r i hi).symm)
/-! the class takes a job in: on whom it leans, the order -/
def XA : Nat → Bool := fun a => decide (a = 19 ∨ a = 21 ∨ a = 22)
def RDs (h : HP) (W : Int → Int) : Prop := ∀ j : Nat, (j : Int) < W 8 → ∃ t, gP h (25 + j) 5 = some t ∧ XA t = false ∧ gS h t = (9, 4) ∧ gJ h t 2 = rdM W j ∧ gJ h t 3 = wrM W j
section ADM
variable {F : Nat} {h : HP} {W : Int → Int}
theorem RDs.on {h' : HP} (r : RDs h W) (o : Ox XA h h') : RDs h' W := by
  intro j hj
  obtain ⟨t, a, b, e, f, g⟩ := r j hj
  exact ⟨t, by rw [o.2.1]; exact a, b, by rw [o.2.2.1]; exact e, by rw [(o.1 t b).2]; exact f, by rw [(o.1 t b).2]; exact g⟩
theorem D_rd (L : LayC h) (g : W 8 ≤ 12) (r : RDs h W) (j : Nat) (hj : (j : Int) < W 8) : X2_reads F (25 + j) h = some (rdM W j, h) := by
  obtain ⟨t, a, b, e, f, -⟩ := r j hj
  unfold X2_reads
  rw [cPj h j 5 _ L (by omega), a, if_neg (by intro e; cases e), cPj h j 5 _ L (by omega), a, b_gJ h t 9 4 2 _ e, f]
theorem D_wr (L : LayC h) (g : W 8 ≤ 12) (r : RDs h W) (j : Nat) (hj : (j : Int) < W 8) : X2_writes F (25 + j) h = some (wrM W j, h) := by
  obtain ⟨t, a, b, e, -, f⟩ := r j hj
  unfold X2_writes
  rw [cPj h j 5 _ L (by omega), a, if_neg (by intro e; cases e), cPj h j 5 _ L (by omega), a, b_gJ h t 9 4 3 _ e, f]
theorem D_at (L : LayC h) (j : Nat) (hj : j < 12) : X3_at F 19 (j : Int) h = some (some (25 + j), h) := by
  have e := E_at (F := F) (h := h) (j : Int) L ⟨by omega, by omega⟩
  rw [Int.toNat_natCast] at e
  exact e
theorem D_lnL (L : LayC h) (g : 0 ≤ W 8 ∧ W 8 ≤ 12) (e8 : gI h 19 5 = W 8) (r : RDs h W) (rc : Nat → Int → HP → Option (Unit × HP)) (j : Nat) (hj : (j : Int) < W 8) : ∀ (m i k : Nat), m < k → ((i + m : Nat) : Int) = W 8 → X3_findLeaning_L20 F rc k 19 (j : Int) (lnN W j i) (i : Int) h = rc 19 ((j + 1 : Nat) : Int) (sA h 21 (j : Int) (lns W j)) := by
  intro m
  induction m with
  | zero =>
    intro i k hk hi
    obtain ⟨k, rfl⟩ : ∃ k', k = k' + 1 := ⟨k - 1, by omega⟩
    have e : lns W j = lnN W j i := by unfold lns; rw [← hi]; rfl
    rw [X3_findLeaning_L20_s, cI19 h 5 _ L, e8, if_pos (by omega), cP19_1 h _ L, cS21 h _ _ _ L (by omega) (by omega), w32j (by omega), e]
  | succ m ih =>
    intro i k hk hi
    obtain ⟨k, rfl⟩ : ∃ k', k = k' + 1 := ⟨k - 1, by omega⟩
    have hr := ih (i + 1) k (by omega) (by omega)
    have e2 : lnN W j (i + 1) = if (i : Int) ≠ j ∧ yand (rdM W j) (wrM W i) ≠ 0 then xor_ (lnN W j i) (xshl 1 i) else lnN W j i := rfl
    rw [X3_findLeaning_L20_s, cI19 h 5 _ L, e8, if_neg (by omega)]
    unfold X3_findLeaning_L61
    by_cases c1 : (i : Int) = j
    · have e3 : lnN W j (i + 1) = lnN W j i := by rw [e2, if_neg (fun q => q.1 c1)]
      rw [e3] at hr
      rw [if_pos c1, w32j (by omega)]
      exact hr
    · rw [if_neg c1, cR19 h _ L, b_xb _ _ _ _ (D_at L j (by omega)), cRj h j _ L (by omega), b_xb _ _ _ _ (D_rd L g.2 r j hj), cR19 h _ L, b_xb _ _ _ _ (D_at L i (by omega)), cRj h i _ L (by omega), b_xb _ _ _ _ (D_wr L g.2 r i (by omega)), w32j (by omega)]
      by_cases c2 : yand (rdM W j) (wrM W i) = 0
      · have e3 : lnN W j (i + 1) = lnN W j i := by rw [e2, if_neg (fun q => q.2 c2)]
        rw [e3] at hr
        rw [if_pos ((xcmp_0 _ _).mpr c2)]
        exact hr
      · have e3 : lnN W j (i + 1) = xor_ (lnN W j i) (xshl 1 i) := by rw [e2, if_pos ⟨c1, c2⟩]
        rw [e3] at hr
        rw [if_neg (fun q => c2 ((xcmp_0 _ _).mp q))]
        exact hr
theorem D_lean (hF : 20 ≤ F) (g : 0 ≤ W 8 ∧ W 8 ≤ 12) : ∀ (m j k : Nat) (h : HP), m < k → ((j + m : Nat) : Int) = W 8 → LayC h → gI h 19 5 = W 8 → RDs h W → (∀ i : Nat, i < j → aI h 21 i = lns W i) → ∃ h', X3_findLeaning_L2 F k 19 (j : Int) h = some ((), h') ∧ Oi 21 h h' ∧ ∀ i : Nat, (i : Int) < W 8 → aI h' 21 i = lns W i := by
  intro m
  induction m with
  | zero =>
    intro j k h hk hj L e8 r q
    obtain ⟨k, rfl⟩ : ∃ k', k = k' + 1 := ⟨k - 1, by omega⟩
    refine ⟨h, ?_, Oi.rf _ _, fun i hi => q i (by omega)⟩
    rw [X3_findLeaning_L2_s, cI19 h 5 _ L, e8, if_pos (by omega)]
  | succ m ih =>
    intro j k h hk hj L e8 r q
    obtain ⟨k, rfl⟩ : ∃ k', k = k' + 1 := ⟨k - 1, by omega⟩
    have a := D_lnL (F := F) L g e8 r (X3_findLeaning_L2 F k) j (by omega) (W 8).toNat 0 F (by omega) (by omega)
    have o : Ox XA h (sA h 21 (j : Int) (lns W j)) := Ox.A h 21 _ _ rfl
    obtain ⟨h', x1, x2, x3⟩ := ih (j + 1) k (sA h 21 (j : Int) (lns W j)) (by omega) (by omega) L (by rw [gI_sAn _ _ _ _ _ (by decide)]; exact e8) (r.on o) (fun i hi => by
      rw [aI_sA _ _ _ _ _ (by omega) (by omega)]
      by_cases c : i = j
      · rw [c, if_pos rfl]
      · rw [if_neg (by omega)]; exact q i (by omega))
    refine ⟨h', ?_, (Oi.A 21 h _ _).tr x2, x3⟩
    rw [X3_findLeaning_L2_s, cI19 h 5 _ L, e8, if_neg (by omega), if_neg (by omega)]
    exact a.trans x1
theorem D_nxL (L : LayC h) (g : 0 ≤ W 8 ∧ W 8 ≤ 12) (e8 : gI h 19 5 = W 8) (q : ∀ i : Nat, (i : Int) < W 8 → aI h 21 i = lns W i) {pl : Int} (hp : 0 ≤ pl ∧ pl < 4096) : ∀ (m i k : Nat), m < k → ((i + m : Nat) : Int) = W 8 → X3_nextPlaced_L2 F k 19 pl (i : Int) h = some (if nxN W pl m i = W 8 then -1 else nxN W pl m i, h) := by
  intro m
  induction m with
  | zero =>
    intro i k hk hi
    obtain ⟨k, rfl⟩ : ∃ k', k = k' + 1 := ⟨k - 1, by omega⟩
    have e : nxN W pl 0 (i : Int) = W 8 := by show (i : Int) = W 8; omega
    rw [X3_nextPlaced_L2_s, cI19 h 5 _ L, e8, if_pos (by omega), e, if_pos rfl]
  | succ m ih =>
    intro i k hk hi
    obtain ⟨k, rfl⟩ : ∃ k', k = k' + 1 := ⟨k - 1, by omega⟩
    have hr := ih (i + 1) k (by omega) (by omega)
    have e0 : nxN W pl (m + 1) (i : Int) = if xand (xshr pl i) 1 ≠ 1 ∧ xand (lns W i) (xxor pl (-1)) = 0 then (i : Int) else nxN W pl m ((i : Int) + 1) := rfl
    have e9 : ((i : Int) + 1) = ((i + 1 : Nat) : Int) := by omega
    have b1 := bj_shr pl i hp.1 (by omega) (by omega)
    have b2 := bj_ush pl i hp.1 (by omega) (by omega)
    rw [X3_nextPlaced_L2_s, cI19 h 5 _ L, e8, if_neg (by omega), b2]
    unfold X3_nextPlaced_L32
    by_cases c1 : bj pl i = true
    · have e3 : nxN W pl (m + 1) (i : Int) = nxN W pl m ((i + 1 : Nat) : Int) := by rw [e0, if_neg (fun z => z.1 (by rw [b1, if_pos c1])), e9]
      rw [e3, if_pos c1, if_neg (by decide), w32j (by omega)]
      exact hr
    · rw [if_neg c1, if_pos rfl, cR19 h _ L, b_xb _ _ _ _ (E_leansOf (F := F) (h := h) (i : Int) L ⟨by omega, by omega⟩), q i (by omega)]
      by_cases c2 : xand (lns W i) (xxor pl (-1)) = 0
      · have e3 : nxN W pl (m + 1) (i : Int) = (i : Int) := by rw [e0, if_pos ⟨by rw [b1, if_neg c1]; decide, c2⟩]
        have ni : ¬ (i : Int) = W 8 := by omega
        rw [e3, if_pos c2, if_neg ni]
      · have e3 : nxN W pl (m + 1) (i : Int) = nxN W pl m ((i + 1 : Nat) : Int) := by rw [e0, if_neg (fun z => c2 z.2), e9]
        rw [e3, if_neg c2, w32j (by omega)]
        exact hr
theorem D_ord (hF : 20 ≤ F) (g : 0 ≤ W 8 ∧ W 8 ≤ 12) : ∀ (m p k : Nat) (pl : Int) (h : HP), m < k → ((p + m : Nat) : Int) = W 8 → LayC h → gI h 19 5 = W 8 → gI h 19 4 = 1 → (∀ i : Nat, (i : Int) < W 8 → aI h 21 i = lns W i) → plN W p = some pl → (∀ i : Nat, i < p → aI h 22 i = ordA W i) → ∃ h', X3_findOrder_L9 F k 19 pl (p : Int) h = some ((), h') ∧ Ox XA h h' ∧ gI h' 21 = gI h 21 ∧ gI h' 19 5 = gI h 19 5 ∧ (gI h' 19 4 = 1 ∧ ordOk W ∧ (∀ n : Nat, (n : Int) < W 8 → aI h' 22 n = ordA W n) ∨ gI h' 19 4 = 0 ∧ ¬ ordOk W) := by
  intro m
  induction m with
  | zero =>
    intro p k pl h hk hp L e8 e4 q hpl w
    obtain ⟨k, rfl⟩ : ∃ k', k = k' + 1 := ⟨k - 1, by omega⟩
    refine ⟨h, ?_, Ox.rf _ _, rfl, rfl, Or.inl ⟨e4, ⟨pl, ?_⟩, fun n hn => w n (by omega)⟩⟩
    · rw [X3_findOrder_L9_s, cI19 h 5 _ L, e8, if_pos (by omega)]
    · rw [← hp, Int.toNat_natCast]; exact hpl
  | succ m ih =>
    intro p k pl h hk hp L e8 e4 q hpl w
    obtain ⟨k, rfl⟩ : ∃ k', k = k' + 1 := ⟨k - 1, by omega⟩
    have hb := plN_b W g p pl hpl
    have hI := D_nxL (F := F) L g e8 q hb (W 8).toNat 0 F (by omega) (by omega)
    have hn : nxN W pl (W 8).toNat ((0 : Nat) : Int) = nxt W pl := rfl
    rw [hn] at hI
    have hI2 : X3_nextPlaced F 19 pl h = some (if nxt W pl = W 8 then -1 else nxt W pl, h) := hI
    have hnr := nxN_r W pl (W 8).toNat 0
    have hnr2 : 0 ≤ nxt W pl ∧ nxt W pl ≤ W 8 := by unfold nxt; omega
    have eS : plN W (p + 1) = if nxt W pl = W 8 then none else some (xor_ pl (xshl 1 (nxt W pl))) := by
      show (plN W p).bind _ = _
      rw [hpl]
      rfl
    rw [X3_findOrder_L9_s, cI19 h 5 _ L, e8, if_neg (by omega), if_neg (by omega), cR19 h _ L, b_xb _ _ _ _ hI2]
    by_cases c : nxt W pl = W 8
    · rw [if_pos c, if_pos rfl, cZ19 h 4 _ _ L (Or.inl rfl)]
      refine ⟨_, rfl, Ox.I h 19 4 0 rfl, gI_sIn h 19 4 0 21 (by decide), (gI_sIk h 19 4 0 5 (by decide)).trans e8, Or.inr ⟨gI_sIe _ _ _ _, ?_⟩⟩
      rintro ⟨pl', z⟩
      rw [if_pos c] at eS
      have q2 := plN_none _ _ eS m
      rw [show p + 1 + m = (W 8).toNat by omega, z] at q2
      cases q2
    · rw [if_neg c] at eS
      have o : Ox XA h (sA h 22 (p : Int) (nxt W pl)) := Ox.A h 22 _ _ rfl
      obtain ⟨h', x1, x2, x3, x4, x5⟩ := ih (p + 1) k (xor_ pl (xshl 1 (nxt W pl))) (sA h 22 (p : Int) (nxt W pl)) (by omega) (by omega) L (by rw [gI_sAn _ _ _ _ _ (by decide)]; exact e8) (by rw [gI_sAn _ _ _ _ _ (by decide)]; exact e4) (fun i hi => by rw [aI_sAn _ _ _ _ _ (by decide)]; exact q i hi) eS (fun i hi => by
        rw [aI_sA _ _ _ _ _ (by omega) (by omega)]
        by_cases z : i = p
        · rw [z, if_pos rfl]
          unfold ordA
          rw [hpl]
          rfl
        · rw [if_neg (by omega)]; exact w i (by omega))
      rw [if_neg c, if_neg (by omega), cP19_2 h _ L, cS22 h _ _ _ L (by omega) (by omega), w32j (by omega)]
      exact ⟨h', x1, o.tr x2, x3.trans (gI_sAn _ _ _ _ _ (by decide)), x4.trans (by rw [gI_sAn _ _ _ _ _ (by decide)]; exact e8), x5⟩
/-- the class takes a job in -/
theorem D_admit (hF : 20 ≤ F) (g : 0 ≤ W 8 ∧ W 8 ≤ 12) (L : LayC h) (e8 : gI h 19 5 + 1 = W 8) (r : RDs h W) (h0 : 0 ≤ gI h 19 5) : ∃ h', X3_admit F 19 h = some (gI h 19 5, h') ∧ Ox XA h h' ∧ gI h' 19 5 = W 8 ∧ RJo h' 0 W := by
  have w : w32 (gI h 19 5 + 1) = gI h 19 5 + 1 := w32i _ (by omega) (by omega)
  have o1 : Ox XA h (sI h 19 5 (W 8)) := Ox.I h 19 5 _ rfl
  have em : min (gI h 19 5 + 1) 12 = W 8 := by omega
  obtain ⟨h2, a1, a2, a3⟩ := D_lean hF g (W 8).toNat 0 F (sI h 19 5 (W 8)) (by omega) (by omega) L (gI_sIe _ _ _ _) (r.on o1) (fun i hi => absurd hi (by omega))
  have a1' : X3_findLeaning F 19 (sI h 19 5 (W 8)) = some ((), h2) := a1
  have L2 := a2.C (h := sI h 19 5 (W 8)) L
  have g5 : gI h2 19 5 = W 8 := by rw [a2.1 19 (by decide), gI_sIe]
  obtain ⟨h3, b1, b2, b3, b4, b5⟩ := D_ord (F := F) hF g (W 8).toNat 0 F 0 (sI h2 19 4 1) (by omega) (by omega) L2 (by rw [gI_sIk _ _ _ _ _ (by decide)]; exact g5) (gI_sIe _ _ _ _) (fun i hi => by rw [aI_sIn _ _ _ _ _ (by decide)]; exact a3 i hi) rfl (fun i hi => absurd hi (by omega))
  have b1' : X3_findOrder F 19 h2 = some ((), h3) := by
    unfold X3_findOrder
    rw [cZ19 h2 4 _ _ L2 (Or.inr rfl)]
    exact b1
  have o2 : Ox XA (sI h 19 5 (W 8)) h2 := ⟨fun a z => by
    have z' : a ≠ 21 := fun e => by rw [e] at z; cases z
    exact ⟨a2.1 a z', by rw [a2.2.1]⟩, a2.2.2.1, a2.2.2.2.1, a2.2.2.2.2.1, a2.2.2.2.2.2.1, a2.2.2.2.2.2.2⟩
  refine ⟨h3, ?_, ((o1.tr o2).tr (Ox.I h2 19 4 1 rfl)).tr b2, ?_, ?_, ?_⟩
  · unfold X3_admit
    rw [cI19 h 5 _ L, cI19 h 5 _ L, w, em, cW19 h 5 _ _ L, cR19 _ _ (by exact L), b_xb _ _ _ _ a1', cR19 h2 _ L2, b_xb _ _ _ _ b1']
  · rw [b4, gI_sIk _ _ _ _ _ (by decide)]; exact g5
  · intro j j0 j1
    show aI h3 21 j = _
    have z := a3 j.toNat (by omega)
    rw [show ((j.toNat : Nat) : Int) = j by omega] at z
    show gI h3 21 _ = _
    rw [b3, gI_sIn _ _ _ _ _ (by decide)]
    exact z
  · exact b5
end ADM
