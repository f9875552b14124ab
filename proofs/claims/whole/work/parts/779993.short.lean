/-! a job done shortly: all its words -/
theorem yush_m : ∀ w, w < 64 → (((Int32.ofInt (w : Nat)).toInt64.toUInt64 &&& Int64.toUInt64 63).toBitVec % 64#64) = BitVec.ofNat 64 w := by decide +kernel
theorem tb_ushw (a : Int) (w : Nat) (hw : w < 64) : tb (yush a w) 0 = tb a w := by
  have e : yush a w = ((BitVec.ofInt 64 a) >>> (((Int32.ofInt (w : Nat)).toInt64.toUInt64 &&& Int64.toUInt64 63).toBitVec % 64#64)).toInt := rfl
  rw [yush_m w hw] at e
  unfold tb
  rw [e, BitVec.ofInt_toInt, BitVec.ushiftRight_eq', BitVec.getLsbD_ushiftRight]
  rw [BitVec.toNat_ofNat, Nat.mod_eq_of_lt (by omega), Nat.add_zero]
def cN (p : Nat → Bool) : Nat → Nat → Nat
  | 0, _ => 0
  | m + 1, w => (if p w = true then 1 else 0) + cN p m (w + 1)
def shL (j : Nat) (fi z more : Int) : Nat → Nat → (Int → Int) → Bool × (Int → Int)
  | 0, _, W => (true, W)
  | m + 1, w, W => if tb z w = true then (if (puL W w (W (73 + (w : Int)) + more) j fi 1).1 = true then shL j fi z more m (w + 1) (puL W w (W (73 + (w : Int)) + more) j fi 1).2 else puL W w (W (73 + (w : Int)) + more) j fi 1) else shL j fi z more m (w + 1) W
def DoN (g : HP) (W : Int → Int) (j : Nat) (fi how : Int) : Prop := LayC g ∧ RNw g 0 W ∧ gI g 11 9 = penO j (W 0) (how % 2) (how / 2 % 2) (if fi = W 11356 then 1 else 0) ∧ fi ≤ W 11356 ∧ (j : Int) < W 8
section SH
variable {F : Nat} {j : Nat} {fi z more : Int}
theorem shL_s (m w : Nat) (W : Int → Int) : shL j fi z more (m + 1) w W = if tb z w = true then (if (puL W w (W (73 + (w : Int)) + more) j fi 1).1 = true then shL j fi z more m (w + 1) (puL W w (W (73 + (w : Int)) + more) j fi 1).2 else puL W w (W (73 + (w : Int)) + more) j fi 1) else shL j fi z more m (w + 1) W := rfl
theorem cN_s (p : Nat → Bool) (m w : Nat) : cN p (m + 1) w = (if p w = true then 1 else 0) + cN p m (w + 1) := rfl
theorem puL_o {W : Int → Int} {w v how : Int} (hw : 0 ≤ w ∧ w < 64) (h0 : 0 ≤ W 11356) (i : Int) (h1 : i < 9 ∨ 73 ≤ i) (h2 : i < 11356) : (puL W w v j fi how).2 i = W i := by
  rcases puL_is (W := W) (j := j) (fi := fi) (how := how) w v with ⟨u, hu, e⟩ | e
  · rw [e]; exact wrW_o i (by omega) (by omega) (by omega)
  · rw [e]
theorem puL_0 {W : Int → Int} {w v how : Int} (hw : 0 ≤ w ∧ w < 64) (h0 : 0 ≤ W 11356) : W 11356 ≤ (puL W w v j fi how).2 11356 := by
  rcases puL_is (W := W) (j := j) (fi := fi) (how := how) w v with ⟨u, hu, e⟩ | e
  · rw [e, wrW_n h0 hw]; omega
  · rw [e]; exact Int.le_refl _
theorem shL_o : ∀ (m w : Nat) (W : Int → Int), w + m = 64 → 0 ≤ W 11356 → (∀ i : Int, (i < 9 ∨ 73 ≤ i) → i < 11356 → (shL j fi z more m w W).2 i = W i) ∧ W 11356 ≤ (shL j fi z more m w W).2 11356 ∧ (shL j fi z more m w W).2 11356 ≤ W 11356 + cN (tb z) m w := by
  intro m
  induction m with
  | zero => intro w W _ _; exact ⟨fun _ _ _ => rfl, Int.le_refl _, by show W 11356 ≤ W 11356 + 0; omega⟩
  | succ m ih =>
    intro w W hw h0
    have hw2 : 0 ≤ (w : Int) ∧ (w : Int) < 64 := by omega
    have a1 := puL_0 (W := W) (v := W (73 + (w : Int)) + more) (j := j) (fi := fi) (how := 1) hw2 h0
    have a2 := puL_k (W := W) (v := W (73 + (w : Int)) + more) (j := j) (fi := fi) (how := 1) h0 hw2
    rw [shL_s, cN_s]
    by_cases t : tb z w = true
    · rw [if_pos t, if_pos t]
      by_cases b : (puL W w (W (73 + (w : Int)) + more) j fi 1).1 = true
      · rw [if_pos b]
        obtain ⟨r1, r2, r3⟩ := ih (w + 1) _ (by omega) (Int.le_trans h0 a1)
        refine ⟨fun i p q => (r1 i p q).trans (puL_o hw2 h0 i p q), Int.le_trans a1 r2, by omega⟩
      · rw [if_neg b]
        exact ⟨fun i p q => puL_o hw2 h0 i p q, a1, by omega⟩
    · rw [if_neg t, if_neg t]
      obtain ⟨r1, r2, r3⟩ := ih (w + 1) W (by omega) h0
      exact ⟨r1, r2, by omega⟩
/-- a word put, between writings -/
theorem E_putN {g : HP} {W : Int → Int} {how : Int} (d : DoN g W j fi how) (w v : Int) (hw : 0 ≤ w ∧ w < 64) (hr : W 11356 < 5120) (hh : 0 ≤ how ∧ how < 4) : ∃ g', X1_put F 10 w v g = some (if (puL W w v j fi how).1 then 1 else 0, g') ∧ DoN g' (puL W w v j fi how).2 j fi how ∧ gI g' 10 = gI g 10 ∧ Ox XC g g' := by
  obtain ⟨L, r, hp, hfi, hj⟩ := id d
  have n2 := r.2.1
  have n4 := r.2.2.2.1
  obtain ⟨r1, r2, r3, -⟩ := r.2.2.2.2.2.2.2.1
  simp only [Nat.add_zero] at r1
  have g8 := n2.g8
  have hj12 : j < 12 := by omega
  have g0 : 0 ≤ W 0 ∧ W 0 ≤ 480 := ⟨n2.1, n2.2.1⟩
  have x := E_putC (F := F) (W := W) (how := how) j 0 (how / 2 % 2) (if fi = W 11356 then 1 else 0) w v L n4 rfl hw (by rw [r1]; omega) hp (by omega) g0 (by omega) (by split <;> omega)
  unfold puL
  by_cases b : inb v
  · rw [if_pos b] at x ⊢
    have y := r.write (f := if fi = W 11356 then 1 else 0) (bj := j) (fi := fi) (how := how) hw (spW_in (W := W) (w := w) (how := how) b) hr ⟨by omega, hj⟩ hh (fun _ => by omega) hp rfl
    have p9 : gI (Hwr g w (spW W w v how)) 11 9 = gI g 11 9 - gI g 11 9 / 2097152 % 2 * 2097152 := by unfold Hwr; rw [gI_sIe]
    have p10 : gI (Hwr g w (spW W w v how)) 10 = gI g 10 := by
      unfold Hwr
      rw [gI_sIn _ _ _ _ _ (by decide), gI_sIn _ _ _ _ _ (by decide), gI_sAn _ _ _ _ _ (by decide), gI_sAn _ _ _ _ _ (by decide), gI_sAn _ _ _ _ _ (by decide), gI_sAn _ _ _ _ _ (by decide)]
    refine ⟨_, x, ⟨L, y, ?_, ?_, ?_⟩, p10, Ox.Hwr _ _ _⟩
    · show gI (Hwr g w (spW W w v how)) 11 9 = penO j (wrW W w (spW W w v how) j fi how 0) (how % 2) (how / 2 % 2) (if fi = wrW W w (spW W w v how) j fi how 11356 then 1 else 0)
      rw [p9, hp, wrW_o 0 (by omega) (by omega) (by omega), wrW_n r2 hw, if_neg (show ¬ fi = W 11356 + 1 by omega)]
      unfold penO
      split <;> omega
    · show fi ≤ wrW W w (spW W w v how) j fi how 11356
      rw [wrW_n r2 hw]; omega
    · show (j : Int) < wrW W w (spW W w v how) j fi how 8
      rw [wrW_o 8 (by omega) (by omega) (by omega)]; exact hj
  · rw [if_neg b] at x ⊢
    exact ⟨g, x, d, rfl, Ox.rf _ _⟩
theorem E_shoC (hm : -9999 ≤ more ∧ more ≤ 9999) : ∀ (m w k : Nat) (W : Int → Int) (g : HP), w + m = 64 → m < k → DoN g W j fi 1 → W 11356 + cN (tb z) m w ≤ 5120 → ∃ g', X1_doShortly_L3 F k 10 z more w g = some (if (shL j fi z more m w W).1 then 1 else 0, g') ∧ DoN g' (shL j fi z more m w W).2 j fi 1 ∧ gI g' 10 = gI g 10 ∧ Ox XC g g' := by
  intro m
  induction m with
  | zero =>
    intro w k W g hw hk d hr
    obtain ⟨k, rfl⟩ : ∃ k', k = k' + 1 := ⟨k - 1, by omega⟩
    refine ⟨g, ?_, d, rfl, Ox.rf _ _⟩
    show (if (64 : Int) ≤ w then _ else _) = _
    rw [if_pos (by omega)]
    rfl
  | succ m ih =>
    intro w k W g hw hk d hr
    obtain ⟨k, rfl⟩ : ∃ k', k = k' + 1 := ⟨k - 1, by omega⟩
    have w64' : w < 64 := by omega
    have hw2 : 0 ≤ (w : Int) ∧ (w : Int) < 64 := by omega
    have hw3 : 0 ≤ (w : Int) ∧ (w : Int) ≤ 63 := by omega
    have e32 : Unit → w32 ((w : Int) + 1) = ((w + 1 : Nat) : Int) := fun _ => by rw [w32i _ (by omega) (by omega)]; omega
    have ub : yand (yush z w) 1 = if tb z w = true then 1 else 0 := by rw [yand_1, tb_ushw z w w64']
    have L := d.1
    have r3 := d.2.1.2.2.1 w hw2.1 hw2.2
    have h0 := d.2.1.2.2.2.2.2.2.2.1.2.1
    rw [Nat.add_zero] at r3
    rw [cN_s] at hr
    rw [shL_s]
    show ∃ g', (if (64 : Int) ≤ w then _ else if xcmp (yand (yush z w) 1) 0 = 0 then X1_doShortly_L45 F (X1_doShortly_L3 F k) 10 z more w g else _) = _ ∧ _
    rw [if_neg (by omega), ub]
    by_cases t : tb z w = true
    · rw [if_pos t] at hr ⊢
      rw [if_pos t, if_neg (by decide), cP10_0 g _ L, cR11 g _ L]
      have eo := E_oldAt (F := F) (h := g) (w : Int) L hw2
      have e13 : aI g 13 w = W (73 + (w : Int)) := r3.2.1
      rw [e13] at eo
      have iv := r3.2.2.2
      have ew : w64 (W (73 + (w : Int)) + more) = W (73 + (w : Int)) + more := w64i _ (by unfold in32 at iv; omega) (by unfold in32 at iv; omega)
      rw [b_xb _ _ _ _ eo, cR10 g _ L, ew]
      have a2 := puL_k (W := W) (v := W (73 + (w : Int)) + more) (j := j) (fi := fi) (how := 1) h0 hw2
      obtain ⟨g1, p1, p2, p3, p4⟩ := E_putN (F := F) d w (W (73 + (w : Int)) + more) hw2 (by omega) ⟨by decide, by decide⟩
      rw [b_xb _ _ _ _ p1]
      by_cases b : (puL W w (W (73 + (w : Int)) + more) j fi 1).1 = true
      · rw [if_pos b, if_pos b, if_neg (by decide)]
        unfold X1_doShortly_L45
        rw [e32 ()]
        obtain ⟨g', q1, q2, q3, q4⟩ := ih (w + 1) k _ g1 (by omega) (by omega) p2 (by omega)
        exact ⟨g', q1, q2, q3.trans p3, p4.tr q4⟩
      · rw [if_neg b, if_neg b, if_pos rfl, if_neg b]
        exact ⟨g1, rfl, p2, p3, p4⟩
    · rw [if_neg t] at hr ⊢
      rw [if_neg t, if_pos (by decide)]
      unfold X1_doShortly_L45
      rw [e32 ()]
      exact ih (w + 1) k W g (by omega) (by omega) d (by omega)
/-- a word put in the reference -/
theorem E_putX {g : HP} {W : Int → Int} {how : Int} (L : LayM g) (rW : aI g 114 = W) (hk : 0 ≤ W 11356 ∧ W 11356 < 5999) (w v : Int) (hw : 0 ≤ w ∧ w < 64) (hh : 0 ≤ how) : ∃ g', X12_puts F 113 j w v fi how g = some (if (puL W w v j fi how).1 then 1 else 0, g') ∧ Ox XM g g' ∧ aI g' 114 = (puL W w v j fi how).2 := by
  have x := E_putM (F := F) w v j fi how L (by rw [rW]; exact hk) hw hh
  rw [rW] at x
  unfold puL
  by_cases b : inb v
  · rw [if_pos b] at x ⊢
    refine ⟨Mwr g w (spW W w v how) j fi how, x, ?_, ?_⟩
    · unfold Mwr
      exact ((((((((Ox.A _ 114 _ _ rfl).tr (Ox.A _ 114 _ _ rfl)).tr (Ox.A _ 114 _ _ rfl)).tr (Ox.A _ 114 _ _ rfl)).tr (Ox.A _ 114 _ _ rfl)).tr (Ox.A _ 114 _ _ rfl)).tr (Ox.A _ 114 _ _ rfl)).tr (Ox.A _ 114 _ _ rfl)).tr (Ox.A _ 114 _ _ rfl)
    · rw [Mwr_Wf (W := W) hw (by rw [rW]; exact hk.1), rW]
  · rw [if_neg b] at x ⊢
    exact ⟨g, x, Ox.rf _ _, rW⟩
theorem E_shM (hj : j < 12) (hm : -9999 ≤ more ∧ more ≤ 9999) : ∀ (m w k : Nat) (W : Int → Int) (g : HP), w + m = 64 → m < k → LayM g → aI g 114 = W → wrM W j = z → W (169 + 882 * (j : Int) + 7) = more → (∀ i : Int, 0 ≤ i → i < 64 → in32 (W (73 + i))) → 0 ≤ W 11356 → W 11356 + m ≤ 5999 → ∃ g', X12_goesShort_L7 F k 113 j fi w g = some (if (shL j fi z more m w W).1 then 1 else 0, g') ∧ Ox XM g g' ∧ aI g' 114 = (shL j fi z more m w W).2 := by
  intro m
  induction m with
  | zero =>
    intro w k W g hw hk L rW e1 e2 e3 h0 hr
    obtain ⟨k, rfl⟩ : ∃ k', k = k' + 1 := ⟨k - 1, by omega⟩
    refine ⟨g, ?_, Ox.rf _ _, rW⟩
    show (if (64 : Int) ≤ w then _ else _) = _
    rw [if_pos (by omega)]
    rfl
  | succ m ih =>
    intro w k W g hw hk L rW e1 e2 e3 h0 hr
    obtain ⟨k, rfl⟩ : ∃ k', k = k' + 1 := ⟨k - 1, by omega⟩
    have w64' : w < 64 := by omega
    have hw2 : 0 ≤ (w : Int) ∧ (w : Int) < 64 := by omega
    have e32 : Unit → w32 ((w : Int) + 1) = ((w + 1 : Nat) : Int) := fun _ => by rw [w32i _ (by omega) (by omega)]; omega
    have i73 : Unit → w32 (73 + (w : Int)) = 73 + w := fun _ => w32i _ (by omega) (by omega)
    have ub : yand (yshr z w) 1 = if tb z w = true then 1 else 0 := by rw [yand_1, tb_shr z w w64']
    have bw := E_bitsW (F := F) (h := g) (j : Int) L (by omega)
    rw [rW, e1] at bw
    have t7 := E_itW (F := F) L rW hj 7 (by omega)
    rw [e2] at t7
    have iv := e3 w hw2.1 hw2.2
    rw [shL_s]
    show ∃ g', (if (64 : Int) ≤ w then _ else (xrc g (some 113) 12 31).bind fun a4 => xb (X12_bitsOf F a4 j 19 g) fun v2 h3 => if xcmp (yand (yshr v2 w) 1) 1 = 0 then _ else X12_goesShort_L61 F (X12_goesShort_L7 F k) 113 j fi w h3) = _ ∧ _
    rw [if_neg (by omega), mR113 g _ L, b_xb _ _ _ _ bw, ub]
    by_cases t : tb z w = true
    · have ew : w64 (W (73 + (w : Int)) + more) = W (73 + (w : Int)) + more := w64i _ (by unfold in32 at iv; omega) (by unfold in32 at iv; omega)
      have a1 := puL_0 (W := W) (v := W (73 + (w : Int)) + more) (j := j) (fi := fi) (how := 1) hw2 h0
      have a2 := puL_k (W := W) (v := W (73 + (w : Int)) + more) (j := j) (fi := fi) (how := 1) h0 hw2
      have ao : ∀ i : Int, (i < 9 ∨ 73 ≤ i) → i < 11356 → (puL W w (W (73 + (w : Int)) + more) j fi 1).2 i = W i := fun i p q => puL_o hw2 h0 i p q
      obtain ⟨g1, p1, p2, p3⟩ := E_putX (F := F) (j := j) (fi := fi) (how := 1) L rW ⟨h0, by omega⟩ w (W (73 + (w : Int)) + more) hw2 (by decide)
      rw [if_pos t, if_pos t, if_pos (by decide), mP113_1 g _ L, i73 (), mA114 g _ _ L (by omega) (by omega), rW, mR113 g _ L, b_xb _ _ _ _ t7, mR113 g _ L, ew, b_xb _ _ _ _ p1]
      by_cases b : (puL W w (W (73 + (w : Int)) + more) j fi 1).1 = true
      · rw [if_pos b, if_pos b, if_neg (by decide)]
        unfold X12_goesShort_L61
        rw [e32 ()]
        obtain ⟨g', q1, q2, q3⟩ := ih (w + 1) k _ g1 (by omega) (by omega) (p2.M L) p3 (by
          unfold wrM
          rw [ao _ (by omega) (by omega), ao _ (by omega) (by omega)]
          exact e1) (by rw [ao _ (by omega) (by omega)]; exact e2) (fun i i0 i1 => by rw [ao _ (by omega) (by omega)]; exact e3 i i0 i1) (by omega) (by omega)
        exact ⟨g', q1, p2.tr q2, q3⟩
      · rw [if_neg b, if_neg b, if_pos rfl, if_neg b]
        exact ⟨g1, rfl, p2, p3⟩
    · rw [if_neg t, if_neg t, if_neg (by decide)]
      unfold X12_goesShort_L61
      rw [e32 ()]
      exact ih (w + 1) k W g (by omega) (by omega) L rW e1 e2 e3 h0 (by omega)
theorem E_shT {g : HP} {W : Int → Int} (hF : 2000 ≤ F) (hj : j < 12) (L : LayM g) (rW : aI g 114 = W) (e1 : wrM W j = z) (e2 : W (169 + 882 * (j : Int) + 7) = more) (hm : -9999 ≤ more ∧ more ≤ 9999) (e3 : ∀ i : Int, 0 ≤ i → i < 64 → in32 (W (73 + i))) (h0 : 0 ≤ W 11356) (hr : W 11356 ≤ 5120) : ∃ g', X12_goesShort F 113 j g = some (if (shL j (W 11356) z more 64 0 W).1 then 1 else 0, g') ∧ Ox XM g g' ∧ aI g' 114 = (shL j (W 11356) z more 64 0 W).2 := by
  have x := E_shM (F := F) (fi := W 11356) hj hm 64 0 F W g rfl (by omega) L rW e1 e2 e3 h0 (by omega)
  have wr := E_writings (F := F) (h := g) L
  rw [rW] at wr
  unfold X12_goesShort
  rw [mR113 g _ L, b_xb _ _ _ _ wr]
  exact x
/-! at most as many words as lines that write -/
theorem cN_or (p q : Nat → Bool) : ∀ m w : Nat, cN (fun i => p i || q i) m w ≤ cN p m w + cN q m w := by
  intro m
  induction m with
  | zero => intro w; exact Nat.le_refl _
  | succ m ih =>
    intro w
    have := ih (w + 1)
    rw [cN_s, cN_s, cN_s]
    cases a : p w <;> cases b : q w <;> simp <;> omega
theorem cN_eq0 (c : Int) : ∀ m w : Nat, c < w → cN (fun i => decide (c = (i : Int))) m w = 0 := by
  intro m
  induction m with
  | zero => intro w _; rfl
  | succ m ih =>
    intro w h
    rw [cN_s, ih (w + 1) (by omega), if_neg (fun e => by have := of_decide_eq_true e; omega)]
theorem cN_eq (c : Int) : ∀ m w : Nat, cN (fun i => decide (c = (i : Int))) m w ≤ 1 := by
  intro m
  induction m with
  | zero => intro w; exact Nat.zero_le _
  | succ m ih =>
    intro w
    have := ih (w + 1)
    rw [cN_s]
    by_cases e : c = (w : Int)
    · rw [if_pos (decide_eq_true e), cN_eq0 c m (w + 1) (by omega)]; exact Nat.le_refl _
    · rw [if_neg (fun q => e (of_decide_eq_true q))]; omega
theorem cN_le (p q : Nat → Bool) (h : ∀ i, p i = true → q i = true) : ∀ m w : Nat, cN p m w ≤ cN q m w := by
  intro m
  induction m with
  | zero => intro w; exact Nat.le_refl _
  | succ m ih =>
    intro w
    have := ih (w + 1)
    rw [cN_s, cN_s]
    by_cases a : p w = true
    · rw [if_pos a, if_pos (h w a)]; omega
    · rw [if_neg a]; omega
theorem cN_f : ∀ m w : Nat, cN (fun _ => false) m w = 0 := by
  intro m
  induction m with
  | zero => intro w; rfl
  | succ m ih => intro w; rw [cN_s, ih]; rfl
theorem cN_wr : ∀ (A : List Lin) (m w : Nat), cN (fun i => A.any (fun l => decide (l.1 < 3) && decide (l.2.1 = (i : Int)))) m w ≤ A.length := by
  intro A
  induction A with
  | nil => intro m w; rw [show (fun i : Nat => ([] : List Lin).any (fun l => decide (l.1 < 3) && decide (l.2.1 = (i : Int)))) = (fun _ => false) from rfl, cN_f]; exact Nat.zero_le _
  | cons l A ih =>
    intro m w
    have h1 := ih m w
    have h2 := cN_or (fun i => decide (l.1 < 3) && decide (l.2.1 = (i : Int))) (fun i => A.any (fun l => decide (l.1 < 3) && decide (l.2.1 = (i : Int)))) m w
    have h3 := cN_le (fun i => decide (l.1 < 3) && decide (l.2.1 = (i : Int))) (fun i => decide (l.2.1 = (i : Int))) (fun i q => by simp at q ⊢; exact q.2) m w
    have h4 := cN_eq l.2.1 m w
    have h5 : (fun i : Nat => (l :: A).any (fun l => decide (l.1 < 3) && decide (l.2.1 = (i : Int)))) = (fun i : Nat => (decide (l.1 < 3) && decide (l.2.1 = (i : Int))) || A.any (fun l => decide (l.1 < 3) && decide (l.2.1 = (i : Int)))) := by funext i; rw [List.any_cons]
    rw [h5, List.length_cons]
    omega
theorem cN_txt {A : List Lin} (h : ∀ i : Nat, tb z i = true ↔ wrA A i) (m w : Nat) : cN (tb z) m w ≤ A.length := by
  refine Nat.le_trans (cN_le _ _ (fun i q => ?_) m w) (cN_wr A m w)
  obtain ⟨l, h1, h2, h3⟩ := (h i).mp q
  exact List.any_eq_true.mpr ⟨l, h1, by simp [h2, h3]⟩
end SH
