/-! a line in the reference, all sorts -/
theorem iN6 (n : Nat) (hn : n < 10) : w32 (6 * (n : Int)) = 6 * n ∧ w32 (22 + 6 * (n : Int)) = 22 + 6 * n ∧ w32 (22 + 6 * (n : Int) + 1) = 22 + 6 * n + 1 ∧ w32 (22 + 6 * (n : Int) + 2) = 22 + 6 * n + 2 ∧ w32 ((n : Int) + 1) = n + 1 := ⟨w32i _ (by omega) (by omega), w32i _ (by omega) (by omega), w32i _ (by omega) (by omega), w32i _ (by omega) (by omega), w32i _ (by omega) (by omega)⟩
theorem ix22 (o : Int) (n : Nat) : o + (22 + 6 * (n : Int)) = o + 22 + 6 * n ∧ o + (22 + 6 * (n : Int) + 1) = o + 22 + 6 * n + 1 ∧ o + (22 + 6 * (n : Int) + 2) = o + 22 + 6 * n + 2 ∧ o + (22 + 6 * (n : Int) + 3) = o + 22 + 6 * n + 3 := ⟨by omega, by omega, by omega, by omega⟩
theorem MPr.hd {W : Int → Int} {o : Int} {A : List Lin} (p : MPr W o A) (n : Nat) (l : Lin) (e : A[n]? = some l) : n < 10 ∧ (n : Int) < W (o + 16) ∧ W (o + (22 + 6 * (n : Int))) = l.1 ∧ (l.1 < 3 → W (o + (22 + 6 * (n : Int) + 1)) = l.2.1) ∧ (l.1 < 3 → W (o + (22 + 6 * (n : Int) + 2)) = l.2.2.1) ∧ (l.1 = 1 → W (o + (22 + 6 * (n : Int) + 3)) = l.2.2.2.1) := by
  obtain ⟨p1, p2, p3⟩ := p
  have hn := (List.getElem?_eq_some_iff.mp e).1
  obtain ⟨x0, x1, x2, x3⟩ := ix22 o n
  have y : (n : Int) < W (o + 16) := by rw [p1]; exact Int.ofNat_lt.mpr hn
  obtain ⟨q1, q2, q3, q4, -⟩ := p3 n l e
  rw [x0, x1, x2, x3]
  exact ⟨Nat.lt_of_lt_of_le hn p2, y, q1, q2, q3, q4⟩
theorem iB6 (n : Nat) (hn : n < 10) : (0 ≤ 22 + 6 * (n : Int) ∧ 22 + 6 * (n : Int) < 882) ∧ (0 ≤ 22 + 6 * (n : Int) + 1 ∧ 22 + 6 * (n : Int) + 1 < 882) ∧ (0 ≤ 22 + 6 * (n : Int) + 2 ∧ 22 + 6 * (n : Int) + 2 < 882) ∧ (22 ≤ 22 + 6 * (n : Int) ∧ 22 + 6 * (n : Int) < 82) ∧ (0 ≤ (n : Int) ∧ (n : Int) < 1000) := by omega
theorem wB64 {w : Int} (h : 16 ≤ w ∧ w ≤ 63) : (0 ≤ w ∧ w < 64) ∧ w32 (9 + w) = 9 + w ∧ 0 ≤ 9 + w ∧ 9 + w < 53357 := ⟨by omega, w32i _ (by omega) (by omega), by omega, by omega⟩
theorem tB9 {x : Int} {t F : Nat} (h : x = t) (a : 1 ≤ x) (b : x ≤ 9) (hF : 2000 ≤ F) : t ≤ 9 ∧ 0 < t ∧ 500 ≤ F ∧ t < F := by omega
theorem abB {a b : Int} {F : Nat} (h1 : 0 ≤ a) (h2 : a ≤ b) (h3 : b ≤ 63) (hF : 2000 ≤ F) : a + ((b + 1 - a).toNat : Int) = b + 1 ∧ (b + 1 - a).toNat < F ∧ -(a * 2147483648) ≤ 0 ∧ 0 ≤ a * 2147483648 := ⟨by omega, by omega, by omega, by omega⟩
theorem wN {w : Int} (h : 16 ≤ w ∧ w ≤ 63) : (11356 : Int) ≠ 9 + w := by omega
theorem jB {j : Nat} (hj : j < 12) : 0 ≤ (j : Int) ∧ (j : Int) < 12 ∧ (0 : Int) ≤ 15 ∧ (15 : Int) < 882 := by omega
theorem l3B {x : Int} (h : 0 ≤ x) (a : ¬ x = 0) (b : ¬ x = 1) (c : ¬ x = 2) : 3 ≤ x := by omega
theorem oB (j : Nat) : 169 + 882 * (j : Int) + 15 = 9 + (169 + 882 * (j : Int) + 6) ∧ 0 < 169 + 882 * (j : Int) + 6 ∧ 0 ≤ 169 + 882 * (j : Int) + 6 := by omega
section LM2
variable {F : Nat} {j : Nat} {fi how : Int}
theorem E_itW {g : HP} {W : Int → Int} (L : LayM g) (rW : aI g 114 = W) (hj : j < 12) (i : Int) (hi : 0 ≤ i ∧ i < 882) : X12_its F 113 (j : Int) i g = some (W (169 + 882 * (j : Int) + i), g) := by
  rw [← rW]; exact E_its (F := F) (h := g) (j : Int) i L ⟨by omega, by omega, hi.1, hi.2⟩
theorem E_lineM0 {g : HP} {W : Int → Int} (hF : 2000 ≤ F) (L : LayM g) (rW : aI g 114 = W) (oW : okWT W) (hj : j < 12) {A : List Lin} (p : MPr W (169 + 882 * j) A) (n : Nat) (l : Lin) (e : A[n]? = some l) (kl : okL l) (hh : 0 ≤ how) (hk : 0 ≤ W 11356 ∧ W 11356 < 5999) (k : Nat) (c0 : l.1 = 0) : ∃ g', X12_goes_L8 F (k + 1) 113 j how fi n g = (if (linL j fi how W l).1 = true then X12_goes_L8 F k 113 j how fi ((n : Int) + 1) g' else some (0, g')) ∧ Ox XM g g' ∧ aI g' 114 = (linL j fi how W l).2 := by
  obtain ⟨hn, n1, q1, q2, -, -⟩ := p.hd n l e
  have t1 := q2 (by rw [c0]; decide)
  clear q2
  obtain ⟨i0, i1, i2, i3, e32⟩ := iN6 n hn
  obtain ⟨B0, B1, B2, B3, B4⟩ := iB6 n hn
  have t16 := E_itW (F := F) L rW hj 16 ⟨by decide, by decide⟩
  have s0 := E_itW (F := F) L rW hj (22 + 6 * n) B0
  rw [q1] at s0
  have s1 := E_itW (F := F) L rW hj (22 + 6 * n + 1) B1
  rw [t1] at s1
  obtain ⟨k5, k6, ks⟩ := kl.2.2.2.1 c0
  have k3 := kl.2.2.1 (by rw [c0]; decide)
  obtain ⟨hw, i9, w0, w1⟩ := wB64 k3
  obtain ⟨t, ht⟩ := Int.eq_ofNat_of_zero_le (Int.le_trans (by decide) k5)
  obtain ⟨t9, t0, f1, f2⟩ := tB9 ht k5 k6 hF
  obtain ⟨g', a1, a2, a3, a4⟩ := E_setM (F := F) f1 oW (X12_goes_L8 F k) j hj p n l e kl c0 how fi l.2.1 hw t t9 ht t 0 F (W (9 + l.2.1)) g (Nat.zero_add t) f2 L (by rw [wW_id]; exact rW) (oW.1 _ hw.1 hw.2).1
  have e0 : linL j fi how W l = (match setN W l.2.1 l.2.2.2.2.1 t (W (9 + l.2.1)) with | none => (false, W) | some u => (true, wrW W l.2.1 (spW W l.2.1 u how) j fi how)) := by
    unfold linL
    rw [if_pos c0, ht]
    rfl
  have st : X12_goes_L8 F (k + 1) 113 j how fi n g = X12_goes_L70 F (X12_goes_L8 F k) F 113 j how fi n (22 + 6 * (n : Int)) l.2.1 (W (9 + l.2.1)) (0 : Nat) g := by
    show ((xrc g (some 113) 12 31).bind fun a3 => xb (X12_its F a3 j 16 g) fun v1 h2 => if v1 ≤ (n : Int) then _ else _) = _
    rw [mR113 g _ L, b_xb _ _ _ _ t16, if_neg (Int.not_le.mpr n1), mR113 g _ L, i0, i1, b_xb _ _ _ _ s0, mR113 g _ L, i2, b_xb _ _ _ _ s1, if_pos c0, mP113_1 g _ L, i9, mA114 g _ _ L w0 w1, rW]
    rfl
  rw [st, a1, e0]
  cases es : setN W l.2.1 l.2.2.2.2.1 t (W (9 + l.2.1)) with
  | none => exact ⟨g', rfl, a2, a3 es⟩
  | some u =>
    have iu : inb u := setN_in t _ u t0 es
    have zk : wW W l.2.1 u 11356 = W 11356 := wW_n _ (wN k3)
    obtain ⟨g9, b1, b2, b3⟩ := E_tailM (F := F) (j := j) (fi := fi) (how := how) (a2.M L) (a4 u es) (by rw [zk]; exact hk) l.2.1 u hw hh n B4 k
    have ep : puL (wW W l.2.1 u) l.2.1 u j fi how = (true, wrW W l.2.1 (spW W l.2.1 u how) j fi how) := by unfold puL; rw [if_pos iu, wr_w9 _ _ _ _ _ _ hw, sp_w9 _ _ _ _ hw]
    rw [ep] at b1 b3
    exact ⟨g9, b1, a2.tr b2, b3⟩
theorem E_lineM1 {g : HP} {W : Int → Int} (hF : 2000 ≤ F) (L : LayM g) (rW : aI g 114 = W) (oW : okWT W) (hj : j < 12) {A : List Lin} (p : MPr W (169 + 882 * j) A) (n : Nat) (l : Lin) (e : A[n]? = some l) (kl : okL l) (hh : 0 ≤ how) (hk : 0 ≤ W 11356 ∧ W 11356 < 5999) (k : Nat) (c1 : l.1 = 1) : ∃ g', X12_goes_L8 F (k + 1) 113 j how fi n g = (if (linL j fi how W l).1 = true then X12_goes_L8 F k 113 j how fi ((n : Int) + 1) g' else some (0, g')) ∧ Ox XM g g' ∧ aI g' 114 = (linL j fi how W l).2 := by
  have c0 : ¬ l.1 = 0 := by rw [c1]; decide
  obtain ⟨hn, n1, q1, q2, q3, q4⟩ := p.hd n l e
  have t1 := q2 (by rw [c1]; decide)
  have t2 := q3 (by rw [c1]; decide)
  have t3 := q4 c1
  clear q2 q3 q4
  obtain ⟨i0, i1, i2, i3, e32⟩ := iN6 n hn
  obtain ⟨B0, B1, B2, B3, B4⟩ := iB6 n hn
  have t16 := E_itW (F := F) L rW hj 16 ⟨by decide, by decide⟩
  have s0 := E_itW (F := F) L rW hj (22 + 6 * n) B0
  rw [q1] at s0
  have s1 := E_itW (F := F) L rW hj (22 + 6 * n + 1) B1
  rw [t1] at s1
  have s2 := E_itW (F := F) L rW hj (22 + 6 * n + 2) B2
  rw [t2] at s2
  have k3 := kl.2.2.1 (by rw [c1]; decide)
  obtain ⟨hw, i9, w0, w1⟩ := wB64 k3
  obtain ⟨k8, k9, k10⟩ := kl.2.2.2.2.1 c1
  have x := E_totM (F := F) (X12_goes_L8 F k) L rW oW j hj how fi n l.2.1 l.2.2.2.1 (22 + 6 * (n : Int)) B3 t3 k10 (l.2.2.2.1 + 1 - l.2.2.1).toNat F l.2.2.1 0 k8 (abB k8 k9 k10 hF).1 (abB k8 k9 k10 hF).2.1 (abB k8 k9 k10 hF).2.2.1 (abB k8 k9 k10 hF).2.2.2
  have e0 : linL j fi how W l = puL W l.2.1 (totN W (l.2.2.2.1 + 1 - l.2.2.1).toNat l.2.2.1 0) j fi how := by unfold linL; rw [if_neg c0, if_pos c1]
  have st : X12_goes_L8 F (k + 1) 113 j how fi n g = X12_goes_L192 F (X12_goes_L8 F k) F 113 j how fi n (22 + 6 * (n : Int)) l.2.1 0 l.2.2.1 g := by
    show ((xrc g (some 113) 12 31).bind fun a3 => xb (X12_its F a3 j 16 g) fun v1 h2 => if v1 ≤ (n : Int) then _ else _) = _
    rw [mR113 g _ L, b_xb _ _ _ _ t16, if_neg (Int.not_le.mpr n1), mR113 g _ L, i0, i1, b_xb _ _ _ _ s0, mR113 g _ L, i2, b_xb _ _ _ _ s1, if_neg c0, if_pos c1, mR113 g _ L, i3, b_xb _ _ _ _ s2]
    rfl
  rw [st, x, e0]
  exact E_tailM (F := F) L rW hk l.2.1 _ hw hh n B4 k
theorem E_lineM2 {g : HP} {W : Int → Int} (L : LayM g) (rW : aI g 114 = W) (oW : okWT W) (hj : j < 12) {A : List Lin} (p : MPr W (169 + 882 * j) A) (n : Nat) (l : Lin) (e : A[n]? = some l) (kl : okL l) (hh : 0 ≤ how) (hk : 0 ≤ W 11356 ∧ W 11356 < 5999) (k : Nat) (c2 : l.1 = 2) : ∃ g', X12_goes_L8 F (k + 1) 113 j how fi n g = (if (linL j fi how W l).1 = true then X12_goes_L8 F k 113 j how fi ((n : Int) + 1) g' else some (0, g')) ∧ Ox XM g g' ∧ aI g' 114 = (linL j fi how W l).2 := by
  have c0 : ¬ l.1 = 0 := by rw [c2]; decide
  have c1 : ¬ l.1 = 1 := by rw [c2]; decide
  obtain ⟨hn, n1, q1, q2, q3, -⟩ := p.hd n l e
  have t1 := q2 (by rw [c2]; decide)
  have t2 := q3 (by rw [c2]; decide)
  clear q2 q3
  obtain ⟨i0, i1, i2, i3, e32⟩ := iN6 n hn
  obtain ⟨B0, B1, B2, B3, B4⟩ := iB6 n hn
  have t16 := E_itW (F := F) L rW hj 16 ⟨by decide, by decide⟩
  have s0 := E_itW (F := F) L rW hj (22 + 6 * n) B0
  rw [q1] at s0
  have s1 := E_itW (F := F) L rW hj (22 + 6 * n + 1) B1
  rw [t1] at s1
  have s2 := E_itW (F := F) L rW hj (22 + 6 * n + 2) B2
  rw [t2] at s2
  have k3 := kl.2.2.1 (by rw [c2]; decide)
  obtain ⟨hw, i9, w0, w1⟩ := wB64 k3
  obtain ⟨k8, k9⟩ := kl.2.2.2.2.2.1 c2
  have e0 : linL j fi how W l = puL W l.2.1 (rndV (W (9 + l.2.1)) l.2.2.1) j fi how := by unfold linL; rw [if_neg c0, if_neg c1, if_pos c2]
  have rd := E_roundM (F := F) (h := g) (W (9 + l.2.1)) l.2.2.1 (Int.lt_of_lt_of_le (by decide) k8) (oW.1 _ hw.1 hw.2).1 k9
  have st : X12_goes_L8 F (k + 1) 113 j how fi n g = xb (X12_puts F 113 j l.2.1 (rndV (W (9 + l.2.1)) l.2.2.1) fi how g) (fun v7 h8 => if v7 = 0 then some (0, h8) else X12_goes_L327 F (X12_goes_L8 F k) 113 j how fi n h8) := by
    show ((xrc g (some 113) 12 31).bind fun a3 => xb (X12_its F a3 j 16 g) fun v1 h2 => if v1 ≤ (n : Int) then _ else _) = _
    rw [mR113 g _ L, b_xb _ _ _ _ t16, if_neg (Int.not_le.mpr n1), mR113 g _ L, i0, i1, b_xb _ _ _ _ s0, mR113 g _ L, i2, b_xb _ _ _ _ s1, if_neg c0, if_neg c1, if_pos c2, mP113_1 g _ L, i9, mA114 g _ _ L w0 w1, rW, mR113 g _ L, i3, b_xb _ _ _ _ s2, b_xb _ _ _ _ rd, mR113 g _ L]
    rfl
  rw [st, e0]
  exact E_tailM (F := F) L rW hk l.2.1 _ hw hh n B4 k
theorem E_lineM3 {g : HP} {W : Int → Int} (hF : 2000 ≤ F) (L : LayM g) (rW : aI g 114 = W) (oW : okWT W) (hj : j < 12) {A : List Lin} (p : MPr W (169 + 882 * j) A) (n : Nat) (l : Lin) (e : A[n]? = some l) (kl : okL l) (k : Nat) (c3 : 3 ≤ l.1) : ∃ g', X12_goes_L8 F (k + 1) 113 j how fi n g = (if (linL j fi how W l).1 = true then X12_goes_L8 F k 113 j how fi ((n : Int) + 1) g' else some (0, g')) ∧ Ox XM g g' ∧ aI g' 114 = (linL j fi how W l).2 := by
  have c0 : ¬ l.1 = 0 := fun q => by rw [q] at c3; exact absurd c3 (by decide)
  have c1 : ¬ l.1 = 1 := fun q => by rw [q] at c3; exact absurd c3 (by decide)
  have c2 : ¬ l.1 = 2 := fun q => by rw [q] at c3; exact absurd c3 (by decide)
  obtain ⟨hn, n1, q1, -, -, -⟩ := p.hd n l e
  obtain ⟨i0, i1, i2, i3, e32⟩ := iN6 n hn
  obtain ⟨B0, B1, B2, B3, B4⟩ := iB6 n hn
  have t16 := E_itW (F := F) L rW hj 16 ⟨by decide, by decide⟩
  have s0 := E_itW (F := F) L rW hj (22 + 6 * n) B0
  rw [q1] at s0
  have s1 := E_itW (F := F) L rW hj (22 + 6 * n + 1) B1
  have f1 : 500 ≤ F := Nat.le_trans (by decide) hF
  obtain ⟨g1, ew, og⟩ := E_workedM (F := F) f1 L rW j hj p n l e kl (Or.inr c3) oW.e
  have L1 : LayM g1 := og.M L
  have rW1 : aI g1 114 = W := by rw [og.i]; exact rW
  have t15 := E_itW (F := F) L1 rW1 hj 15 ⟨by decide, by decide⟩
  have es := E_sets (F := F) (h := g1) (j : Int) 15 (w32 (W (169 + 882 * (j : Int) + 15) + 1)) L1 (jB hj)
  have st : ∀ R, (if (xcmp (linV (envM W) l) 1) = 0 then (if l.1 = 4 then some (0, g1) else X12_goes_L8 F k 113 j how fi ((n : Int) + 1) (sA g1 114 (169 + 882 * (j : Int) + 15) (w32 (W (169 + 882 * (j : Int) + 15) + 1)))) else X12_goes_L8 F k 113 j how fi ((n : Int) + 1) g1) = R → X12_goes_L8 F (k + 1) 113 j how fi n g = R := by
    intro R hR
    rw [← hR]
    show ((xrc g (some 113) 12 31).bind fun a3 => xb (X12_its F a3 j 16 g) fun v1 h2 => if v1 ≤ (n : Int) then _ else _) = _
    rw [mR113 g _ L, b_xb _ _ _ _ t16, if_neg (Int.not_le.mpr n1), mR113 g _ L, i0, i1, b_xb _ _ _ _ s0, mR113 g _ L, i2, b_xb _ _ _ _ s1, if_neg c0, if_neg c1, if_neg c2, mR113 g _ L, b_xb _ _ _ _ ew]
    unfold X12_goes_L327
    by_cases b : xcmp (linV (envM W) l) 1 = 0
    · rw [if_pos b, if_pos b]
      by_cases c4 : l.1 = 4
      · rw [if_pos c4, if_pos c4]
      · rw [if_neg c4, if_neg c4, mR113 g1 _ L1, b_xb _ _ _ _ t15, mR113 g1 _ L1, b_xb _ _ _ _ es, e32]
        rfl
    · rw [if_neg b, if_neg b, e32]
      rfl
  have e0 : linL j fi how W l = if linV (envM W) l = 1 then (if l.1 = 4 then (false, W) else (true, wW W (169 + 882 * (j : Int) + 6) (w32 (W (169 + 882 * (j : Int) + 15) + 1)))) else (true, W) := by unfold linL; rw [if_neg c0, if_neg c1, if_neg c2]
  rw [e0]
  by_cases b : linV (envM W) l = 1
  · rw [if_pos ((xcmp_0 _ _).mpr b)] at st
    rw [if_pos b]
    by_cases c4 : l.1 = 4
    · rw [if_pos c4] at st ⊢
      exact ⟨g1, st _ rfl, og.x rfl, rW1⟩
    · rw [if_neg c4] at st ⊢
      refine ⟨_, st _ rfl, (og.x rfl).tr (Ox.A _ 114 _ _ rfl), ?_⟩
      rw [(oB j).1, aI_sAw _ _ _ (oB j).2.2, rW1]
  · rw [if_neg (fun q => b ((xcmp_0 _ _).mp q))] at st
    rw [if_neg b]
    exact ⟨g1, st _ rfl, og.x rfl, rW1⟩
theorem E_lineM {g : HP} {W : Int → Int} (hF : 2000 ≤ F) (L : LayM g) (rW : aI g 114 = W) (oW : okWT W) (hj : j < 12) {A : List Lin} (p : MPr W (169 + 882 * j) A) (n : Nat) (l : Lin) (e : A[n]? = some l) (kl : okL l) (hh : 0 ≤ how) (hk : 0 ≤ W 11356 ∧ W 11356 < 5999) (k : Nat) : ∃ g', X12_goes_L8 F (k + 1) 113 j how fi n g = (if (linL j fi how W l).1 = true then X12_goes_L8 F k 113 j how fi ((n : Int) + 1) g' else some (0, g')) ∧ Ox XM g g' ∧ aI g' 114 = (linL j fi how W l).2 := by
  have k1 := kl.1
  by_cases c0 : l.1 = 0
  · exact E_lineM0 hF L rW oW hj p n l e kl hh hk k c0
  by_cases c1 : l.1 = 1
  · exact E_lineM1 hF L rW oW hj p n l e kl hh hk k c1
  by_cases c2 : l.1 = 2
  · exact E_lineM2 L rW oW hj p n l e kl hh hk k c2
  have c3 : 3 ≤ l.1 := l3B k1 c0 c1 c2
  exact E_lineM3 hF L rW oW hj p n l e kl k c3
end LM2
