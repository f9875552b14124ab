/-! a job that ends: its text done -/
section FT
variable {F : Nat}
theorem opN_ge {W : Int → Int} (j : Nat) (hs : W (169 + 882 * (j : Int) + 8) ≤ 1) : ∀ m : Nat, j < m → 1 ≤ opN W m := by
  intro m
  induction m with
  | zero => intro h; omega
  | succ m ih =>
    intro h
    unfold opN
    by_cases e : j = m
    · subst e
      have := opN_nn W j
      rw [if_pos hs]; omega
    · have := ih (by omega)
      split <;> omega
theorem ptl_op {W : Int → Int} (g8 : 0 ≤ W 8 ∧ W 8 ≤ 12) (j : Nat) (hj : (j : Int) < W 8) (hs : W (169 + 882 * (j : Int) + 8) ≤ 1) : W 11356 + 10 ≤ ptl W := by
  have := opN_ge (W := W) j hs (W 8).toNat (by omega)
  unfold ptl
  omega
/-- the places of a text's steps, and what is wanted of it -/
theorem ptl_end {W W' : Int → Int} (g8 : 0 ≤ W 8 ∧ W 8 ≤ 12) (j : Nat) (hj : (j : Int) < W 8) (hs : W (169 + 882 * (j : Int) + 8) ≤ 1) (w8 : W' 8 = W 8) (wk : W' 11356 ≤ W 11356 + 10) (w : ∀ k : Nat, k < 12 → W' (169 + 882 * (k : Int) + 8) = W (169 + 882 * (k : Int) + 8)) (st f : Int) (h2 : 2 ≤ st) : ptl (endW W' (169 + 882 * (j : Int)) st f) ≤ ptl W := by
  have hj12 : j < 12 := by omega
  have e8 : endW W' (169 + 882 * (j : Int)) st f 8 = W' 8 := endW_o 8 (by omega)
  have ek : endW W' (169 + 882 * (j : Int)) st f 11356 = W' 11356 := endW_o 11356 (by omega)
  have x := ptl_st (W := W') (W' := endW W' (169 + 882 * (j : Int)) st f) (by rw [w8]; exact g8) j (by rw [w8]; exact hj) e8 ek (fun k hk hkj => endW_o _ (by omega))
  rw [endW_8, w j hj12, if_neg (by omega), if_pos hs] at x
  have y : opN W' (W 8).toNat = opN W (W 8).toNat := opN_w w _ (by omega)
  have z : ptl W' ≤ ptl W + 10 := by unfold ptl; rw [w8, y]; omega
  omega
theorem RNw.wt {h : HP} {W : Int → Int} (r : RNw h 0 W) : okWT W := ⟨fun i h0 h1 => (r.2.2.1 i h0 h1).2.2, r.2.1.2.2.1, r.2.1.2.2.2.1, r.2.1.2.2.2.2.1, r.2.1.2.2.2.2.2.1⟩
/-- the doer at a text's first line -/
theorem DoS.mk0 {h : HP} {W : Int → Int} (j : Nat) (L : LayC h) (r : RNw h 0 W) (i15 : in32 (W (169 + 882 * (j : Int) + 15))) (e5 : gI h 10 5 = -1) (hj : (j : Int) < W 8) (how : Int) (hh : how = 2 ∨ how = 3) {t q n : Nat} {A : List Lin} (t1 : 126 < t) (t3 : gS h t = (9, 4)) (t4 : gP h t 0 = some q) (t5 : 126 < q) (t7 : gS h q = (100, n)) (t8 : n ≤ 1208) (t9 : (prgC A).length ≤ n) (t10 : ∀ (i : Nat) (z : Int), (prgC A)[i]? = some z → aI h q i = z) : DoS (sI (sI (sI (sI (sP (sI h 11 9 (penO j (W 0) (how % 2) 1 1)) 10 1 (some t)) 10 3 (W 1)) 10 4 (W 2)) 10 2 0) 10 7 0) (prgC A) W j (W 11356) how (W (169 + 882 * (j : Int) + 15)) := by
  have q6 : Qs h (sI (sI (sI (sI (sP (sI h 11 9 (penO j (W 0) (how % 2) 1 1)) 10 1 (some t)) 10 3 (W 1)) 10 4 (W 2)) 10 2 0) 10 7 0) := Qs.sI rfl (Qs.sI rfl (Qs.sI rfl (Qs.sI rfl (Qs.sP (Qs.sI rfl (Qs.rf h))))))
  have gn : ∀ a, a ≠ 10 → a ≠ 11 → gI (sI (sI (sI (sI (sP (sI h 11 9 (penO j (W 0) (how % 2) 1 1)) 10 1 (some t)) 10 3 (W 1)) 10 4 (W 2)) 10 2 0) 10 7 0) a = gI h a := fun a h1 h2 => by
    rw [gI_sIn _ _ _ _ _ h1, gI_sIn _ _ _ _ _ h1, gI_sIn _ _ _ _ _ h1, gI_sIn _ _ _ _ _ h1, gI_sP, gI_sIn _ _ _ _ _ h2]
  have r' := r.cg q6.N (fun _ _ _ => rfl)
  have ix : (169 + 882 * (j : Int) + 15) = 9 + (169 + 882 * (j : Int) + 6) := by omega
  refine ⟨⟨L.Q q6, ⟨t, q, n, t1, t5, ?_, t3, ?_, t7, t9, t8, fun i z e => ?_⟩, ?_, fun x => absurd x (by decide), fun i h0 h1 _ => ?_, fun i h0 h1 => ?_, ?_, ?_⟩, ?_, ?_, ?_, Int.le_refl _, hj⟩
  · show gP (sP (sI h 11 9 (penO j (W 0) (how % 2) 1 1)) 10 1 (some t)) 10 1 = some t
    rw [gP_sP, if_pos ⟨rfl, rfl⟩]
  · show gP (sP (sI h 11 9 (penO j (W 0) (how % 2) 1 1)) 10 1 (some t)) t 0 = some q
    rw [gP_sP, if_neg (fun x => by omega)]
    exact t4
  · show gI _ q _ = z
    rw [gn q (by omega) (by omega)]; exact t10 i z e
  · rw [gI_sIk _ _ _ _ _ (by decide), gI_sIk _ _ _ _ _ (by decide), gI_sIk _ _ _ _ _ (by decide), gI_sIk _ _ _ _ _ (by decide), gI_sP, gI_sIn _ _ _ _ _ (by decide)]
    exact e5
  · show gI _ 12 _ = W (9 + i)
    rw [gn 12 (by decide) (by decide)]
    exact (r.2.2.1 i h0 (by omega)).1
  · show gI _ 13 _ = W (73 + i)
    rw [gn 13 (by decide) (by decide)]
    exact (r.2.2.1 i h0 (by omega)).2.1
  · rw [gI_sIk _ _ _ _ _ (by decide), gI_sIk _ _ _ _ _ (by decide), gI_sIk _ _ _ _ _ (by decide), gI_sIe]
    rfl
  · rw [gI_sIk _ _ _ _ _ (by decide), gI_sIk _ _ _ _ _ (by decide), gI_sIe]
    rfl
  · rw [ix, wW_id]; exact r'
  · rw [gI_sIn _ _ _ _ _ (by decide), gI_sIn _ _ _ _ _ (by decide), gI_sIn _ _ _ _ _ (by decide), gI_sIn _ _ _ _ _ (by decide), gI_sP, gI_sIe, if_pos rfl]
    rcases hh with e | e <;> rw [e] <;> rfl
  · rw [gI_sIe, Int.add_zero]
    unfold in32 at i15
    exact w32i _ (by omega) (by omega)
/-- the class's way through a text -/
theorem E_doTextC {h : HP} {W : Int → Int} (j : Nat) (hF : 2000 ≤ F) (L : LayC h) (r : RNw h 0 W) (i15 : in32 (W (169 + 882 * (j : Int) + 15))) (e5 : gI h 10 5 = -1) (hj : (j : Int) < W 8) (how : Int) (hh : how = 2 ∨ how = 3) (hr : W 11356 + 10 ≤ 5120) {t : Nat} {A : List Lin} (ht : ∃ q n : Nat, 126 < t ∧ gS h t = (9, 4) ∧ gP h t 0 = some q ∧ 126 < q ∧ gS h q = (100, n) ∧ n ≤ 1208 ∧ (prgC A).length ≤ n ∧ (∀ (i : Nat) (z : Int), (prgC A)[i]? = some z → aI h q i = z) ∧ gI h t 1 = A.length ∧ A.length ≤ 10 ∧ (∀ l ∈ A, okL l)) : ∃ g', X1_doText F 10 (some t) (W 1) (W 2) (sI h 11 9 (penO j (W 0) (how % 2) 1 1)) = some (if (txtL j (W 11356) how A W).1 then 1 else 0, g') ∧ DoS g' (prgC A) (txtL j (W 11356) how A W).2 j (W 11356) how (W (169 + 882 * (j : Int) + 15)) ∧ OC h g' := by
  obtain ⟨q, n, t1, t3, t4, t5, t7, t8, t9, t10, t11, t12, t13⟩ := ht
  have d := DoS.mk0 j L r i15 e5 hj how hh t1 t3 t4 t5 t7 t8 t9 t10
  obtain ⟨g', p1, p2, p3⟩ := E_textC (F := F) (j := j) (fi := W 11356) (how := how) (a0 := W (169 + 882 * (j : Int) + 15)) hF (by omega) A.length t12 A 0 F 0 W _ (Nat.zero_add _).symm (by omega) t13 (fun x z e => by rw [Nat.zero_add]; exact e) (by rw [gI_sIk _ _ _ _ _ (by decide), gI_sIe]; rfl) d (by omega)
  refine ⟨g', ?_, p2, ?_⟩
  · unfold X1_doText X1_doText_L37
    have tn : ¬ (some t : Option Nat) = none := by intro e; cases e
    have L10 : gS h 10 = (1, 8) := L.2.2.2.2.2.2.2.2.2.1
    rw [b_pP _ 10 1 8 1 _ _ (by exact L10), b_pI _ 10 1 8 3 _ _ (by exact L10), b_pI _ 10 1 8 4 _ _ (by exact L10), b_pI _ 10 1 8 2 _ _ (by exact L10), b_pI _ 10 1 8 7 _ _ (by exact L10), if_neg tn, b_gI _ t 9 4 1 _ (by exact t3)]
    rw [gI_sIn _ _ _ _ _ (by omega), gI_sIn _ _ _ _ _ (by omega), gI_sIn _ _ _ _ _ (by omega), gI_sIn _ _ _ _ _ (by omega), gI_sP, gI_sIn _ _ _ _ _ (by omega), t11]
    exact p1
  · exact ((((((OC.I h 11 9 _ (by decide) (Or.inl (by decide))).tr (OC.P _ _)).tr (OC.I _ 10 3 _ (by decide) (Or.inl (by decide)))).tr (OC.I _ 10 4 _ (by decide) (Or.inl (by decide)))).tr (OC.I _ 10 2 _ (by decide) (Or.inl (by decide)))).tr (OC.I _ 10 7 _ (by decide) (Or.inl (by decide)))).tr (OC.x p3)
/-- from the doing on -/
theorem E_fin93 {h : HP} {W : Int → Int} (L : LayC h) (j : Nat) (hj : j < 12) (m l4 flag : Int) (hl : l4 = 0 ∨ l4 = 1) (hm : gI h 9 6 = W 0) (hv : gI h (25 + j) 17 = w32 (gI h (25 + j) 17) ∨ l4 = 0) (v : Int) (ev : v = if l4 = 0 then w32 (gI h (25 + j) 17 + gI h 10 7) else gI h (25 + j) 17) : X4_finish_L93 F 9 m (some (25 + j)) l4 flag h = some ((), lvH (sI h (25 + j) 17 v) (25 + j) (if flag = 0 then 6 else if m = 0 then 4 else if l4 = 0 then 2 else 3) (W 0)) := by
  unfold X4_finish_L93 X4_finish_L116 X4_finish_L134 X4_finish_L149
  have n9 : (9 : Nat) ≠ 25 + j := by omega
  have lv := E_leave (F := F) (h := sI h (25 + j) 17 v) L j hj (if flag = 0 then 6 else if m = 0 then 4 else if l4 = 0 then 2 else 3) (W 0)
  by_cases c : l4 = 0
  · rw [if_pos c] at ev
    rw [if_pos c, cIj h j 17 _ L hj, cP9_0 h _ L, cI10 h 7 _ L, cWj h j 17 _ _ L hj, ← ev, cI9 _ 6 _ (by exact L), gI_sIn _ _ _ _ _ n9, hm, cRj _ j _ (by exact L) hj, b_xb _ _ _ _ lv]
  · rw [if_neg c] at ev
    have e1 : sI h (25 + j) 17 v = h := by rw [ev]; exact sI_id _ _ _ _ rfl
    rw [e1] at lv ⊢
    rw [if_neg c, cI9 _ 6 _ L, hm, cRj _ j _ L hj, b_xb _ _ _ _ lv]
theorem E_finT {h : HP} {W : Int → Int} (hF : 2000 ≤ F) (L : LayC h) (r : RNw h 0 W) (e5 : gI h 10 5 = -1) (j : Nat) (hj : (j : Int) < W 8) (gj : JBw W (169 + 882 * (j : Int))) (gk : ∀ k : Nat, (k : Int) < W 8 → k ≠ j → JBg W (169 + 882 * (k : Int))) (m how st : Int) (hc : m = 1 ∧ how = 3 ∧ st = 2 ∧ W (169 + 882 * (j : Int) + 11) ≠ 1 ∨ m = 0 ∧ how = 2 ∧ st = 4) (hn : W 4 ≠ (j : Int)) (hs : W (169 + 882 * (j : Int) + 8) ≤ 1) (hp : ptl W ≤ 5110) : ∃ h' W1, X4_finish F 9 j m h = some ((), h') ∧ OC h h' ∧ gI h' 10 5 = -1 ∧ RN h' 0 W1 ∧ ptl W1 ≤ ptl W ∧ ∀ g, LayM g → aI g 114 = W → ∃ g', xb (X12_goes F 113 j how g) (fun v h2 => (xrc h2 (some 113) 12 31).bind fun a => xb (X12_ends F a j v st h2) fun _ h3 => some ((), h3)) = some ((), g') ∧ Ox XM g g' ∧ aI g' 114 = W1 := by
  have g8 := r.2.1.g8
  have hj12 : j < 12 := by omega
  have g0 : 0 ≤ W 0 ∧ W 0 ≤ 480 := ⟨r.2.1.1, r.2.1.2.1⟩
  have h0 : 0 ≤ W 11356 := r.2.2.2.2.2.2.2.1.2.1
  have po := ptl_op g8 j hj hs
  have hm : m = 0 ∨ m = 1 := by rcases hc with c | c <;> omega
  have hh : how = 2 ∨ how = 3 := by rcases hc with c | c <;> omega
  have em : how % 2 = m := by rcases hc with c | c <;> omega
  have hst : 2 ≤ st ∧ st ≤ 6 := by rcases hc with c | c <;> omega
  have hst6 : st ≠ 6 := by rcases hc with c | c <;> omega
  obtain ⟨f0, t, t0, A, q, n, t1, t2, t3, t4, t5, t6, t7, t8, t9, t10, t11, t12, t13, t14⟩ := r.jb j hj
  have d9 : gI h 9 6 = W 0 ∧ gI h 9 7 = W 1 ∧ gI h 9 8 = W 2 := ⟨r.1.1, r.1.2.1, r.1.2.2.1⟩
  have hA := t13.2.1
  obtain ⟨g1, p1, p2, p3⟩ := E_doTextC (F := F) j hF L r gj.i15.1 e5 hj how hh (by omega) (t := t) (A := A) ⟨q, n, t1, t3, t4, t5, t7, t8, t9, t10, t11, hA, t12⟩
  rw [em] at p1
  have tk := E_takePen (F := F) (h := h) (j : Int) (W 0) m 1 L ⟨by omega, by omega⟩ g0 hm (Or.inr rfl)
  obtain ⟨to, tl, tu⟩ := txtL_o (j := j) (fi := W 11356) (how := how) A W t12 hj12 h0
  have L1 := p3.C L
  have rv := p2.2.1
  have w8 : (txtL j (W 11356) how A W).2 8 = W 8 := to 8 (by omega) (by omega) (by omega)
  have w4 : (txtL j (W 11356) how A W).2 4 = W 4 := to 4 (by omega) (by omega) (by omega)
  have w0 : (txtL j (W 11356) how A W).2 0 = W 0 := to 0 (by omega) (by omega) (by omega)
  have hV : ∀ i : Int, i ≠ 169 + 882 * (j : Int) + 15 → wW (txtL j (W 11356) how A W).2 (169 + 882 * (j : Int) + 6) (W (169 + 882 * (j : Int) + 15)) i = (txtL j (W 11356) how A W).2 i := fun i x => wW_n i (by omega)
  have ex : wW (txtL j (W 11356) how A W).2 (169 + 882 * (j : Int) + 6) (W (169 + 882 * (j : Int) + 15)) (169 + 882 * (j : Int) + 15) = W (169 + 882 * (j : Int) + 15) := by unfold wW; rw [if_pos (by omega)]
  have k6 : gI g1 9 6 = W 0 := by
    have x := rv.1.1
    rw [hV 0 (by omega), w0] at x
    exact x
  have k17 : gI g1 (25 + j) 17 = W (169 + 882 * (j : Int) + 15) := by
    have x := (rv.jb j (by rw [hV 8 (by omega), w8]; exact hj)).1
    unfold JBf at x
    rw [x.2.2.2.2.2.2.2.2.2.2.2.2.2.2.2.1, ex]
  have ea : w32 (gI g1 (25 + j) 17 + gI g1 10 7) = (txtL j (W 11356) how A W).2 (169 + 882 * (j : Int) + 15) := by rw [k17]; exact p2.2.2.2.1
  have i15 : in32 ((txtL j (W 11356) how A W).2 (169 + 882 * (j : Int) + 15)) := by rw [← ea]; exact w32_in _
  have e10 : (txtL j (W 11356) how A W).2 (169 + 882 * (j : Int) + 10) = W (169 + 882 * (j : Int) + 10) := to _ (by omega) (by omega) (by omega)
  have gj1 : JBw (txtL j (W 11356) how A W).2 (169 + 882 * (j : Int)) := JBw.cg (fun k a b c d e f => to _ (by omega) (by omega) (by omega)) (by rw [e10]; exact gj.i15.2.2.1) i15 gj
  have gk1 : ∀ k : Nat, (k : Int) < (txtL j (W 11356) how A W).2 8 → k ≠ j → JBg (txtL j (W 11356) how A W).2 (169 + 882 * (k : Int)) := fun k hk e => by
    rw [w8] at hk
    exact (gk k hk e).cg (fun i a c => to i (by omega) (by omega) (by omega))
  have fin := E_fin93 (F := F) (h := g1) (W := W) L1 j hj12 m 0 (if (txtL j (W 11356) how A W).1 = true then 1 else 0) (Or.inl rfl) k6 (Or.inr rfl) ((txtL j (W 11356) how A W).2 (169 + 882 * (j : Int) + 15)) (by rw [if_pos rfl]; exact ea.symm)
  have es : (if (if (txtL j (W 11356) how A W).1 = true then (1 : Int) else 0) = 0 then (6 : Int) else if m = 0 then 4 else if (0 : Int) = 0 then 2 else 3) = if (txtL j (W 11356) how A W).1 = true then st else 6 := by
    rcases hc with c | c
    · rw [c.1, c.2.2.1]; cases (txtL j (W 11356) how A W).1 <;> rfl
    · rw [c.1, c.2.2]; cases (txtL j (W 11356) how A W).1 <;> rfl
  rw [es] at fin
  have hs2 : 2 ≤ (if (txtL j (W 11356) how A W).1 = true then st else 6) ∧ (if (txtL j (W 11356) how A W).1 = true then st else 6) ≤ 6 := by split <;> omega
  have e6 : (if (if (txtL j (W 11356) how A W).1 = true then st else 6) = 6 then (1 : Int) else 0) = if (txtL j (W 11356) how A W).1 = true then 0 else 1 := by
    cases (txtL j (W 11356) how A W).1 with
    | true => rw [if_pos rfl, if_neg hst6, if_pos rfl]
    | false => rfl
  have rr := E_finR (h := g1) (W := (txtL j (W 11356) how A W).2) rv j (by rw [w8]; exact hj) hV gj1 gk1 (if (txtL j (W 11356) how A W).1 = true then st else 6) hs2 (by rw [w4]; exact hn)
  rw [e6, w0] at rr
  refine ⟨_, _, ?_, ?_, ?_, rr, ?_, ?_⟩
  · unfold X4_finish X4_finish_L25 X4_finish_L26 X4_finish_L48
    have at1 := E_at (F := F) (h := h) (j : Int) L (by omega)
    rw [Int.toNat_natCast] at at1
    have way : gI h (25 + j) 10 = W (169 + 882 * (j : Int) + 11) := by unfold JBf at f0; exact f0.2.2.2.2.2.2.2.2.2.2.2.1
    have rest : (xgP h (some 9) 4 12 1).bind (fun v1 => (xgI h (some 9) 4 12 6).bind fun v2 => X4_finish_L48 F 9 m (some (25 + j)) 0 (if (0 : Int) = 0 then 1 else 0) m v2 j v1 h) = some ((), lvH (sI g1 (25 + j) 17 ((txtL j (W 11356) how A W).2 (169 + 882 * (j : Int) + 15))) (25 + j) (if (txtL j (W 11356) how A W).1 = true then st else 6) (W 0)) := by
      rw [cP9_1 h _ L, cI9 h 6 _ L, d9.1, if_pos rfl]
      unfold X4_finish_L48
      rw [cR11 h _ L, b_xb _ _ _ _ tk, if_pos rfl, cP9_0 _ _ (by exact L), cPj _ j 5 _ (by exact L) hj12, cI9 _ 7 _ (by exact L), cI9 _ 8 _ (by exact L), gI_sIn _ _ _ _ _ (by decide), d9.2.1, d9.2.2, cR10 _ _ (by exact L)]
      rw [show gP (sI h 11 9 (penO j (W 0) m 1 1)) (25 + j) 5 = some t from t0, b_xb _ _ _ _ p1]
      exact fin
    rw [cP9_2 h _ L, cR19 h _ L, b_xb _ _ _ _ at1]
    rcases hc with c | c
    · rw [if_neg (by omega), cIj h j 10 _ L hj12, way, if_neg c.2.2.2]
      exact rest
    · rw [if_pos c.1]
      exact rest
  · exact (p3.tr (OC.I _ _ _ _ (by omega) (Or.inr (by decide)))).tr (lvH_O j hj12 _ _)
  · rw [(lvH_g _ _ _ _).2.2.2.2.2.2 10 (by omega), gI_sIn _ _ _ _ _ (by omega)]
    exact p2.1.2.2.1
  · exact ptl_end g8 j hj hs w8 (by omega) (fun k hk => to _ (by omega) (by omega) (by omega)) _ _ hs2.1
  · intro g LM rW
    obtain ⟨g2, a1, a2, a3⟩ := E_goesT (F := F) (how := how) hF hj12 (by omega) t12 LM rW r.wt t13 h0 (by omega)
    obtain ⟨g3, b1, b2, b3⟩ := E_endsM (F := F) (a2.M LM) a3 j hj12 (if (txtL j (W 11356) how A W).1 = true then 1 else 0) st
    refine ⟨g3, ?_, a2.tr b2, ?_⟩
    · rw [b_xb _ _ _ _ a1, mR113 g2 _ (a2.M LM), b_xb _ _ _ _ b1]
    · rw [b3]
      cases (txtL j (W 11356) how A W).1 <;> rfl
end FT
