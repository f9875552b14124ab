/-! a job that ends: done shortly -/
section FS
variable {F : Nat}
theorem E_writesW {h : HP} {W : Int → Int} (j : Nat) (L : LayC h) (hj : j < 12) {t : Nat} (t0 : gP h (25 + j) 5 = some t) (t3 : gS h t = (9, 4)) (t15 : gJ h t 3 = wrM W j) : X2_writes F (25 + j) h = some (wrM W j, h) := by
  unfold X2_writes
  rw [cPj h j 5 _ L hj, t0, if_neg (by intro e; cases e), cPj h j 5 _ L hj, t0, b_gJ h t 9 4 3 _ t3, t15]
theorem E_finS {h : HP} {W : Int → Int} (hF : 2000 ≤ F) (L : LayC h) (r : RNw h 0 W) (e5 : gI h 10 5 = -1) (j : Nat) (hj : (j : Int) < W 8) (gj : JBw W (169 + 882 * (j : Int))) (gk : ∀ k : Nat, (k : Int) < W 8 → k ≠ j → JBg W (169 + 882 * (k : Int))) (hc : W (169 + 882 * (j : Int) + 11) = 1) (hn : W 4 ≠ (j : Int)) (hs : W (169 + 882 * (j : Int) + 8) ≤ 1) (hp : ptl W ≤ 5110) : ∃ h' W1, X4_finish F 9 j 1 h = some ((), h') ∧ OC h h' ∧ gI h' 10 5 = -1 ∧ RN h' 0 W1 ∧ ptl W1 ≤ ptl W ∧ ∀ g, LayM g → aI g 114 = W → ∃ g', xb (X12_goesShort F 113 j g) (fun v h2 => (xrc h2 (some 113) 12 31).bind fun a => xb (X12_ends F a j v 3 h2) fun _ h3 => some ((), h3)) = some ((), g') ∧ Ox XM g g' ∧ aI g' 114 = W1 := by
  have g8 := r.2.1.g8
  have hj12 : j < 12 := by omega
  have g0 : 0 ≤ W 0 ∧ W 0 ≤ 480 := ⟨r.2.1.1, r.2.1.2.1⟩
  have h0 : 0 ≤ W 11356 := r.2.2.2.2.2.2.2.1.2.1
  have po := ptl_op g8 j hj hs
  obtain ⟨f0, t, t0, A, q, n, t1, t2, t3, t4, t5, t6, t7, t8, t9, t10, t11, t12, t13, t14, t15, t16, t17, t18⟩ := r.jb j hj
  have d9 : gI h 9 6 = W 0 := r.1.1
  have hA := t13.2.1
  have way : gI h (25 + j) 10 = W (169 + 882 * (j : Int) + 11) := by unfold JBf at f0; exact f0.2.2.2.2.2.2.2.2.2.2.2.1
  have mor : gI h (25 + j) 8 = W (169 + 882 * (j : Int) + 7) := by unfold JBf at f0; exact f0.2.2.2.2.2.2.2.1
  have mo : -9999 ≤ W (169 + 882 * (j : Int) + 7) ∧ W (169 + 882 * (j : Int) + 7) ≤ 9999 := gj.i15.2.2.2
  have ez : gJ h t 3 = wrM W j := t15
  rw [ez] at t18
  have cn : cN (tb (wrM W j)) 64 0 ≤ A.length := cN_txt t18 64 0
  have tk := E_takePen (F := F) (h := h) (j : Int) (W 0) 1 0 L ⟨by omega, by omega⟩ g0 (Or.inr rfl) (Or.inl rfl)
  have q1 : Qs h (sI h 11 9 (penO j (W 0) 1 0 1)) := Qs.sI rfl (Qs.rf h)
  have r1 := r.cg q1.N (fun _ _ _ => rfl)
  have d : DoN (sI h 11 9 (penO j (W 0) 1 0 1)) W j (W 11356) 1 := ⟨L, r1, by rw [gI_sIe, if_pos rfl]; rfl, Int.le_refl _, hj⟩
  have wr := E_writesW (F := F) (h := sI h 11 9 (penO j (W 0) 1 0 1)) (W := W) j L hj12 t0 t3 t15
  obtain ⟨g1, p1, p2, p4, p3⟩ := E_shoC (F := F) (j := j) (fi := W 11356) (z := wrM W j) mo 64 0 F W _ rfl (by omega) d (by omega)
  change X1_doShortly_L3 F F 10 (wrM W j) (W (169 + 882 * (j : Int) + 7)) 0 _ = _ at p1
  obtain ⟨to, tl, tu⟩ := shL_o (j := j) (fi := W 11356) (z := wrM W j) (more := W (169 + 882 * (j : Int) + 7)) 64 0 W rfl h0
  have L1 := p2.1
  have rv := p2.2.1
  have w8 : (shL j (W 11356) (wrM W j) (W (169 + 882 * (j : Int) + 7)) 64 0 W).2 8 = W 8 := to 8 (by omega) (by omega)
  have w4 : (shL j (W 11356) (wrM W j) (W (169 + 882 * (j : Int) + 7)) 64 0 W).2 4 = W 4 := to 4 (by omega) (by omega)
  have w0 : (shL j (W 11356) (wrM W j) (W (169 + 882 * (j : Int) + 7)) 64 0 W).2 0 = W 0 := to 0 (by omega) (by omega)
  have k6 : gI g1 9 6 = W 0 := rv.1.1.trans w0
  have k17 : gI g1 (25 + j) 17 = (shL j (W 11356) (wrM W j) (W (169 + 882 * (j : Int) + 7)) 64 0 W).2 (169 + 882 * (j : Int) + 15) := by
    have x := (rv.jb j (by rw [w8]; exact hj)).1
    unfold JBf at x
    exact x.2.2.2.2.2.2.2.2.2.2.2.2.2.2.2.1
  have e15 : (shL j (W 11356) (wrM W j) (W (169 + 882 * (j : Int) + 7)) 64 0 W).2 (169 + 882 * (j : Int) + 15) = W (169 + 882 * (j : Int) + 15) := to _ (by omega) (by omega)
  have e10 : (shL j (W 11356) (wrM W j) (W (169 + 882 * (j : Int) + 7)) 64 0 W).2 (169 + 882 * (j : Int) + 10) = W (169 + 882 * (j : Int) + 10) := to _ (by omega) (by omega)
  have i15 : in32 ((shL j (W 11356) (wrM W j) (W (169 + 882 * (j : Int) + 7)) 64 0 W).2 (169 + 882 * (j : Int) + 15)) := by rw [e15]; exact gj.i15.1
  have gj1 : JBw (shL j (W 11356) (wrM W j) (W (169 + 882 * (j : Int) + 7)) 64 0 W).2 (169 + 882 * (j : Int)) := JBw.cg (fun k a b c d e f => to _ (by omega) (by omega)) (by rw [e10]; exact gj.i15.2.2.1) i15 gj
  have gk1 : ∀ k : Nat, (k : Int) < (shL j (W 11356) (wrM W j) (W (169 + 882 * (j : Int) + 7)) 64 0 W).2 8 → k ≠ j → JBg (shL j (W 11356) (wrM W j) (W (169 + 882 * (j : Int) + 7)) 64 0 W).2 (169 + 882 * (k : Int)) := fun k hk e => by
    rw [w8] at hk
    exact (gk k hk e).cg (fun i a c => to i (by omega) (by omega))
  have fin := E_fin93 (F := F) (h := g1) (W := W) L1 j hj12 1 1 (if (shL j (W 11356) (wrM W j) (W (169 + 882 * (j : Int) + 7)) 64 0 W).1 = true then 1 else 0) (Or.inr rfl) k6 (Or.inl (by rw [k17]; unfold in32 at i15; exact (w32i _ (by omega) (by omega)).symm)) ((shL j (W 11356) (wrM W j) (W (169 + 882 * (j : Int) + 7)) 64 0 W).2 (169 + 882 * (j : Int) + 15)) (by rw [if_neg (by decide)]; exact k17.symm)
  have es : (if (if (shL j (W 11356) (wrM W j) (W (169 + 882 * (j : Int) + 7)) 64 0 W).1 = true then (1 : Int) else 0) = 0 then (6 : Int) else if (1 : Int) = 0 then 4 else if (1 : Int) = 0 then 2 else 3) = if (shL j (W 11356) (wrM W j) (W (169 + 882 * (j : Int) + 7)) 64 0 W).1 = true then 3 else 6 := by
    cases (shL j (W 11356) (wrM W j) (W (169 + 882 * (j : Int) + 7)) 64 0 W).1 <;> rfl
  rw [es] at fin
  have hs2 : 2 ≤ (if (shL j (W 11356) (wrM W j) (W (169 + 882 * (j : Int) + 7)) 64 0 W).1 = true then (3 : Int) else 6) ∧ (if (shL j (W 11356) (wrM W j) (W (169 + 882 * (j : Int) + 7)) 64 0 W).1 = true then (3 : Int) else 6) ≤ 6 := by split <;> decide
  have e6 : (if (if (shL j (W 11356) (wrM W j) (W (169 + 882 * (j : Int) + 7)) 64 0 W).1 = true then (3 : Int) else 6) = 6 then (1 : Int) else 0) = if (shL j (W 11356) (wrM W j) (W (169 + 882 * (j : Int) + 7)) 64 0 W).1 = true then 0 else 1 := by
    cases (shL j (W 11356) (wrM W j) (W (169 + 882 * (j : Int) + 7)) 64 0 W).1 <;> rfl
  have rr := E_finR (h := g1) (W := (shL j (W 11356) (wrM W j) (W (169 + 882 * (j : Int) + 7)) 64 0 W).2) rv j (by rw [w8]; exact hj) (fun _ _ => rfl) gj1 gk1 (if (shL j (W 11356) (wrM W j) (W (169 + 882 * (j : Int) + 7)) 64 0 W).1 = true then 3 else 6) hs2 (by rw [w4]; exact hn)
  rw [e6, w0] at rr
  refine ⟨_, _, ?_, ?_, ?_, rr, ?_, ?_⟩
  · unfold X4_finish X4_finish_L26
    have at1 := E_at (F := F) (h := h) (j : Int) L (by omega)
    rw [Int.toNat_natCast] at at1
    rw [cP9_2 h _ L, cR19 h _ L, b_xb _ _ _ _ at1, if_neg (by decide), cIj h j 10 _ L hj12, way, if_pos hc, cP9_1 h _ L, cI9 h 6 _ L, d9, if_neg (by decide)]
    unfold X4_finish_L48 X1_doShortly
    rw [cR11 h _ L, b_xb _ _ _ _ tk, if_neg (by decide), cP9_0 _ _ (by exact L), cRj _ j _ (by exact L) hj12, b_xb _ _ _ _ wr, cIj _ j 8 _ (by exact L) hj12, gI_sIn _ _ _ _ _ (by omega), mor, cR10 _ _ (by exact L), b_xb _ _ _ _ p1]
    exact fin
  · exact (((OC.I h 11 9 _ (by decide) (Or.inl (by decide))).tr (OC.x p3)).tr (OC.I _ _ _ _ (by omega) (Or.inr (by decide)))).tr (lvH_O j hj12 _ _)
  · rw [(lvH_g _ _ _ _).2.2.2.2.2.2 10 (by omega), gI_sIn _ _ _ _ _ (by omega), p4, gI_sIn _ _ _ _ _ (by decide)]
    exact e5
  · exact ptl_end g8 j hj hs w8 (by omega) (fun k hk => to _ (by omega) (by omega)) _ _ hs2.1
  · intro g LM rW
    obtain ⟨g2, a1, a2, a3⟩ := E_shT (F := F) hF hj12 LM rW rfl rfl mo (fun i i0 i1 => (r.2.2.1 i i0 i1).2.2.2) h0 (by omega)
    obtain ⟨g3, b1, b2, b3⟩ := E_endsM (F := F) (a2.M LM) a3 j hj12 (if (shL j (W 11356) (wrM W j) (W (169 + 882 * (j : Int) + 7)) 64 0 W).1 = true then 1 else 0) 3
    refine ⟨g3, ?_, a2.tr b2, ?_⟩
    · rw [b_xb _ _ _ _ a1, mR113 g2 _ (a2.M LM), b_xb _ _ _ _ b1]
    · rw [b3]
      cases (shL j (W 11356) (wrM W j) (W (169 + 882 * (j : Int) + 7)) 64 0 W).1 <;> rfl
end FS
