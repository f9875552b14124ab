/-! the call job -/
section JJB
variable {F : Nat} {h : HP} {n : Int} {a b c d e : Int}
theorem BM_g3 {cf : Nat → Int} {R : Nat} {g : HP} (Lg : LayM g) (hR4 : R ≤ 400) (q1 : gI g 113 5 = (R : Int)) (q2 : aI g 116 = aI h 116) (t5 : ∀ i : Nat, i < R → aI h 116 i % 256 = cf i ∧ -128 ≤ aI h 116 i ∧ aI h 116 i < 128) : BM cf R (g3H g) := by
  refine ⟨g3_M Lg, hR4, ?_, fun i hi => ?_⟩
  · unfold g3H
    rw [gI_sIk _ _ _ _ _ (by decide), gI_sIe]; exact q1
  · unfold g3H
    rw [aI_sIn _ _ _ _ _ (by decide), aI_sIn _ _ _ _ _ (by decide), aI_sIn _ _ _ _ _ (by decide), q2]
    exact t5 i hi
theorem DFr.g3 (g : HP) (w : Int) : DFr g (sI (g3H g) 113 0 w) := by
  unfold g3H
  refine ⟨fun x k q1 q2 => ?_, fun _ _ _ => rfl, rfl, rfl, rfl, Nat.le_add_right _ _, Nat.le_add_right _ _, ?_, ?_⟩
  · rw [gI_sIn _ _ _ _ _ q1, gI_sIn _ _ _ _ _ q1, gI_sIn _ _ _ _ _ q1, gI_sIn _ _ _ _ _ q1]
  · rw [gI_sIk _ _ _ _ _ (by decide), gI_sIk _ _ _ _ _ (by decide), gI_sIk _ _ _ _ _ (by decide), gI_sIk _ _ _ _ _ (by decide)]
  · rw [gI_sIk _ _ _ _ _ (by decide), gI_sIe]
theorem g3_Ox (g : HP) : Ox XMp g (g3H g) := ((Ox.I g 113 0 0 rfl).tr (Ox.I _ 113 7 _ rfl)).tr (Ox.I _ 113 5 0 rfl)
theorem g3_3 (g : HP) : gI (g3H g) 113 3 = gI g 113 3 := by
  unfold g3H
  rw [gI_sIk _ _ _ _ _ (by decide), gI_sIk _ _ _ _ _ (by decide), gI_sIk _ _ _ _ _ (by decide)]
theorem g3_5 (g : HP) : gI (g3H g) 113 5 = 0 := gI_sIe _ _ _ _
theorem g3_0 (g : HP) : gI (g3H g) 113 0 = 0 := by
  unfold g3H
  rw [gI_sIk _ _ _ _ _ (by decide), gI_sIk _ _ _ _ _ (by decide), gI_sIe]
theorem g3_n (g : HP) (x : Nat) (q : x ≠ 113) : gI (g3H g) x = gI g x := by
  unfold g3H
  rw [gI_sIn _ _ _ _ _ q, gI_sIn _ _ _ _ _ q, gI_sIn _ _ _ _ _ q]
theorem XMp_n {x : Nat} (q1 : x ≠ 113) (q2 : x ≠ 118) : XMp x = false := decide_eq_false (fun q => q.elim q1 q2)
theorem XA_n {x : Nat} (q1 : x ≠ 19) (q2 : x ≠ 21) (q3 : x ≠ 22) : XA x = false := decide_eq_false (by omega)
/-- the new job's cells, both sides -/
theorem JB_new {h2 : HP} {p t : Nat} {g : HP} {W' W D : Int → Int} {o m r1 r2 w1 w2 j1 : Int} (jI : gI h2 p = gI (suH g p a b c d e t) p) (fm : ∀ x : Int, 0 ≤ x → W' x = nwW W D o a b c d e m r1 r2 w1 w2 j1 x) (ho : 0 ≤ o) (ok : okA a b c d) (he : e = 0 ∨ e = 1) : JBf h2 p W' o ∧ JBg W' o := by
  obtain ⟨c0, c1, c2, c3⟩ := ok
  have v0 : W' (o + 0) = a := by rw [fm _ (by omega), nw_0_]
  have v1 : W' (o + 1) = b := by rw [fm _ (by omega), nw_1_]
  have v2 : W' (o + 2) = c := by rw [fm _ (by omega), nw_2_]
  have v3 : W' (o + 3) = d := by rw [fm _ (by omega), nw_3_]
  have v4 : W' (o + 4) = e := by rw [fm _ (by omega), nw_4_]
  have v5 : W' (o + 5) = 0 := by rw [fm _ (by omega), nw_0 5 (by decide)]
  have v6 : W' (o + 6) = 0 := by rw [fm _ (by omega), nw_0 6 (by decide)]
  have v7 : W' (o + 7) = 0 := by rw [fm _ (by omega), nw_0 7 (by decide)]
  have v8 : W' (o + 8) = 0 := by rw [fm _ (by omega), nw_0 8 (by decide)]
  have v9 : W' (o + 9) = 0 := by rw [fm _ (by omega), nw_0 9 (by decide)]
  have v10 : W' (o + 10) = 0 := by rw [fm _ (by omega), nw_0 10 (by decide)]
  have v11 : W' (o + 11) = 0 := by rw [fm _ (by omega), nw_0 11 (by decide)]
  have v12 : W' (o + 12) = -1 := by rw [fm _ (by omega), nw_12_]
  have v13 : W' (o + 13) = 0 := by rw [fm _ (by omega), nw_0 13 (by decide)]
  have v14 : W' (o + 14) = 0 := by rw [fm _ (by omega), nw_0 14 (by decide)]
  have v15 : W' (o + 15) = 0 := by rw [fm _ (by omega), nw_0 15 (by decide)]
  have v21 : W' (o + 21) = 0 := by rw [fm _ (by omega), nw_0 21 (by decide)]
  refine ⟨⟨by rw [jI, suH_0, v0], by rw [jI, suH_1, v1], by rw [jI, suH_2, v2], by rw [jI, suH_3, v3], by rw [jI, suH_4, v4], by rw [jI, suH_6, v5], by rw [jI, suH_7, v6], by rw [jI, suH_8, v7], by rw [jI, suH_9, v8], by rw [jI, suH_12, v9], by rw [jI, suH_13, v10], by rw [jI, suH_10, v11], by rw [jI, suH_14, v12], by rw [jI, suH_15, v13], by rw [jI, suH_16, v14], by rw [jI, suH_17, v15], by rw [jI, suH_11, v21]⟩, ?_⟩
  unfold JBg in32
  rw [v0, v1, v2, v3, v4, v5, v6, v7, v8, v9, v10, v11, v12, v13, v14, v15, v21]
  clear v0 v1 v2 v3 v4 v5 v6 v7 v8 v9 v10 v11 v12 v13 v14 v15 v21 fm jI
  exact ⟨by omega, by omega, by omega, by omega, by omega, by omega, by omega, by omega, by omega, by omega, by omega, by omega, by omega, by omega, by omega, by omega, by omega, by omega, by omega, by omega, by omega, by omega, by omega, by omega, by omega, by omega, by omega, by omega, by omega, by omega, by omega, by omega, by omega⟩
theorem J_ok (hF : 60000 ≤ F) (r : RA n h) (ok : okA a b c d) (he : e = 0 ∨ e = 1) {R j k : Nat} {A : List Lin} (hc : ∀ i : Nat, i < R → 0 ≤ aI h 3 (i : Int)) (ep : pTx (fun i => aI h 3 (i : Int)) R = .inr (A, k)) (hR : gI h 113 5 = (R : Int)) (e2 : gI h 2 1 = (R : Int)) (bm : ∀ g : HP, LayM g → gI g 113 5 = (R : Int) → aI g 116 = aI h 116 → BM (fun i => aI h 3 (i : Int)) R (g3H g)) {h' H : HP}
    (x1 : X8_readText F 2 (R : Int) (sI h 2 1 0) = some (some (gn h' + 1), H)) (x2 : OT (sI h 2 1 0) h') (x3 : NewT h' H (prgC A) (A.length : Int) (gJ h' 2 14) (gJ h' 2 15)) (x4 : ∀ i, i < 64 → tb (gJ h' 2 14) i = rdF (fun _ => false) (fun _ => false) A i) (x5 : ∀ i, i < 64 → tb (gJ h' 2 15) i = wrF (fun _ => false) A i) (x6 : (prgC A).length ≤ 1200) (x8 : ∀ l ∈ A, okL l) (x9 : A.length ≤ 10) (x10 : in64 (gJ h' 2 14)) (x11 : in64 (gJ h' 2 15)) (Lg : LayC H) (e6 : gI H 2 16 = -1) (ej : aI h 114 8 = (j : Int)) (hj : j < 12) (e5 : gI H 19 5 = (j : Int)) : ∃ k h1 v h2, XL_job F (some 1) a b c d e (some 126) h = some (k, h1) ∧ X12_job F 113 a b c d e h1 = some (v, h2) ∧ OKJ n k v h2 := by
  have L := r.1
  have r4 : 126 ≤ gn h := r.2.2.2.1
  have cf := CFr.good x2 x3 x6 r4 (-1)
  have egn : gn h' = gn h := x2.enn
  obtain ⟨y1, y2, y3, y4, y5, y6, y7, y8, y9, y10, y11, y12, y13, y14, y15⟩ := x3
  obtain ⟨f1, f2, f3, f4, ⟨f5a, f5b⟩, f6, f7, f8⟩ := id cf
  have g19 : gI (sI H 1 1 (-1)) 19 5 = (j : Int) := by rw [gI_sIn _ _ _ _ _ (by decide)]; exact e5
  have Lg1 : LayC (sI H 1 1 (-1)) := Lg
  have gH : ∀ x, x ≠ 1 → gI (sI H 1 1 (-1)) x = gI H x := fun x q => gI_sIn _ _ _ _ _ q
  have gJH : gJ (sI H 1 1 (-1)) = gJ H := rfl
  have gPH : gP (sI H 1 1 (-1)) = gP H := rfl
  have gSH : gS (sI H 1 1 (-1)) = gS H := rfl
  have gnH : gn (sI H 1 1 (-1)) = gn H := rfl
  have g11 : gI (sI H 1 1 (-1)) 1 1 = -1 := gI_sIe _ _ _ _
  have run : ∀ k : HP, X3_admit F 19 (suH (sI H 1 1 (-1)) (25 + j) a b c d e (gn h' + 1)) = some ((j : Int), k) → gS k 126 = (101, 1) → XL_job F (some 1) a b c d e (some 126) h = some (0, sJ k 126 0 (j : Int)) := fun k => C_ok (k := k) L ok he hj e2 x1 Lg e6 e5
  revert cf f1 f2 f3 f4 f5a f5b f6 f7 f8 g19 Lg1 gH gJH gPH gSH gnH g11 run
  generalize sI H 1 1 (-1) = g
  intro cf f1 f2 f3 f4 f5a f5b f6 f7 f8 g19 Lg1 gH gJH gPH gSH gnH g11 run
  have Ls := suH_C (a := a) (b := b) (c := c) (d := d) (e := e) (t := gn h' + 1) Lg1 j hj
  -- the array that the class's view spells
  have rn := r.N
  have o8 : (8 : Int) < 169 + 882 * (j : Int) := by omega
  have rds : RDs (suH g (25 + j) a b c d e (gn h' + 1)) (nwW (aI h 114) (fun _ => 0) (169 + 882 * (j : Int)) a b c d e (A.length : Int) (w32 (gJ h' 2 14)) (w32 (yush (gJ h' 2 14) 32)) (w32 (gJ h' 2 15)) (w32 (yush (gJ h' 2 15) 32)) ((j + 1 : Nat) : Int)) := by
    intro i hi
    rw [nw_8 o8] at hi
    by_cases q : i = j
    · subst q
      refine ⟨gn h' + 1, suH_p _, XA_n (by omega) (by omega) (by omega), ?_, ?_, ?_⟩
      · rw [suH_S, gSH]; exact y9
      · rw [suH_J, gJH, y14]
        unfold rdM
        rw [nw_17_, nw_18_]
        exact bits_eq x10 (fun _ _ => rfl)
      · rw [suH_J, gJH, y15]
        unfold wrM
        rw [nw_19_, nw_20_]
        exact bits_eq x11 (fun _ _ => rfl)
    · obtain ⟨p1, p2, t, p3, A', z, n', p4, p5, p6, p7, p8, p9, p10, p11, p12, p13, p14, p15, p16, p17, p18, p19⟩ := rn.2.2.2.2.2.2.2.2.1 i (by omega)
      refine ⟨t, ?_, XA_n (by omega) (by omega) (by omega), ?_, ?_, ?_⟩
      · rw [suH_P _ _ _ (by omega), f3 _ (by omega)]; exact p3
      · rw [suH_S, f4 _ p5]; exact p6
      · rw [suH_J, f2 _ p5 (by omega) (by omega), p17]
        unfold rdM
        rw [nw_out _ (by omega) (by omega), nw_out _ (by omega) (by omega)]
      · rw [suH_J, f2 _ p5 (by omega) (by omega), p18]
        unfold wrM
        rw [nw_out _ (by omega) (by omega), nw_out _ (by omega) (by omega)]
  have s19 : gI (suH g (25 + j) a b c d e (gn h' + 1)) 19 5 = (j : Int) := by rw [suH_n _ _ (by omega)]; exact g19
  obtain ⟨ha, d1, d2, d3, d4⟩ := D_admit (F := F) (by omega) (by rw [nw_8 o8]; omega) Ls (by rw [s19, nw_8 o8]; omega) rds (by rw [s19]; omega)
  rw [s19] at d1
  rw [nw_8 o8] at d3
  obtain ⟨k1, k2, k3⟩ := suH_k (h := g) (a := a) (b := b) (c := c) (d := d) (e := e) (t := gn h' + 1) (25 + j)
  have aI_ : ∀ x, x ≠ 19 → x ≠ 21 → x ≠ 22 → x ≠ 25 + j → gI ha x = gI g x := fun x q1 q2 q3 q4 => by rw [(d2.1 x (XA_n q1 q2 q3)).1, suH_n _ _ q4]
  have aJ_ : ∀ x, x ≠ 19 → x ≠ 21 → x ≠ 22 → gJ ha x = gJ g x := fun x q1 q2 q3 => by rw [(d2.1 x (XA_n q1 q2 q3)).2, suH_J]
  have aP_ : ∀ x k, ¬ (x = 25 + j ∧ k = 5) → gP ha x k = gP g x k := fun x k q => by rw [d2.2.1, suH_P _ _ _ q]
  have aS_ : gS ha = gS g := by rw [d2.2.2.1, suH_S]
  have an_ : gn ha = gn g := by rw [d2.2.2.2.1]; exact k1
  have ac_ : gc ha = gc g := by rw [d2.2.2.2.2.1]; exact k2
  have as_ : gs ha = gs g := by rw [d2.2.2.2.2.2]; exact k3
  have aJI : gI ha (25 + j) = gI (suH g (25 + j) a b c d e (gn h' + 1)) (25 + j) := (d2.1 (25 + j) (XA_n (by omega) (by omega) (by omega))).1
  have aPj : gP ha (25 + j) 5 = some (gn h' + 1) := by rw [d2.2.1]; exact suH_p _
  have fS_ : ∀ x, x ≤ gn h → gS ha x = gS h x := fun x q => by rw [aS_]; exact f4 x q
  have fP_ : ∀ x, x ≤ gn h → x ≠ 25 + j → gP ha x = gP h x := fun x q1 q2 => by
    rw [← f3 x q1]
    funext k
    exact aP_ x k (fun q => q2 q.1)
  have LCa : LayC ha := d2.C Ls
  have LKa : LayK ha := r.2.1.le (fun x q => fS_ x (by omega)) (fun x q1 q2 => fP_ x (by omega) (by omega))
  have LMa : LayM ha := r.2.2.1.le (fun x q => fS_ x (by omega)) (fun x q1 q2 => fP_ x (by omega) (by omega))
  have s6 : gS ha 126 = (101, 1) := (fS_ 126 (by omega)).trans r.2.2.2.2.2.1
  have run1 := run ha d1 s6
  clear run d1
  -- the reference
  have hI : ∀ x, x ≤ gn h → x ≠ 1 → x ≠ 2 → ¬ (4 ≤ x ∧ x ≤ 8) → x ≠ 19 → x ≠ 21 → x ≠ 22 → x ≠ 25 + j → gI ha x = gI h x := fun x q0 q1 q2 q3 q4 q5 q6 q7 => by
    rw [aI_ x q4 q5 q6 q7]
    funext k
    exact f1 x k q0 q2 q3 (fun q => q1 q.1)
  have m := M_text (F := F) (by omega) (bm (sJ ha 126 0 (j : Int)) LMa (by
      show gI ha 113 5 = _
      rw [hI 113 (by omega) (by decide) (by decide) (by decide) (by decide) (by decide) (by decide) (by omega)]; exact hR) (by
      funext i
      show gI ha 116 _ = gI h 116 _
      rw [hI 116 (by omega) (by decide) (by decide) (by decide) (by decide) (by decide) (by decide) (by omega)])) hc
  rw [ep] at m
  obtain ⟨g2, m1, m2, m3, m4, m5, m6, m7⟩ := m
  have w114 : aI g2 114 = aI h 114 := by
    funext i
    show gI g2 114 _ = gI h 114 _
    rw [(m6.1.1 114 rfl).1, g3_n _ _ (by decide)]
    show gI ha 114 _ = _
    rw [hI 114 (by omega) (by decide) (by decide) (by decide) (by decide) (by decide) (by decide) (by omega)]
  obtain ⟨h7, z1, z2, z3⟩ := M_ok (F := F) (e := e) (h := sJ ha 126 0 (j : Int)) LMa (by omega) ok m1 m2 (by rw [w114]; exact ej) hj
  have ee : (if e = 0 then 0 else 1 : Int) = e := by
    rcases he with q | q
    · rw [q]; rfl
    · rw [q]; rfl
  rw [ee] at z1
  have oL := z2.tr (lyd_o (h := h7) (a := a) (b := b) (c := c) (d := d) (e := e) (169 + 882 * (j : Int)) (A.length : Int) (gJ g2 113 15) (gJ g2 113 14))
  have fm : ∀ x : Int, 0 ≤ x → aI (lydH h7 (169 + 882 * (j : Int)) a b c d e (A.length : Int) (gJ g2 113 15) (gJ g2 113 14)) 114 x = nwW (aI h 114) (aI g2 118) (169 + 882 * (j : Int)) a b c d e (A.length : Int) (w32 (gJ g2 113 15)) (w32 (yush (gJ g2 113 15) 32)) (w32 (gJ g2 113 14)) (w32 (yush (gJ g2 113 14) 32)) ((j + 1 : Nat) : Int) x := fun x hx => by
    rw [lyd_at _ _ _ _ (by omega) x hx, z3 x hx, w114]
    rfl
  refine ⟨0, sJ ha 126 0 (j : Int), (j : Int), _, run1, z1, ?_⟩
  revert oL fm
  generalize lydH h7 (169 + 882 * (j : Int)) a b c d e (A.length : Int) (gJ g2 113 15) (gJ g2 113 14) = h2
  intro oL fm
  clear z1 z2 z3 run1 ee
  obtain ⟨q1, q2, q3, q4, q5, q6, q7⟩ := oL
  have u113 : ∀ k, k ≠ 10 → gI h2 113 k = gI g2 113 k := fun k q => by rw [q1 113 (by decide), gI_sAn _ _ _ _ _ (by decide), gI_sIk _ _ _ _ _ q]
  have u10 : gI h2 113 10 = -1 := by rw [q1 113 (by decide), gI_sAn _ _ _ _ _ (by decide), gI_sIe]
  have bI : ∀ x, x ≠ 113 → x ≠ 114 → x ≠ 118 → gI h2 x = gI ha x := fun x p1 p2 p3 => by
    rw [q1 x p2, gI_sAn _ _ _ _ _ p2, gI_sIn _ _ _ _ _ p1, (m6.1.1 x (XMp_n p1 p3)).1, g3_n _ _ p1]
    rfl
  have bJ : ∀ x, x ≠ 113 → x ≠ 118 → x ≠ 126 → gJ h2 x = gJ ha x := fun x p1 p2 p3 => by
    rw [q2]
    show gJ g2 x = _
    rw [(m6.1.1 x (XMp_n p1 p2)).2]
    exact gJ_sJn _ _ _ _ _ p3
  have bP : gP h2 = gP ha := by rw [q3]; exact m6.1.2.1
  have bS : gS h2 = gS ha := by rw [q4]; exact m6.1.2.2.1
  have bn : gn h2 = gn ha := by rw [q5]; exact m6.1.2.2.2.1
  have bc : gc h2 = gc ha := by rw [q6]; exact m6.1.2.2.2.2.1
  have bs : gs h2 = gs ha := by rw [q7]; exact m6.1.2.2.2.2.2
  have n3 : gI g2 113 3 = gI h 113 3 := by
    rw [m6.2 3 (by decide) (by decide) (by decide) (by decide), g3_3]
    show gI ha 113 3 = _
    rw [hI 113 (by omega) (by decide) (by decide) (by decide) (by decide) (by decide) (by decide) (by omega)]
  have n5 : gI g2 113 5 = 0 := by rw [m6.2 5 (by decide) (by decide) (by decide) (by decide)]; exact g3_5 _
  have n0 : gI g2 113 0 = 0 := by rw [m6.2 0 (by decide) (by decide) (by decide) (by decide)]; exact g3_0 _
  have v126 : gJ h2 126 0 = (j : Int) := by
    rw [q2]
    show gJ g2 126 0 = _
    rw [(m6.1.1 126 rfl).2]
    exact gJ_sJe _ _ _ _
  have cI : ∀ x, x ≤ gn h → x ≠ 1 → x ≠ 2 → ¬ (4 ≤ x ∧ x ≤ 8) → x ≠ 19 → x ≠ 21 → x ≠ 22 → x ≠ 25 + j → x ≠ 113 → x ≠ 114 → x ≠ 118 → gI h2 x = gI h x := fun x p0 p1 p2 p3 p4 p5 p6 p7 p8 p9 p10 => (bI x p8 p9 p10).trans (hI x p0 p1 p2 p3 p4 p5 p6 p7)
  have tx : ∀ t, 126 < t → t ≤ gn h → gI h2 t = gI h t ∧ gJ h2 t = gJ h t ∧ gP h2 t = gP h t ∧ gS h2 t = gS h t := fun t t1 t2 => ⟨cI t t2 (by omega) (by omega) (by omega) (by omega) (by omega) (by omega) (by omega) (by omega) (by omega) (by omega), by rw [bJ t (by omega) (by omega) (by omega), aJ_ t (by omega) (by omega) (by omega)]; exact f2 t t2 (by omega) (by omega), by rw [bP]; exact fP_ t t2 (by omega), by rw [bS]; exact fS_ t t2⟩
  have w8 : aI h2 114 8 = ((j + 1 : Nat) : Int) := by rw [fm 8 (by decide), nw_8 o8]
  have wo : ∀ x : Int, 0 ≤ x → x ≠ 8 → (x < 169 + 882 * (j : Int) ∨ 169 + 882 * (j : Int) + 882 ≤ x) → aI h2 114 x = aI h 114 x := fun x p0 p1 p2 => by rw [fm x p0, nw_out x p2 p1]
  have en1 : gI h2 (gn h' + 1) = gI H (gn h' + 1) := by rw [bI _ (by omega) (by omega) (by omega), aI_ _ (by omega) (by omega) (by omega) (by omega), gH _ (by omega)]
  have en2 : gI h2 (gn h' + 2) = gI H (gn h' + 2) := by rw [bI _ (by omega) (by omega) (by omega), aI_ _ (by omega) (by omega) (by omega) (by omega), gH _ (by omega)]
  have ej1 : gJ h2 (gn h' + 1) = gJ H (gn h' + 1) := by rw [bJ _ (by omega) (by omega) (by omega), aJ_ _ (by omega) (by omega) (by omega), gJH]
  have gnh2 : gn h2 = gn h' + 2 := by rw [bn, an_, gnH, y1]
  have txt : TXT h2 (gn h' + 1) (aI h2 114) (169 + 882 * (j : Int)) := by
    have c17 : aI h2 114 (169 + 882 * (j : Int) + 17) = w32 (gJ g2 113 15) := by rw [fm _ (by omega), nw_17_]
    have c18 : aI h2 114 (169 + 882 * (j : Int) + 18) = w32 (yush (gJ g2 113 15) 32) := by rw [fm _ (by omega), nw_18_]
    have c19 : aI h2 114 (169 + 882 * (j : Int) + 19) = w32 (gJ g2 113 14) := by rw [fm _ (by omega), nw_19_]
    have c20 : aI h2 114 (169 + 882 * (j : Int) + 20) = w32 (yush (gJ g2 113 14) 32) := by rw [fm _ (by omega), nw_20_]
    refine ⟨A, gn h' + 2, (prgC A).length, by omega, by omega, ?_, ?_, by omega, by omega, ?_, by omega, Nat.le_refl _, fun i z e => ?_, ?_, x8, ?_, ?_, ?_, ?_, ?_, fun i => ?_⟩
    · rw [bS, aS_, gSH]; exact y9
    · rw [bP, aP_ _ _ (by omega), gPH]; exact y10
    · rw [bS, aS_, gSH]; exact y11
    · show gI h2 (gn h' + 2) _ = z
      rw [en2]; exact y12 i z e
    · rw [en1]; exact y13
    · refine MPr_job (D := aI g2 118) (fun f p1 p2 => ?_) ?_ x9 m3 m7
      · rw [fm _ (by omega), nw_D f ⟨p1, p2⟩]
      · rw [fm _ (by omega), nw_16_]
    · rw [ej1, y14, c17, c18]
      exact bits_eq x10 (fun i hi => (x4 i hi).trans (m4 i hi).symm)
    · rw [ej1, y15, c19, c20]
      exact bits_eq x11 (fun i hi => (x5 i hi).trans (m5 i hi).symm)
    · rw [ej1, y14]; exact x10
    · rw [ej1, y15]; exact x11
    · rw [ej1, y15]; exact wrA_tb x8 x5 i
  have jb := JB_new (W' := aI h2 114) (h2 := h2) (p := 25 + j) (t := gn h' + 1) (g := g) ((bI _ (by omega) (by omega) (by omega)).trans aJI) fm (by omega) ok he
  have sa : SmN ha h2 0 0 := ⟨fun x k p1 p2 _ _ => by
    show gI h2 x k = gI ha x k
    rw [bI x (by omega) (by omega) (by omega)], fun i hi => by rw [bP], fun t t1 t2 => ⟨bI t (by omega) (by omega) (by omega), bJ t (by omega) (by omega) (by omega), by rw [bP], by rw [bS]⟩, by omega⟩
  have ord : RJo h2 0 (aI h2 114) := by
    refine d4.cg sa (fun _ _ _ => rfl) (by rw [nw_8 o8]; omega) (by rw [w8, nw_8 o8]) (fun jj f p0 p1 p2 p3 => ?_)
    by_cases z : jj = (j : Int)
    · subst z
      have f4_ : f = 17 ∨ f = 18 ∨ f = 19 ∨ f = 20 := by omega
      rcases f4_ with z | z | z | z
      · subst z
        rw [fm _ (by omega), nw_17_, nw_17_]
        exact w32_tb (fun i hi => (m4 i (by omega)).trans (x4 i (by omega)).symm)
      · subst z
        rw [fm _ (by omega), nw_18_, nw_18_]
        exact w32_tb (fun i hi => by rw [tb_us32, tb_us32]; exact (m4 (32 + i) (by omega)).trans (x4 (32 + i) (by omega)).symm)
      · subst z
        rw [fm _ (by omega), nw_19_, nw_19_]
        exact w32_tb (fun i hi => (m5 i (by omega)).trans (x5 i (by omega)).symm)
      · subst z
        rw [fm _ (by omega), nw_20_, nw_20_]
        exact w32_tb (fun i hi => by rw [tb_us32, tb_us32]; exact (m5 (32 + i) (by omega)).trans (x5 (32 + i) (by omega)).symm)
    · rw [wo _ (by omega) (by omega) (by omega), nw_out _ (by omega) (by omega)]
  have RNn : RN h2 0 (aI h2 114) := by
    refine rn.more j ej hj (fun x p1 p2 p3 p4 p5 p6 => cI x (by omega) (by omega) (by omega) (by omega) p3 p4 p5 p6 (by omega) (by omega) (by omega)) ?_ (fun x p1 p2 => by rw [bP]; exact fP_ x (by omega) p2) tx (by omega) w8 wo ⟨jb.1, jb.2, gn h' + 1, by rw [bP]; exact aPj, txt⟩ ord
    rw [bI 19 (by decide) (by decide) (by decide)]; exact d3
  have hk : SmN h h2 47 47 := ⟨fun x k p1 p2 _ _ => by
    show gI h2 (x + 47) k = gI h (x + 47) k
    rw [cI (x + 47) (by omega) (by omega) (by omega) (by omega) (by omega) (by omega) (by omega) (by omega) (by omega) (by omega) (by omega)], fun i hi => by rw [bP, fP_ _ (by omega) (by omega)], tx, by omega⟩
  refine ⟨by rw [u113 0 (by decide)]; exact n0, fun _ => v126, ?_⟩
  have one : ∀ x k, x ≤ 126 → x ≠ 2 → ¬ (4 ≤ x ∧ x ≤ 8) → ¬ (x = 1 ∧ k = 1) → x ≠ 19 → x ≠ 21 → x ≠ 22 → x ≠ 25 + j → x ≠ 113 → x ≠ 114 → x ≠ 118 → gI h2 x k = gI h x k := fun x k p0 p1 p2 p3 p4 p5 p6 p7 p8 p9 p10 => by
    rw [bI x p8 p9 p10, aI_ x p4 p5 p6 p7]
    exact f1 x k (by omega) p1 p2 p3
  refine RAG r (LCa.of bS bP) (LKa.of bS bP) (LMa.of bS bP) ⟨by omega, by omega⟩ (by rw [bS]; exact fS_ 126 (by omega)) ?_ ?_ ((u113 3 (by decide)).trans n3) ?_ ?_ ?_ ?_ ?_ ?_ RNn ?_ hk ?_ (by rw [bc, ac_]; omega) (by rw [bs, as_]; omega) (fun i hi => ?_)
  · exact one 10 5 (by decide) (by decide) (by decide) (by decide) (by decide) (by decide) (by decide) (by omega) (by decide) (by decide) (by decide)
  · exact one 1 4 (by decide) (by decide) (by decide) (by decide) (by decide) (by decide) (by decide) (by omega) (by decide) (by decide) (by decide)
  · exact one 107 0 (by decide) (by decide) (by decide) (by decide) (by decide) (by decide) (by decide) (by omega) (by decide) (by decide) (by decide)
  · exact one 108 0 (by decide) (by decide) (by decide) (by decide) (by decide) (by decide) (by decide) (by omega) (by decide) (by decide) (by decide)
  · exact one 109 0 (by decide) (by decide) (by decide) (by decide) (by decide) (by decide) (by decide) (by omega) (by decide) (by decide) (by decide)
  · exact one 110 0 (by decide) (by decide) (by decide) (by decide) (by decide) (by decide) (by decide) (by omega) (by decide) (by decide) (by decide)
  · exact one 111 0 (by decide) (by decide) (by decide) (by decide) (by decide) (by decide) (by decide) (by omega) (by decide) (by decide) (by decide)
  · have t1 : gI h2 2 1 = 0 := by rw [bI 2 (by decide) (by decide) (by decide), aI_ 2 (by decide) (by decide) (by decide) (by omega)]; exact f8
    have t5 : gI h2 113 5 = 0 := (u113 5 (by decide)).trans n5
    have t11 : gI h2 1 1 = -1 := by
      rw [bI 1 (by decide) (by decide) (by decide), aI_ 1 (by decide) (by decide) (by decide) (by omega)]
      exact g11
    exact ⟨by rw [t1, t5], by rw [t5]; decide, by rw [t5]; decide, by rw [t11, u10], fun i i0 i1 => by rw [t5] at i1; omega⟩
  · have p := ptl_job (W := aI h 114) (W' := aI h2 114) j ej hj w8 wo
    have p2 := r.2.2.2.2.2.2.2.2.2.2.2.2.2.2.2.2.1
    omega
  · funext i
    show gI h2 115 _ = gI h 115 _
    rw [cI 115 (by omega) (by decide) (by decide) (by decide) (by decide) (by decide) (by decide) (by omega) (by decide) (by decide) (by decide)]
  · by_cases z : i = j
    · subst z
      rw [bI _ (by omega) (by omega) (by omega), aJI, suH_4]
      exact he
    · rw [cI (25 + i) (by omega) (by omega) (by omega) (by omega) (by omega) (by omega) (by omega) (by omega) (by omega) (by omega) (by omega)]
      exact (r.2.2.2.2.2.2.2.2.2.2.2.2.2.2.2.2.2.2.2.2.2 i hi).1
theorem J_job (hF : 60000 ≤ F) (r : RA n h) (hn : n < 512) (a b c d e : Int) (he : e = 0 ∨ e = 1) : ∃ k h1 v h2, XL_job F (some 1) a b c d e (some 126) h = some (k, h1) ∧ X12_job F 113 a b c d e h1 = some (v, h2) ∧ OKJ n k v h2 := by
  have L := r.1
  have LM := r.2.2.1
  have r4 : 126 ≤ gn h := r.2.2.2.1
  have r5 := r.2.2.2.2.1
  obtain ⟨t1, t2, t3, t4, t5⟩ := r.tp
  by_cases ok : okA a b c d
  · obtain ⟨R, hR⟩ := Int.eq_ofNat_of_zero_le t2
    have hR4 : R ≤ 400 := by omega
    have e2 : gI h 2 1 = (R : Int) := t1.trans hR
    have hc : ∀ i : Nat, i < R → 0 ≤ aI h 3 (i : Int) := fun i hi => by
      have := (t5 (i : Int) (by omega) (by omega)).1
      omega
    have t6 : ∀ i : Nat, i < R → aI h 116 i % 256 = aI h 3 (i : Int) ∧ -128 ≤ aI h 116 i ∧ aI h 116 i < 128 := fun i hi => by
      obtain ⟨p1, p2, p3⟩ := t5 (i : Int) (by omega) (by omega)
      exact ⟨p1.symm, p2, p3⟩
    have bm : ∀ g : HP, LayM g → gI g 113 5 = (R : Int) → aI g 116 = aI h 116 → BM (fun i => aI h 3 (i : Int)) R (g3H g) := fun g Lg q1 q2 => BM_g3 Lg hR4 q1 q2 t6
    have tx := T_text (F := F) (c := fun i => aI h 3 (i : Int)) (R := R) (h := sI h 2 1 0) ⟨L, hR4, fun i hi => by rw [aI_sIn _ _ _ _ _ (by decide)]⟩ hc (by omega) ⟨r4, by show gn h < 899990; omega⟩
    cases ep : pTx (fun i => aI h 3 (i : Int)) R with
    | inl x =>
      rw [ep] at tx
      obtain ⟨h', x1, x2, x3⟩ := tx
      have Lh : LayC h' := x2.1.C L
      have cf := CFr.bad x2 (Bf R (Lf (fun i => aI h 3 (i : Int)) R) x) (Bf R (Lf (fun i => aI h 3 (i : Int)) R) x)
      have LMg : LayM (exc (sI (sI h' 2 16 (Bf R (Lf (fun i => aI h 3 (i : Int)) R) x)) 1 1 (Bf R (Lf (fun i => aI h 3 (i : Int)) R) x))) := LM.le (fun a q => cf.2.2.2.1 a (by omega)) (fun a q _ => cf.2.2.1 a (by omega))
      have m := M_text (F := F) (by omega) (bm _ LMg ((cf.1 113 5 (by omega) (by decide) (by decide) (by decide)).trans hR) (by funext i; exact cf.1 116 _ (by omega) (by decide) (by decide) (by omega))) hc
      rw [ep] at m
      obtain ⟨g2, m1, ⟨m2, m3⟩, m4⟩ := m
      refine ⟨1, _, 0, _, C_badT L ok e2 x1 Lh, M_badT LMg ok m1 m2.1, gI_sIe _ _ _ _, fun q => absurd q (by decide), RAdone r cf (OM.dfr (g3_3 _) (g3_5 _) (g3_Ox _) m4 _ 1).1 ?_⟩
      rw [gI_sIk _ _ _ _ _ (by decide), gI_sIe, m3, gI_sIe]
    | inr y =>
      obtain ⟨A, k⟩ := y
      rw [ep] at tx
      obtain ⟨h', H, x1, x2, x3, x4, x5, x6, x7, x8, x9, x10, x11⟩ := tx
      have cf := CFr.good x2 x3 x6 r4 (-1)
      have Lg : LayC H := L.le (fun a q => cf.2.2.2.1 a (by omega)) (fun a q _ => cf.2.2.1 a (by omega))
      have e6 : gI H 2 16 = -1 := by rw [x3.2.2.2.2.1 16, if_pos rfl]
      have e5 : gI H 19 5 = aI h 114 8 := by
        have p := cf.1 19 5 (by omega) (by decide) (by decide) (by decide)
        rw [gI_sIn _ _ _ _ _ (by decide)] at p
        exact p.trans r.N.1.2.2.2.2.2.2.2.2
      have g8 := r.N.2.1.g8
      by_cases full : aI h 114 8 = 12
      · have LMg : LayM (exc (sI H 1 1 (-1))) := LM.le (fun a q => cf.2.2.2.1 a (by omega)) (fun a q _ => cf.2.2.1 a (by omega))
        have m := M_text (F := F) (by omega) (bm _ LMg ((cf.1 113 5 (by omega) (by decide) (by decide) (by decide)).trans hR) (by funext i; exact cf.1 116 _ (by omega) (by decide) (by decide) (by omega))) hc
        rw [ep] at m
        obtain ⟨g2, m1, m2, m3, m4, m5, m6, m7⟩ := m
        have w8 : aI g2 114 8 = 12 := by
          rw [m6.1.i 114 rfl]
          show gI (g3H _) 114 _ = _
          rw [g3_n _ _ (by decide)]
          exact (cf.1 114 _ (by omega) (by decide) (by decide) (by omega)).trans full
        refine ⟨2, _, 0, _, C_full L ok e2 x1 Lg e6 (e5.trans full), M_full LMg ok m1 m2 w8, gI_sIe _ _ _ _, fun q => absurd q (by decide), RAdone r cf (OM.dfr (g3_3 _) (g3_5 _) (g3_Ox _) m6 _ 2).1 ?_⟩
        rw [gI_sIk _ _ _ _ _ (by decide), gI_sIe, gI_sIe]
      · obtain ⟨j, ej⟩ := Int.eq_ofNat_of_zero_le g8.1
        exact J_ok hF r ok he hc ep hR e2 bm x1 x2 x3 x4 x5 x6 x8 x9 x10 x11 Lg e6 ej (by omega) (e5.trans ej)
  · refine ⟨1, exc (sI h 2 1 0), 0, sI (g3H (exc (sI h 2 1 0))) 113 0 1, C_bad1 L ok, M_bad1 LM ok, gI_sIe _ _ _ _, fun q => absurd q (by decide), RAdone (g := sI h 2 1 0) r ⟨fun x k q0 q1 q2 q3 => by rw [gI_sIn _ _ _ _ _ q1], fun _ _ _ _ => rfl, fun _ _ => rfl, fun _ _ => rfl, ⟨Nat.le_refl _, Nat.le_add_right _ _⟩, Nat.le_add_right _ _, Nat.le_add_right _ _, gI_sIe _ _ _ _⟩ (DFr.g3 _ 1) ?_⟩
    unfold g3H
    rw [gI_sIk _ _ _ _ _ (by decide), gI_sIk _ _ _ _ _ (by decide), gI_sIk _ _ _ _ _ (by decide), gI_sIk _ _ _ _ _ (by decide)]
    show gI (sI h 2 1 0) 113 10 = gI (sI h 2 1 0) 1 1
    rw [gI_sIn _ _ _ _ _ (by decide), gI_sIn _ _ _ _ _ (by decide)]
    exact t4.symm
end JJB
