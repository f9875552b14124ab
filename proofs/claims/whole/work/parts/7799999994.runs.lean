/-! the call job: what it runs through on both sides -/
section RNJ
variable {F : Nat} {h : HP} {a b c d e : Int}
def okA (a b c d : Int) : Prop := (1 ≤ a ∧ a ≤ 60) ∧ (0 ≤ b ∧ b ≤ 1000) ∧ (0 ≤ c ∧ c ≤ 480) ∧ (0 ≤ d ∧ d ≤ 60)
theorem C_bad1 (L : LayC h) (bad : ¬ okA a b c d) : XL_job F (some 1) a b c d e (some 126) h = some (1, exc (sI h 2 1 0)) := by
  unfold XL_job X11_job
  by_cases c0 : 1 ≤ a ∧ a ≤ 60
  · by_cases c1 : 0 ≤ b ∧ b ≤ 1000
    · by_cases c2 : 0 ≤ c ∧ c ≤ 480
      · have c3 : d < 0 ∨ 60 < d := by
          by_cases q : 0 ≤ d ∧ d ≤ 60
          · exact absurd ⟨c0, c1, c2, q⟩ bad
          · omega
        rw [cR1 h _ L, cP1_0 h _ L, cI2 h 1 _ L, cP1_0 h _ L, cW2 h 1 _ _ L, bE_needNumber0 a 1 60 c0, bE_needNumber0 b 0 1000 c1, bE_needNumber0 c 0 480 c2, bE_needNumber1 d 0 60 c3, b_xctl, if_pos rfl]
      · rw [cR1 h _ L, cP1_0 h _ L, cI2 h 1 _ L, cP1_0 h _ L, cW2 h 1 _ _ L, bE_needNumber0 a 1 60 c0, bE_needNumber0 b 0 1000 c1, bE_needNumber1 c 0 480 (by omega), b_xctl, if_pos rfl]
    · rw [cR1 h _ L, cP1_0 h _ L, cI2 h 1 _ L, cP1_0 h _ L, cW2 h 1 _ _ L, bE_needNumber0 a 1 60 c0, bE_needNumber1 b 0 1000 (by omega), b_xctl, if_pos rfl]
  · rw [cR1 h _ L, cP1_0 h _ L, cI2 h 1 _ L, cP1_0 h _ L, cW2 h 1 _ _ L, bE_needNumber1 a 1 60 (by omega), b_xctl, if_pos rfl]
def g3H (g : HP) : HP := sI (sI (sI g 113 0 0) 113 7 (gI g 113 5)) 113 5 0
theorem g3_e (L : LayM h) (f : HP → Option (Int × HP)) : ((xpI h (some 113) 12 31 0 0).bind fun h1 => (xgI h1 (some 113) 12 31 5).bind fun v2 => (xpI h1 (some 113) 12 31 7 v2).bind fun h3 => (xpI h3 (some 113) 12 31 5 0).bind f) = f (g3H h) := by
  rw [mW113 h 0 _ _ L, mI113 _ 5 _ (by exact L), gI_sIk _ _ _ _ _ (by decide), mW113 _ 7 _ _ (by exact L), mW113 _ 5 _ _ (by exact L)]
  rfl
theorem g3_M (L : LayM h) : LayM (g3H h) := L
theorem M_L67 (L : LayM h) : X12_job_L67 F 113 a b c d e 1 (some 113) h = some (0, sI h 113 0 1) := by
  unfold X12_job_L67
  rw [mR113 h _ L, bE_throws1 1 L, if_neg (by decide)]
theorem M_bad1 (L : LayM h) (bad : ¬ okA a b c d) : X12_job F 113 a b c d e h = some (0, sI (g3H h) 113 0 1) := by
  unfold X12_job
  rw [g3_e L]
  unfold X12_job_L62
  by_cases c0 : 1 ≤ a ∧ a ≤ 60
  · by_cases c1 : 0 ≤ b ∧ b ≤ 1000
    · by_cases c2 : 0 ≤ c ∧ c ≤ 480
      · have c3 : d < 0 ∨ 60 < d := by
          by_cases q : 0 ≤ d ∧ d ≤ 60
          · exact absurd ⟨c0, c1, c2, q⟩ bad
          · omega
        rw [bE_in1 a 1 60 c0, if_neg (by decide), bE_in1 b 0 1000 c1, if_neg (by decide), bE_in1 c 0 480 c2, if_neg (by decide), bE_in0 d 0 60 c3, if_pos rfl]
        exact M_L67 (g3_M L)
      · rw [bE_in1 a 1 60 c0, if_neg (by decide), bE_in1 b 0 1000 c1, if_neg (by decide), bE_in0 c 0 480 (by omega), if_pos rfl]
        exact M_L67 (g3_M L)
    · rw [bE_in1 a 1 60 c0, if_neg (by decide), bE_in0 b 0 1000 (by omega), if_pos rfl]
      exact M_L67 (g3_M L)
  · rw [bE_in0 a 1 60 (by omega), if_pos rfl]
    exact M_L67 (g3_M L)
theorem M_start (L : LayM h) (ok : okA a b c d) : X12_job F 113 a b c d e h = xb (X12_readAll F 113 (g3H h)) fun v5 h6 => if 0 ≤ v5 then X12_job_L96 F 113 a b c d e v5 (-1) (some 113) h6 else (xgI h6 (some 113) 12 31 8).bind fun v9 => X12_job_L96 F 113 a b c d e v5 v9 (some 113) h6 := by
  obtain ⟨c0, c1, c2, c3⟩ := ok
  unfold X12_job
  rw [g3_e L, bE_in1 a 1 60 c0, if_neg (by decide), bE_in1 b 0 1000 c1, if_neg (by decide), bE_in1 c 0 480 c2, if_neg (by decide), bE_in1 d 0 60 c3, if_neg (by decide)]
  unfold X12_job_L67
  rw [mR113 _ _ (g3_M L), bE_throws0 1 (g3_M L), if_pos rfl, mR113 _ _ (g3_M L)]
theorem M_badT (L : LayM h) (ok : okA a b c d) {g : HP} (x : X12_readAll F 113 (g3H h) = some (-1, g)) (Lg : LayM g) : X12_job F 113 a b c d e h = some (0, sI (sI g 113 10 (gI g 113 8)) 113 0 1) := by
  rw [M_start L ok, b_xb _ _ _ _ x, if_neg (by decide), mI113 g 8 _ Lg]
  unfold X12_job_L96 X12_job_L110
  rw [mW113 g 10 _ _ Lg, if_neg (by decide), mR113 _ _ (by exact Lg), bE_throws1 1 (by exact Lg), if_neg (by decide)]
theorem M_full (L : LayM h) (ok : okA a b c d) {g : HP} {n : Nat} (x : X12_readAll F 113 (g3H h) = some ((n : Int), g)) (Lg : LayM g) (w8 : aI g 114 8 = 12) : X12_job F 113 a b c d e h = some (0, sI (sI g 113 10 (-1)) 113 0 2) := by
  rw [M_start L ok, b_xb _ _ _ _ x, if_pos (by omega)]
  unfold X12_job_L96 X12_job_L110 X12_job_L135
  rw [mW113 g 10 _ _ Lg, if_pos (by omega), mR113 _ _ (by exact Lg), bE_throws0 1 (by exact Lg), if_pos rfl, mP113_1 _ _ (by exact Lg), mA114 _ 8 _ (by exact Lg) (by decide) (by decide), aI_sIn _ _ _ _ _ (by decide), w8, if_pos rfl, mR113 _ _ (by exact Lg), bE_throws1 2 (by exact Lg), if_neg (by decide)]
theorem M_ok (L : LayM h) (hF : 1000 ≤ F) (ok : okA a b c d) {g : HP} {n : Nat} (x : X12_readAll F 113 (g3H h) = some ((n : Int), g)) (Lg : LayM g) {j : Nat} (w8 : aI g 114 8 = (j : Int)) (hj : j < 12) : ∃ h7, X12_job F 113 a b c d e h = some ((j : Int), lydH h7 (169 + 882 * (j : Int)) a b c d (if e = 0 then 0 else 1) (n : Int) (gJ g 113 15) (gJ g 113 14)) ∧ Oi 114 (sA (sI g 113 10 (-1)) 114 8 ((j + 1 : Nat) : Int)) h7 ∧ ∀ x : Int, 0 ≤ x → aI h7 114 x = if 169 + 882 * (j : Int) ≤ x ∧ x < 169 + 882 * (j : Int) + 882 then (if x - (169 + 882 * (j : Int)) < 22 then 0 else aI g 118 (x - (169 + 882 * (j : Int)))) else if x = 8 then ((j + 1 : Nat) : Int) else aI g 114 x := by
  obtain ⟨h7, y1, y2, y3⟩ := E_cpL (F := F) (a := a) (b := b) (c := c) (d := d) (e := e) hj (n : Int) 882 0 F (sA (sI g 113 10 (-1)) 114 8 ((j + 1 : Nat) : Int)) (by omega) rfl Lg
  refine ⟨h7, ?_, y2, fun x hx => ?_⟩
  · rw [M_start L ok, b_xb _ _ _ _ x, if_pos (by omega)]
    unfold X12_job_L96 X12_job_L110 X12_job_L135
    rw [mW113 g 10 _ _ Lg, if_pos (by omega), mR113 _ _ (by exact Lg), bE_throws0 1 (by exact Lg), if_pos rfl, mP113_1 _ _ (by exact Lg), mA114 _ 8 _ (by exact Lg) (by decide) (by decide), aI_sIn _ _ _ _ _ (by decide), w8, if_neg (by omega), mR113 _ _ (by exact Lg), bE_throws0 2 (by exact Lg), if_pos rfl, mP113_1 _ _ (by exact Lg), mA114 _ 8 _ (by exact Lg) (by decide) (by decide), aI_sIn _ _ _ _ _ (by decide), w8, mP113_1 _ _ (by exact Lg), mA114 _ 8 _ (by exact Lg) (by decide) (by decide), aI_sIn _ _ _ _ _ (by decide), w8, w32j (by omega), mS114 _ 8 _ _ (by exact Lg) (by decide) (by decide)]
    exact y1
  · rw [y3 x hx, aI_sAn _ _ _ _ _ (by decide), aI_sIn _ _ _ _ _ (by decide), aI_sA _ _ _ _ _ (by decide) hx, aI_sIn _ _ _ _ _ (by decide), show 169 + 882 * (j : Int) + ((0 : Nat) : Int) = 169 + 882 * (j : Int) by omega]
/-! the class -/
theorem C_badT (L : LayC h) (ok : okA a b c d) {g : HP} {v : Int} {R : Nat} (e2 : gI h 2 1 = (R : Int)) (x : X8_readText F 2 (R : Int) (sI h 2 1 0) = some (none, sI g 2 16 v)) (Lg : LayC g) : XL_job F (some 1) a b c d e (some 126) h = some (1, exc (sI (sI g 2 16 v) 1 1 v)) := by
  obtain ⟨c0, c1, c2, c3⟩ := ok
  unfold XL_job X11_job
  rw [cR1 h _ L, cP1_0 h _ L, cI2 h 1 _ L, e2, cP1_0 h _ L, cW2 h 1 _ _ L, bE_needNumber0 a 1 60 c0, bE_needNumber0 b 0 1000 c1, bE_needNumber0 c 0 480 c2, bE_needNumber0 d 0 60 c3, cP1_0 _ _ (by exact L), cR2 _ _ (by exact L), b_xb _ _ _ _ x, cP1_0 _ _ (by exact Lg), cI2 _ 16 _ (by exact Lg), gI_sIe, cW1 _ 1 _ _ (by exact Lg), if_pos rfl, b_xctl, if_pos rfl]
theorem C_full (L : LayC h) (ok : okA a b c d) {g : HP} {t R : Nat} (e2 : gI h 2 1 = (R : Int)) (x : X8_readText F 2 (R : Int) (sI h 2 1 0) = some (some t, g)) (Lg : LayC g) (e6 : gI g 2 16 = -1) (e5 : gI g 19 5 = 12) : XL_job F (some 1) a b c d e (some 126) h = some (2, exc (sI g 1 1 (-1))) := by
  obtain ⟨c0, c1, c2, c3⟩ := ok
  unfold XL_job X11_job
  rw [cR1 h _ L, cP1_0 h _ L, cI2 h 1 _ L, e2, cP1_0 h _ L, cW2 h 1 _ _ L, bE_needNumber0 a 1 60 c0, bE_needNumber0 b 0 1000 c1, bE_needNumber0 c 0 480 c2, bE_needNumber0 d 0 60 c3, cP1_0 _ _ (by exact L), cR2 _ _ (by exact L), b_xb _ _ _ _ x, cP1_0 _ _ Lg, cI2 _ 16 _ Lg, e6, cW1 _ 1 _ _ Lg, if_neg (by intro q; cases q), cP1_2 _ _ (by exact Lg), cP9_2 _ _ (by exact Lg), cI19 _ 5 _ (by exact Lg), gI_sIn _ _ _ _ _ (by decide), e5, if_neg (by decide), b_xctl, if_neg (by decide), if_pos rfl]
theorem C_ok (L : LayC h) (ok : okA a b c d) (he : e = 0 ∨ e = 1) {g k : HP} {t R j : Nat} (hj : j < 12) (e2 : gI h 2 1 = (R : Int)) (x : X8_readText F 2 (R : Int) (sI h 2 1 0) = some (some t, g)) (Lg : LayC g) (e6 : gI g 2 16 = -1) (e5 : gI g 19 5 = (j : Int)) (y : X3_admit F 19 (suH (sI g 1 1 (-1)) (25 + j) a b c d e t) = some ((j : Int), k)) (s6 : gS k 126 = (101, 1)) : XL_job F (some 1) a b c d e (some 126) h = some (0, sJ k 126 0 (j : Int)) := by
  obtain ⟨c0, c1, c2, c3⟩ := ok
  have Ls := suH_C (a := a) (b := b) (c := c) (d := d) (e := e) (t := t) (h := sI g 1 1 (-1)) Lg j hj
  unfold XL_job X11_job
  rw [cR1 h _ L, cP1_0 h _ L, cI2 h 1 _ L, e2, cP1_0 h _ L, cW2 h 1 _ _ L, bE_needNumber0 a 1 60 c0, bE_needNumber0 b 0 1000 c1, bE_needNumber0 c 0 480 c2, bE_needNumber0 d 0 60 c3, cP1_0 _ _ (by exact L), cR2 _ _ (by exact L), b_xb _ _ _ _ x, cP1_0 _ _ Lg, cI2 _ 16 _ Lg, e6, cW1 _ 1 _ _ Lg, if_neg (by intro q; cases q), cP1_2 _ _ (by exact Lg), cP9_2 _ _ (by exact Lg), cI19 _ 5 _ (by exact Lg), gI_sIn _ _ _ _ _ (by decide), e5, if_pos (by omega), cP1_2 _ _ (by exact Lg), cP9_2 _ _ (by exact Lg), cP1_2 _ _ (by exact Lg), cP9_2 _ _ (by exact Lg), cI19 _ 5 _ (by exact Lg), gI_sIn _ _ _ _ _ (by decide), e5, cR19 _ _ (by exact Lg), b_xb _ _ _ _ (D_at (F := F) (h := sI g 1 1 (-1)) Lg j hj), cRj _ j _ (by exact Lg) hj, b_xb _ _ _ _ (E_setUp (F := F) (a := a) (b := b) (c := c) (d := d) (t := t) (h := sI g 1 1 (-1)) Lg j hj he), cP1_2 _ _ Ls, cP9_2 _ _ Ls, cR19 _ _ Ls, b_xb _ _ _ _ y, b_xctr, b_s126 _ _ _ s6]
/-! frames -/
theorem CFr.bad {g : HP} (x : OT (sI h 2 1 0) g) (v w : Int) : CFr h (sI (sI g 2 16 v) 1 1 w) := by
  obtain ⟨⟨x1, x2, x3, x4, x5, x6⟩, x7⟩ := x
  have z : ∀ a, a ≠ 2 → ¬ (4 ≤ a ∧ a ≤ 8) → XTp a = false := fun a q1 q2 => decide_eq_false (fun q => q.elim q1 q2)
  refine ⟨fun a k q0 q1 q2 q3 => ?_, fun a q0 q1 q2 => ?_, fun a _ => ?_, fun a _ => ?_, ⟨Nat.le_of_eq x4.symm, Nat.le_trans (Nat.le_of_eq x4) (Nat.le_add_right _ _)⟩, Nat.le_trans (Nat.le_of_eq x5) (Nat.le_add_right _ _), Nat.le_trans (Nat.le_of_eq x6) (Nat.le_add_right _ _), ?_⟩
  · rw [gI_sI, if_neg (by omega), gI_sIn _ _ _ _ _ q1, (x1 a (z a q1 q2)).1, gI_sIn _ _ _ _ _ q1]
  · exact (x1 a (z a q1 q2)).2
  · show gP g a = _
    rw [x2]; rfl
  · show gS g a = _
    rw [x3]; rfl
  · rw [gI_sIn _ _ _ _ _ (by decide), gI_sIk _ _ _ _ _ (by decide), x7, gI_sIe]
theorem CFr.good {g H : HP} {cd : List Int} {n r w : Int} (x : OT (sI h 2 1 0) g) (y : NewT g H cd n r w) (hl : cd.length ≤ 1200) (hg : 126 ≤ gn h) (v : Int) : CFr h (sI H 1 1 v) := by
  obtain ⟨⟨x1, x2, x3, x4, x5, x6⟩, x7⟩ := x
  obtain ⟨y1, y2, y3, y4, y5, y6, y7, y8, -⟩ := y
  have z : ∀ a, a ≠ 2 → ¬ (4 ≤ a ∧ a ≤ 8) → XTp a = false := fun a q1 q2 => decide_eq_false (fun q => q.elim q1 q2)
  have e4 : gn g = gn h := x4
  have e5 : gc g = gc h := x5
  have e6 : gs g = gs h := x6
  have f1 : gn (sI H 1 1 v) = gn H := rfl
  have f2 : gc (sI H 1 1 v) = gc H := rfl
  have f3 : gs (sI H 1 1 v) = gs H := rfl
  refine ⟨fun a k q0 q1 q2 q3 => ?_, fun a q0 q1 q2 => ?_, fun a q0 => ?_, fun a q0 => ?_, ⟨by omega, by omega⟩, by omega, by omega, ?_⟩
  · rw [gI_sI, if_neg (by omega), y4 a (by omega) q1, (x1 a (z a q1 q2)).1, gI_sIn _ _ _ _ _ q1]
  · exact (y6 a (by omega)).trans (x1 a (z a q1 q2)).2
  · show gP H a = _
    rw [y7 a (by omega), x2]; rfl
  · show gS H a = _
    rw [y8 a (by omega), x3]; rfl
  · rw [gI_sIn _ _ _ _ _ (by decide), y5, if_neg (by decide), x7, gI_sIe]
end RNJ
