/-! the step itself -/
section LY
variable {F : Nat} {c : List Int} {j : Nat} {fi how a0 : Int}
theorem E_line0 {g : HP} {W : Int → Int} (hF : 2000 ≤ F) (d : DoS g c W j fi how a0) (l : Lin) (kl : okL l) (q0 : l.1 = 0) (i : Nat) (hc : ∀ (x : Nat) (z : Int), (linC l)[x]? = some z → c[i + x]? = some z) (g2 : gI g 10 2 = i) (hr : W 11356 < 5120) (hh : 0 ≤ how ∧ how < 4) (N n : Int) (hn : n < N) (n0 : 0 ≤ n ∧ n < 1000) (k : Nat) : ∃ g', X1_doText_L45 F (k + 1) 10 N 1 n g = X1_doText_L45 F k 10 N (if (linL j fi how W l).1 then 1 else 0) (n + 1) g' ∧ DoS g' c (linL j fi how W l).2 j fi how a0 ∧ ((linL j fi how W l).1 = true → gI g' 10 2 = ((i + (linC l).length : Nat) : Int)) ∧ Ox XC g g' := by
  have L := d.1.1
  have e32 : w32 (n + 1) = n + 1 := w32i _ (by omega) (by omega)
  have eC : linC l = 257 :: l.2.1 :: l.2.2.1 :: sumC l.2.2.2.2.1 := by unfold linC; rw [if_pos q0]; rfl
  rw [eC] at hc ⊢
  have o3 : Ox XC g (sI (sI (sI g 10 2 ((i + 1 : Nat) : Int)) 10 2 ((i + 1 + 1 : Nat) : Int)) 10 2 ((i + 1 + 1 + 1 : Nat) : Int)) := ((Ox.I g 10 2 _ rfl).tr (Ox.I _ 10 2 _ rfl)).tr (Ox.I _ 10 2 _ rfl)
  obtain ⟨g', p1, p2, p3, p4⟩ := E_doSetC (F := F) (by omega) (((d.at ((i + 1 : Nat) : Int)).at ((i + 1 + 1 : Nat) : Int)).at ((i + 1 + 1 + 1 : Nat) : Int)) l kl q0 (i + 1 + 1 + 1) (fun x z e => by
    have := hc (x + 3) z e
    rw [show i + (x + 3) = i + 1 + 1 + 1 + x by omega] at this
    exact this) (gI_sIe _ _ _ _) hr hh
  refine ⟨g', ?_, p2, fun q => ?_, o3.tr p4⟩
  · show (if N ≤ n then _ else if (1 : Int) = 0 then _ else (xrc g (some 10) 1 8).bind _) = _
    rw [if_neg (by omega), if_neg (by decide), cR10 g _ L, b_xb _ _ _ _ (gNext (F := F) d i 257 g2 (hc 0 257 rfl)), if_pos rfl, cR10 (sI g 10 2 ((i + 1 : Nat) : Int)) _ L, b_xb _ _ _ _ (gNext (F := F) (d.at ((i + 1 : Nat) : Int)) (i + 1) l.2.1 (gI_sIe _ _ _ _) (hc 1 _ rfl)), cR10 (sI (sI g 10 2 ((i + 1 : Nat) : Int)) 10 2 ((i + 1 + 1 : Nat) : Int)) _ L, b_xb _ _ _ _ (gNext (F := F) ((d.at ((i + 1 : Nat) : Int)).at ((i + 1 + 1 : Nat) : Int)) (i + 1 + 1) l.2.2.1 (gI_sIe _ _ _ _) (hc 2 _ rfl)), cR10 (sI (sI (sI g 10 2 ((i + 1 : Nat) : Int)) 10 2 ((i + 1 + 1 : Nat) : Int)) 10 2 ((i + 1 + 1 + 1 : Nat) : Int)) _ L, b_xb _ _ _ _ p1]
    unfold X1_doText_L197
    rw [e32]
    rfl
  · rw [p3 q]
    simp only [List.length_cons]
    omega
theorem E_line1 {g : HP} {W : Int → Int} (hF : 2000 ≤ F) (d : DoS g c W j fi how a0) (l : Lin) (kl : okL l) (q0 : l.1 = 1) (i : Nat) (hc : ∀ (x : Nat) (z : Int), (linC l)[x]? = some z → c[i + x]? = some z) (g2 : gI g 10 2 = i) (hr : W 11356 < 5120) (hh : 0 ≤ how ∧ how < 4) (N n : Int) (hn : n < N) (n0 : 0 ≤ n ∧ n < 1000) (k : Nat) : ∃ g', X1_doText_L45 F (k + 1) 10 N 1 n g = X1_doText_L45 F k 10 N (if (linL j fi how W l).1 then 1 else 0) (n + 1) g' ∧ DoS g' c (linL j fi how W l).2 j fi how a0 ∧ ((linL j fi how W l).1 = true → gI g' 10 2 = ((i + (linC l).length : Nat) : Int)) ∧ Ox XC g g' := by
  have L := d.1.1
  have e32 : w32 (n + 1) = n + 1 := w32i _ (by omega) (by omega)
  obtain ⟨k1, k2, k3, k4, k5, k6, k7⟩ := id kl
  have eC : linC l = [258, l.2.1, l.2.2.1, l.2.2.2.1] := by unfold linC; rw [if_neg (by omega), if_pos q0]
  have eL : linL j fi how W l = puL W l.2.1 (totN W (l.2.2.2.1 + 1 - l.2.2.1).toNat l.2.2.1 0) j fi how := by unfold linL; rw [if_neg (by omega), if_pos q0]
  rw [eC] at hc ⊢
  rw [eL]
  have o3 : Ox XC g (sI (sI (sI (sI g 10 2 ((i + 1 : Nat) : Int)) 10 2 ((i + 1 + 1 : Nat) : Int)) 10 2 ((i + 1 + 1 + 1 : Nat) : Int)) 10 2 ((i + 1 + 1 + 1 + 1 : Nat) : Int)) := (((Ox.I g 10 2 _ rfl).tr (Ox.I _ 10 2 _ rfl)).tr (Ox.I _ 10 2 _ rfl)).tr (Ox.I _ 10 2 _ rfl)
  obtain ⟨g', p1, p2, p3, p4⟩ := E_totS (F := F) (by omega) ((((d.at ((i + 1 : Nat) : Int)).at ((i + 1 + 1 : Nat) : Int)).at ((i + 1 + 1 + 1 : Nat) : Int)).at ((i + 1 + 1 + 1 + 1 : Nat) : Int)) l.2.1 l.2.2.1 l.2.2.2.1 (by have := k3 (by omega); omega) (k5 q0).1 (k5 q0).2.1 (k5 q0).2.2 hr hh
  refine ⟨g', ?_, p2, fun q => ?_, o3.tr p4⟩
  · show (if N ≤ n then _ else if (1 : Int) = 0 then _ else (xrc g (some 10) 1 8).bind _) = _
    rw [if_neg (by omega), if_neg (by decide), cR10 g _ L, b_xb _ _ _ _ (gNext (F := F) d i 258 g2 (hc 0 258 rfl)), if_neg (by decide), if_pos rfl, cR10 (sI g 10 2 ((i + 1 : Nat) : Int)) _ L, b_xb _ _ _ _ (gNext (F := F) (d.at ((i + 1 : Nat) : Int)) (i + 1) l.2.1 (gI_sIe _ _ _ _) (hc 1 _ rfl)), cR10 (sI (sI g 10 2 ((i + 1 : Nat) : Int)) 10 2 ((i + 1 + 1 : Nat) : Int)) _ L, b_xb _ _ _ _ (gNext (F := F) ((d.at ((i + 1 : Nat) : Int)).at ((i + 1 + 1 : Nat) : Int)) (i + 1 + 1) l.2.2.1 (gI_sIe _ _ _ _) (hc 2 _ rfl)), cR10 (sI (sI (sI g 10 2 ((i + 1 : Nat) : Int)) 10 2 ((i + 1 + 1 : Nat) : Int)) 10 2 ((i + 1 + 1 + 1 : Nat) : Int)) _ L, b_xb _ _ _ _ (gNext (F := F) (((d.at ((i + 1 : Nat) : Int)).at ((i + 1 + 1 : Nat) : Int)).at ((i + 1 + 1 + 1 : Nat) : Int)) (i + 1 + 1 + 1) l.2.2.2.1 (gI_sIe _ _ _ _) (hc 3 _ rfl)), cR10 (sI (sI (sI (sI g 10 2 ((i + 1 : Nat) : Int)) 10 2 ((i + 1 + 1 : Nat) : Int)) 10 2 ((i + 1 + 1 + 1 : Nat) : Int)) 10 2 ((i + 1 + 1 + 1 + 1 : Nat) : Int)) _ L, b_xb _ _ _ _ p1]
    unfold X1_doText_L197
    rw [e32]
    rfl
  · rw [p3, gI_sIe]
    rfl
theorem E_line2 {g : HP} {W : Int → Int} (hF : 2000 ≤ F) (d : DoS g c W j fi how a0) (l : Lin) (kl : okL l) (q0 : l.1 = 2) (i : Nat) (hc : ∀ (x : Nat) (z : Int), (linC l)[x]? = some z → c[i + x]? = some z) (g2 : gI g 10 2 = i) (hr : W 11356 < 5120) (hh : 0 ≤ how ∧ how < 4) (N n : Int) (hn : n < N) (n0 : 0 ≤ n ∧ n < 1000) (k : Nat) : ∃ g', X1_doText_L45 F (k + 1) 10 N 1 n g = X1_doText_L45 F k 10 N (if (linL j fi how W l).1 then 1 else 0) (n + 1) g' ∧ DoS g' c (linL j fi how W l).2 j fi how a0 ∧ ((linL j fi how W l).1 = true → gI g' 10 2 = ((i + (linC l).length : Nat) : Int)) ∧ Ox XC g g' := by
  have L := d.1.1
  have e32 : w32 (n + 1) = n + 1 := w32i _ (by omega) (by omega)
  obtain ⟨k1, k2, k3, k4, k5, k6, k7⟩ := id kl
  have eC : linC l = [261, l.2.1, l.2.2.1] := by unfold linC; rw [if_neg (by omega), if_neg (by omega), if_pos q0]
  have eL : linL j fi how W l = puL W l.2.1 (rndV (W (9 + l.2.1)) l.2.2.1) j fi how := by unfold linL; rw [if_neg (by omega), if_neg (by omega), if_pos q0]
  rw [eC] at hc ⊢
  rw [eL]
  have o3 : Ox XC g (sI (sI (sI g 10 2 ((i + 1 : Nat) : Int)) 10 2 ((i + 1 + 1 : Nat) : Int)) 10 2 ((i + 1 + 1 + 1 : Nat) : Int)) := ((Ox.I g 10 2 _ rfl).tr (Ox.I _ 10 2 _ rfl)).tr (Ox.I _ 10 2 _ rfl)
  obtain ⟨g', p1, p2, p3, p4⟩ := E_rndS (F := F) (((d.at ((i + 1 : Nat) : Int)).at ((i + 1 + 1 : Nat) : Int)).at ((i + 1 + 1 + 1 : Nat) : Int)) l.2.1 l.2.2.1 (by have := k3 (by omega); omega) (k6 q0) hr hh
  refine ⟨g', ?_, p2, fun q => ?_, o3.tr p4⟩
  · show (if N ≤ n then _ else if (1 : Int) = 0 then _ else (xrc g (some 10) 1 8).bind _) = _
    rw [if_neg (by omega), if_neg (by decide), cR10 g _ L, b_xb _ _ _ _ (gNext (F := F) d i 261 g2 (hc 0 261 rfl)), if_neg (by decide), if_neg (by decide), if_neg (by decide), if_neg (by decide), if_pos rfl, cR10 (sI g 10 2 ((i + 1 : Nat) : Int)) _ L, b_xb _ _ _ _ (gNext (F := F) (d.at ((i + 1 : Nat) : Int)) (i + 1) l.2.1 (gI_sIe _ _ _ _) (hc 1 _ rfl)), cR10 (sI (sI g 10 2 ((i + 1 : Nat) : Int)) 10 2 ((i + 1 + 1 : Nat) : Int)) _ L, b_xb _ _ _ _ (gNext (F := F) ((d.at ((i + 1 : Nat) : Int)).at ((i + 1 + 1 : Nat) : Int)) (i + 1 + 1) l.2.2.1 (gI_sIe _ _ _ _) (hc 2 _ rfl)), cR10 (sI (sI (sI g 10 2 ((i + 1 : Nat) : Int)) 10 2 ((i + 1 + 1 : Nat) : Int)) 10 2 ((i + 1 + 1 + 1 : Nat) : Int)) _ L, b_xb _ _ _ _ p1]
    unfold X1_doText_L197
    rw [e32]
    rfl
  · rw [p3, gI_sIe]
    rfl
theorem DoS.ask0 {g : HP} {W : Int → Int} (d : DoS g c W j fi how a0) : DoS (sI g 10 7 (w32 (gI g 10 7 + 0))) c W j fi how a0 := by
  obtain ⟨⟨L, ⟨t, q, n, t1, t2, t3, t4, t5, t6, t7, t8, t9⟩, c1, c2, c3, c4, c5, c6⟩, d2, d3, d4, d5, d6⟩ := d
  have o : Ox X10 g (sI g 10 7 (w32 (gI g 10 7 + 0))) := Ox.I g 10 7 _ rfl
  have ai : ∀ a, a ≠ 10 → ∀ i, aI (sI g 10 7 (w32 (gI g 10 7 + 0))) a i = aI g a i := fun a q i => by rw [aI_sIn _ _ _ _ _ q]
  refine ⟨⟨L, ⟨t, q, n, t1, t2, t3, t4, t5, t6, t7, t8, fun i z e => by rw [ai q (by omega)]; exact t9 i z e⟩, by rw [gI_sIk _ _ _ _ _ (by decide)]; exact c1, fun x => absurd x (by decide), fun i h1 h2 h3 => ?_, fun i h1 h2 => ?_, ?_, ?_⟩, ?_, ?_, ?_, d5, d6⟩
  · rw [ai 12 (by decide)]; exact c3 i h1 h2 h3
  · rw [ai 13 (by decide)]; exact c4 i h1 h2
  · rw [gI_sIk _ _ _ _ _ (by decide)]; exact c5
  · rw [gI_sIk _ _ _ _ _ (by decide)]; exact c6
  · exact d2.cg o.N10 (fun i _ _ => rfl)
  · rw [gI_sIn _ _ _ _ _ (by decide)]; exact d3
  · rw [gI_sIe, ← d4]
    unfold w32
    omega
theorem E_line3 {g : HP} {W : Int → Int} (hF : 2000 ≤ F) (d : DoS g c W j fi how a0) (l : Lin) (kl : okL l) (q0 : 3 ≤ l.1) (i : Nat) (hl : l.2.2.2.2.2.length < 1208) (hc : ∀ (x : Nat) (z : Int), (linC l)[x]? = some z → c[i + x]? = some z) (g2 : gI g 10 2 = i) (N n : Int) (hn : n < N) (n0 : 0 ≤ n ∧ n < 1000) (k : Nat) : ∃ g', X1_doText_L45 F (k + 1) 10 N 1 n g = X1_doText_L45 F k 10 N (if (linL j fi how W l).1 then 1 else 0) (n + 1) g' ∧ DoS g' c (linL j fi how W l).2 j fi how a0 ∧ ((linL j fi how W l).1 = true → gI g' 10 2 = ((i + (linC l).length : Nat) : Int)) ∧ Ox XC g g' := by
  have L := d.1.1
  have e32 : w32 (n + 1) = n + 1 := w32i _ (by omega) (by omega)
  obtain ⟨k1, k2, k3, k4, k5, k6, k7⟩ := id kl
  have eC : linC l = (if l.1 = 3 then 263 else 264) :: (l.2.2.2.2.2.flatMap tokC ++ [-1]) := by unfold linC; rw [if_neg (by omega), if_neg (by omega), if_neg (by omega)]
  have eL : linL j fi how W l = if linV (envM W) l = 1 then (if l.1 = 4 then (false, W) else (true, wW W (169 + 882 * (j : Int) + 6) (w32 (W (169 + 882 * (j : Int) + 15) + 1)))) else (true, W) := by unfold linL; rw [if_neg (by omega), if_neg (by omega), if_neg (by omega)]
  rw [eC] at hc ⊢
  rw [eL]
  have d1 := d.at ((i + 1 : Nat) : Int)
  have hd := E_holdsC (F := F) hF d1 l kl q0 (i + 1) hl (fun x z e => by
    have := hc (x + 1) z e
    rw [show i + (x + 1) = i + 1 + x by omega] at this
    exact this) (gI_sIe _ _ _ _)
  have len : ∀ v : Int, ((i + 1 + (l.2.2.2.2.2.flatMap tokC ++ [-1]).length : Nat) : Int) = ((i + (v :: (l.2.2.2.2.2.flatMap tokC ++ [-1])).length : Nat) : Int) := fun v => by rw [List.length_cons]; omega
  have d2 := d1.at ((i + 1 + (l.2.2.2.2.2.flatMap tokC ++ [-1]).length : Nat) : Int)
  have o2 : Ox XC g (sI (sI g 10 2 ((i + 1 : Nat) : Int)) 10 2 ((i + 1 + (l.2.2.2.2.2.flatMap tokC ++ [-1]).length : Nat) : Int)) := (Ox.I g 10 2 _ rfl).tr (Ox.I _ 10 2 _ rfl)
  by_cases c3 : l.1 = 3
  · rw [if_pos c3] at hc
    have st : ∀ R, X1_doText_L176 F (X1_doText_L45 F k) 10 N 1 n (if (if linV (envM W) l = 1 then (1 : Int) else 0) = 0 then 0 else 1) (gI (sI g 10 2 ((i + 1 : Nat) : Int)) 10 7) (some 10) (sI (sI g 10 2 ((i + 1 : Nat) : Int)) 10 2 ((i + 1 + (l.2.2.2.2.2.flatMap tokC ++ [-1]).length : Nat) : Int)) = R → X1_doText_L45 F (k + 1) 10 N 1 n g = R := by
      intro R hR
      rw [← hR]
      show (if N ≤ n then _ else if (1 : Int) = 0 then _ else (xrc g (some 10) 1 8).bind _) = _
      rw [if_neg (by omega), if_neg (by decide), cR10 g _ L, b_xb _ _ _ _ (gNext (F := F) d i 263 g2 (hc 0 263 rfl)), if_neg (by decide), if_neg (by decide), if_neg (by decide), if_neg (by decide), if_neg (by decide), if_neg (by decide), if_pos rfl, cI10 (sI g 10 2 ((i + 1 : Nat) : Int)) 7 _ L, cR10 (sI g 10 2 ((i + 1 : Nat) : Int)) _ L, b_xb _ _ _ _ hd]
      rfl
    by_cases b : linV (envM W) l = 1
    · rw [if_pos b] at st
      rw [if_pos b, if_neg (show ¬ l.1 = 4 by omega)]
      refine ⟨_, st _ ?_, d2.ask, fun _ => ?_, o2.tr (Ox.I _ 10 7 _ rfl)⟩
      · unfold X1_doText_L176 X1_doText_L197
        rw [if_neg (by decide), cW10 _ 7 _ _ d2.1.1, e32]
        rw [gI_sIk (sI g 10 2 ((i + 1 : Nat) : Int)) _ _ _ _ (by decide)]
        rfl
      · rw [gI_sIk _ _ _ _ _ (by decide), gI_sIe]
        exact len _
    · rw [if_neg b] at st
      rw [if_neg b]
      refine ⟨_, st _ ?_, d2.ask0, fun _ => ?_, o2.tr (Ox.I _ 10 7 _ rfl)⟩
      · unfold X1_doText_L176 X1_doText_L197
        rw [if_pos rfl, cW10 _ 7 _ _ d2.1.1, e32]
        rw [gI_sIk (sI g 10 2 ((i + 1 : Nat) : Int)) _ _ _ _ (by decide)]
        rfl
      · rw [gI_sIk _ _ _ _ _ (by decide), gI_sIe]
        exact len _
  · rw [if_neg c3] at hc
    have st : X1_doText_L45 F (k + 1) 10 N 1 n g = X1_doText_L45 F k 10 N (if (if linV (envM W) l = 1 then (1 : Int) else 0) = 0 then 1 else 0) (n + 1) (sI (sI g 10 2 ((i + 1 : Nat) : Int)) 10 2 ((i + 1 + (l.2.2.2.2.2.flatMap tokC ++ [-1]).length : Nat) : Int)) := by
      show (if N ≤ n then _ else if (1 : Int) = 0 then _ else (xrc g (some 10) 1 8).bind _) = _
      rw [if_neg (by omega), if_neg (by decide), cR10 g _ L, b_xb _ _ _ _ (gNext (F := F) d i 264 g2 (hc 0 264 rfl)), if_neg (by decide), if_neg (by decide), if_neg (by decide), if_neg (by decide), if_neg (by decide), if_neg (by decide), if_neg (by decide)]
      unfold X1_doText_L183 X1_doText_L195 X1_doText_L197
      rw [cR10 (sI g 10 2 ((i + 1 : Nat) : Int)) _ L, b_xb _ _ _ _ hd, e32]
      rfl
    by_cases b : linV (envM W) l = 1
    · rw [if_pos b] at st
      rw [if_pos b, if_pos (show l.1 = 4 by omega)]
      exact ⟨_, st, d2, fun q => (by cases q), o2⟩
    · rw [if_neg b] at st
      rw [if_neg b]
      exact ⟨_, st, d2, fun _ => by rw [gI_sIe]; exact len _, o2⟩
end LY
