/-! what is to be said of all runs from a state -/
noncomputable def rstC (F k : Nat) (i : Int) (h12 : HP) : Option (Int × HP) := (xrc h12 (some 2) 8 17).bind fun a16 => xb (X8_takes F a16 267 h12) fun v14 h15 => if v14 = 0 then (xrc h15 (some 2) 8 17).bind fun a20 => xb (X8_takes F a20 266 h15) fun v18 h19 => X8_readCondition_L122 F (X8_readCondition_L12 F k) 2 i (if v18 = 0 then (-1) else 266) h19 else X8_readCondition_L122 F (X8_readCondition_L12 F k) 2 i 267 h15
noncomputable def ATr (F kf kc : Nat) (ic : Int) (k : Nat) (i : Int) (h : HP) : Option (Int × HP) := xb (xb (X8_dropNots_L0 F kf 2 h) (fun _ h2 => X8_closeWhatEnds_L6 F kc 2 ic h2)) (fun _ h12 => rstC F k i h12)
abbrev Out : Type := HP → Option (Int × HP) → Prop
def cls (Q : Out) : Prop := ∀ h h1 P, OT h h1 → Q h1 P → Q h P
def LPs (F : Nat) (K N B : Nat → Int) (T : Nat) (rd wr : Nat → Bool) (Q : Out) (S : List Int) (dp j : Nat) (cd : List Int) (nm : Nat → Bool) : Prop := ∀ (h : HP) (k i : Nat), SC K N B T h j cd nm rd wr → OS h S dp → i + 2 ≤ j → T + 1 ≤ j + k → Q h (X8_readCondition_L12 F k 2 i h)
def ATs (F : Nat) (K N B : Nat → Int) (T : Nat) (rd wr : Nat → Bool) (Q : Out) (S : List Int) (dp j : Nat) (cd : List Int) (nm : Nat → Bool) : Prop := ∀ (h : HP) (kf kc ic k i : Nat), SC K N B T h j cd nm rd wr → OS h S dp → S.length < kf → ic + dp ≤ 6 → 6 < kc + ic → i + 2 ≤ j → T ≤ j + k → Q h (ATr F kf kc ic k i h)
section CE
variable {F : Nat} {K N B : Nat → Int} {T : Nat} {j : Nat} {cd : List Int} {nm rd wr : Nat → Bool} {S : List Int} {dp : Nat} {Q : Out}
theorem A_not (c : cls Q) (a : ATs F K N B T rd wr Q S dp j (cd ++ [268]) nm) (room : cd.length < 1208) : ATs F K N B T rd wr Q (S ++ [268]) (dp + 1) j cd nm := by
  intro h kf kc ic k i d s h1 h2 h3 h4 h5
  have l : (S ++ [268]).length = S.length + 1 := by rw [List.length_append]; rfl
  rw [l] at h1
  obtain ⟨kf, rfl⟩ : ∃ m, kf = m + 1 := ⟨kf - 1, by omega⟩
  obtain ⟨g, p1, p2, p3, p4⟩ := T_drop1 (F := F) d s room kf
  have y := a g kf kc ic k i p2 p3 (by omega) (by omega) h3 h4 h5
  unfold ATr at y ⊢
  rw [p1]
  exact c h g _ p4 y
/-- nothing to close: on to what joins -/
theorem A_go {h : HP} (o : okK K N T) (d : SC K N B T h j cd nm rd wr) (s : OS h S dp) (n : nt S 268) {kf kc ic : Nat} (k i : Nat) (h1 : S.length < kf) (h3 : 6 < kc + ic) (h2 : ic + dp ≤ 6) (st : dp = 0 ∨ K j ≠ 41) : ATr F kf kc ic k i h = rstC F k i h := by
  have L := d.1
  obtain ⟨kf, rfl⟩ : ∃ m, kf = m + 1 := ⟨kf - 1, by omega⟩
  obtain ⟨kc, rfl⟩ : ∃ m, kc = m + 1 := ⟨kc - 1, by omega⟩
  unfold ATr
  rw [b_xb _ _ _ _ (T_drop0 (F := F) d s n kf)]
  have e : X8_closeWhatEnds_L6 F (kc + 1) 2 ic h = some ((), h) := by
    show (if (6 : Int) ≤ ic then some ((), h) else (xgI h (some 2) 8 17 12).bind fun v2 => if v2 ≤ 0 then some ((), h) else (xrc h (some 2) 8 17).bind fun a6 => xb (X8_takes F a6 41 h) fun v4 h5 => if v4 = 0 then some ((), h5) else _) = _
    by_cases c1 : (6 : Int) ≤ ic
    · rw [if_pos c1]
    · rw [if_neg c1, cI2 h 12 _ L, s.2.2.1]
      by_cases c2 : (dp : Int) ≤ 0
      · rw [if_pos c2]
      · rw [if_neg c2, cR2 h _ L]
        have c3 : K j ≠ 41 := by
          rcases st with q | q
          · omega
          · exact q
        rw [b_xb _ _ _ _ (T_takes0 o d 41 c3), if_pos rfl]
  rw [b_xb _ _ _ _ e]
/-- an and -/
theorem A_and (o : okK K N T) (c : cls Q) {p : List Int} (f : flr S) (hp : p = [] ∨ p = [266]) (e : K j = 267) (room : cd.length < 1208) (rS : S.length ≤ 18) (lp : LPs F K N B T rd wr Q (S ++ p ++ [267]) dp (j + 1) (cd ++ [267]) nm) : ATs F K N B T rd wr Q (S ++ p ++ [267]) dp j cd nm := by
  intro h kf kc ic k i d s h1 h2 h3 h4 h5
  have L := d.1
  have hT := o.1
  have lt := o.lt (j := j) (by omega)
  rw [A_go o d s (nt_app _ 267 268 (by decide)) k i h1 h3 h2 (Or.inr (by omega))]
  have lS : (S ++ p).length ≤ 19 := by rw [List.length_append]; rcases hp with q | q <;> rw [q] <;> show S.length + _ ≤ 19 <;> simp <;> omega
  have d1 := d.at (j + 1) (by omega)
  have s1 := s.ko (KO.I h 6 ((j + 1 : Nat) : Int) (by decide))
  obtain ⟨g, p1, p2, p3, p4⟩ := T_stl1 (F := F) d1 s1 room 267
  obtain ⟨g2, q1, q2, q3, q4⟩ := T_push (F := F) p2 p3 267 (by omega)
  have so : X8_settle F 2 267 (sI h 2 6 ((j + 1 : Nat) : Int)) = some ((), g) := by
    rw [p1]
    unfold X8_settle_L50
    rw [if_neg (by decide)]
  have y := lp g2 k (i + 1) q2 q3 (by omega) (by omega)
  refine c h g2 _ (((OT.I h 6 _ (by decide)).tr p4).tr q4) ?_
  have e1 : rstC F k i h = X8_readCondition_L12 F k 2 ((i + 1 : Nat) : Int) g2 := by
    unfold rstC
    rw [cR2 h _ L, b_xb _ _ _ _ (T_takes1 o d 267 e), if_neg (by decide)]
    unfold X8_readCondition_L122 X8_readCondition_L140 X8_readCondition_L171
    rw [if_pos rfl, cR2 _ _ (by exact L), b_xb _ _ _ _ so, if_neg (by decide), cR2 _ _ p2.1, b_xb _ _ _ _ q1, w32j (by omega)]
  rw [e1]
  exact y
theorem A_and0 (o : okK K N T) (c : cls Q) {p : List Int} (f : flr S) (hp : p = [] ∨ p = [266]) (e : K j = 267) (rS : S.length ≤ 18) (lp : LPs F K N B T rd wr Q (S ++ p ++ [267]) dp (j + 1) cd nm) : ATs F K N B T rd wr Q (S ++ p) dp j cd nm := by
  intro h kf kc ic k i d s h1 h2 h3 h4 h5
  have L := d.1
  have hT := o.1
  have lt := o.lt (j := j) (by omega)
  have hp' : pnd p := by rcases hp with q | q <;> rw [q]; exact Or.inl rfl; exact Or.inr (Or.inr (Or.inl rfl))
  rw [A_go o d s (f.no2 hp') k i h1 h3 h2 (Or.inr (by omega))]
  have lS : (S ++ p).length ≤ 19 := by rw [List.length_append]; rcases hp with q | q <;> rw [q] <;> show S.length + _ ≤ 19 <;> simp <;> omega
  have n7 : nt (S ++ p) 267 := by
    rcases hp with q | q <;> rw [q]
    · rw [List.append_nil]; exact f.no 267 (by decide)
    · exact nt_app S 266 267 (by decide)
  have d1 := d.at (j + 1) (by omega)
  have s1 := s.ko (KO.I h 6 ((j + 1 : Nat) : Int) (by decide))
  obtain ⟨g2, q1, q2, q3, q4⟩ := T_push (F := F) d1 s1 267 (by omega)
  have so : X8_settle F 2 267 (sI h 2 6 ((j + 1 : Nat) : Int)) = some ((), sI h 2 6 ((j + 1 : Nat) : Int)) := by
    rw [T_stl0 (F := F) d1 s1 n7 267]
    unfold X8_settle_L50
    rw [if_neg (by decide)]
  have y := lp g2 k (i + 1) q2 q3 (by omega) (by omega)
  refine c h g2 _ ((OT.I h 6 _ (by decide)).tr q4) ?_
  have e1 : rstC F k i h = X8_readCondition_L12 F k 2 ((i + 1 : Nat) : Int) g2 := by
    unfold rstC
    rw [cR2 h _ L, b_xb _ _ _ _ (T_takes1 o d 267 e), if_neg (by decide)]
    unfold X8_readCondition_L122 X8_readCondition_L140 X8_readCondition_L171
    rw [if_pos rfl, cR2 _ _ (by exact L), b_xb _ _ _ _ so, if_neg (by decide), cR2 _ _ (by exact L), b_xb _ _ _ _ q1, w32j (by omega)]
  rw [e1]
  exact y
/-- an or -/
theorem A_or (o : okK K N T) (c : cls Q) {p : List Int} (f : flr S) (hp : pnd p) (e : K j = 266) (room : cd.length + p.length ≤ 1208) (rS : S.length ≤ 18) (lp : LPs F K N B T rd wr Q (S ++ [266]) dp (j + 1) (cd ++ p.reverse) nm) : ATs F K N B T rd wr Q (S ++ p) dp j cd nm := by
  intro h kf kc ic k i d s h1 h2 h3 h4 h5
  have L := d.1
  have hT := o.1
  have lt := o.lt (j := j) (by omega)
  rw [A_go o d s (f.no2 hp) k i h1 h3 h2 (Or.inr (by omega))]
  have d1 := d.at (j + 1) (by omega)
  have s1 := s.ko (KO.I h 6 ((j + 1 : Nat) : Int) (by decide))
  obtain ⟨g, p1, p2, p3, p4⟩ := T_stlA (F := F) d1 f hp s1 room
  obtain ⟨g2, q1, q2, q3, q4⟩ := T_push (F := F) p2 p3 266 (by omega)
  have y := lp g2 k (i + 1) q2 q3 (by omega) (by omega)
  refine c h g2 _ (((OT.I h 6 _ (by decide)).tr p4).tr q4) ?_
  have e1 : rstC F k i h = X8_readCondition_L12 F k 2 ((i + 1 : Nat) : Int) g2 := by
    unfold rstC
    rw [cR2 h _ L, b_xb _ _ _ _ (T_takes0 o d 267 (by omega)), if_pos rfl, cR2 h _ L, b_xb _ _ _ _ (T_takes1 o d 266 e), if_neg (by decide)]
    unfold X8_readCondition_L122 X8_readCondition_L140 X8_readCondition_L171
    rw [if_neg (by decide), cR2 _ _ (by exact L), b_xb _ _ _ _ p1, if_neg (by decide), cR2 _ _ p2.1, b_xb _ _ _ _ q1, w32j (by omega)]
  rw [e1]
  exact y
/-- a ) -/
theorem A_close (o : okK K N T) (hF : 500 ≤ F) (c : cls Q) {p : List Int} (hp : pnd p) (e : K j = 41) (room : cd.length + p.length ≤ 1208) (at1 : ATs F K N B T rd wr Q S dp (j + 1) (cd ++ p.reverse) nm) : ATs F K N B T rd wr Q (S ++ [40] ++ p) (dp + 1) j cd nm := by
  intro h kf kc ic k i d s h1 h2 h3 h4 h5
  have L := d.1
  have hT := o.1
  have lt := o.lt (j := j) (by omega)
  have f : flr (S ++ [40]) := Or.inr ⟨S, rfl⟩
  obtain ⟨kf, rfl⟩ : ∃ m, kf = m + 1 := ⟨kf - 1, by omega⟩
  obtain ⟨kc, rfl⟩ : ∃ m, kc = m + 1 := ⟨kc - 1, by omega⟩
  have d1 := d.at (j + 1) (by omega)
  have s1 := s.ko (KO.I h 6 ((j + 1 : Nat) : Int) (by decide))
  obtain ⟨g, p1, p2, p3, p4⟩ := T_stlA (F := F) d1 f hp s1 room
  have Lg := p2.1
  obtain ⟨t1, t2, t3⟩ := p3.top
  have e1 : Unit → max 0 (w32 ((S.length : Int) + 1 - 1)) = (S.length : Int) := fun _ => by rw [w32i _ (by omega) (by omega)]; omega
  have e2 : Unit → w32 (((dp + 1 : Nat) : Int) - 1) = (dp : Int) := fun _ => by rw [w32i _ (by omega) (by omega)]; omega
  have e3 : Unit → w32 ((ic : Int) + 1) = ((ic + 1 : Nat) : Int) := fun _ => w32j (by omega)
  have d2 := (p2.fld 11 (S.length : Int) (by decide)).fld 12 (dp : Int) (by decide)
  have s2 := (p3.pop (S.length : Int) rfl).dp dp (by omega)
  have og : OT h (sI (sI g 2 11 (S.length : Int)) 2 12 (dp : Int)) := ((OT.I h 6 _ (by decide)).tr p4).tr ((OT.I _ 11 _ (by decide)).tr (OT.I _ 12 _ (by decide)))
  have y := at1 _ F kc (ic + 1) k i d2 s2 (by have := s2.1; omega) (by omega) (by omega) (by omega) (by omega)
  refine c h _ _ og ?_
  have e4 : ATr F (kf + 1) (kc + 1) ic k i h = ATr F F kc ((ic + 1 : Nat) : Int) k i (sI (sI g 2 11 (S.length : Int)) 2 12 (dp : Int)) := by
    unfold ATr
    rw [b_xb _ _ _ _ (T_drop0 (F := F) d s (f.no2 hp) kf)]
    have e5 : X8_closeWhatEnds_L6 F (kc + 1) 2 ic h = xb (X8_dropNots_L0 F F 2 (sI (sI g 2 11 (S.length : Int)) 2 12 (dp : Int))) (fun _ h2 => X8_closeWhatEnds_L6 F kc 2 ((ic + 1 : Nat) : Int) h2) := by
      show (if (6 : Int) ≤ ic then some ((), h) else (xgI h (some 2) 8 17 12).bind fun v2 => if v2 ≤ 0 then some ((), h) else (xrc h (some 2) 8 17).bind fun a6 => xb (X8_takes F a6 41 h) fun v4 h5 => if v4 = 0 then some ((), h5) else (xrc h5 (some 2) 8 17).bind fun a10 => xb (X8_settle F a10 266 h5) fun v8 h9 => (xgI h9 (some 2) 8 17 11).bind fun v11 => (xpI h9 (some 2) 8 17 11 (max 0 (w32 (v11 - 1)))).bind fun h12 => (xgI h12 (some 2) 8 17 12).bind fun v13 => (xpI h12 (some 2) 8 17 12 (w32 (v13 - 1))).bind fun h14 => (xrc h14 (some 2) 8 17).bind fun a17 => xb (X8_dropNots F a17 h14) fun v15 h16 => X8_closeWhatEnds_L6 F kc 2 (w32 ((ic : Int) + 1)) h16) = _
      rw [if_neg (by omega), cI2 h 12 _ L, s.2.2.1, if_neg (by omega), cR2 h _ L, b_xb _ _ _ _ (T_takes1 o d 41 e), if_neg (by decide), cR2 _ _ (by exact L), b_xb _ _ _ _ p1, cI2 g 11 _ Lg, t2, e1 (), cW2 g 11 _ _ Lg, cI2 _ 12 _ (by exact Lg), gI_sIk _ _ _ _ _ (by decide), p3.2.2.1, e2 (), cW2 _ 12 _ _ (by exact Lg), cR2 _ _ (by exact Lg), e3 ()]
      rfl
    rw [e5]
  rw [e4]
  exact y
/-- the end of a condition -/
theorem A_end (o : okK K N T) (c : cls Q) {p : List Int} (f : flr S) (hp : pnd p) (e7 : K j ≠ 267) (e6 : K j ≠ 266) (e1 : dp = 0 ∨ K j ≠ 41) (room : cd.length + p.length < 1208) (g1 : S = [] → ∀ h h', SC K N B T h' j (cd ++ p.reverse ++ [-1]) nm rd wr → OT h h' → Q h (some (1, h'))) (g0 : S ≠ [] → ∀ h h', SF0 K N B T h' j → OT h h' → Q h (some (0, h'))) : ATs F K N B T rd wr Q (S ++ p) dp j cd nm := by
  intro h kf kc ic k i d s h1 h2 h3 h4 h5
  have L := d.1
  rw [A_go o d s (f.no2 hp) k i h1 h3 h2 e1]
  obtain ⟨g, p1, p2, p3, p4⟩ := T_stlA (F := F) d f hp s (by omega)
  have lr : (cd ++ p.reverse).length = cd.length + p.length := by rw [List.length_append, List.length_reverse]
  obtain ⟨g2, q1, q2, q3, q4, q5⟩ := T_emit (F := F) p2 (-1) (by omega)
  have s2 := p3.ko (KO.mk9 q3 q4 q5)
  have e9 : rstC F k i h = some (if (S.length : Int) = 0 then 1 else 0, g2) := by
    unfold rstC
    rw [cR2 h _ L, b_xb _ _ _ _ (T_takes0 o d 267 e7), if_pos rfl, cR2 h _ L, b_xb _ _ _ _ (T_takes0 o d 266 e6), if_pos rfl]
    unfold X8_readCondition_L122 X8_readCondition_L140
    rw [if_neg (by decide), cR2 _ _ L, b_xb _ _ _ _ p1, if_pos rfl, cR2 _ _ p2.1, b_xb _ _ _ _ q1, cI2 _ 11 _ q2.1, s2.2.1]
  rw [e9]
  by_cases cS : S = []
  · rw [if_pos (by rw [cS]; rfl)]
    exact g1 cS h g2 q2 (p4.tr q3)
  · have : S.length ≠ 0 := fun z => cS (List.length_eq_zero_iff.mp z)
    rw [if_neg (by omega)]
    exact g0 cS h g2 q2.f0 (p4.tr q3)
end CE
