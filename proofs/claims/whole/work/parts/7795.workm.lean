section WK
variable {F : Nat} {W : Int → Int}
/-- the reference's stack -/
def StM (st : List Int) (h : HP) : Prop := ∀ (i : Nat) (v : Int), st[i]? = some v → aJ h 120 ((st.length - 1 - i : Nat) : Int) = v
theorem StM.push {st : List Int} {h : HP} (b : StM st h) (x : Int) : StM (x :: st) (sB h 120 st.length x) := by
  intro i v e
  have hi : i < (x :: st).length := (List.getElem?_eq_some_iff.mp e).1
  rw [List.length_cons] at hi ⊢
  rw [aJ_sB _ _ _ _ _ (by omega) (by omega)]
  cases i with
  | zero =>
    have : x = v := by simpa using e
    rw [if_pos (by omega), this]
  | succ i =>
    have e' : st[i]? = some v := by simpa using e
    rw [if_neg (by omega), show st.length + 1 - 1 - (i + 1) = st.length - 1 - i by omega]
    exact b i v e'
theorem StM.top {a : Int} {st : List Int} {h : HP} (b : StM (a :: st) h) (x : Int) : StM (x :: st) (sB h 120 st.length x) := by
  intro i v e
  have hi : i < (x :: st).length := (List.getElem?_eq_some_iff.mp e).1
  rw [List.length_cons] at hi ⊢
  rw [aJ_sB _ _ _ _ _ (by omega) (by omega)]
  cases i with
  | zero =>
    have : x = v := by simpa using e
    rw [if_pos (by omega), this]
  | succ i =>
    have e' : st[i]? = some v := by simpa using e
    have := b (i + 1) v (by simpa using e')
    rw [List.length_cons] at this
    rw [if_neg (by omega)]
    exact this
theorem StM.top2 {a c : Int} {st : List Int} {h : HP} (b : StM (a :: c :: st) h) (x : Int) : StM (x :: st) (sB h 120 st.length x) := by
  intro i v e
  have hi : i < (x :: st).length := (List.getElem?_eq_some_iff.mp e).1
  rw [List.length_cons] at hi ⊢
  rw [aJ_sB _ _ _ _ _ (by omega) (by omega)]
  cases i with
  | zero =>
    have : x = v := by simpa using e
    rw [if_pos (by omega), this]
  | succ i =>
    have e' : st[i]? = some v := by simpa using e
    have := b (i + 1 + 1) v (by simpa using e')
    rw [List.length_cons, List.length_cons] at this
    rw [if_neg (by omega), show st.length + 1 - 1 - (i + 1) = st.length + 1 + 1 - 1 - (i + 1 + 1) by omega]
    exact this
/-- one step of the program -/
theorem E_wk1 {h : HP} (L : LayM h) (rW : aI h 114 = W) (j : Nat) (hj : j < 12) (l : Int) (l0 : 0 ≤ l ∧ l ≤ 76) (x : Nat) (hx : x < 400) (hx2 : (x : Int) < W (169 + 882 * j + (l + 5))) (s : Int × Int) (s1 : W (169 + 882 * j + (82 + 2 * x)) = s.1) (s2 : W (169 + 882 * j + (82 + 2 * x + 1)) = s.2) (sn : 0 ≤ s.1 ∧ s.1 ≤ 12) (sw : s.1 = 1 ∨ s.1 = 2 → 0 ≤ s.2 ∧ s.2 ≤ 63) (st st' : List Int) (hs : st.length ≤ x) (b : StM st h) (ev : stM (envM W) s st = some st') (f : Nat) : ∃ h', X12_worked_L12 F (f + 1) 113 j l st.length x h = X12_worked_L12 F f 113 j l st'.length ((x + 1 : Nat) : Int) h' ∧ Oj 120 h h' ∧ StM st' h' := by
  have e1 : w32 ((x : Int) + 1) = ((x + 1 : Nat) : Int) := by rw [w32i _ (by omega) (by omega)]; omega
  have i5 : w32 (l + 5) = l + 5 := w32i _ (by omega) (by omega)
  have ia : w32 (82 + w32 (2 * (x : Int))) = 82 + 2 * x := by rw [w32i (2 * (x : Int)) (by omega) (by omega), w32i _ (by omega) (by omega)]
  have ib : w32 (82 + 2 * (x : Int) + 1) = 82 + 2 * x + 1 := w32i _ (by omega) (by omega)
  have q1 := E_its (F := F) (h := h) (j : Int) (l + 5) L (by omega)
  have q2 := E_its (F := F) (h := h) (j : Int) (82 + 2 * x) L (by omega)
  have q3 := E_its (F := F) (h := h) (j : Int) (82 + 2 * x + 1) L (by omega)
  rw [rW] at q1 q2 q3
  rw [s1] at q2
  rw [s2] at q3
  have hd : ∀ (rest : HP → Option (Int × HP)), True := fun _ => trivial
  have st0 : X12_worked_L12 F (f + 1) 113 j l st.length x h = (if 4 < s.1 then
      (if s.1 = 5 then
          (xgP h (some 113) 12 31 17).bind fun v32 =>
          (xaJ h v32 (w32 ((st.length : Int) - 1))).bind fun v33 =>
          (xsJ h v32 (w32 ((st.length : Int) - 1)) (w64 (v33 * s.2))).bind fun h34 =>
          X12_worked_L325 F (X12_worked_L12 F f) 113 j l st.length x h34
        else
          if s.1 = 10 then
            (xgP h (some 113) 12 31 17).bind fun v28 =>
            (xgP h (some 113) 12 31 17).bind fun v29 =>
            (xaJ h v29 (w32 ((st.length : Int) - 1))).bind fun v30 =>
            (xsJ h v28 (w32 ((st.length : Int) - 1)) (w64 (1 - v30))).bind fun h31 =>
            X12_worked_L325 F (X12_worked_L12 F f) 113 j l st.length x h31
          else
            (xgP h (some 113) 12 31 17).bind fun v16 =>
            (xaJ h v16 (w32 ((w32 ((st.length : Int) + (-1))) - 1))).bind fun v17 =>
            (xgP h (some 113) 12 31 17).bind fun v18 =>
            (xaJ h v18 (w32 ((st.length : Int) + (-1)))).bind fun v19 =>
            (xgP h (some 113) 12 31 17).bind fun v20 =>
            X12_worked_L324 F (X12_worked_L12 F f) 113 j l (w32 ((st.length : Int) + (-1))) x (if s.1 = 6 then w64 (v17 + v19) else if s.1 = 7 then w64 (v17 - v19) else if s.1 = 8 then if 0 ≤ (xcmp v17 v19) then 0 else 1 else if s.1 = 9 then if (xcmp v17 v19) ≤ 0 then 0 else 1 else if s.1 = 11 then w64 (v17 * v19) else max v17 v19) (w32 ((w32 ((st.length : Int) + (-1))) - 1)) v20 h)
      else
        (xgP h (some 113) 12 31 17).bind fun v35 =>
        if s.1 = 0 then
          X12_worked_L140 F (X12_worked_L12 F f) 113 j l st.length x s.2 st.length v35 h
        else
          if s.1 = 1 then
            (xgP h (some 113) 12 31 1).bind fun v46 =>
            (xaI h v46 100 (w32 (9 + s.2))).bind fun v47 =>
            X12_worked_L140 F (X12_worked_L12 F f) 113 j l st.length x v47 st.length v35 h
          else
            if s.1 = 2 then
              (xgP h (some 113) 12 31 1).bind fun v44 =>
              (xaI h v44 100 (w32 (73 + s.2))).bind fun v45 =>
              X12_worked_L140 F (X12_worked_L12 F f) 113 j l st.length x v45 st.length v35 h
            else
              if s.1 = 3 then
                (xgP h (some 113) 12 31 1).bind fun v42 =>
                (xaI h v42 100 1).bind fun v43 =>
                X12_worked_L140 F (X12_worked_L12 F f) 113 j l st.length x v43 st.length v35 h
              else
                (xgP h (some 113) 12 31 1).bind fun v40 =>
                (xaI h v40 100 2).bind fun v41 =>
                X12_worked_L140 F (X12_worked_L12 F f) 113 j l st.length x v41 st.length v35 h) := by
    rw [X12_worked_L12_s, mR113 h _ L, i5, b_xb _ _ _ _ q1, if_neg (by omega), mR113 h _ L, ia, b_xb _ _ _ _ q2, mR113 h _ L, ib, b_xb _ _ _ _ q3]
  rw [st0]
  clear st0 q1 q2 q3 s1 s2 hx2
  -- a push
  have push : ∀ v, stM (envM W) s st = some (v :: st) → X12_worked_L140 F (X12_worked_L12 F f) 113 j l st.length x v st.length (some 120) h = X12_worked_L12 F f 113 j l (v :: st).length ((x + 1 : Nat) : Int) (sB h 120 st.length v) := by
    intro v _
    unfold X12_worked_L140 X12_worked_L325
    rw [mS120 h _ _ _ L (by omega) (by omega), e1, w32i _ (by omega) (by omega), List.length_cons]
    rfl
  have fin : ∀ v, stM (envM W) s st = some (v :: st) → ∃ h', X12_worked_L140 F (X12_worked_L12 F f) 113 j l st.length x v st.length (some 120) h = X12_worked_L12 F f 113 j l st'.length ((x + 1 : Nat) : Int) h' ∧ Oj 120 h h' ∧ StM st' h' := by
    intro v hv
    have := ev.symm.trans hv
    cases this
    exact ⟨_, push v hv, Oj.B 120 h _ _, b.push v⟩
  by_cases c4 : 4 < s.1
  · rw [if_pos c4]
    clear fin push
    unfold stM at ev
    rw [if_neg (by omega), if_neg (by omega), if_neg (by omega), if_neg (by omega), if_neg (by omega)] at ev
    cases st with
    | nil => cases ev
    | cons a r =>
      rw [List.length_cons] at hs
      have ta : aJ h 120 r.length = a := by
        have := b 0 a rfl
        rw [List.length_cons, show r.length + 1 - 1 - 0 = r.length by omega] at this; exact this
      have lr : w32 (((a :: r).length : Int) - 1) = r.length := by rw [List.length_cons, w32i _ (by omega) (by omega)]; omega
      have lr2 : w32 (((a :: r).length : Int) + -1) = r.length := by rw [List.length_cons, w32i _ (by omega) (by omega)]; omega
      by_cases c5 : s.1 = 5
      · change (if s.1 = 5 then _ else _) = _ at ev
        rw [if_pos c5] at ev
        cases ev
        refine ⟨sB h 120 r.length (w64 (a * s.2)), ?_, Oj.B 120 h _ _, b.top _⟩
        rw [if_pos c5, mP113_17 h _ L, lr, mA120 h _ _ L (by omega) (by omega), ta, mS120 h _ _ _ L (by omega) (by omega)]
        unfold X12_worked_L325
        rw [e1]; rfl
      · change (if s.1 = 5 then _ else if s.1 = 10 then _ else _) = _ at ev
        rw [if_neg c5] at ev
        rw [if_neg c5]
        by_cases c6 : s.1 = 10
        · rw [if_pos c6] at ev
          cases ev
          refine ⟨sB h 120 r.length (w64 (1 - a)), ?_, Oj.B 120 h _ _, b.top _⟩
          rw [if_pos c6, mP113_17 h _ L, mP113_17 h _ L, lr, mA120 h _ _ L (by omega) (by omega), ta, mS120 h _ _ _ L (by omega) (by omega)]
          unfold X12_worked_L325
          rw [e1]; rfl
        · rw [if_neg c6] at ev
          rw [if_neg c6]
          cases r with
          | nil => cases ev
          | cons c r =>
            rw [List.length_cons] at hs
            have tc : aJ h 120 r.length = c := by
              have := b 1 c rfl
              rw [List.length_cons, List.length_cons, show r.length + 1 + 1 - 1 - 1 = r.length by omega] at this; exact this
            have lr3 : w32 (((c :: r).length : Int) - 1) = r.length := by rw [List.length_cons, w32i _ (by omega) (by omega)]; omega
            obtain ⟨y, ey⟩ : ∃ y, y = (if s.1 = 6 then w64 (c + a) else if s.1 = 7 then w64 (c - a) else if s.1 = 8 then (if c < a then 1 else 0) else if s.1 = 9 then (if a < c then 1 else 0) else if s.1 = 11 then w64 (c * a) else max c a) := ⟨_, rfl⟩
            have ev' : st' = y :: r := by rw [ey]; cases ev; rfl
            subst ev'
            have ex : (if s.1 = 6 then w64 (c + a) else if s.1 = 7 then w64 (c - a) else if s.1 = 8 then if 0 ≤ (xcmp c a) then 0 else 1 else if s.1 = 9 then if (xcmp c a) ≤ 0 then 0 else 1 else if s.1 = 11 then w64 (c * a) else max c a) = y := by
              rw [ey]
              have z1 : (if 0 ≤ xcmp c a then (0 : Int) else 1) = if c < a then 1 else 0 := by
                by_cases w : c < a
                · rw [if_neg (fun q => by have := (xcmp_ge _ _).mp q; omega), if_pos w]
                · rw [if_pos ((xcmp_ge _ _).mpr (by omega)), if_neg w]
              have z2 : (if xcmp c a ≤ 0 then (0 : Int) else 1) = if a < c then 1 else 0 := by
                by_cases w : a < c
                · rw [if_neg (fun q => by have := (xcmp_le _ _).mp q; omega), if_pos w]
                · rw [if_pos ((xcmp_le _ _).mpr (by omega)), if_neg w]
              rw [z1, z2]
            refine ⟨sB h 120 r.length y, ?_, Oj.B 120 h _ _, b.top2 _⟩
            have L1 : (((c :: r).length : Nat) : Int) < 400 := by rw [List.length_cons]; omega
            have L2 : (0 : Int) ≤ ((c :: r).length : Nat) := by omega
            clear ey
            rw [mP113_17 h _ L, lr2, lr3, mA120 h _ _ L (by omega) (by omega), tc, mP113_17 h _ L, mA120 h _ _ L L2 L1, ta, mP113_17 h _ L, ex]
            unfold X12_worked_L324 X12_worked_L325
            rw [mS120 h _ _ _ L (by omega) (by omega), e1, List.length_cons, List.length_cons]
  · rw [if_neg c4, mP113_17 h _ L]
    by_cases c0 : s.1 = 0
    · rw [if_pos c0]
      exact fin s.2 (by unfold stM; rw [if_pos c0])
    · rw [if_neg c0]
      by_cases c1 : s.1 = 1
      · have sb := sw (Or.inl c1)
        rw [if_pos c1, mP113_1 h _ L, w32i _ (by omega) (by omega), mA114 h _ _ L (by omega) (by omega), rW]
        exact fin _ (by unfold stM; rw [if_neg c0, if_pos c1]; rfl)
      · rw [if_neg c1]
        by_cases c2 : s.1 = 2
        · have sb := sw (Or.inr c2)
          rw [if_pos c2, mP113_1 h _ L, w32i _ (by omega) (by omega), mA114 h _ _ L (by omega) (by omega), rW]
          exact fin _ (by unfold stM; rw [if_neg c0, if_neg c1, if_pos c2]; rfl)
        · rw [if_neg c2]
          by_cases c3 : s.1 = 3
          · rw [if_pos c3, mP113_1 h _ L, mA114 h _ _ L (by omega) (by omega), rW]
            exact fin _ (by unfold stM; rw [if_neg c0, if_neg c1, if_neg c2, if_pos c3]; rfl)
          · rw [if_neg c3, mP113_1 h _ L, mA114 h _ _ L (by omega) (by omega), rW]
            exact fin _ (by unfold stM; rw [if_neg c0, if_neg c1, if_neg c2, if_neg c3, if_pos (by omega)]; rfl)
/-- all the steps of a line -/
theorem E_wk {h0 : HP} (rW : aI h0 114 = W) (j : Nat) (hj : j < 12) (l : Int) (l0 : 0 ≤ l ∧ l ≤ 76) (x1 : Nat) (hx1 : x1 ≤ 400) (e1 : W (169 + 882 * j + (l + 5)) = x1) (v : Int) : ∀ (ts : List (Int × Int)) (x k : Nat) (st : List Int) (h : HP), ts.length < k → x + ts.length = x1 → LayM h → aI h 114 = W → StM st h → st.length ≤ x → (∀ (i : Nat) (s : Int × Int), ts[i]? = some s → W (169 + 882 * j + (82 + 2 * ((x + i : Nat) : Int))) = s.1 ∧ W (169 + 882 * j + (82 + 2 * ((x + i : Nat) : Int) + 1)) = s.2 ∧ (0 ≤ s.1 ∧ s.1 ≤ 12) ∧ (s.1 = 1 ∨ s.1 = 2 → 0 ≤ s.2 ∧ s.2 ≤ 63)) → evM (envM W) ts st = some [v] → ∃ h', X12_worked_L12 F k 113 j l st.length x h = some (v, h') ∧ Oj 120 h h' := by
  intro ts
  induction ts with
  | nil =>
    intro x k st h hk hx L rw' b hs _ ev
    obtain ⟨k, rfl⟩ : ∃ k', k = k' + 1 := ⟨k - 1, by simp at hk; omega⟩
    cases ev
    have t0 : aJ h 120 0 = v := b 0 v rfl
    have i5 : w32 (l + 5) = l + 5 := w32i _ (by omega) (by omega)
    have q1 := E_its (F := F) (h := h) (j : Int) (l + 5) L (by omega)
    rw [rw', e1] at q1
    refine ⟨h, ?_, Oj.rf _ _⟩
    rw [X12_worked_L12_s, mR113 h _ L, i5, b_xb _ _ _ _ q1, if_pos (by simp at hx; omega), mP113_17 h _ L, mA120 h _ _ L (by decide) (by decide), t0]
  | cons s ts ih =>
    intro x k st h hk hx L rw' b hs hc ev
    obtain ⟨k, rfl⟩ : ∃ k', k = k' + 1 := ⟨k - 1, by omega⟩
    rw [List.length_cons] at hk hx
    obtain ⟨c1, c2, c3, c4⟩ := hc 0 s rfl
    cases e2 : stM (envM W) s st with
    | none =>
      change (stM (envM W) s st).bind _ = _ at ev
      rw [e2] at ev; cases ev
    | some st' =>
      have ev' : evM (envM W) ts st' = some [v] := by
        change (stM (envM W) s st).bind _ = _ at ev
        rw [e2] at ev; exact ev
      have ln := stM_len e2
      obtain ⟨h1, a1, a2, a3⟩ := E_wk1 (F := F) L rw' j hj l l0 x (by omega) (by rw [e1]; omega) s c1 c2 c3 c4 st st' hs b e2 k
      obtain ⟨h2, b1, b2⟩ := ih (x + 1) k st' h1 (by omega) (by omega) (a2.M L) (by rw [a2.i]; exact rw') a3 (by omega) (fun i q hq => by
        have := hc (i + 1) q hq
        rw [show x + 1 + i = x + (i + 1) by omega]; exact this) ev'
      exact ⟨h2, by rw [a1, b1], a2.tr b2⟩
end WK
/-! a line's value -/
theorem envM_ok {W : Int → Int} (w : ∀ i : Int, 0 ≤ i → i < 64 → in32 (W (9 + i)) ∧ in32 (W (73 + i))) (d : 0 ≤ W 1 ∧ W 1 ≤ 6 ∧ 0 ≤ W 2 ∧ W 2 ≤ 9) : okE (envM W) := by
  refine ⟨fun i h0 h1 => ?_, fun i h0 h1 => ?_, ⟨d.1, by show W 1 ≤ 9; omega⟩, ⟨d.2.2.1, d.2.2.2⟩⟩
  · have := (w i h0 (by omega)).1
    unfold in32 at this
    show -2147483648 ≤ W (9 + i) ∧ W (9 + i) ≤ 2147483648
    omega
  · have := (w i h0 (by omega)).2
    unfold in32 at this
    show -2147483648 ≤ W (73 + i) ∧ W (73 + i) ≤ 2147483648
    omega
/-- what may stand in a step -/
def okSt (s : Int × Int) : Prop := (0 ≤ s.1 ∧ s.1 ≤ 12) ∧ (s.1 = 1 ∨ s.1 = 2 → 0 ≤ s.2 ∧ s.2 ≤ 63)
theorem okSt.m (a b : Int) (h1 : 0 ≤ a ∧ a ≤ 12) (h2 : a = 1 ∨ a = 2 → 0 ≤ b ∧ b ≤ 63) : okSt (a, b) := ⟨h1, h2⟩
theorem okSt.prt {p : Prt} (k : okP p) : ∀ s ∈ prtM p, okSt s := by
  intro s hs
  obtain ⟨k1, k2⟩ := k
  unfold prtM at hs
  rcases List.mem_cons.mp hs with h | h
  · subst h
    unfold whtM
    rcases k2 with ⟨a, b, c⟩ | ⟨a | a, b, c⟩ | ⟨a | a, b⟩
    · rw [if_pos a]; exact okSt.m 0 _ (by decide) (fun q => absurd q (by decide))
    · rw [if_neg (by omega), if_pos a]; exact okSt.m 1 _ (by decide) (fun _ => ⟨b, c⟩)
    · rw [if_neg (by omega), if_neg (by omega), if_pos a]; exact okSt.m 2 _ (by decide) (fun _ => ⟨b, c⟩)
    · rw [if_neg (by omega), if_neg (by omega), if_neg (by omega), if_pos a]; exact okSt.m 3 _ (by decide) (fun q => absurd q (by decide))
    · rw [if_neg (by omega), if_neg (by omega), if_neg (by omega), if_neg (by omega)]; exact okSt.m 4 _ (by decide) (fun q => absurd q (by decide))
  · cases e : p.2.1 with
    | none => rw [e] at h; simp at h
    | some m =>
      rw [e] at h
      have := List.mem_singleton.mp h
      subst this
      exact okSt.m 5 m (by decide) (fun q => absurd q (by decide))
theorem okSt.sum {s : List Prt} (k : okS s) : ∀ x ∈ sumM s, okSt x := by
  obtain ⟨k1, k2, k3, p, ps, rfl, kf⟩ := k
  intro x hx
  rcases List.mem_append.mp hx with h | h
  · exact okSt.prt (k3 p (by simp)) x h
  · obtain ⟨q, hq, h⟩ := List.mem_flatMap.mp h
    rcases List.mem_append.mp h with h | h
    · exact okSt.prt (k3 q (by simp [hq])) x h
    · have := List.mem_singleton.mp h
      subst this
      unfold okSt
      by_cases c : q.1 = true
      · rw [if_pos c]; exact ⟨⟨by decide, by decide⟩, fun q => by rcases q with q | q <;> exact absurd q (by decide)⟩
      · rw [if_neg c]; exact ⟨⟨by decide, by decide⟩, fun q => by rcases q with q | q <;> exact absurd q (by decide)⟩
theorem okSt.tok {t : Ctk} (k : okT t) : ∀ x ∈ tokM t, okSt x := by
  obtain ⟨k1, k2⟩ := k
  intro x hx
  have one : ∀ n : Int, 8 ≤ n → n ≤ 12 → okSt (n, 0) := fun n h1 h2 => ⟨⟨by show 0 ≤ n; omega, h2⟩, fun q => by
    rcases q with q | q
    · have : n = 1 := q; omega
    · have : n = 2 := q; omega⟩
  unfold tokM at hx
  by_cases a : t.1 = 0
  · rw [if_pos a] at hx
    obtain ⟨s1, s2⟩ := k2 (by omega)
    rcases List.mem_append.mp hx with h | h
    · rcases List.mem_append.mp h with h | h
      · exact okSt.sum s1 x h
      · exact okSt.sum s2 x h
    · rw [List.mem_singleton.mp h]; exact one 8 (by decide) (by decide)
  · rw [if_neg a] at hx
    by_cases b : t.1 = 1
    · rw [if_pos b] at hx
      obtain ⟨s1, s2⟩ := k2 (by omega)
      rcases List.mem_append.mp hx with h | h
      · rcases List.mem_append.mp h with h | h
        · exact okSt.sum s1 x h
        · exact okSt.sum s2 x h
      · rw [List.mem_singleton.mp h]; exact one 9 (by decide) (by decide)
    · rw [if_neg b] at hx
      by_cases c : t.1 = 2
      · rw [if_pos c] at hx; rw [List.mem_singleton.mp hx]; exact one 10 (by decide) (by decide)
      · rw [if_neg c] at hx
        by_cases d : t.1 = 3
        · rw [if_pos d] at hx; rw [List.mem_singleton.mp hx]; exact one 11 (by decide) (by decide)
        · rw [if_neg d] at hx; rw [List.mem_singleton.mp hx]; exact one 12 (by decide) (by decide)
/-- what a line's steps come to -/
def linV (e : EnT) (l : Lin) : Int := if l.1 = 0 then suV e l.2.2.2.2.1 0 else bI ((evT e l.2.2.2.2.2 []).headD false)
theorem linM_ev {e : EnT} (o : okE e) {l : Lin} (k : okL l) (q : l.1 = 0 ∨ 3 ≤ l.1) : evM e (linM l) [] = some [linV e l] ∧ ∀ x ∈ linM l, okSt x := by
  obtain ⟨k1, k2, k3, k4, k5, k6, k7⟩ := k
  rcases q with q | q
  · have e1 : linM l = sumM l.2.2.2.2.1 := by unfold linM; rw [if_pos q]
    have e2 : linV e l = suV e l.2.2.2.2.1 0 := by unfold linV; rw [if_pos q]
    rw [e1, e2]
    exact ⟨sum_ev o _ (k4 q).2.2 [], okSt.sum (k4 q).2.2⟩
  · have e1 : linM l = l.2.2.2.2.2.flatMap tokM := by unfold linM; rw [if_neg (by omega), if_pos q]
    have e2 : linV e l = bI ((evT e l.2.2.2.2.2 []).headD false) := by unfold linV; rw [if_neg (by omega)]
    rw [e1, e2]
    obtain ⟨c1, c2⟩ := cond_ev o l.2.2.2.2.2 [] 1 (k7 q).2 (k7 q).1
    refine ⟨?_, fun x hx => ?_⟩
    · change evM e (l.2.2.2.2.2.flatMap tokM) [] = _ at c1
      rw [c1]
      cases z : evT e l.2.2.2.2.2 [] with
      | nil => rw [z] at c2; cases c2
      | cons a r =>
        cases r with
        | nil => rfl
        | cons b r => rw [z] at c2; simp at c2
    · obtain ⟨t, ht, h⟩ := List.mem_flatMap.mp hx
      exact okSt.tok ((k7 q).1 t ht) x h
section WL
variable {F : Nat} {W : Int → Int}
theorem E_workedM {h : HP} (hF : 500 ≤ F) (L : LayM h) (rW : aI h 114 = W) (j : Nat) (hj : j < 12) {A : List Lin} (p : MPr W (169 + 882 * j) A) (n : Nat) (l : Lin) (e : A[n]? = some l) (k : okL l) (q : l.1 = 0 ∨ 3 ≤ l.1) (o : okE (envM W)) : ∃ h', X12_worked F 113 j (22 + 6 * (n : Int)) h = some (linV (envM W) l, h') ∧ Oj 120 h h' := by
  obtain ⟨p1, p2, p3⟩ := p
  have hn : n < A.length := (List.getElem?_eq_some_iff.mp e).1
  obtain ⟨q1, q2, q3, q4, q5, q6, q7, q8⟩ := p3 n l e
  obtain ⟨ev, ok⟩ := linM_ev o k q
  obtain ⟨x0, hx0⟩ := Int.eq_ofNat_of_zero_le q5
  have i4 : w32 (22 + 6 * (n : Int) + 4) = 22 + 6 * n + 4 := w32i _ (by omega) (by omega)
  have t4 := E_its (F := F) (h := h) (j : Int) (22 + 6 * n + 4) L (by omega)
  rw [rW, show 169 + 882 * (j : Int) + (22 + 6 * (n : Int) + 4) = 169 + 882 * j + 22 + 6 * n + 4 by omega, hx0] at t4
  have x1 : W (169 + 882 * (j : Int) + (22 + 6 * (n : Int) + 5)) = ((x0 + (linM l).length : Nat) : Int) := by
    rw [show 169 + 882 * (j : Int) + (22 + 6 * (n : Int) + 5) = 169 + 882 * j + 22 + 6 * n + 5 by omega, q6, hx0]; omega
  have le : x0 + (linM l).length ≤ 400 := by rw [q6, hx0] at q7; omega
  obtain ⟨h', a, b⟩ := E_wk (F := F) (h0 := h) rW j hj (22 + 6 * (n : Int)) (by omega) (x0 + (linM l).length) le x1 (linV (envM W) l) (linM l) x0 F [] h (by omega) rfl L rW (fun i v z => by simp at z) (by simp) (fun i s hs => by
    have y := q8 i s hs
    have ko := ok s (List.mem_of_getElem? hs)
    rw [hx0] at y
    refine ⟨?_, ?_, ko.1, ko.2⟩
    · rw [show 169 + 882 * (j : Int) + (82 + 2 * ((x0 + i : Nat) : Int)) = 169 + 882 * j + 82 + 2 * ((x0 : Int) + i) by omega]; exact y.1
    · rw [show 169 + 882 * (j : Int) + (82 + 2 * ((x0 + i : Nat) : Int) + 1) = 169 + 882 * j + 82 + 2 * ((x0 : Int) + i) + 1 by omega]; exact y.2) ev
  refine ⟨h', ?_, b⟩
  unfold X12_worked
  rw [mR113 h _ L, i4, b_xb _ _ _ _ t4]
  exact a
end WL
/-! what holds between class and reference while a job's doing is under way: no bounds of the jobs -/
def RJw (h : HP) (b : Nat) (W : Int → Int) : Prop := ∀ j : Nat, (j : Int) < W 8 → JBf h (25 + b + j) W (169 + 882 * j) ∧ ∃ t, gP h (25 + b + j) 5 = some t ∧ TXT h t W (169 + 882 * j)
def RNw (h : HP) (b : Nat) (W : Int → Int) : Prop := RSc h b W ∧ GSc W ∧ RWd h b W ∧ RLm h b W ∧ RWt h b W ∧ RBk h b W ∧ RPy h b W ∧ RRw h b W ∧ RJw h b W ∧ RJo h b W ∧ RRn W
section WK2
variable {X : Nat → Nat → Bool} {h h' : HP} {b b' : Nat} {W W' : Int → Int}
theorem RN.w (r : RN h b W) : RNw h b W := by
  obtain ⟨n1, n2, n3, n4, n5, n6, n7, n8, n9, n10, n11⟩ := r
  exact ⟨n1, n2, n3, n4, n5, n6, n7, n8, fun j hj => ⟨(n9 j hj).1, (n9 j hj).2.2⟩, n10, n11⟩
theorem RNw.mkN (r : RNw h b W) (g : ∀ j : Nat, (j : Int) < W 8 → JBg W (169 + 882 * j)) : RN h b W := by
  obtain ⟨n1, n2, n3, n4, n5, n6, n7, n8, n9, n10, n11⟩ := r
  exact ⟨n1, n2, n3, n4, n5, n6, n7, n8, fun j hj => ⟨(n9 j hj).1, g j hj, (n9 j hj).2⟩, n10, n11⟩
theorem RJw.cg (s : SmX X h h' b b') (x : ∀ a k, 25 ≤ a ∧ a ≤ 36 → X a k = false) (g : W 8 ≤ 12) (w8 : W' 8 = W 8) (w : ∀ i : Int, 169 ≤ i → i < 10753 → W' i = W i) (r : RJw h b W) : RJw h' b' W' := by
  intro j hj
  rw [w8] at hj
  obtain ⟨r1, t, r3, r4⟩ := r j hj
  have w' : ∀ i : Int, 169 + 882 * (j : Int) ≤ i → i < 169 + 882 * (j : Int) + 882 → W' i = W i := fun i a c => w i (by omega) (by omega)
  refine ⟨r1.cg (fun k => ?_) w', t, ?_, r4.cg s (fun i a c _ => w' i (by omega) c)⟩
  · have e := s.1 (25 + j) k (by omega) (by omega) (by unfold PN; rw [if_neg (by omega), if_neg (by omega), if_neg (by omega), if_neg (by omega), if_neg (by omega)]) (x _ _ ⟨by omega, by omega⟩)
    rw [show 25 + b' + j = 25 + j + b' by omega, show 25 + b + j = 25 + j + b by omega]; exact e
  · rw [s.2.1 j (by omega)]; exact r3
theorem RJw.up (s : SmX X h h' 0 0) (g : W 8 ≤ 12) (w8 : W' 8 = W 8) (j0 : Nat) (x : ∀ a k, 25 ≤ a ∧ a ≤ 36 ∧ a ≠ 25 + j0 → X a k = false) (w : ∀ i : Int, 169 ≤ i → i < 10753 → (i < 169 + 882 * j0 ∨ 169 + 882 * (j0 : Int) + 16 ≤ i) → i ≠ 169 + 882 * (j0 : Int) + 21 → W' i = W i) (r : RJw h 0 W) (hj : (j0 : Int) < W 8 → JBf h' (25 + j0) W' (169 + 882 * j0)) : RJw h' 0 W' := by
  intro j h1
  rw [w8] at h1
  obtain ⟨r1, t, r3, r4⟩ := r j h1
  by_cases e : j = j0
  · subst e
    exact ⟨hj h1, t, by rw [s.2.1 j (by omega)]; exact r3, r4.cg s (fun i a c d => w i (by omega) (by omega) (by omega) d)⟩
  · have w' : ∀ i : Int, 169 + 882 * (j : Int) ≤ i → i < 169 + 882 * (j : Int) + 882 → W' i = W i := fun i a c => w i (by omega) (by omega) (by omega) (by omega)
    refine ⟨r1.cg (fun k => ?_) w', t, ?_, r4.cg s (fun i a c _ => w' i (by omega) c)⟩
    · exact s.1 (25 + j) k (by omega) (by omega) (by unfold PN; rw [if_neg (by omega), if_neg (by omega), if_neg (by omega), if_neg (by omega), if_neg (by omega)]) (x _ _ ⟨by omega, by omega, by omega⟩)
    · rw [s.2.1 j (by omega)]; exact r3
theorem RNw.cg (s : SmN h h' b b') (w : SmW W W') (r : RNw h b W) : RNw h' b' W' := by
  obtain ⟨r1, r2, r3, r4, r5, r6, r7, r8, r9, r10, r11⟩ := r
  have hr := r8.2.1
  have g := r2.2.2.2.2.2.2.2.2.2.2.2.2.2
  have g4 := r2.2.2.2.2.2.2.2.2.2.1
  have w0 : ∀ i : Int, 0 ≤ i → i < 11357 → W' i = W i := fun i a c => w i a (by omega)
  have w8 : W' 8 = W 8 := w0 8 (by decide) (by decide)
  refine ⟨r1.cg s (fun _ _ _ => rfl) (fun i a c => w0 i (by omega) (by omega)), r2.cg (fun i a c => w0 i (by omega) (by omega)), r3.cg s (fun _ _ _ => rfl) (fun i a c => w0 i (by omega) (by omega)), r4.cg s (fun _ _ _ => rfl) (fun i a c => w0 i (by omega) (by omega)), r5.cg s (fun _ _ _ => rfl) (fun i a c => w0 i (by omega) (by omega)), r6.cg s (fun _ _ _ => rfl) (fun i a c => w0 i (by omega) (by omega)), r7.cg s (fun _ _ _ => rfl) (fun i a c => w0 i (by omega) (by omega)), r8.cg s (fun _ _ _ => rfl) w8 (fun i a c => w i (by omega) (by omega)), r9.cg s (fun _ _ _ => rfl) g.2 w8 (fun i a c => w0 i (by omega) (by omega)), r10.cg s (fun _ _ _ => rfl) g w8 (fun j f _ _ _ _ => w0 _ (by omega) (by omega)), ?_⟩
  unfold RRn
  rw [w0 4 (by decide) (by decide)]
  intro q
  rw [w0 _ (by omega) (by omega)]
  exact r11 q
end WK2
