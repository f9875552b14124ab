/-! a test in the class, a whole condition -/
section C5
variable {F : Nat} {K N B : Nat → Int} {T : Nat} {rd wr : Nat → Bool} {Q : Out} {S : List Int} {dp j : Nat} {cd : List Int} {nm : Nat → Bool}
theorem L_cmp (o : okK K N T) (hF : 500 ≤ F) (c : cls Q) (hd : dp ≤ 6) (hj : j ≤ T) (room : cd.length ≤ 3 * j + 6) (c1 : ¬ K j = 268) (c2 : ¬ K j = 40) : match pCmp K N j with
  | .inl e => BadQ K N B T Q e → LPs F K N B T rd wr Q S dp j cd nm
  | .inr (ts, k) => ATs F K N B T rd wr Q S dp k (cd ++ cdl ts) (nmC nm ts) → LPs F K N B T rd wr Q S dp j cd nm := by
  have hT := o.1
  have st : ∀ (h : HP) (k i : Nat), SC K N B T h j cd nm rd wr → i + 2 ≤ j → X8_readCondition_L12 F (k + 1) 2 i h = xb (X8_readCompared F 2 h) (fun v7 h8 => if v7 = 0 then some (0, h8) else (xrc h8 (some 2) 8 17).bind fun a13 => xb (X8_closeWhatEnds F a13 h8) fun _ h12 => rstC F k i h12) := by
    intro h k i d hi
    have L := d.1
    show (if (400 : Int) ≤ i then _ else (xrc h (some 2) 8 17).bind fun a4 => xb (X8_kind F a4 h) fun v2 h3 => _) = _
    rw [if_neg (by omega), cR2 h _ L, b_xb _ _ _ _ (T_kind o d), if_neg c1, if_neg c2, cR2 h _ L]
    rfl
  cases e : pCmp K N j with
  | inl x =>
    intro bq h k i d s h1 h2
    obtain ⟨k, rfl⟩ : ∃ m, k = m + 1 := ⟨k - 1, by omega⟩
    have y := T_cmp (F := F) o hF d room
    rw [e] at y
    obtain ⟨h', p1, p2, p3⟩ := y
    rw [st h k i d h1, b_xb _ _ _ _ p1, if_pos rfl]
    exact bq h h' p2 p3.1
  | inr x =>
    obtain ⟨ts, kk⟩ := x
    intro at1 h k i d s h1 h2
    obtain ⟨k, rfl⟩ : ∃ m, k = m + 1 := ⟨k - 1, by omega⟩
    have y := T_cmp (F := F) o hF d room
    rw [e] at y
    obtain ⟨h', p1, p2, p3⟩ := y
    obtain ⟨q1, q2, -⟩ := pCmp_ok o e
    have s' := s.ko p3
    have z := at1 h' F F 0 k i p2 s' (by have := s'.1; omega) (by omega) (by omega) (by omega) (by omega)
    rw [st h k i d h1, b_xb _ _ _ _ p1, if_neg (by decide), cR2 _ _ p2.1]
    refine c h h' _ p3.1 ?_
    unfold X8_closeWhatEnds X8_dropNots
    rw [cR2 _ _ p2.1]
    exact z
theorem L_deep (o : okK K N T) (hj : j ≤ T) (e : K j = 268 ∨ K j = 40) (bq : BadQ K N B T Q j) : LPs F K N B T rd wr Q S 6 j cd nm := by
  intro h k i d s h1 h2
  have hT := o.1
  have L := d.1
  obtain ⟨k, rfl⟩ : ∃ m, k = m + 1 := ⟨k - 1, by omega⟩
  have st : X8_readCondition_L12 F (k + 1) 2 i h = some (0, h) := by
    show (if (400 : Int) ≤ i then _ else (xrc h (some 2) 8 17).bind fun a4 => xb (X8_kind F a4 h) fun v2 h3 => if v2 = 268 then X8_readCondition_L37 F (X8_readCondition_L12 F k) 2 i v2 h3 else if v2 = 40 then X8_readCondition_L37 F (X8_readCondition_L12 F k) 2 i v2 h3 else _) = _
    have l37 : ∀ v : Int, X8_readCondition_L37 F (X8_readCondition_L12 F k) 2 i v h = some (0, h) := fun v => by
      unfold X8_readCondition_L37
      rw [cI2 h 12 _ L, s.2.2.1, if_neg (by decide)]
    rw [if_neg (by omega), cR2 h _ L, b_xb _ _ _ _ (T_kind o d)]
    rcases e with q | q
    · rw [if_pos q, l37]
    · rw [if_neg (by omega), if_pos q, l37]
  rw [st]
  exact bq h h d.f0 (OT.rf h)
theorem L_push (o : okK K N T) (c : cls Q) (hj : j ≤ T) (hd : dp < 6) (hS : S.length < 20) (x : Int) (hx : x = 268 ∨ x = 40) (e : K j = x) (lp : LPs F K N B T rd wr Q (S ++ [x]) (dp + 1) (j + 1) cd nm) : LPs F K N B T rd wr Q S dp j cd nm := by
  intro h k i d s h1 h2
  have hT := o.1
  have L := d.1
  have lt := o.lt (j := j) (by omega)
  obtain ⟨k, rfl⟩ : ∃ m, k = m + 1 := ⟨k - 1, by omega⟩
  have d1 := (d.at (j + 1) (by omega)).fld 12 ((dp + 1 : Nat) : Int) (by decide)
  have s1 := (s.ko (KO.I h 6 ((j + 1 : Nat) : Int) (by decide))).dp (dp + 1) (by omega)
  obtain ⟨g, q1, q2, q3, q4⟩ := T_push (F := F) d1 s1 x hS
  have y := lp g k (i + 1) q2 q3 (by omega) (by omega)
  have st : X8_readCondition_L12 F (k + 1) 2 i h = X8_readCondition_L12 F k 2 ((i + 1 : Nat) : Int) g := by
    show (if (400 : Int) ≤ i then _ else (xrc h (some 2) 8 17).bind fun a4 => xb (X8_kind F a4 h) fun v2 h3 => if v2 = 268 then X8_readCondition_L37 F (X8_readCondition_L12 F k) 2 i v2 h3 else if v2 = 40 then X8_readCondition_L37 F (X8_readCondition_L12 F k) 2 i v2 h3 else _) = _
    have l37 : X8_readCondition_L37 F (X8_readCondition_L12 F k) 2 i x h = X8_readCondition_L12 F k 2 ((i + 1 : Nat) : Int) g := by
      unfold X8_readCondition_L37 X8_readCondition_L171
      rw [cI2 h 12 _ L, s.2.2.1, if_pos (by omega), cI2 h 6 _ L, d.2.2.2.1, w32j (by omega), cW2 h 6 _ _ L, cI2 _ 12 _ (by exact L), gI_sIk _ _ _ _ _ (by decide), s.2.2.1, w32j (by omega), cW2 _ 12 _ _ (by exact L), cR2 _ _ (by exact L), b_xb _ _ _ _ q1, w32j (by omega)]
    rw [if_neg (by omega), cR2 h _ L, b_xb _ _ _ _ (T_kind o d), e]
    rcases hx with q | q
    · rw [if_pos q, l37]
    · rw [if_neg (by omega), if_pos q, l37]
  rw [st]
  exact c h g _ (((OT.I h 6 _ (by decide)).tr (OT.I _ 12 _ (by decide))).tr q4) y
theorem c_tst (o : okK K N T) (hF : 500 ≤ F) (c : cls Q) : ∀ (n dp : Nat), n + dp = 6 → clT F K N B T rd wr Q (pT K N n) dp := by
  have hT := o.1
  intro n
  induction n with
  | zero =>
    intro dp hd S j cd nm hj hS room
    have e6 : dp = 6 := by omega
    subst e6
    unfold pT
    by_cases e : K j = 40 ∨ K j = 268
    · rw [if_pos e]
      exact fun bq => L_deep o hj (e.elim Or.inr Or.inl) bq
    · rw [if_neg e]
      exact L_cmp o hF c (Nat.le_refl _) hj (by omega) (fun q => e (Or.inr q)) (fun q => e (Or.inl q))
  | succ n ih =>
    intro dp hd S j cd nm hj hS room
    have ct := ih (dp + 1) (by omega)
    unfold pT
    by_cases e : K j = 40
    · have lt := o.lt (j := j) (by omega)
      rw [if_pos e]
      have f : flr (S ++ [40]) := Or.inr ⟨S, rfl⟩
      have l4 : (S ++ [(40 : Int)]).length = S.length + 1 := by rw [List.length_append]; rfl
      have cc := c_con (F := F) (rd := rd) (wr := wr) (m := 39 - 2 * n) o c (dp := dp + 1) (by omega) (by omega) (fun j k ts h1 h2 => pT_ok o n (by omega) j k ts h1 h2) (fun j k ts h => pT_len o n j k ts h) ct f (by rw [l4]; omega) (by rw [l4]; omega) (j + 1) cd nm (by omega) (by rw [l4]; omega)
      have go := fun lp => L_push (F := F) (nm := nm) (S := S) (cd := cd) (dp := dp) (rd := rd) (wr := wr) (B := B) o c hj (by omega) (by omega) 40 (Or.inr rfl) e lp
      cases e2 : pC K (pT K N n) (j + 1) with
      | inl x => rw [e2] at cc; exact fun bq => go (cc bq)
      | inr x =>
        obtain ⟨ts, k⟩ := x
        rw [e2] at cc
        obtain ⟨⟨a1, a2, -⟩, a3⟩ := pC_ok (m := 39 - 2 * n) (by omega) (fun j k ts h1 h2 => pT_ok o n (by omega) j k ts h1 h2) o (by omega) e2
        have a4 := pC_ne o (m := 39 - 2 * n) (by omega) (fun j k ts h1 h2 => pT_ok o n (by omega) j k ts h1 h2) (by omega) e2
        have l2 := pC_len (fun j k ts h => pT_len o n j k ts h) e2
        have lc : (cd ++ cdl ts).length = cd.length + (cdl ts).length := List.length_append
        show match (if K k = 41 then (Sum.inr (ts, k + 1) : Rs (List Ctk)) else .inl k) with
          | .inl e => BadQ K N B T Q e → LPs F K N B T rd wr Q S dp j cd nm
          | .inr (ts, k) => ATs F K N B T rd wr Q S dp k (cd ++ cdl ts) (nmC nm ts) → LPs F K N B T rd wr Q S dp j cd nm
        by_cases e3 : K k = 41
        · rw [if_pos e3]
          intro at1
          refine go (cc (fun p cd' hp hX => ?_))
          have lX : cd'.length + p.length = cd.length + (cdl ts).length := by rw [← lc, ← hX, List.length_append, List.length_reverse]
          exact A_close o hF c hp e3 (by omega) (by rw [hX]; exact at1)
        · rw [if_neg e3]
          intro bq
          refine go (cc (fun p cd' hp hX => ?_))
          have lX : cd'.length + p.length = cd.length + (cdl ts).length := by rw [← lc, ← hX, List.length_append, List.length_reverse]
          refine A_end o c f hp a4 a3 (Or.inr e3) (by omega) (fun q => ?_) (fun _ => bq)
          have := congrArg List.length q
          rw [l4] at this
          exact absurd this (by show ¬ S.length + 1 = 0; omega)
    rw [if_neg e]
    by_cases e2 : K j = 268
    · have lt := o.lt (j := j) (by omega)
      rw [if_pos e2]
      have l4 : (S ++ [(268 : Int)]).length = S.length + 1 := by rw [List.length_append]; rfl
      have cc := ct (S ++ [268]) (j + 1) cd nm (by omega) (by rw [l4]; omega) (by rw [l4]; omega)
      have go := fun lp => L_push (F := F) (nm := nm) (S := S) (cd := cd) (dp := dp) (rd := rd) (wr := wr) (B := B) o c hj (by omega) (by omega) 268 (Or.inl rfl) e2 lp
      cases e3 : pT K N n (j + 1) with
      | inl x => rw [e3] at cc; exact fun bq => go (cc bq)
      | inr x =>
        obtain ⟨ts, k⟩ := x
        rw [e3] at cc
        obtain ⟨a1, a2, -⟩ := pT_ok o n (by omega) (j + 1) k ts (by omega) e3
        have l2 := pT_len o n _ _ _ e3
        have lc : (cd ++ cdl ts).length = cd.length + (cdl ts).length := List.length_append
        intro at1
        refine go (cc (A_not c ?_ (by rw [lc]; omega)))
        have ec : cd ++ cdl ts ++ [268] = cd ++ cdl (ts ++ [(2, [], [])]) := by rw [cdl_app, List.append_assoc]; rfl
        have en : nmC nm (ts ++ [(2, [], [])]) = nmC nm ts := by
          funext i
          unfold nmC
          rw [rdC_app]
          have : rdC [((2, [], []) : Ctk)] i = false := rfl
          rw [this, Bool.or_false]
        rw [ec, ← en]
        exact at1
    · rw [if_neg e2]
      exact L_cmp o hF c (by omega) hj (by omega) e2 e
/-- a condition, as the class reads it -/
theorem T_cond (o : okK K N T) (hF : 500 ≤ F) {h : HP} (d : SC K N B T h j cd nm rd wr) (hj : 2 ≤ j) (room : cd.length ≤ 3 * j + 6) : match pC K (pT K N 6) j with
  | .inl e => ∃ h', X8_readCondition F 2 h = some (0, h') ∧ SF0 K N B T h' e ∧ OT h h'
  | .inr (ts, k) => ∃ h', X8_readCondition F 2 h = some (1, h') ∧ SC K N B T h' k (cd ++ cdl ts ++ [-1]) (nmC nm ts) rd wr ∧ OT h h' := by
  have hT := o.1
  have L := d.1
  have hjT := d.2.2.2.2.1
  have d1 := (d.fld 11 0 (by decide)).fld 12 0 (by decide)
  have s1 : OS (sI (sI h 2 11 0) 2 12 0) [] 0 := ⟨Nat.zero_le _, by rw [gI_sIk _ _ _ _ _ (by decide), gI_sIe]; rfl, gI_sIe _ _ _ _, fun i z q => (by cases q), Nat.zero_le _⟩
  have ot : OT h (sI (sI h 2 11 0) 2 12 0) := (OT.I h 11 _ (by decide)).tr (OT.I _ 12 _ (by decide))
  have st : X8_readCondition F 2 h = X8_readCondition_L12 F F 2 ((0 : Nat) : Int) (sI (sI h 2 11 0) 2 12 0) := by
    unfold X8_readCondition
    rw [cW2 h 11 _ _ L, cW2 _ 12 _ _ (by exact L)]
    rfl
  rw [st]
  have main : ∀ (Q : Out), cls Q → (match pC K (pT K N 6) j with
    | .inl e => BadQ K N B T Q e → LPs F K N B T rd wr Q [] 0 j cd nm
    | .inr (us, k) => NAs F K N B T rd wr Q [] 0 k (cd ++ cdl us) (nmC nm us) → LPs F K N B T rd wr Q [] 0 j cd nm) := fun Q c =>
    c_con (F := F) (rd := rd) (wr := wr) (m := 27) o c (dp := 0) (by omega) (by omega) (fun j k ts h1 h2 => pT_ok o 6 (by omega) j k ts h1 h2) (fun j k ts h => pT_len o 6 j k ts h) (c_tst o hF c 6 0 rfl) (Or.inl rfl) (Nat.zero_le _) (Nat.zero_le _) j cd nm hjT (by show cd.length + 0 ≤ _; omega)
  cases e : pC K (pT K N 6) j with
  | inl x =>
    have m := main (fun h P => ∃ h', P = some (0, h') ∧ SF0 K N B T h' x ∧ OT h h') (fun h h1 P ho ⟨h', a, b, c⟩ => ⟨h', a, b, ho.tr c⟩)
    rw [e] at m
    obtain ⟨h', a1, a2, a3⟩ := m (fun h h' s t => ⟨h', rfl, s, t⟩) _ F 0 d1 s1 (by omega) (by omega)
    exact ⟨h', a1, a2, ot.tr a3⟩
  | inr x =>
    obtain ⟨ts, k⟩ := x
    have m := main (fun h P => ∃ h', P = some (1, h') ∧ SC K N B T h' k (cd ++ cdl ts ++ [-1]) (nmC nm ts) rd wr ∧ OT h h') (fun h h1 P ho ⟨h', a, b, c⟩ => ⟨h', a, b, ho.tr c⟩)
    rw [e] at m
    obtain ⟨⟨a1, a2, -⟩, a3⟩ := pC_ok (m := 27) (by omega) (fun j k ts h1 h2 => pT_ok o 6 (by omega) j k ts h1 h2) o hjT e
    have a4 := pC_ne o (m := 27) (by omega) (fun j k ts h1 h2 => pT_ok o 6 (by omega) j k ts h1 h2) hjT e
    have l2 := pC_len (fun j k ts h => pT_len o 6 j k ts h) e
    have lc : (cd ++ cdl ts).length = cd.length + (cdl ts).length := List.length_append
    obtain ⟨h', b1, b2, b3⟩ := m (fun p cd' hp hX => by
      have lX : cd'.length + p.length = cd.length + (cdl ts).length := by rw [← lc, ← hX, List.length_append, List.length_reverse]
      refine A_end o (fun h h1 P ho ⟨h', a, b, c⟩ => ⟨h', a, b, ho.tr c⟩) (Or.inl rfl) hp a4 a3 (Or.inl rfl) (by omega) (fun _ h h' s t => ⟨h', rfl, ?_, t⟩) (fun q => absurd rfl q)
      rw [hX] at s
      exact s) _ F 0 d1 s1 (by omega) (by omega)
    exact ⟨h', b1, b2, ot.tr b3⟩
end C5
