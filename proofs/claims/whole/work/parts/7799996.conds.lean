/-! the class reads a condition: tests come, what joins them waits on a stack -/
def rdK (t : Ctk) (i : Nat) : Bool := rdS t.2.1 i || rdS t.2.2 i
def rdC (ts : List Ctk) (i : Nat) : Bool := ts.any (fun t => rdK t i)
def OS (h : HP) (S : List Int) (d : Nat) : Prop := S.length ≤ 20 ∧ gI h 2 11 = S.length ∧ gI h 2 12 = d ∧ (∀ (i : Nat) (z : Int), S[i]? = some z → aI h 8 i = z) ∧ d ≤ 6
theorem OS.ko {h h' : HP} {S : List Int} {d : Nat} (o : OS h S d) (k : KO h h') : OS h' S d := by
  obtain ⟨a, b, c, e, f⟩ := o
  exact ⟨a, k.2.2.1.trans b, k.2.2.2.trans c, fun i z q => (by show gI h' 8 _ = z; rw [k.2.1]; exact e i z q), f⟩
theorem OS.top {h : HP} {S : List Int} {x : Int} {d : Nat} (o : OS h (S ++ [x]) d) : aI h 8 S.length = x ∧ gI h 2 11 = (S.length : Int) + 1 ∧ S.length < 20 := by
  obtain ⟨a, b, c, e, f⟩ := o
  have l : (S ++ [x]).length = S.length + 1 := by rw [List.length_append]; rfl
  rw [l] at a b
  exact ⟨e S.length x (by rw [List.getElem?_append_right (Nat.le_refl _), Nat.sub_self]; rfl), by rw [b]; omega, by omega⟩
theorem OS.pop {h : HP} {S : List Int} {x : Int} {d : Nat} (o : OS h (S ++ [x]) d) (n : Int) (hn : n = (S.length : Int)) : OS (sI h 2 11 n) S d := by
  obtain ⟨a, b, c, e, f⟩ := o
  have l : (S ++ [x]).length = S.length + 1 := by rw [List.length_append]; rfl
  rw [l] at a
  refine ⟨by omega, by rw [gI_sIe]; exact hn, by rw [gI_sIk _ _ _ _ _ (by decide)]; exact c, fun i z q => ?_, f⟩
  rw [aI_sIn _ _ _ _ _ (by decide)]
  exact e i z (by rw [List.getElem?_append_left (List.getElem?_eq_some_iff.mp q).1]; exact q)
theorem OS.dp {h : HP} {S : List Int} {d : Nat} (o : OS h S d) (e : Nat) (he : e ≤ 6) : OS (sI h 2 12 e) S e :=
  ⟨o.1, by rw [gI_sIk _ _ _ _ _ (by decide)]; exact o.2.1, gI_sIe _ _ _ _, fun i z q => (by rw [aI_sIn _ _ _ _ _ (by decide)]; exact o.2.2.2.1 i z q), he⟩
section CD
variable {F : Nat} {K N B : Nat → Int} {T : Nat} {h : HP} {j : Nat} {cd : List Int} {nm rd wr : Nat → Bool} {S : List Int} {dp : Nat}
theorem T_push (d : SC K N B T h j cd nm rd wr) (s : OS h S dp) (x : Int) (hl : S.length < 20) : ∃ h', X8_push F 2 x h = some ((), h') ∧ SC K N B T h' j cd nm rd wr ∧ OS h' (S ++ [x]) dp ∧ OT h h' := by
  have L := d.1
  obtain ⟨s1, s2, s3, s4, s5⟩ := id s
  refine ⟨sI (sA h 8 (S.length : Int) x) 2 11 ((S.length + 1 : Nat) : Int), ?_, (d.open8 _ _).fld 11 _ (by decide), ?_, (OT.A h 8 _ _ (by decide)).tr (OT.I _ 11 _ (by decide))⟩
  · unfold X8_push
    rw [cI2 h 11 _ L, s2, if_neg (by omega), cI2 h 11 _ L, s2, if_neg (by omega), cP2_10 h _ L, cI2 h 11 _ L, s2, cS8 h _ _ _ L (by omega) (by omega), cI2 _ 11 _ (by exact L), gI_sAn _ _ _ _ _ (by decide), s2, w32j (by omega), cW2 _ 11 _ _ (by exact L)]
  · have l : (S ++ [x]).length = S.length + 1 := by rw [List.length_append]; rfl
    refine ⟨by omega, by rw [gI_sIe, l], by rw [gI_sIk _ _ _ _ _ (by decide), gI_sAn _ _ _ _ _ (by decide)]; exact s3, fun i z e => ?_, s5⟩
    rw [aI_sIn _ _ _ _ _ (by decide), aI_sA _ _ _ _ _ (by omega) (by omega)]
    rcases app_get e with ⟨q1, q2⟩ | ⟨q1, q2⟩
    · rw [if_neg (by omega)]; exact s4 i z q2
    · have q3 : i - S.length < 1 := (List.getElem?_eq_some_iff.mp q2).1
      have q4 : i = S.length := by omega
      rw [q4, Nat.sub_self] at q2
      have q5 : some x = some z := q2
      cases q5
      rw [if_pos (by omega)]
theorem T_cmp (o : okK K N T) (hF : 500 ≤ F) (d : SC K N B T h j cd nm rd wr) (room : cd.length ≤ 3 * j + 6) : RsC K N B T rd wr h (X8_readCompared F 2 h) (pCmp K N j) (fun ts => cd ++ ts.flatMap tokC) (fun ts i => nm i || rdC ts i) := by
  have L := d.1
  have hT := o.1
  have hj := d.2.2.2.2.1
  obtain ⟨h1, p1, p2, p3, p4, p5⟩ := T_emit (F := F) d 60 (by omega)
  have k1 : KO h h1 := KO.mk9 p3 p4 p5
  have l1 : (cd ++ [60]).length = cd.length + 1 := by rw [List.length_append]; rfl
  have x := T_sum (F := F) o hF p2 (by rw [l1]; omega)
  unfold X8_readCompared pCmp
  rw [cI2 h 9 _ L, d.2.2.2.2.2.1, cR2 h _ L, b_xb _ _ _ _ p1, cR2 _ _ p2.1]
  cases e : pSum K N j with
  | inl f =>
    rw [e] at x
    obtain ⟨h', a1, a2, a3⟩ := x
    rw [b_xb _ _ _ _ a1, if_pos rfl]
    exact ⟨h', rfl, a2, k1.tr a3⟩
  | inr y =>
    obtain ⟨s, k⟩ := y
    rw [e] at x
    obtain ⟨h2, a1, a2, a3⟩ := x
    obtain ⟨q1, q2, q3, q4, -⟩ := pSum_ok o e
    have L2 := a2.1
    have ls : (sumC s).length = 1 + 3 * s.length := by
      unfold sumC
      have : ∀ u : List Prt, (u.flatMap prtC).length = 3 * u.length := by
        intro u
        induction u with
        | nil => rfl
        | cons p u ih => rw [List.flatMap_cons, List.length_append, ih, List.length_cons]; show 3 + _ = _; omega
      rw [List.length_cons, this]; omega
    have k2 := k1.tr a3
    rw [b_xb _ _ _ _ a1, if_neg (by decide), cR2 _ _ L2]
    change RsC K N B T rd wr h _ (if K k = 60 ∨ K k = 62 then (match pSum K N (k + 1) with | .inl e => Sum.inl e | .inr (u, m) => Sum.inr ([(if K k = 60 then 0 else 1, s, u)], m)) else Sum.inl k) _ _
    have fin : ∀ (g : HP) (z : Int), (K k = 60 ∧ z = 60 ∨ K k = 62 ∧ z = 62) → SC K N B T g (k + 1) (cd ++ z :: sumC s) (fun i => nm i || rdS s i) rd wr → KO h g → RsC K N B T rd wr h (X8_readCompared_L50 F 2 g) (match pSum K N (k + 1) with | .inl e => Sum.inl e | .inr (u, m) => (Sum.inr ([(if K k = 60 then 0 else 1, s, u)], m) : Rs (List Ctk))) (fun ts => cd ++ ts.flatMap tokC) (fun ts i => nm i || rdC ts i) := by
      intro g z hz dg kg
      have lc : (cd ++ z :: sumC s).length = cd.length + (2 + 3 * s.length) := by rw [List.length_append, List.length_cons, ls]; omega
      have x2 := T_sum (F := F) o hF dg (by rw [lc]; omega)
      unfold X8_readCompared_L50
      rw [cR2 _ _ dg.1]
      cases e2 : pSum K N (k + 1) with
      | inl f =>
        rw [e2] at x2
        obtain ⟨h', b1, b2, b3⟩ := x2
        rw [b_xb _ _ _ _ b1]
        exact ⟨h', rfl, b2, kg.tr b3⟩
      | inr y =>
        obtain ⟨u, m⟩ := y
        rw [e2] at x2
        obtain ⟨h', b1, b2, b3⟩ := x2
        rw [b_xb _ _ _ _ b1]
        refine ⟨h', rfl, ?_, kg.tr b3⟩
        have et : tokC (if K k = 60 then 0 else 1, s, u) = z :: (sumC s ++ sumC u) := by
          rcases hz with ⟨y1, y2⟩ | ⟨y1, y2⟩
          · rw [if_pos y1, y2]; rfl
          · rw [if_neg (by omega), y2]; rfl
        have ec : cd ++ z :: sumC s ++ sumC u = cd ++ [((if K k = 60 then 0 else 1, s, u) : Ctk)].flatMap tokC := by rw [List.flatMap_singleton, et, List.append_assoc]; rfl
        show SC K N B T h' m (cd ++ [((if K k = 60 then 0 else 1, s, u) : Ctk)].flatMap tokC) _ rd wr
        rw [← ec]
        refine b2.nmc (fun i _ => ?_)
        show (nm i || rdC [((if K k = 60 then 0 else 1, s, u) : Ctk)] i) = (nm i || rdS s i || rdS u i)
        unfold rdC
        rw [List.any_cons, List.any_nil, Bool.or_false, Bool.or_assoc]
        rfl
    have lt : K k = 60 ∨ K k = 62 → k < T := fun q => o.lt (j := k) (by omega)
    have ea : cd ++ [60] ++ sumC s = cd ++ 60 :: sumC s := by rw [List.append_assoc]; rfl
    change SC K N B T h2 k (cd ++ [60] ++ sumC s) _ rd wr at a2
    rw [ea] at a2
    by_cases c62 : K k = 62
    · have kt := lt (Or.inr c62)
      have d3 := a2.at (k + 1) (by omega)
      obtain ⟨h3, b1, b2, b3, b4, b5⟩ := T_amend (F := F) cd 60 (sumC s) d3 62
      rw [if_pos (Or.inr c62), b_xb _ _ _ _ (T_takes1 o a2 62 c62), if_neg (by decide), cR2 _ _ (by exact L2), b_xb _ _ _ _ b1]
      exact fin h3 62 (Or.inr ⟨c62, rfl⟩) b2 ((k2.tr (KO.I _ 6 _ (by decide))).tr (KO.mk9 b3 (fun k _ => b4 k) b5))
    rw [b_xb _ _ _ _ (T_takes0 o a2 62 c62), if_pos rfl, cR2 _ _ L2]
    by_cases c60 : K k = 60
    · have kt := lt (Or.inl c60)
      rw [if_pos (Or.inl c60), b_xb _ _ _ _ (T_takes1 o a2 60 c60), if_neg (by decide)]
      exact fin _ 60 (Or.inl ⟨c60, rfl⟩) (a2.at (k + 1) (by omega)) (k2.tr (KO.I _ 6 _ (by decide)))
    · rw [if_neg (fun q => q.elim c60 c62), b_xb _ _ _ _ (T_takes0 o a2 60 c60), if_pos rfl]
      exact ⟨h2, rfl, a2.f0, k2⟩
/-! the stack's moves -/
theorem T_drop1 (d : SC K N B T h j cd nm rd wr) (s : OS h (S ++ [268]) (dp + 1)) (room : cd.length < 1208) (kf : Nat) : ∃ h', X8_dropNots_L0 F (kf + 1) 2 h = X8_dropNots_L0 F kf 2 h' ∧ SC K N B T h' j (cd ++ [268]) nm rd wr ∧ OS h' S dp ∧ OT h h' := by
  have L := d.1
  obtain ⟨t1, t2, t3⟩ := s.top
  obtain ⟨h1, p1, p2, p3, p4, p5⟩ := T_emit (F := F) d 268 room
  have L1 := p2.1
  have s1 := s.ko (KO.mk9 p3 p4 p5)
  have e1 : w32 ((S.length : Int) + 1 - 1) = (S.length : Int) := by rw [w32i _ (by omega) (by omega)]; omega
  have d6 := s.2.2.2.2
  have e2 : w32 (((dp + 1 : Nat) : Int) - 1) = (dp : Int) := by rw [w32i _ (by omega) (by omega)]; omega
  refine ⟨sI (sI h1 2 11 (S.length : Int)) 2 12 (dp : Int), ?_, (p2.fld 11 _ (by decide)).fld 12 _ (by decide), (s1.pop _ rfl).dp dp (by omega), p3.tr ((OT.I _ 11 _ (by decide)).tr (OT.I _ 12 _ (by decide)))⟩
  show ((xgI h (some 2) 8 17 11).bind fun v1 => if v1 ≤ 0 then _ else (xgI h (some 2) 8 17 11).bind fun v3 => _) = _
  rw [cI2 h 11 _ L, t2, if_neg (by omega), cI2 h 11 _ L, t2, if_neg (by omega), cP2_10 h _ L, cI2 h 11 _ L, t2, e1, cA8 h _ _ L (by omega) (by omega), t1, if_pos rfl, cR2 h _ L, b_xb _ _ _ _ p1, cI2 h1 11 _ L1, p4 11 (by decide), t2, e1, cW2 h1 11 _ _ L1, cI2 _ 12 _ (by exact L1), gI_sIk _ _ _ _ _ (by decide), p4 12 (by decide), s.2.2.1, e2, cW2 _ 12 _ _ (by exact L1)]
  rfl
/-- x doesn't stand on top -/
def nt (S : List Int) (x : Int) : Prop := ∀ a, S ≠ a ++ [x]
theorem nilsnoc (l : List Int) : l = [] ∨ ∃ a b, l = a ++ [b] := by
  rcases List.eq_nil_or_concat l with q | ⟨a, b, q⟩
  · exact Or.inl q
  · exact Or.inr ⟨a, b, by rw [q, List.concat_eq_append]⟩
theorem nt_nil (x : Int) : nt [] x := fun a q => by
  have := congrArg List.length q
  rw [List.length_append] at this
  simp at this
theorem nt_app (a : List Int) (y x : Int) (h : y ≠ x) : nt (a ++ [y]) x := fun b q => by
  have := List.append_inj' q rfl
  have e := this.2
  cases e
  exact h rfl
theorem T_drop0 (d : SC K N B T h j cd nm rd wr) (s : OS h S dp) (n : nt S 268) (kf : Nat) : X8_dropNots_L0 F (kf + 1) 2 h = some ((), h) := by
  have L := d.1
  show ((xgI h (some 2) 8 17 11).bind fun v1 => if v1 ≤ 0 then some ((), h) else (xgI h (some 2) 8 17 11).bind fun v3 => if 20 < v3 then some ((), h) else (xgP h (some 2) 8 17 10).bind fun v5 => (xgI h (some 2) 8 17 11).bind fun v6 => (xaI h v5 100 (w32 (v6 - 1))).bind fun v7 => if v7 = 268 then _ else some ((), h)) = _
  rcases nilsnoc S with q | ⟨a, y, q⟩
  · subst q
    rw [cI2 h 11 _ L, s.2.1, if_pos (by decide)]
  · subst q
    obtain ⟨t1, t2, t3⟩ := s.top
    have e1 : w32 ((a.length : Int) + 1 - 1) = (a.length : Int) := by rw [w32i _ (by omega) (by omega)]; omega
    rw [cI2 h 11 _ L, t2, if_neg (by omega), cI2 h 11 _ L, t2, if_neg (by omega), cP2_10 h _ L, cI2 h 11 _ L, t2, e1, cA8 h _ _ L (by omega) (by omega), t1, if_neg (fun z => by rw [z] at n; exact n a rfl)]
theorem T_stl1 (d : SC K N B T h j cd nm rd wr) (s : OS h (S ++ [267]) dp) (room : cd.length < 1208) (b : Int) : ∃ h', X8_settle F 2 b h = X8_settle_L50 F 2 b h' ∧ SC K N B T h' j (cd ++ [267]) nm rd wr ∧ OS h' S dp ∧ OT h h' := by
  have L := d.1
  obtain ⟨t1, t2, t3⟩ := s.top
  obtain ⟨h1, p1, p2, p3, p4, p5⟩ := T_emit (F := F) d 267 room
  have L1 := p2.1
  have s1 := s.ko (KO.mk9 p3 p4 p5)
  have e1 : w32 ((S.length : Int) + 1 - 1) = (S.length : Int) := by rw [w32i _ (by omega) (by omega)]; omega
  refine ⟨sI h1 2 11 (S.length : Int), ?_, p2.fld 11 _ (by decide), s1.pop _ rfl, p3.tr (OT.I _ 11 _ (by decide))⟩
  unfold X8_settle
  rw [cI2 h 11 _ L, t2, if_neg (by omega), cI2 h 11 _ L, t2, if_neg (by omega), cP2_10 h _ L, cI2 h 11 _ L, t2, e1, cA8 h _ _ L (by omega) (by omega), t1, if_pos rfl, cR2 h _ L, b_xb _ _ _ _ p1, cI2 h1 11 _ L1, p4 11 (by decide), t2, e1, cW2 h1 11 _ _ L1]
theorem T_stl0 (d : SC K N B T h j cd nm rd wr) (s : OS h S dp) (n : nt S 267) (b : Int) : X8_settle F 2 b h = X8_settle_L50 F 2 b h := by
  have L := d.1
  unfold X8_settle
  rcases nilsnoc S with q | ⟨a, y, q⟩
  · subst q
    rw [cI2 h 11 _ L, s.2.1, if_pos (by decide)]
  · subst q
    obtain ⟨t1, t2, t3⟩ := s.top
    have e1 : w32 ((a.length : Int) + 1 - 1) = (a.length : Int) := by rw [w32i _ (by omega) (by omega)]; omega
    rw [cI2 h 11 _ L, t2, if_neg (by omega), cI2 h 11 _ L, t2, if_neg (by omega), cP2_10 h _ L, cI2 h 11 _ L, t2, e1, cA8 h _ _ L (by omega) (by omega), t1, if_neg (fun z => by rw [z] at n; exact n a rfl)]
theorem T_so1 (d : SC K N B T h j cd nm rd wr) (s : OS h (S ++ [266]) dp) (room : cd.length < 1208) : ∃ h', X8_settle_L50 F 2 266 h = some ((), h') ∧ SC K N B T h' j (cd ++ [266]) nm rd wr ∧ OS h' S dp ∧ OT h h' := by
  have L := d.1
  obtain ⟨t1, t2, t3⟩ := s.top
  obtain ⟨h1, p1, p2, p3, p4, p5⟩ := T_emit (F := F) d 266 room
  have L1 := p2.1
  have s1 := s.ko (KO.mk9 p3 p4 p5)
  have e1 : w32 ((S.length : Int) + 1 - 1) = (S.length : Int) := by rw [w32i _ (by omega) (by omega)]; omega
  refine ⟨sI h1 2 11 (S.length : Int), ?_, p2.fld 11 _ (by decide), s1.pop _ rfl, p3.tr (OT.I _ 11 _ (by decide))⟩
  unfold X8_settle_L50
  rw [if_pos rfl, cI2 h 11 _ L, t2, if_neg (by omega), cI2 h 11 _ L, t2, if_neg (by omega), cP2_10 h _ L, cI2 h 11 _ L, t2, e1, cA8 h _ _ L (by omega) (by omega), t1, if_pos rfl, cR2 h _ L, b_xb _ _ _ _ p1, cI2 h1 11 _ L1, p4 11 (by decide), t2, e1, cW2 h1 11 _ _ L1]
theorem T_so0 (d : SC K N B T h j cd nm rd wr) (s : OS h S dp) (n : nt S 266) : X8_settle_L50 F 2 266 h = some ((), h) := by
  have L := d.1
  unfold X8_settle_L50
  rw [if_pos rfl]
  rcases nilsnoc S with q | ⟨a, y, q⟩
  · subst q
    rw [cI2 h 11 _ L, s.2.1, if_pos (by decide)]
  · subst q
    obtain ⟨t1, t2, t3⟩ := s.top
    have e1 : w32 ((a.length : Int) + 1 - 1) = (a.length : Int) := by rw [w32i _ (by omega) (by omega)]; omega
    rw [cI2 h 11 _ L, t2, if_neg (by omega), cI2 h 11 _ L, t2, if_neg (by omega), cP2_10 h _ L, cI2 h 11 _ L, t2, e1, cA8 h _ _ L (by omega) (by omega), t1, if_neg (fun z => by rw [z] at n; exact n a rfl)]
/-- a level's floor, and what may wait above it -/
def flr (S : List Int) : Prop := S = [] ∨ ∃ a, S = a ++ [40]
def pnd (p : List Int) : Prop := p = [] ∨ p = [267] ∨ p = [266] ∨ p = [266, 267]
theorem flr.no {S : List Int} (f : flr S) (x : Int) (hx : x ≠ 40) : nt S x := by
  rcases f with q | ⟨a, q⟩
  · rw [q]; exact nt_nil x
  · rw [q]; exact nt_app a 40 x (Ne.symm hx)
theorem flr.no2 {S p : List Int} (f : flr S) (hp : pnd p) : nt (S ++ p) 268 := by
  rcases hp with q | q | q | q <;> rw [q]
  · rw [List.append_nil]; exact f.no 268 (by decide)
  · exact nt_app S 267 268 (by decide)
  · exact nt_app S 266 268 (by decide)
  · rw [show S ++ [266, 267] = (S ++ [266]) ++ [267] by rw [List.append_assoc]; rfl]
    exact nt_app _ 267 268 (by decide)
/-- all that waits on a level is done -/
theorem T_stlA (d : SC K N B T h j cd nm rd wr) {p : List Int} (f : flr S) (hp : pnd p) (s : OS h (S ++ p) dp) (room : cd.length + p.length ≤ 1208) : ∃ h', X8_settle F 2 266 h = some ((), h') ∧ SC K N B T h' j (cd ++ p.reverse) nm rd wr ∧ OS h' S dp ∧ OT h h' := by
  rcases hp with q | q | q | q <;> subst q
  · rw [List.append_nil] at s
    rw [T_stl0 (F := F) d s (f.no 267 (by decide)) 266]
    refine ⟨h, T_so0 d s (f.no 266 (by decide)), ?_, s, OT.rf h⟩
    rw [List.reverse_nil, List.append_nil]; exact d
  · have r1 : cd.length + 1 ≤ 1208 := room
    obtain ⟨h1, p1, p2, p3, p4⟩ := T_stl1 (F := F) d s (by omega) 266
    rw [p1]
    exact ⟨h1, T_so0 p2 p3 (f.no 266 (by decide)), p2, p3, p4⟩
  · have r1 : cd.length + 1 ≤ 1208 := room
    rw [T_stl0 (F := F) d s (nt_app S 266 267 (by decide)) 266]
    obtain ⟨h1, p1, p2, p3, p4⟩ := T_so1 (F := F) d s (by omega)
    exact ⟨h1, p1, p2, p3, p4⟩
  · have r1 : cd.length + 2 ≤ 1208 := room
    rw [show S ++ [266, 267] = (S ++ [266]) ++ [267] by rw [List.append_assoc]; rfl] at s
    obtain ⟨h1, p1, p2, p3, p4⟩ := T_stl1 (F := F) d s (by omega) 266
    have l1 : (cd ++ [267]).length = cd.length + 1 := by rw [List.length_append]; rfl
    obtain ⟨h2, q1, q2, q3, q4⟩ := T_so1 (F := F) p2 p3 (by omega)
    rw [p1]
    refine ⟨h2, q1, ?_, q3, p4.tr q4⟩
    rw [List.append_assoc] at q2
    exact q2
end CD
