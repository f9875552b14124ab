/-! the reference reads conditions -/
def stC (ts : List Ctk) : List (Int × Int) := ts.flatMap tokM
noncomputable def cmpX (F : Nat) (A B C : Nat → HP → Option (Int × HP)) (h : HP) : Option (Int × HP) :=
  (xrc h (some 113) 12 31).bind fun a11 =>
  xb (X12_readSum F a11 h) fun v9 h10 =>
  if v9 = 0 then
    some (0, h10)
  else
    (xrc h10 (some 113) 12 31).bind fun a15 =>
    xb (X12_sign F a15 60 h10) fun v13 h14 =>
    if v13 = 0 then
      (xrc h14 (some 113) 12 31).bind fun a19 =>
      xb (X12_sign F a19 62 h14) fun v17 h18 =>
      if v17 = 0 then
        some (0, h18)
      else
        X12_readTest_L143 F A B C 113 v13 h18
    else
      X12_readTest_L143 F A B C 113 v13 h14
section RFC
variable {F : Nat} {c : Nat → Int} {R : Nat} {h : HP} {j : Nat} {S : List (Int × Int)} {rd wr : Nat → Bool} {dp : Int}
theorem M_cmp (o : okK (Kf c R (Lf c R)) (Nf c R (Lf c R)) (Lf c R).length) (hF : 500 ≤ F) (A B C : Nat → HP → Option (Int × HP)) (d : MCx c R h j S rd wr dp) (room : S.length ≤ j) : RM c R h (cmpX F A B C h) (pCmp (Kf c R (Lf c R)) (Nf c R (Lf c R)) j) j S stC rd rdC wr dp := by
  have hT := o.1
  have x := M_sum o hF d room
  unfold cmpX pCmp
  rw [mR113 h _ d.1.1.1]
  cases es : pSum (Kf c R (Lf c R)) (Nf c R (Lf c R)) j with
  | inl e =>
    rw [es] at x
    obtain ⟨g, x1, x2, x3⟩ := x
    rw [b_xb _ _ _ _ x1, if_pos rfl]
    exact ⟨g, rfl, x2, x3⟩
  | inr y =>
    obtain ⟨s, k⟩ := y
    rw [es] at x
    obtain ⟨g, x1, x2, x3, x4⟩ := x
    have lS : (S ++ sumM s).length = S.length + (sumM s).length := List.length_append
    have tl : ∀ (v : Int) (n : Nat) (g2 : HP), (n = 0 ∧ v ≠ 0 ∨ n = 1 ∧ v = 0) → MCx c R g2 (k + 1) (S ++ sumM s) (fun i => rd i || (rdS s i && !wr i)) wr dp → OR h g2 → RM c R h (X12_readTest_L143 F A B C 113 v g2) (match pSum (Kf c R (Lf c R)) (Nf c R (Lf c R)) (k + 1) with | .inl e => .inl e | .inr (u, m) => .inr ([(n, s, u)], m) : Rs (List Ctk)) j S stC rd rdC wr dp := by
      intro v n g2 hv dg og
      have z := M_sum o hF dg (by omega)
      unfold X12_readTest_L143
      rw [mR113 g2 _ dg.1.1.1]
      cases eu : pSum (Kf c R (Lf c R)) (Nf c R (Lf c R)) (k + 1) with
      | inl e =>
        rw [eu] at z
        obtain ⟨g3, z1, z2, z3⟩ := z
        rw [b_xb _ _ _ _ z1, if_pos rfl]
        exact ⟨g3, rfl, z2, og.tr z3⟩
      | inr y =>
        obtain ⟨u, m⟩ := y
        rw [eu] at z
        obtain ⟨g3, z1, z2, z3, z4⟩ := z
        have mT := z2.jT
        have lU : (S ++ sumM s ++ sumM u).length = S.length + (sumM s).length + (sumM u).length := by rw [List.length_append, lS]
        obtain ⟨g4, w1, w2, w3⟩ := M_emit (F := F) z2 (if v = 0 then 9 else 8) 0 (by omega)
        rw [b_xb _ _ _ _ z1, if_neg (by decide)]
        unfold X12_readTest_L164
        rw [mR113 g3 _ z2.1.1.1, b_xb _ _ _ _ w1]
        have et : stC [(n, s, u)] = sumM s ++ sumM u ++ [((if v = 0 then 9 else 8 : Int), (0 : Int))] := by
          unfold stC
          rw [List.flatMap_cons, List.flatMap_nil, List.append_nil]
          show (if n = 0 then sumM s ++ sumM u ++ [((8 : Int), (0 : Int))] else if n = 1 then sumM s ++ sumM u ++ [((9 : Int), (0 : Int))] else _) = _
          rcases hv with ⟨q1, q2⟩ | ⟨q1, q2⟩
          · rw [if_pos q1, if_neg q2]
          · rw [if_neg (by omega), if_pos q1, if_pos q2]
        refine ⟨g4, rfl, ?_, (og.tr z3).tr w3, ?_⟩
        · rw [et, ← List.append_assoc, ← List.append_assoc]
          refine w2.rdc (fun i _ => ?_)
          have er : rdC [(n, s, u)] i = (rdS s i || rdS u i) := by
            show ((rdS s i || rdS u i) || false) = _
            rw [Bool.or_false]
          rw [er]
          exact (rd_join (rd i) (rdS s i) (rdS u i) (wr i)).symm
        · rw [et, List.length_append, List.length_append]
          show (sumM s).length + (sumM u).length + 1 + j ≤ m
          omega
    rw [b_xb _ _ _ _ x1, if_neg (by decide), mR113 g _ x2.1.1.1]
    show RM c R h _ (if (Kf c R (Lf c R)) k = 60 ∨ (Kf c R (Lf c R)) k = 62 then (match pSum (Kf c R (Lf c R)) (Nf c R (Lf c R)) (k + 1) with | .inl e => Sum.inl e | .inr (u, m) => Sum.inr ([(if (Kf c R (Lf c R)) k = 60 then 0 else 1, s, u)], m)) else .inl k) j S stC rd rdC wr dp
    by_cases c1 : (Kf c R (Lf c R)) k = 60
    · obtain ⟨g2, s1, s2, s3, -⟩ := M_sign1 hF x2 60 (by decide) c1
      rw [b_xb _ _ _ _ s1, if_neg (by decide), if_pos (Or.inl c1), if_pos c1]
      exact tl 1 0 g2 (Or.inl ⟨rfl, by decide⟩) s2 (x3.tr s3)
    · obtain ⟨g2, s1, s2, s3, -⟩ := M_sign0 hF x2 60 (by decide) c1
      rw [b_xb _ _ _ _ s1, if_pos rfl, mR113 g2 _ s2.1.1.1]
      by_cases c2 : (Kf c R (Lf c R)) k = 62
      · obtain ⟨g3, t1, t2, t3, -⟩ := M_sign1 hF s2 62 (by decide) c2
        rw [b_xb _ _ _ _ t1, if_neg (by decide), if_pos (Or.inr c2), if_neg c1]
        exact tl 0 1 g3 (Or.inr ⟨rfl, rfl⟩) t2 ((x3.tr s3).tr t3)
      · obtain ⟨g3, t1, t2, t3, t4⟩ := M_sign0 hF s2 62 (by decide) c2
        rw [b_xb _ _ _ _ t1, if_pos rfl, if_neg (fun q => q.elim c1 c2)]
        exact ⟨g3, rfl, ⟨t2.1.1, t4⟩, (x3.tr s3).tr t3⟩
/-! more of the same sort -/
theorem M_loop (o : okK (Kf c R (Lf c R)) (Nf c R (Lf c R)) (Lf c R).length) (hF : 500 ≤ F) (Lp : Nat → Nat → HP → Option (Int × HP)) (Tst : Nat → HP → Option (Int × HP)) (P : Nat → Rs (List Ctk)) {w : Nat} {sym em : Int} (tok : Ctk) (hw : Wd w sym) (ht : tokM tok = [(em, 0)]) (hr : ∀ i, rdK tok i = false)
    (hs : ∀ k h, Lp (k + 1) 113 h = (xrc h (some 113) 12 31).bind fun a3 => xb (X12_passes F a3 (some (1000000 + w)) h) fun v1 h2 => if v1 = 0 then some (1, h2) else (xrc h2 (some 113) 12 31).bind fun a7 => xb (Tst a7 h2) fun v5 h6 => if v5 = 0 then some (0, h6) else (xrc h6 (some 113) 12 31).bind fun a11 => xb (X12_emits F a11 em 0 h6) fun _ h10 => Lp k 113 h10)
    (hP : ∀ (j : Nat) (h : HP) (S : List (Int × Int)) (rd : Nat → Bool), MCx c R h j S rd wr dp → S.length ≤ j → RM c R h (Tst 113 h) (P j) j S stC rd rdC wr dp) :
    ∀ (f k j : Nat) (h : HP) (S : List (Int × Int)) (rd : Nat → Bool), MCx c R h j S rd wr dp → S.length ≤ j → (Lf c R).length + 1 ≤ j + f → f < k → RM c R h (Lp k 113 h) (pL (Kf c R (Lf c R)) sym tok P f j) j S stC rd rdC wr dp := by
  intro f
  induction f with
  | zero => intro k j h S rd d room h1 h2; have := d.jT; omega
  | succ f ih =>
    intro k j h S rd d room h1 h2
    obtain ⟨k, rfl⟩ : ∃ k', k = k' + 1 := ⟨k - 1, by omega⟩
    have hT := o.1
    have hg := hw.ge
    rw [hs, mR113 h _ d.1.1.1]
    unfold pL
    by_cases c1 : (Kf c R (Lf c R)) j = sym
    · obtain ⟨g, s1, s2, s3, -⟩ := M_pass1 hF d hw c1
      have lt := o.lt (j := j) (by omega)
      have x := hP (j + 1) g S rd s2 (by omega)
      rw [b_xb _ _ _ _ s1, if_neg (by decide), if_pos c1, mR113 g _ s2.1.1.1]
      cases ep : P (j + 1) with
      | inl e =>
        rw [ep] at x
        obtain ⟨g2, x1, x2, x3⟩ := x
        rw [b_xb _ _ _ _ x1, if_pos rfl]
        exact ⟨g2, rfl, x2, s3.tr x3⟩
      | inr y =>
        obtain ⟨ts, m⟩ := y
        rw [ep] at x
        obtain ⟨g2, x1, x2, x3, x4⟩ := x
        have mT := x2.jT
        have lS : (S ++ stC ts).length = S.length + (stC ts).length := List.length_append
        obtain ⟨g3, y1, y2, y3⟩ := M_emit (F := F) x2 em 0 (by omega)
        have lS2 : (S ++ stC ts ++ [(em, (0 : Int))]).length = S.length + (stC ts).length + 1 := by rw [List.length_append, lS]; rfl
        rw [b_xb _ _ _ _ x1, if_neg (by decide), mR113 g2 _ x2.1.1.1, b_xb _ _ _ _ y1]
        have z := ih k m g3 _ _ y2 (by omega) (by omega) (by omega)
        show RM c R h _ (match pL (Kf c R (Lf c R)) sym tok P f m with | .inl e => Sum.inl e | .inr (us, m) => Sum.inr (ts ++ tok :: us, m)) j S stC rd rdC wr dp
        cases er : pL (Kf c R (Lf c R)) sym tok P f m with
        | inl e =>
          rw [er] at z
          obtain ⟨g4, z1, z2, z3⟩ := z
          exact ⟨g4, z1, z2, ((s3.tr x3).tr y3).tr z3⟩
        | inr q =>
          obtain ⟨us, m2⟩ := q
          rw [er] at z
          obtain ⟨g4, z1, z2, z3, z4⟩ := z
          have es : stC (ts ++ tok :: us) = stC ts ++ [(em, 0)] ++ stC us := by
            unfold stC
            rw [List.flatMap_append, List.flatMap_cons, ht, List.append_assoc]
          have er2 : ∀ i, rdC (ts ++ tok :: us) i = (rdC ts i || rdC us i) := fun i => by
            unfold rdC
            rw [List.any_append, List.any_cons, hr, Bool.false_or]
          refine ⟨g4, z1, ?_, ((s3.tr x3).tr y3).tr z3, ?_⟩
          · rw [es, ← List.append_assoc, ← List.append_assoc]
            refine z2.rdc (fun i _ => ?_)
            rw [er2]
            exact (rd_join (rd i) (rdC ts i) (rdC us i) (wr i)).symm
          · rw [es, List.length_append, List.length_append]
            show (stC ts).length + 1 + (stC us).length + j ≤ m2
            omega
    · obtain ⟨g, s1, s2, s3, -⟩ := M_pass0 hF d hw c1
      rw [b_xb _ _ _ _ s1, if_pos rfl, if_neg c1]
      refine ⟨g, rfl, ?_, s3, ?_⟩
      · show MCx c R g j (S ++ []) _ wr dp
        rw [List.append_nil]
        exact s2.rdc (fun i _ => by cases rd i <;> rfl)
      · show 0 + j ≤ j; omega
theorem M_all (o : okK (Kf c R (Lf c R)) (Nf c R (Lf c R)) (Lf c R).length) (hF : 500 ≤ F) (Lp : Nat → Nat → HP → Option (Int × HP)) (Tst : Nat → HP → Option (Int × HP)) (P : Nat → Rs (List Ctk)) {w : Nat} {sym em : Int} (tok : Ctk) (hw : Wd w sym) (ht : tokM tok = [(em, 0)]) (hr : ∀ i, rdK tok i = false)
    (hs : ∀ k h, Lp (k + 1) 113 h = (xrc h (some 113) 12 31).bind fun a3 => xb (X12_passes F a3 (some (1000000 + w)) h) fun v1 h2 => if v1 = 0 then some (1, h2) else (xrc h2 (some 113) 12 31).bind fun a7 => xb (Tst a7 h2) fun v5 h6 => if v5 = 0 then some (0, h6) else (xrc h6 (some 113) 12 31).bind fun a11 => xb (X12_emits F a11 em 0 h6) fun _ h10 => Lp k 113 h10)
    (hP : ∀ (j : Nat) (h : HP) (S : List (Int × Int)) (rd : Nat → Bool), MCx c R h j S rd wr dp → S.length ≤ j → RM c R h (Tst 113 h) (P j) j S stC rd rdC wr dp)
    (Wh : Nat → HP → Option (Int × HP)) (hW : ∀ h, Wh 113 h = (xrc h (some 113) 12 31).bind fun a3 => xb (Tst a3 h) fun v1 h2 => if v1 = 0 then some (0, h2) else Lp F 113 h2)
    (d : MCx c R h j S rd wr dp) (room : S.length ≤ j) : RM c R h (Wh 113 h) (match P j with | .inl e => .inl e | .inr (ts, k) => (match pL (Kf c R (Lf c R)) sym tok P 401 k with | .inl e => .inl e | .inr (us, m) => .inr (ts ++ us, m)) : Rs (List Ctk)) j S stC rd rdC wr dp := by
  have hT := o.1
  have x := hP j h S rd d room
  rw [hW, mR113 h _ d.1.1.1]
  cases ep : P j with
  | inl e =>
    rw [ep] at x
    obtain ⟨g2, x1, x2, x3⟩ := x
    rw [b_xb _ _ _ _ x1, if_pos rfl]
    exact ⟨g2, rfl, x2, x3⟩
  | inr y =>
    obtain ⟨ts, m⟩ := y
    rw [ep] at x
    obtain ⟨g2, x1, x2, x3, x4⟩ := x
    have mT := x2.jT
    have lS : (S ++ stC ts).length = S.length + (stC ts).length := List.length_append
    rw [b_xb _ _ _ _ x1, if_neg (by decide)]
    have z := M_loop o hF Lp Tst P tok hw ht hr hs hP 401 F m g2 _ _ x2 (by omega) (by omega) (by omega)
    show RM c R h _ (match pL (Kf c R (Lf c R)) sym tok P 401 m with | .inl e => Sum.inl e | .inr (us, m) => Sum.inr (ts ++ us, m)) j S stC rd rdC wr dp
    cases er : pL (Kf c R (Lf c R)) sym tok P 401 m with
    | inl e =>
      rw [er] at z
      obtain ⟨g4, z1, z2, z3⟩ := z
      exact ⟨g4, z1, z2, x3.tr z3⟩
    | inr q =>
      obtain ⟨us, m2⟩ := q
      rw [er] at z
      obtain ⟨g4, z1, z2, z3, z4⟩ := z
      have es : stC (ts ++ us) = stC ts ++ stC us := List.flatMap_append
      have er2 : ∀ i, rdC (ts ++ us) i = (rdC ts i || rdC us i) := fun i => List.any_append
      refine ⟨g4, z1, ?_, x3.tr z3, ?_⟩
      · rw [es, ← List.append_assoc]
        refine z2.rdc (fun i _ => ?_)
        rw [er2]
        exact (rd_join (rd i) (rdC ts i) (rdC us i) (wr i)).symm
      · rw [es, List.length_append]
        omega
theorem wd13 : Wd 13 267 := ⟨by decide, by decide, 11, rfl, rfl⟩
theorem wd14 : Wd 14 266 := ⟨by decide, by decide, 10, rfl, rfl⟩
theorem wd8 : Wd 8 268 := ⟨by decide, by decide, 12, rfl, rfl⟩
theorem M_condG (o : okK (Kf c R (Lf c R)) (Nf c R (Lf c R)) (Lf c R).length) (hF : 500 ≤ F) {n m : Nat} (ht : ∀ (j : Nat) (h : HP) (S : List (Int × Int)) (rd : Nat → Bool), MCx c R h j S rd wr dp → S.length ≤ j → RM c R h ((G_readAllOf_readCond_readTest F m).2.2 113 h) (pT (Kf c R (Lf c R)) (Nf c R (Lf c R)) n j) j S stC rd rdC wr dp) : ∀ (j : Nat) (h : HP) (S : List (Int × Int)) (rd : Nat → Bool), MCx c R h j S rd wr dp → S.length ≤ j → RM c R h ((G_readAllOf_readCond_readTest F (m + 2)).2.1 113 h) (pC (Kf c R (Lf c R)) (pT (Kf c R (Lf c R)) (Nf c R (Lf c R)) n) j) j S stC rd rdC wr dp := by
  have a : ∀ (j : Nat) (h : HP) (S : List (Int × Int)) (rd : Nat → Bool), MCx c R h j S rd wr dp → S.length ≤ j → RM c R h ((G_readAllOf_readCond_readTest F (m + 1)).1 113 h) (pA (Kf c R (Lf c R)) (pT (Kf c R (Lf c R)) (Nf c R (Lf c R)) n) j) j S stC rd rdC wr dp := fun j h S rd d room =>
    M_all o hF (X12_readAllOf_L9 F (G_readAllOf_readCond_readTest F m).1 (G_readAllOf_readCond_readTest F m).2.1 (G_readAllOf_readCond_readTest F m).2.2) (G_readAllOf_readCond_readTest F m).2.2 (pT (Kf c R (Lf c R)) (Nf c R (Lf c R)) n) (w := 13) (sym := 267) (em := 11) (3, [], []) wd13 rfl (fun _ => rfl) (fun k h => X12_readAllOf_L9_s F _ _ _ k 113 h) ht (G_readAllOf_readCond_readTest F (m + 1)).1 (fun h => rfl) d room
  exact fun j h S rd d room =>
    M_all o hF (X12_readCond_L9 F (G_readAllOf_readCond_readTest F (m + 1)).1 (G_readAllOf_readCond_readTest F (m + 1)).2.1 (G_readAllOf_readCond_readTest F (m + 1)).2.2) (G_readAllOf_readCond_readTest F (m + 1)).1 (pA (Kf c R (Lf c R)) (pT (Kf c R (Lf c R)) (Nf c R (Lf c R)) n)) (w := 14) (sym := 266) (em := 12) (4, [], []) wd14 rfl (fun _ => rfl) (fun k h => X12_readCond_L9_s F _ _ _ k 113 h) a (G_readAllOf_readCond_readTest F (m + 2)).2.1 (fun h => rfl) d room
theorem MCx.dpt (d : MCx c R h j S rd wr dp) (v : Int) : MCx c R (sI h 113 9 v) j S rd wr v := by
  obtain ⟨⟨b1, ⟨b2, b3⟩, b4, b5, b6⟩, a⟩ := d
  refine ⟨⟨b1.f 9 v (by decide), ⟨?_, fun i s e => ?_⟩, gI_sIe _ _ _ _, b5, b6⟩, a.of (by rw [gI_sIk _ _ _ _ _ (by decide)])⟩
  · rw [gI_sIk _ _ _ _ _ (by decide)]; exact b2
  · rw [aI_sIn _ _ _ _ _ (by decide)]; exact b3 i s e
theorem MCx.L (d : MCx c R h j S rd wr dp) : LayM h := d.1.1.1
theorem MCx.e9 (d : MCx c R h j S rd wr dp) : gI h 113 9 = dp := d.1.2.2.1
theorem stC_n (ts : List Ctk) : stC (ts ++ [(2, [], [])]) = stC ts ++ [(10, 0)] := by
  unfold stC
  rw [List.flatMap_append]
  rfl
theorem rdC_n (ts : List Ctk) (i : Nat) : rdC (ts ++ [(2, [], [])]) i = rdC ts i := by
  unfold rdC
  rw [List.any_append]
  show (_ || false) = _
  rw [Bool.or_false]
theorem M_testC (o : okK (Kf c R (Lf c R)) (Nf c R (Lf c R)) (Lf c R).length) (hF : 500 ≤ F) (A B C : Nat → HP → Option (Int × HP)) (d : MCx c R h j S rd wr dp) (room : S.length ≤ j) (c1 : (Kf c R (Lf c R)) j ≠ 40) (c2 : (Kf c R (Lf c R)) j ≠ 268) : RM c R h (X12_readTest F A B C 113 h) (pCmp (Kf c R (Lf c R)) (Nf c R (Lf c R)) j) j S stC rd rdC wr dp := by
  obtain ⟨g, s1, s2, s3, -⟩ := M_sign0 hF d 40 (by decide) c1
  obtain ⟨g2, p1, p2, p3, -⟩ := M_pass0 hF s2 wd8 c2
  have p1' : X12_passes F 113 (some 1000008) g = some (0, g2) := p1
  unfold X12_readTest
  rw [mR113 h _ d.L, b_xb _ _ _ _ s1, if_pos rfl, mR113 g _ s2.L, b_xb _ _ _ _ p1', if_pos rfl]
  exact (M_cmp o hF A B C p2 room).pre (s3.tr p3)
theorem M_testG (o : okK (Kf c R (Lf c R)) (Nf c R (Lf c R)) (Lf c R).length) (hF : 500 ≤ F) : ∀ n : Nat, n ≤ 6 → ∀ m : Nat, 3 * n + 1 ≤ m → ∀ (j : Nat) (h : HP) (S : List (Int × Int)) (rd : Nat → Bool), MCx c R h j S rd wr (6 - (n : Int)) → S.length ≤ j → RM c R h ((G_readAllOf_readCond_readTest F m).2.2 113 h) (pT (Kf c R (Lf c R)) (Nf c R (Lf c R)) n j) j S stC rd rdC wr (6 - (n : Int)) := by
  intro n
  induction n with
  | zero =>
    intro _ m hm j h S rd d room
    obtain ⟨m, rfl⟩ : ∃ k', m = k' + 1 := ⟨m - 1, by omega⟩
    show RM c R h (X12_readTest F (G_readAllOf_readCond_readTest F m).1 (G_readAllOf_readCond_readTest F m).2.1 (G_readAllOf_readCond_readTest F m).2.2 113 h) (if (Kf c R (Lf c R)) j = 40 ∨ (Kf c R (Lf c R)) j = 268 then .inl j else pCmp (Kf c R (Lf c R)) (Nf c R (Lf c R)) j) j S stC rd rdC wr _
    by_cases c1 : (Kf c R (Lf c R)) j = 40
    · obtain ⟨g, s1, s2, s3, s4⟩ := M_sign1 hF d 40 (by decide) c1
      unfold X12_readTest
      rw [mR113 h _ d.L, b_xb _ _ _ _ s1, if_neg (by decide), mI113 g 9 _ s2.L, s2.e9, if_pos (by omega), if_pos (Or.inl c1)]
      exact ⟨g, rfl, ⟨s2.1.1, s4⟩, s3⟩
    by_cases c2 : (Kf c R (Lf c R)) j = 268
    · obtain ⟨g, s1, s2, s3, -⟩ := M_sign0 hF d 40 (by decide) c1
      obtain ⟨g2, p1, p2, p3, p4⟩ := M_pass1 hF s2 wd8 c2
      have p1' : X12_passes F 113 (some 1000008) g = some (1, g2) := p1
      unfold X12_readTest
      rw [mR113 h _ d.L, b_xb _ _ _ _ s1, if_pos rfl, mR113 g _ s2.L, b_xb _ _ _ _ p1', if_neg (by decide), mI113 g2 9 _ p2.L, p2.e9, if_pos (by omega), if_pos (Or.inr c2)]
      exact ⟨g2, rfl, ⟨p2.1.1, p4⟩, s3.tr p3⟩
    rw [if_neg (fun q => q.elim c1 c2)]
    exact M_testC o hF _ _ _ d room c1 c2
  | succ n ih =>
    intro hn m hm j h S rd d room
    obtain ⟨m, rfl⟩ : ∃ k', m = k' + 3 := ⟨m - 3, by omega⟩
    have hT := o.1
    have e5 : w32 (6 - ((n + 1 : Nat) : Int) + 1) = 6 - (n : Int) := by rw [w32i _ (by omega) (by omega)]; omega
    have e6 : w32 (6 - (n : Int) - 1) = 6 - ((n + 1 : Nat) : Int) := by rw [w32i _ (by omega) (by omega)]; omega
    have e7 : ¬ (6 - ((n + 1 : Nat) : Int) = 6) := by omega
    have cnd := M_condG (wr := wr) o hF (ih (by omega) m (by omega))
    have nt := ih (by omega) (m + 2) (by omega)
    clear ih hm
    show RM c R h (X12_readTest F (G_readAllOf_readCond_readTest F (m + 2)).1 (G_readAllOf_readCond_readTest F (m + 2)).2.1 (G_readAllOf_readCond_readTest F (m + 2)).2.2 113 h) (if (Kf c R (Lf c R)) j = 40 then (match pC (Kf c R (Lf c R)) (pT (Kf c R (Lf c R)) (Nf c R (Lf c R)) n) (j + 1) with | .inl e => .inl e | .inr (ts, k) => if (Kf c R (Lf c R)) k = 41 then .inr (ts, k + 1) else .inl k) else if (Kf c R (Lf c R)) j = 268 then (match pT (Kf c R (Lf c R)) (Nf c R (Lf c R)) n (j + 1) with | .inl e => .inl e | .inr (ts, k) => .inr (ts ++ [(2, [], [])], k)) else pCmp (Kf c R (Lf c R)) (Nf c R (Lf c R)) j) j S stC rd rdC wr _
    revert cnd nt
    generalize (G_readAllOf_readCond_readTest F (m + 2)).2.1 = B
    generalize (G_readAllOf_readCond_readTest F (m + 2)).2.2 = C
    generalize (G_readAllOf_readCond_readTest F (m + 2)).1 = A
    intro cnd nt
    by_cases c1 : (Kf c R (Lf c R)) j = 40
    · obtain ⟨g, s1, s2, s3, s4⟩ := M_sign1 hF d 40 (by decide) c1
      have d2 := s2.dpt (6 - (n : Int))
      have x := cnd (j + 1) _ S rd d2 (by omega)
      unfold X12_readTest
      rw [mR113 h _ d.L, b_xb _ _ _ _ s1, if_neg (by decide), mI113 g 9 _ s2.L, s2.e9, if_neg e7, mI113 g 9 _ s2.L, s2.e9, e5, mW113 g 9 _ _ s2.L, mR113 _ _ d2.L, if_pos c1]
      cases ep : pC (Kf c R (Lf c R)) (pT (Kf c R (Lf c R)) (Nf c R (Lf c R)) n) (j + 1) with
      | inl e =>
        rw [ep] at x
        obtain ⟨g2, x1, x2, x3⟩ := x
        rw [b_xb _ _ _ _ x1, if_pos rfl]
        exact ⟨g2, rfl, x2, (s3.tr (OR.I g 9 _ (by omega))).tr x3⟩
      | inr y =>
        obtain ⟨ts, k⟩ := y
        rw [ep] at x
        obtain ⟨g2, x1, x2, x3, x4⟩ := x
        have d3 := x2.dpt (6 - ((n + 1 : Nat) : Int))
        have og : OR h (sI g2 113 9 (6 - ((n + 1 : Nat) : Int))) := ((s3.tr (OR.I g 9 _ (by omega))).tr x3).tr (OR.I g2 9 _ (by omega))
        rw [b_xb _ _ _ _ x1, if_neg (by decide), mI113 g2 9 _ x2.L, x2.e9, e6, mW113 g2 9 _ _ x2.L, mR113 _ _ d3.L]
        show RM c R h _ (if (Kf c R (Lf c R)) k = 41 then .inr (ts, k + 1) else .inl k) j S stC rd rdC wr _
        by_cases c3 : (Kf c R (Lf c R)) k = 41
        · obtain ⟨g3, t1, t2, t3, -⟩ := M_sign1 hF d3 41 (by decide) c3
          rw [b_xb _ _ _ _ t1, if_pos c3]
          exact ⟨g3, rfl, t2, og.tr t3, by omega⟩
        · obtain ⟨g3, t1, t2, t3, t4⟩ := M_sign0 hF d3 41 (by decide) c3
          rw [b_xb _ _ _ _ t1, if_neg c3]
          exact ⟨g3, rfl, ⟨t2.1.1, t4⟩, og.tr t3⟩
    by_cases c2 : (Kf c R (Lf c R)) j = 268
    · obtain ⟨g, s1, s2, s3, -⟩ := M_sign0 hF d 40 (by decide) c1
      obtain ⟨g1, p1, p2, p3, -⟩ := M_pass1 hF s2 wd8 c2
      have p1' : X12_passes F 113 (some 1000008) g = some (1, g1) := p1
      have d2 := p2.dpt (6 - (n : Int))
      have x := nt (j + 1) _ S rd d2 (by omega)
      unfold X12_readTest
      rw [mR113 h _ d.L, b_xb _ _ _ _ s1, if_pos rfl, mR113 g _ s2.L, b_xb _ _ _ _ p1', if_neg (by decide), mI113 g1 9 _ p2.L, p2.e9, if_neg e7, mI113 g1 9 _ p2.L, p2.e9, e5, mW113 g1 9 _ _ p2.L, mR113 _ _ d2.L, if_neg c1, if_pos c2]
      cases ep : pT (Kf c R (Lf c R)) (Nf c R (Lf c R)) n (j + 1) with
      | inl e =>
        rw [ep] at x
        obtain ⟨g2, x1, x2, x3⟩ := x
        rw [b_xb _ _ _ _ x1, if_pos rfl]
        exact ⟨g2, rfl, x2, ((s3.tr p3).tr (OR.I g1 9 _ (by omega))).tr x3⟩
      | inr y =>
        obtain ⟨ts, k⟩ := y
        rw [ep] at x
        obtain ⟨g2, x1, x2, x3, x4⟩ := x
        have kT := x2.jT
        have lS : (S ++ stC ts).length = S.length + (stC ts).length := List.length_append
        have d3 := x2.dpt (6 - ((n + 1 : Nat) : Int))
        have og : OR h (sI g2 113 9 (6 - ((n + 1 : Nat) : Int))) := (((s3.tr p3).tr (OR.I g1 9 _ (by omega))).tr x3).tr (OR.I g2 9 _ (by omega))
        obtain ⟨g3, t1, t2, t3⟩ := M_emit (F := F) d3 10 0 (by omega)
        rw [b_xb _ _ _ _ x1, if_neg (by decide), mI113 g2 9 _ x2.L, x2.e9, e6, mW113 g2 9 _ _ x2.L, mR113 _ _ d3.L, b_xb _ _ _ _ t1]
        refine ⟨g3, rfl, ?_, og.tr t3, ?_⟩
        · rw [stC_n, ← List.append_assoc]
          exact t2.rdc (fun i _ => by rw [rdC_n])
        · rw [stC_n, List.length_append]
          show (stC ts).length + 1 + j ≤ k
          omega
    rw [if_neg c1, if_neg c2]
    exact M_testC o hF _ _ _ d room c1 c2
theorem M_cond (o : okK (Kf c R (Lf c R)) (Nf c R (Lf c R)) (Lf c R).length) (hF : 500 ≤ F) (d : MCx c R h j S rd wr 0) (room : S.length ≤ j) : RM c R h (X12_readCond_t F 113 h) (pC (Kf c R (Lf c R)) (pT (Kf c R (Lf c R)) (Nf c R (Lf c R)) 6) j) j S stC rd rdC wr 0 := by
  have x := M_condG (wr := wr) o hF (M_testG o hF 6 (Nat.le_refl _) 98 (by decide)) j h S rd d room
  exact x
end RFC
