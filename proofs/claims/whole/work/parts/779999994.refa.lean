/-! the reference reads parts and sums -/
section RFA
variable {F : Nat} {c : Nat → Int} {R : Nat} {h : HP} {j : Nat} {S : List (Int × Int)} {rd wr : Nat → Bool} {dp : Int}
/-- what a reading comes to -/
def RM (c : Nat → Int) (R : Nat) (h : HP) (P : Option (Int × HP)) {α : Type} (r : Rs α) (j : Nat) (S : List (Int × Int)) (st : α → List (Int × Int)) (rd : Nat → Bool) (rdn : α → Nat → Bool) (wr : Nat → Bool) (dp : Int) : Prop :=
  match r with
  | .inl e => ∃ h', P = some (0, h') ∧ MF c R h' e ∧ OR h h'
  | .inr (a, k) => ∃ h', P = some (1, h') ∧ MCx c R h' k (S ++ st a) (fun i => rd i || (rdn a i && !wr i)) wr dp ∧ OR h h' ∧ (st a).length + j ≤ k
theorem RM.pre {g : HP} {P : Option (Int × HP)} {α : Type} {r : Rs α} {st : α → List (Int × Int)} {rdn : α → Nat → Bool} (y : RM c R g P r j S st rd rdn wr dp) (o : OR h g) : RM c R h P r j S st rd rdn wr dp := by
  cases r with
  | inl e => obtain ⟨h', a, b, q⟩ := y; exact ⟨h', a, b, o.tr q⟩
  | inr x => obtain ⟨h', a, b, q, l⟩ := y; exact ⟨h', a, b, o.tr q, l⟩
theorem RM.lo {P : Option (Int × HP)} {α : Type} {r : Rs α} {st : α → List (Int × Int)} {rdn : α → Nat → Bool} {i : Nat} (y : RM c R h P r j S st rd rdn wr dp) (o : i ≤ j) : RM c R h P r i S st rd rdn wr dp := by
  cases r with
  | inl e => exact y
  | inr x => obtain ⟨h', a, b, q, l⟩ := y; exact ⟨h', a, b, q, by omega⟩
theorem MCx.jT (d : MCx c R h j S rd wr dp) : j ≤ (Lf c R).length := by
  obtain ⟨-, p, -, a⟩ := d
  exact a.2.1
theorem wd9 : Wd 9 271 := ⟨by decide, by decide, 15, rfl, rfl⟩
theorem wd10 : Wd 10 272 := ⟨by decide, by decide, 16, rfl, rfl⟩
theorem wd11 : Wd 11 270 := ⟨by decide, by decide, 14, rfl, rfl⟩
theorem wd12 : Wd 12 269 := ⟨by decide, by decide, 13, rfl, rfl⟩
theorem whtM_v : whtM (-2) = 0 ∧ whtM 269 = 1 ∧ whtM 270 = 2 ∧ whtM 271 = 3 ∧ whtM 272 = 4 := by decide
def stA (a : Int × Int) : List (Int × Int) := [(whtM a.1, a.2)]
def rdA (a : Int × Int) (i : Nat) : Bool := decide (a.1 = 269) && decide (a.2 = (i : Int))
theorem rdA_no {s n : Int} (h : s ≠ 269) (i : Nat) : rdA (s, n) i = false := by
  unfold rdA
  rw [decide_eq_false h]
  rfl
theorem rdA_yes (n : Int) (i : Nat) : rdA (269, n) i = decide (n = (i : Int)) := by
  unfold rdA
  rw [decide_eq_true rfl, Bool.true_and]
theorem M_atNum (o : okK (Kf c R (Lf c R)) (Nf c R (Lf c R)) (Lf c R).length) (hF : 500 ≤ F) (d : MCx c R h j S rd wr dp) (room : S.length ≤ j) (s l1 : Int) (hs : s = 269 ∧ l1 = 0 ∨ s = 270 ∧ l1 = 1) : RM c R h (X12_readAtom_L98 F 113 l1 h) (if Kf c R (Lf c R) j = -2 ∧ Nf c R (Lf c R) j ≤ 63 then (.inr ((s, Nf c R (Lf c R) j), j + 1) : Rs (Int × Int)) else .inl j) j S stA rd rdA wr dp := by
  have L := d.1.1.1
  have hR := d.1.1.2.1
  have hT := o.1
  unfold X12_readAtom_L98
  rw [mR113 h _ L]
  by_cases q : Kf c R (Lf c R) j = -2 ∧ Nf c R (Lf c R) j ≤ 63
  · have b := o.2.2 j q.1
    have lt := o.lt (j := j) (by omega)
    obtain ⟨g, a1, a2, a3, a4⟩ := M_num1 hF d 0 63 ⟨q.1, b.1, q.2⟩
    rw [if_pos q, b_xb _ _ _ _ a1, if_pos b.1]
    unfold X12_readAtom_L121 X12_readAtom_L131
    rcases hs with ⟨e1, e2⟩ | ⟨e1, e2⟩
    · obtain ⟨g2, r1, r2, r3, r4⟩ := M_isRead (F := F) a2.1 (Nf c R (Lf c R) j) ⟨b.1, by omega⟩
      have p2 : MCx c R g2 (j + 1) S (fun i => rd i || (decide (Nf c R (Lf c R) j = (i : Int)) && !wr i)) wr dp := ⟨r2, a2.2.of (by rw [r4])⟩
      obtain ⟨g3, s1, s2, s3⟩ := M_emit (F := F) p2 1 (Nf c R (Lf c R) j) (by omega)
      rw [if_pos e2, mR113 g _ a2.1.1.1, b_xb _ _ _ _ r1, if_pos e2, mR113 g2 _ r2.1.1, b_xb _ _ _ _ s1]
      refine ⟨g3, rfl, ?_, (a3.tr r3).tr s3, ?_⟩
      · rw [e1]
        have x : stA (269, Nf c R (Lf c R) j) = [(1, Nf c R (Lf c R) j)] := by unfold stA; rw [whtM_v.2.1]
        rw [x]
        exact s2.rdc (fun i _ => by rw [rdA_yes])
      · show 1 + j ≤ j + 1; omega
    · obtain ⟨g3, s1, s2, s3⟩ := M_emit (F := F) a2 2 (Nf c R (Lf c R) j) (by omega)
      rw [if_neg (by omega), if_neg (by omega), mR113 g _ a2.1.1.1, b_xb _ _ _ _ s1]
      refine ⟨g3, rfl, ?_, a3.tr s3, ?_⟩
      · rw [e1]
        have x : stA (270, Nf c R (Lf c R) j) = [(2, Nf c R (Lf c R) j)] := by unfold stA; rw [whtM_v.2.2.1]
        rw [x]
        exact s2.rdc (fun i _ => by rw [rdA_no (by decide), Bool.false_and, Bool.or_false])
      · show 1 + j ≤ j + 1; omega
  · obtain ⟨g, a1, a2, a3, a4⟩ := M_num0 hF d 0 63 (fun x => q ⟨x.1, x.2.2⟩)
    rw [if_neg q, b_xb _ _ _ _ a1, if_neg (by decide)]
    exact ⟨g, rfl, a2, a4⟩
theorem M_atom (o : okK (Kf c R (Lf c R)) (Nf c R (Lf c R)) (Lf c R).length) (hF : 500 ≤ F) (d : MCx c R h j S rd wr dp) (room : S.length ≤ j) : RM c R h (X12_readAtom F 113 h) (pAtom (Kf c R (Lf c R)) (Nf c R (Lf c R)) j) j S stA rd rdA wr dp := by
  have hR := d.1.1.2.1
  have hT := o.1
  obtain ⟨g, e, m, og, l⟩ := M_letters hF d
  have L := m.1.1
  have is9 := M_isw hF m.1 l wd9
  have is10 := M_isw hF m.1 l wd10
  have is11 := M_isw hF m.1 l wd11
  have is12 := M_isw hF m.1 l wd12
  have on := l.on
  have mf := l.mf m.1
  obtain ⟨p, l1, l2, l3, l4⟩ := l
  unfold X12_readAtom pAtom pAt
  rw [mR113 h _ d.1.1.1, b_xb _ _ _ _ e, mI113 g 6 _ L, mI113 g 8 _ L, l1]
  rcases l4 with ⟨m1, m2, m3, m4⟩ | ⟨m1, m2⟩
  · have ge := kwA_g3 (c := c) p (enD c R p)
    have K2 : Kf c R (Lf c R) j ≠ -2 := by rw [m4]; omega
    have en := (enD_le c m1).1
    have ne : ((enD c R p : Nat) : Int) ≠ (p : Int) := by omega
    rw [m2, if_neg ne, mR113 g _ L, if_neg K2]
    clear ge m2 m3 m4 l1 l2 l3 ne en
    have fin : ∀ s : Int, (s = 271 ∨ s = 272) → Kf c R (Lf c R) j = s → RM c R h (X12_readAtom_L55 F 113 g) (.inr ((s, 0), j + 1)) j S stA rd rdA wr dp := by
      intro s hs es
      have lt := o.lt (j := j) (by omega)
      have a2 : MCx c R g (j + 1) S rd wr dp := ⟨m, on (by omega)⟩
      unfold X12_readAtom_L55 X12_readAtom_L70
      rw [mR113 g _ L, b_xb _ _ _ _ is9]
      rcases hs with q | q
      · obtain ⟨g3, s1, s2, s3⟩ := M_emit (F := F) a2 3 0 (by omega)
        have k9 : Kf c R (Lf c R) j = 271 := es.trans q
        rw [if_pos k9, if_neg (by decide), mR113 g _ L, b_xb _ _ _ _ s1]
        refine ⟨g3, rfl, ?_, og.tr s3, ?_⟩
        · rw [q]
          have x : stA (271, 0) = [(3, 0)] := by unfold stA; rw [whtM_v.2.2.2.1]
          rw [x]
          exact s2.rdc (fun i _ => by rw [rdA_no (by decide), Bool.false_and, Bool.or_false])
        · show 1 + j ≤ j + 1; omega
      · obtain ⟨g3, s1, s2, s3⟩ := M_emit (F := F) a2 4 0 (by omega)
        have k9 : ¬ Kf c R (Lf c R) j = 271 := by omega
        rw [if_neg k9, if_pos rfl, mR113 g _ L, b_xb _ _ _ _ s1]
        refine ⟨g3, rfl, ?_, og.tr s3, ?_⟩
        · rw [q]
          have x : stA (272, 0) = [(4, 0)] := by unfold stA; rw [whtM_v.2.2.2.2]
          rw [x]
          exact s2.rdc (fun i _ => by rw [rdA_no (by decide), Bool.false_and, Bool.or_false])
        · show 1 + j ≤ j + 1; omega
    by_cases c1 : Kf c R (Lf c R) j = 271
    · have y := fin 271 (Or.inl rfl) c1
      rw [if_pos c1] at is9
      rw [b_xb _ _ _ _ is9, if_neg (by decide), if_pos c1]
      exact y
    by_cases c2 : Kf c R (Lf c R) j = 272
    · have y := fin 272 (Or.inr rfl) c2
      rw [if_neg c1] at is9
      rw [if_pos c2] at is10
      rw [b_xb _ _ _ _ is9, if_pos rfl, mR113 g _ L, b_xb _ _ _ _ is10, if_neg (by decide), if_neg c1, if_pos c2]
      exact y
    rw [if_neg c1] at is9
    rw [if_neg c2] at is10
    rw [b_xb _ _ _ _ is9, if_pos rfl, mR113 g _ L, b_xb _ _ _ _ is10, if_pos rfl, mR113 g _ L, if_neg c1, if_neg c2]
    by_cases c3 : Kf c R (Lf c R) j = 270
    · have a2 : MCx c R g (j + 1) S rd wr dp := ⟨m, on (by omega)⟩
      have y := M_atNum o hF a2 (by omega) 270 1 (Or.inr ⟨rfl, rfl⟩)
      rw [if_pos c3] at is11
      rw [b_xb _ _ _ _ is11, if_neg (by decide), if_pos (Or.inr c3), c3]
      exact (y.pre og).lo (by omega)
    rw [if_neg c3] at is11
    rw [b_xb _ _ _ _ is11, if_pos rfl, mR113 g _ L]
    by_cases c4 : Kf c R (Lf c R) j = 269
    · have a2 : MCx c R g (j + 1) S rd wr dp := ⟨m, on (by omega)⟩
      have y := M_atNum o hF a2 (by omega) 269 0 (Or.inl ⟨rfl, rfl⟩)
      rw [if_pos c4] at is12
      rw [b_xb _ _ _ _ is12, if_neg (by decide), if_pos (Or.inl c4), c4]
      exact (y.pre og).lo (by omega)
    rw [if_neg c4] at is12
    rw [b_xb _ _ _ _ is12, if_pos rfl, if_neg (fun x => x.elim c4 c3)]
    exact ⟨g, rfl, mf, og⟩
  · have d' : MCx c R g j S rd wr dp := ⟨m, p, m1, l3⟩
    rw [m1, if_pos rfl, mR113 g _ L]
    by_cases c1 : Kf c R (Lf c R) j = -2
    · have b := o.2.2 j c1
      have lt := o.lt (j := j) (by omega)
      obtain ⟨g2, a1, a2, a3, a4⟩ := M_num1 hF d' 0 999999 ⟨c1, b⟩
      obtain ⟨g3, s1, s2, s3⟩ := M_emit (F := F) a2 0 (Nf c R (Lf c R) j) (by omega)
      rw [if_pos c1, b_xb _ _ _ _ a1, if_pos b.1, mR113 g2 _ a2.1.1.1, b_xb _ _ _ _ s1]
      refine ⟨g3, rfl, ?_, (og.tr a3).tr s3, ?_⟩
      · have x : stA (-2, Nf c R (Lf c R) j) = [(0, Nf c R (Lf c R) j)] := by unfold stA; rw [whtM_v.1]
        rw [x]
        exact s2.rdc (fun i _ => by rw [rdA_no (by decide), Bool.false_and, Bool.or_false])
      · show 1 + j ≤ j + 1; omega
    · obtain ⟨g2, a1, a2, a3, a4⟩ := M_num0 hF d' 0 999999 (fun x => c1 x.1)
      rw [if_neg c1, b_xb _ _ _ _ a1, if_neg (by decide), if_neg (by omega), if_neg (by omega), if_neg (by omega)]
      exact ⟨g2, rfl, a2, og.tr a4⟩
theorem stP_1 (neg : Bool) (a : Int × Int) : prtM (neg, none, a.1, a.2) = stA a := rfl
theorem stP_2 (neg : Bool) (n : Int) (a : Int × Int) : prtM (neg, some n, a.1, a.2) = stA a ++ [(5, n)] := rfl
theorem rdP_1 (neg : Bool) (x : Option Int) (a : Int × Int) (i : Nat) : rdP (neg, x, a.1, a.2) i = rdA a i := rfl
theorem knD_dig {p : Nat} (lt : p < R) (b : BM c R h) : (48 ≤ c p ∧ c p ≤ 57 → knD c R p = -2 ∨ knD c R p = -3) ∧ (¬ (48 ≤ c p ∧ c p ≤ 57) → knD c R p ≠ -2) := by
  have r := b.c0 lt
  unfold knD
  constructor
  · intro q
    rw [if_pos q]
    by_cases q2 : enD c R p - p ≤ 6
    · rw [if_pos q2]; exact Or.inl rfl
    · rw [if_neg q2]; exact Or.inr rfl
  · intro q
    rw [if_neg q]
    by_cases q2 : 97 ≤ c p ∧ c p ≤ 122
    · rw [if_pos q2]
      have x := kwA_g3 (c := c) p (enD c R p)
      omega
    · rw [if_neg q2]; omega
theorem M_part (o : okK (Kf c R (Lf c R)) (Nf c R (Lf c R)) (Lf c R).length) (hF : 500 ≤ F) (d : MCx c R h j S rd wr dp) (room : S.length ≤ j) (neg : Bool) : RM c R h (X12_readPart F 113 h) (pPart (Kf c R (Lf c R)) (Nf c R (Lf c R)) neg j) j S prtM rd rdP wr dp := by
  have hR := d.1.1.2.1
  have hT := o.1
  obtain ⟨p, e, hp, nb, a⟩ := M_blanks hF d
  have b := d.1.1
  have b' := b.pt (p : Int) (p : Int)
  obtain ⟨k1, k2, k3⟩ := at_kind b a nb
  have d' : MCx c R (ptH h (p : Int) (p : Int)) j S rd wr dp := ⟨d.1.pt _ _, p, ptH_g6 _ _ _, a⟩
  have og : OR h (ptH h (p : Int) (p : Int)) := OR.pt _ _ _
  have L := b'.1
  have at6 : gI (ptH h (p : Int) (p : Int)) 113 6 = (p : Int) := ptH_g6 _ _ _
  unfold X12_readPart
  rw [mR113 h _ b.1, b_xb _ _ _ _ e]
  revert d' og L b' at6
  generalize ptH h (p : Int) (p : Int) = g
  intro b' d' og L at6
  rw [mR113 g _ L]
  by_cases w : p < R ∧ 48 ≤ c p ∧ c p ≤ 57
  · obtain ⟨n1, n2, n3⟩ := k2 w.1
    have kd := (knD_dig w.1 b).1 w.2
    rw [← n1] at kd
    clear n1 n2 n3 k1 k2 k3
    rw [b_xb _ _ _ _ (Q_at1 b' at6 w.1 (by decide) (by decide) w.2), if_neg (by decide), mR113 g _ L]
    unfold pPart
    by_cases c1 : Kf c R (Lf c R) j = -2
    · have bn := o.2.2 j c1
      have lt := o.lt (j := j) (by omega)
      obtain ⟨g2, a1, a2, a3, a4⟩ := M_num1 hF d' 0 999999 ⟨c1, bn⟩
      rw [if_pos c1, b_xb _ _ _ _ a1, if_pos bn.1, mR113 g2 _ a2.1.1.1]
      by_cases c2 : Kf c R (Lf c R) (j + 1) = 42
      · have lt2 := o.lt (j := j + 1) (by omega)
        obtain ⟨g3, s1, s2, s3, s4⟩ := M_sign1 hF a2 42 (by omega) c2
        have x := M_atom o hF s2 (by omega)
        rw [if_pos c2, b_xb _ _ _ _ s1, if_neg (by decide), mR113 g3 _ s2.1.1.1]
        cases ea : pAtom (Kf c R (Lf c R)) (Nf c R (Lf c R)) (j + 1 + 1) with
        | inl f =>
          rw [ea] at x
          obtain ⟨g4, x1, x2, x3⟩ := x
          rw [b_xb _ _ _ _ x1, if_pos rfl]
          exact ⟨g4, rfl, x2, ((og.tr a3).tr s3).tr x3⟩
        | inr y =>
          obtain ⟨at_, k⟩ := y
          rw [ea] at x
          obtain ⟨g4, x1, x2, x3, x4⟩ := x
          have kT := x2.jT
          have lA : (S ++ stA at_).length = S.length + 1 := by rw [List.length_append]; rfl
          have x4' : 1 + (j + 1 + 1) ≤ k := x4
          obtain ⟨g5, y1, y2, y3⟩ := M_emit (F := F) x2 5 (Nf c R (Lf c R) j) (by omega)
          rw [b_xb _ _ _ _ x1, if_neg (by decide), mR113 g4 _ x2.1.1.1, b_xb _ _ _ _ y1]
          refine ⟨g5, rfl, ?_, (((og.tr a3).tr s3).tr x3).tr y3, ?_⟩
          · rw [stP_2, ← List.append_assoc]
            exact y2
          · show 2 + j ≤ k; omega
      · obtain ⟨g3, s1, s2, s3, s4⟩ := M_sign0 hF a2 42 (by omega) c2
        obtain ⟨g5, y1, y2, y3⟩ := M_emit (F := F) s2 0 (Nf c R (Lf c R) j) (by omega)
        rw [if_neg c2, b_xb _ _ _ _ s1, if_pos rfl, mR113 g3 _ s2.1.1.1, b_xb _ _ _ _ y1]
        refine ⟨g5, rfl, ?_, ((og.tr a3).tr s3).tr y3, ?_⟩
        · have x : prtM (neg, none, -2, Nf c R (Lf c R) j) = [(0, Nf c R (Lf c R) j)] := by
            show [(whtM (-2), Nf c R (Lf c R) j)] = _
            rw [whtM_v.1]
          rw [x]
          exact y2.rdc (fun i _ => by rw [rdP_1 neg none (-2, Nf c R (Lf c R) j) i, rdA_no (by decide), Bool.false_and, Bool.or_false])
        · show 1 + j ≤ j + 1; omega
    · obtain ⟨g2, a1, a2, a3, a4⟩ := M_num0 hF d' 0 999999 (fun x => c1 x.1)
      have pa : pAt (Kf c R (Lf c R)) (Nf c R (Lf c R)) j = .inl j := by
        unfold pAt
        rw [if_neg (by omega), if_neg (by omega), if_neg (by omega)]
      rw [if_neg c1, b_xb _ _ _ _ a1, if_neg (by decide), pa]
      exact ⟨g2, rfl, a2, og.tr a4⟩
  · have c1 : Kf c R (Lf c R) j ≠ -2 := by
      by_cases lt : p < R
      · rw [(k2 lt).1]
        exact (knD_dig lt b).2 (fun x => w ⟨lt, x⟩)
      · rw [k3 (by omega)]; decide
    have x := M_atom o hF d' room
    have pa : pAtom (Kf c R (Lf c R)) (Nf c R (Lf c R)) j = pAt (Kf c R (Lf c R)) (Nf c R (Lf c R)) j := by
      unfold pAtom
      rw [if_neg c1]
    rw [pa] at x
    unfold pPart
    rw [if_neg c1, b_xb _ _ _ _ (Q_at0 b' at6 (by decide) (by decide) w), if_pos rfl, mR113 g _ L]
    cases ea : pAt (Kf c R (Lf c R)) (Nf c R (Lf c R)) j with
    | inl f =>
      rw [ea] at x
      obtain ⟨g4, x1, x2, x3⟩ := x
      rw [b_xb _ _ _ _ x1]
      exact ⟨g4, rfl, x2, og.tr x3⟩
    | inr y =>
      obtain ⟨at_, k⟩ := y
      rw [ea] at x
      obtain ⟨g4, x1, x2, x3, x4⟩ := x
      rw [b_xb _ _ _ _ x1]
      exact ⟨g4, rfl, x2, og.tr x3, x4⟩
end RFA
