/-! which job the machine takes, on both sides -/
theorem sub_iff (a b : Int) (ha : 0 ≤ a) (ha' : a < 2147483648) (hb : 0 ≤ b) (hb' : b < 2147483648) : xand a (xxor b (-1)) = 0 ↔ ∀ k : Nat, bj a k = true → bj b k = true := by
  have e1 : xand a (xxor b (-1)) = (BitVec.ofInt 32 a &&& BitVec.ofInt 32 (xxor b (-1))).toInt := rfl
  have e2 : xxor b (-1) = (BitVec.ofInt 32 b ^^^ BitVec.ofInt 32 (-1)).toInt := rfl
  have f1 : ∀ k, (BitVec.ofInt 32 a).getLsbD k = bj a k := fun k => by unfold bj BitVec.getLsbD; rw [bn32 a ha ha']
  have f2 : ∀ k, (BitVec.ofInt 32 b).getLsbD k = bj b k := fun k => by unfold bj BitVec.getLsbD; rw [bn32 b hb hb']
  have f3 : ∀ k, k < 32 → (BitVec.ofInt 32 (-1)).getLsbD k = true := by decide
  have f4 : ∀ k, (0#32).getLsbD k = false := fun k => by simp
  rw [e1, e2, BitVec.ofInt_toInt]
  constructor
  · intro h k hk
    have h0 : BitVec.ofInt 32 a &&& (BitVec.ofInt 32 b ^^^ BitVec.ofInt 32 (-1)) = 0#32 := by
      apply BitVec.eq_of_toInt_eq; rw [h]; rfl
    have hkl : k < 32 := by
      rcases Nat.lt_or_ge k 32 with q | q
      · exact q
      · have : a.toNat < 2 ^ k := Nat.lt_of_lt_of_le (show a.toNat < 2 ^ 32 by omega) (Nat.pow_le_pow_right (by decide) q)
        unfold bj at hk
        rw [Nat.testBit_lt_two_pow this] at hk; cases hk
    have h1 := congrArg (fun z => z.getLsbD k) h0
    simp only [BitVec.getLsbD_and, BitVec.getLsbD_xor] at h1
    rw [f1, f2, f3 k hkl, hk, f4] at h1
    cases hb2 : bj b k with
    | true => rfl
    | false => rw [hb2] at h1; cases h1
  · intro h
    have h0 : BitVec.ofInt 32 a &&& (BitVec.ofInt 32 b ^^^ BitVec.ofInt 32 (-1)) = 0#32 := by
      refine BitVec.eq_of_getLsbD_eq (fun k hk => ?_)
      rw [BitVec.getLsbD_and, BitVec.getLsbD_xor, f1, f2, f3 k hk, f4]
      cases ea : bj a k with
      | false => rfl
      | true => rw [h k ea]; rfl
    rw [h0]; rfl
/-- the jobs that ended, as bits -/
def ebN (W : Int → Int) : Nat → Int
  | 0 => 0
  | n + 1 => if 2 ≤ W (169 + 882 * (n : Int) + 8) ∧ W (169 + 882 * (n : Int) + 8) ≤ 4 then xor_ (ebN W n) (xshl 1 n) else ebN W n
theorem ebN_s (W : Int → Int) (n : Nat) : ebN W (n + 1) = if 2 ≤ W (169 + 882 * (n : Int) + 8) ∧ W (169 + 882 * (n : Int) + 8) ≤ 4 then xor_ (ebN W n) (xshl 1 n) else ebN W n := rfl
theorem ebN_b (W : Int → Int) : ∀ n : Nat, n ≤ 12 → 0 ≤ ebN W n ∧ ebN W n < 4096 := by
  intro n
  induction n with
  | zero => intro _; show (0 : Int) ≤ 0 ∧ (0 : Int) < 4096; decide
  | succ n ih =>
    intro hn
    have i := ih (by omega)
    rw [ebN_s]
    by_cases c : 2 ≤ W (169 + 882 * (n : Int) + 8) ∧ W (169 + 882 * (n : Int) + 8) ≤ 4
    · rw [if_pos c]
      exact or_b (ebN W n) n 12 i.1 i.2 (by omega) (by decide)
    · rw [if_neg c]; exact i
theorem ebN_m (W : Int → Int) : ∀ n : Nat, n ≤ 12 → ∀ i : Nat, bj (ebN W n) i = true ↔ i < n ∧ 2 ≤ W (169 + 882 * (i : Int) + 8) ∧ W (169 + 882 * (i : Int) + 8) ≤ 4 := by
  intro n
  induction n with
  | zero =>
    intro _ i
    have z : bj (ebN W 0) i = false := by show Nat.testBit 0 i = false; exact Nat.zero_testBit i
    rw [z]
    exact ⟨fun q => absurd q (by decide), fun q => absurd q.1 (by omega)⟩
  | succ n ih =>
    intro hn i
    have b := ebN_b W n (by omega)
    have h1 := ih (by omega) i
    rw [ebN_s]
    by_cases c : 2 ≤ W (169 + 882 * (n : Int) + 8) ∧ W (169 + 882 * (n : Int) + 8) ≤ 4
    · rw [if_pos c, bj_or _ n i b.1 (by omega) (by omega), Bool.or_eq_true, h1]
      constructor
      · rintro (q | q)
        · exact ⟨by omega, q.2⟩
        · have e := of_decide_eq_true q
          subst e
          exact ⟨by omega, c⟩
      · intro q
        by_cases e : n = i
        · exact Or.inr (decide_eq_true e)
        · exact Or.inl ⟨by omega, q.2⟩
    · rw [if_neg c, h1]
      constructor
      · exact fun q => ⟨by omega, q.2⟩
      · intro q
        by_cases e : n = i
        · subst e; exact absurd q.2 c
        · exact ⟨by omega, q.2⟩
/-- the machine may take it -/
def okR (W : Int → Int) (j : Int) : Prop := W (169 + 882 * j + 8) = 0 ∧ W (169 + 882 * j + 11) ≠ 2 ∧ ∀ k : Nat, (k : Int) < W 8 → bj (lns W j) k = true → 2 ≤ W (169 + 882 * (k : Int) + 8) ∧ W (169 + 882 * (k : Int) + 8) ≤ 4
def qOr (W : Int → Int) (o : Bool) (p : Nat) : Int := if o = true then ordA W p else p
/-- the job taken, from place p0 on -/
def NM (W : Int → Int) (o : Bool) (v : Int) (p0 : Nat) : Prop := (v = -1 ∧ ∀ p : Nat, p0 ≤ p → (p : Int) < W 8 → ¬ okR W (qOr W o p)) ∨ ∃ p : Nat, p0 ≤ p ∧ (p : Int) < W 8 ∧ v = qOr W o p ∧ okR W (qOr W o p) ∧ ∀ p' : Nat, p0 ≤ p' → p' < p → ¬ okR W (qOr W o p')
theorem NM.next {W : Int → Int} {o : Bool} {v : Int} {p0 : Nat} (n : NM W o v (p0 + 1)) (h : ¬ okR W (qOr W o p0)) : NM W o v p0 := by
  rcases n with ⟨a, b⟩ | ⟨p, a, b, c, d, e⟩
  · refine Or.inl ⟨a, fun p q1 q2 => ?_⟩
    by_cases x : p = p0
    · rw [x]; exact h
    · exact b p (by omega) q2
  · refine Or.inr ⟨p, by omega, b, c, d, fun p' q1 q2 => ?_⟩
    by_cases x : p' = p0
    · rw [x]; exact h
    · exact e p' (by omega) q2
theorem lns_lt (W : Int → Int) (j : Int) (g : 0 ≤ W 8 ∧ W 8 ≤ 12) (k : Nat) (h : bj (lns W j) k = true) : (k : Int) < W 8 := by
  have b := lnN_b W j (W 8).toNat (by omega)
  rcases Int.lt_or_le (k : Int) (W 8) with q | q
  · exact q
  · have e : (lns W j).toNat < 2 ^ k := by
      have : (lns W j).toNat < 2 ^ (W 8).toNat := by unfold lns; omega
      exact Nat.lt_of_lt_of_le this (Nat.pow_le_pow_right (by decide) (by omega))
    unfold bj at h
    rw [Nat.testBit_lt_two_pow e] at h; cases h
theorem sub_ok (W : Int → Int) (j : Int) (g : 0 ≤ W 8 ∧ W 8 ≤ 12) : xand (lns W j) (xxor (ebN W (W 8).toNat) (-1)) = 0 ↔ ∀ k : Nat, (k : Int) < W 8 → bj (lns W j) k = true → 2 ≤ W (169 + 882 * (k : Int) + 8) ∧ W (169 + 882 * (k : Int) + 8) ≤ 4 := by
  have b := lns_b W j g
  have c := ebN_b W (W 8).toNat (by omega)
  rw [sub_iff _ _ b.1 (by omega) c.1 (by omega)]
  constructor
  · exact fun h k hk q => ((ebN_m W _ (by omega) k).mp (h k q)).2
  · intro h k q
    have hk := lns_lt W j g k q
    exact (ebN_m W _ (by omega) k).mpr ⟨by omega, h k hk q⟩
section NX
variable {F : Nat} {h : HP} {W : Int → Int}
theorem E_atj (L : LayC h) (j : Nat) (hj : j < 12) : X3_at F 19 (j : Int) h = some (some (25 + j), h) := by
  have := E_at (F := F) (h := h) (j : Int) L (by omega)
  rw [Int.toNat_natCast] at this
  exact this
theorem RN.st (r : RN h 0 W) (j : Nat) (hj : (j : Int) < W 8) : gI h (25 + j) 9 = W (169 + 882 * (j : Int) + 8) ∧ gI h (25 + j) 10 = W (169 + 882 * (j : Int) + 11) ∧ gI h (25 + j) 12 = W (169 + 882 * (j : Int) + 9) ∧ gI h (25 + j) 13 = W (169 + 882 * (j : Int) + 10) ∧ gI h (25 + j) 0 = W (169 + 882 * (j : Int) + 0) ∧ gI h (25 + j) 6 = W (169 + 882 * (j : Int) + 5) ∧ gI h (25 + j) 2 = W (169 + 882 * (j : Int) + 2) := by
  have f := (r.jb j hj).1
  unfold JBf at f
  obtain ⟨F0, F1, F2, F3, F4, F5, F6, F7, F8, F9, F10, F11, F12, F13, F14, F15, F16⟩ := f
  exact ⟨F8, F11, F9, F10, F0, F5, F2⟩
theorem E_ebC (L : LayC h) (r : RN h 0 W) : ∀ (m i k : Nat), m < k → ((i + m : Nat) : Int) = W 8 → X3_endedBits_L4 F k 19 (ebN W i) i h = some (ebN W (W 8).toNat, h) := by
  have g8 := r.2.1.g8
  have e8 : gI h 19 5 = W 8 := r.1.2.2.2.2.2.2.2.2
  intro m
  induction m with
  | zero =>
    intro i k hk hi
    obtain ⟨k, rfl⟩ : ∃ k', k = k' + 1 := ⟨k - 1, by omega⟩
    show ((xgI h (some 19) 3 7 5).bind fun v1 => if v1 ≤ (i : Int) then _ else _) = _
    rw [cI19 h 5 _ L, e8, if_pos (by omega), show (W 8).toNat = i by omega]
  | succ m ih =>
    intro i k hk hi
    obtain ⟨k, rfl⟩ : ∃ k', k = k' + 1 := ⟨k - 1, by omega⟩
    have e32 : Unit → w32 ((i : Int) + 1) = ((i + 1 : Nat) : Int) := fun _ => by rw [w32i _ (by omega) (by omega)]; omega
    have hi8 : (i : Int) < W 8 := by omega
    have s := (r.st i hi8).1
    show ((xgI h (some 19) 3 7 5).bind fun v1 => if v1 ≤ (i : Int) then _ else _) = _
    rw [cI19 h 5 _ L, e8, if_neg (by omega), cR19 h _ L, b_xb _ _ _ _ (E_atj L i (by omega)), cIj h i 9 _ L (by omega), s]
    have nx := ih (i + 1) k (by omega) (by omega)
    rw [ebN_s] at nx
    unfold X3_endedBits_L36 X3_endedBits_L42
    by_cases c2 : W (169 + 882 * (i : Int) + 8) = 2
    · rw [if_pos c2, e32 ()]; rw [if_pos (by omega)] at nx; exact nx
    · rw [if_neg c2]
      by_cases c3 : W (169 + 882 * (i : Int) + 8) = 3
      · rw [if_pos c3, e32 ()]; rw [if_pos (by omega)] at nx; exact nx
      · rw [if_neg c3]
        by_cases c4 : W (169 + 882 * (i : Int) + 8) = 4
        · rw [if_pos c4, e32 ()]; rw [if_pos (by omega)] at nx; exact nx
        · rw [if_neg c4, e32 ()]; rw [if_neg (by omega)] at nx; exact nx
theorem E_nx31 (L : LayC h) (r : RN h 0 W) (rc : Nat → Int → Int → HP → Option (Int × HP)) (q : Nat) (hq : (q : Int) < W 8) (p : Int) : (okR W q → X3_nextForMachine_L31 F rc 19 (ebN W (W 8).toNat) p q h = some ((q : Int), h)) ∧ (¬ okR W q → X3_nextForMachine_L31 F rc 19 (ebN W (W 8).toNat) p q h = rc 19 (ebN W (W 8).toNat) (w32 (p + 1)) h) := by
  have g8 := r.2.1.g8
  have hq12 : q < 12 := by omega
  obtain ⟨s1, s2, -⟩ := r.st q hq
  have lo := E_leansOf (F := F) (h := h) (q : Int) L (by omega)
  have el : aI h 21 (q : Int) = lns W q := r.2.2.2.2.2.2.2.2.2.1.1 q (by omega) hq
  rw [el] at lo
  have so := sub_ok W q g8
  unfold X3_nextForMachine_L31 X3_nextForMachine_L70
  rw [cR19 h _ L, b_xb _ _ _ _ (E_atj L q hq12), cIj h q 9 _ L hq12, s1]
  by_cases c0 : W (169 + 882 * (q : Int) + 8) = 0
  · rw [if_pos c0, cIj h q 10 _ L hq12, s2]
    by_cases c1 : W (169 + 882 * (q : Int) + 11) = 2
    · rw [if_pos c1]
      exact ⟨fun x => absurd c1 x.2.1, fun _ => rfl⟩
    · rw [if_neg c1, cR19 h _ L, b_xb _ _ _ _ lo]
      by_cases c2 : xand (lns W q) (xxor (ebN W (W 8).toNat) (-1)) = 0
      · rw [if_pos c2]
        exact ⟨fun _ => rfl, fun x => absurd ⟨c0, c1, so.mp c2⟩ x⟩
      · rw [if_neg c2]
        exact ⟨fun x => absurd (so.mpr x.2.2) c2, fun _ => rfl⟩
  · rw [if_neg c0]
    exact ⟨fun x => absurd x.1 c0, fun _ => rfl⟩
/-- the order that the class has is that of the reference -/
def OrdB (h : HP) (W : Int → Int) (o : Bool) : Prop := (o = true ∧ gI h 19 4 = 1 ∧ ordOk W ∧ ∀ n : Nat, (n : Int) < W 8 → aI h 22 n = ordA W n) ∨ (o = false ∧ gI h 19 4 = 0 ∧ ¬ ordOk W)
theorem RN.ord (r : RN h 0 W) : ∃ o, OrdB h W o := by
  rcases r.2.2.2.2.2.2.2.2.2.1.2 with ⟨a, b, c⟩ | ⟨a, b⟩
  · exact ⟨true, Or.inl ⟨rfl, a, b, c⟩⟩
  · exact ⟨false, Or.inr ⟨rfl, a, b⟩⟩
theorem qOr_lt (g : 0 ≤ W 8 ∧ W 8 ≤ 12) {o : Bool} (b : OrdB h W o) (p : Nat) (hp : (p : Int) < W 8) : ∃ q : Nat, qOr W o p = q ∧ (q : Int) < W 8 := by
  unfold qOr
  rcases b with ⟨a, -, b, -⟩ | ⟨a, -⟩
  · rw [a, if_pos rfl]
    have := ord_lt W g b p hp
    exact ⟨(ordA W p).toNat, by omega, by omega⟩
  · rw [a, if_neg (by decide)]
    exact ⟨p, rfl, hp⟩
theorem E_nfmC (L : LayC h) (r : RN h 0 W) {o : Bool} (b : OrdB h W o) : ∀ (m p k : Nat), m < k → ((p + m : Nat) : Int) = W 8 → ∃ v, X3_nextForMachine_L7 F k 19 (ebN W (W 8).toNat) p h = some (v, h) ∧ NM W o v p := by
  have g8 := r.2.1.g8
  have e8 : gI h 19 5 = W 8 := r.1.2.2.2.2.2.2.2.2
  intro m
  induction m with
  | zero =>
    intro p k hk hp
    obtain ⟨k, rfl⟩ : ∃ k', k = k' + 1 := ⟨k - 1, by omega⟩
    refine ⟨-1, ?_, Or.inl ⟨rfl, fun p' q1 q2 => by omega⟩⟩
    show ((xgI h (some 19) 3 7 5).bind fun v1 => if v1 ≤ (p : Int) then _ else _) = _
    rw [cI19 h 5 _ L, e8, if_pos (by omega)]
  | succ m ih =>
    intro p k hk hp
    obtain ⟨k, rfl⟩ : ∃ k', k = k' + 1 := ⟨k - 1, by omega⟩
    have e32 : Unit → w32 ((p : Int) + 1) = ((p + 1 : Nat) : Int) := fun _ => by rw [w32i _ (by omega) (by omega)]; omega
    have hp8 : (p : Int) < W 8 := by omega
    obtain ⟨q, eq, hq⟩ := qOr_lt g8 b p hp8
    obtain ⟨x1, x2⟩ := E_nx31 (F := F) L r (X3_nextForMachine_L7 F k) q hq p
    have st : X3_nextForMachine_L7 F (k + 1) 19 (ebN W (W 8).toNat) p h = X3_nextForMachine_L31 F (X3_nextForMachine_L7 F k) 19 (ebN W (W 8).toNat) p q h := by
      show ((xgI h (some 19) 3 7 5).bind fun v1 => if v1 ≤ (p : Int) then _ else _) = _
      rw [cI19 h 5 _ L, e8, if_neg (by omega), cI19 h 4 _ L]
      rcases b with ⟨a, c, d, e⟩ | ⟨a, c, d⟩
      · have pl := E_placed (F := F) L e8 g8 c e p hp8
        rw [c, if_neg (by decide), cR19 h _ L, b_xb _ _ _ _ pl]
        rw [← eq]
        unfold qOr
        rw [a, if_pos rfl]
        rfl
      · rw [c, if_pos rfl, ← eq]
        unfold qOr
        rw [a, if_neg (by decide)]
        rfl
    rw [st]
    rw [e32 ()] at x2
    by_cases c : okR W q
    · rw [x1 c]
      refine ⟨q, rfl, Or.inr ⟨p, Nat.le_refl _, hp8, eq.symm, by rw [eq]; exact c, fun p' q1 q2 => by omega⟩⟩
    · rw [x2 c]
      obtain ⟨v, y1, y2⟩ := ih (p + 1) k (by omega) (by omega)
      exact ⟨v, y1, y2.next (by rw [eq]; exact c)⟩
theorem E_nfm (hF : 2000 ≤ F) (L : LayC h) (r : RN h 0 W) {o : Bool} (b : OrdB h W o) : ∃ v, X3_nextForMachine F 19 h = some (v, h) ∧ NM W o v 0 := by
  have g8 := r.2.1.g8
  have eb := E_ebC (F := F) L r (W 8).toNat 0 F (by omega) (by omega)
  obtain ⟨v, y1, y2⟩ := E_nfmC (F := F) L r b (W 8).toNat 0 F (by omega) (by omega)
  refine ⟨v, ?_, y2⟩
  unfold X3_nextForMachine X3_endedBits
  rw [cR19 h _ L, b_xb _ _ _ _ (show X3_endedBits_L4 F F 19 0 0 h = some (ebN W (W 8).toNat, h) from eb)]
  exact y1
end NX
section NXM
variable {F : Nat} {g : HP} {W : Int → Int}
theorem E_rd0 (L : LayM g) (rW : aI g 114 = W) (l2 : Int) : ∀ (m i k : Nat), m < k → ((i + m : Nat) : Int) = W 8 → W 8 ≤ 12 → X12_isReady_L34 F k 113 l2 0 i g = some (0, g) := by
  intro m
  induction m with
  | zero =>
    intro i k hk hi h12
    obtain ⟨k, rfl⟩ : ∃ k', k = k' + 1 := ⟨k - 1, by omega⟩
    show ((xgP g (some 113) 12 31 1).bind fun v1 => (xaI g v1 100 8).bind fun v2 => if v2 ≤ (i : Int) then _ else _) = _
    rw [mP113_1 g _ L, mA114 g _ _ L (by decide) (by decide), rW, if_pos (by omega)]
    rfl
  | succ m ih =>
    intro i k hk hi h12
    obtain ⟨k, rfl⟩ : ∃ k', k = k' + 1 := ⟨k - 1, by omega⟩
    have e32 : Unit → w32 ((i : Int) + 1) = ((i + 1 : Nat) : Int) := fun _ => by rw [w32i _ (by omega) (by omega)]; omega
    show ((xgP g (some 113) 12 31 1).bind fun v1 => (xaI g v1 100 8).bind fun v2 => if v2 ≤ (i : Int) then _ else if (0 : Int) = 0 then X12_isReady_L79 F (X12_isReady_L34 F k) 113 l2 i g else _) = _
    rw [mP113_1 g _ L, mA114 g _ _ L (by decide) (by decide), rW, if_neg (by omega), if_pos rfl]
    unfold X12_isReady_L79 X12_isReady_L80
    rw [e32 ()]
    exact ih (i + 1) k (by omega) (by omega) h12
theorem E_rd1 (L : LayM g) (rW : aI g 114 = W) (l2 : Int) (b2 : 0 ≤ l2 ∧ l2 < 4096) : ∀ (m i k : Nat), m < k → ((i + m : Nat) : Int) = W 8 → W 8 ≤ 12 → ((∀ j : Nat, i ≤ j → (j : Int) < W 8 → bj l2 j = true → 2 ≤ W (169 + 882 * (j : Int) + 8) ∧ W (169 + 882 * (j : Int) + 8) ≤ 4) → X12_isReady_L34 F k 113 l2 1 i g = some (1, g)) ∧ ((¬ ∀ j : Nat, i ≤ j → (j : Int) < W 8 → bj l2 j = true → 2 ≤ W (169 + 882 * (j : Int) + 8) ∧ W (169 + 882 * (j : Int) + 8) ≤ 4) → X12_isReady_L34 F k 113 l2 1 i g = some (0, g)) := by
  intro m
  induction m with
  | zero =>
    intro i k hk hi h12
    obtain ⟨k, rfl⟩ : ∃ k', k = k' + 1 := ⟨k - 1, by omega⟩
    have st : X12_isReady_L34 F (k + 1) 113 l2 1 i g = some (1, g) := by
      show ((xgP g (some 113) 12 31 1).bind fun v1 => (xaI g v1 100 8).bind fun v2 => if v2 ≤ (i : Int) then _ else _) = _
      rw [mP113_1 g _ L, mA114 g _ _ L (by decide) (by decide), rW, if_pos (by omega)]
      rfl
    exact ⟨fun _ => st, fun q => absurd (fun j h1 h2 => absurd h2 (by omega)) q⟩
  | succ m ih =>
    intro i k hk hi h12
    obtain ⟨k, rfl⟩ : ∃ k', k = k' + 1 := ⟨k - 1, by omega⟩
    have e32 : Unit → w32 ((i : Int) + 1) = ((i + 1 : Nat) : Int) := fun _ => by rw [w32i _ (by omega) (by omega)]; omega
    have bs := bj_shr l2 i b2.1 (by omega) (by omega)
    have hi8 : (i : Int) < W 8 := by omega
    have t8 := E_itW (F := F) (j := i) L rW (by omega) 8 (by omega)
    obtain ⟨y1, y2⟩ := ih (i + 1) k (by omega) (by omega) h12
    have z0 := E_rd0 (F := F) L rW l2 m (i + 1) k (by omega) (by omega) h12
    have st : ∀ R, (if xand (xshr l2 i) 1 = 0 then X12_isReady_L34 F k 113 l2 1 ((i + 1 : Nat) : Int) g else if 2 ≤ W (169 + 882 * (i : Int) + 8) ∧ W (169 + 882 * (i : Int) + 8) ≤ 4 then X12_isReady_L34 F k 113 l2 1 ((i + 1 : Nat) : Int) g else some (0, g)) = R → X12_isReady_L34 F (k + 1) 113 l2 1 i g = R := by
      intro R hR
      rw [← hR]
      show ((xgP g (some 113) 12 31 1).bind fun v1 => (xaI g v1 100 8).bind fun v2 => if v2 ≤ (i : Int) then _ else if (1 : Int) = 0 then _ else if xand (xshr l2 i) 1 = 0 then X12_isReady_L75 F (X12_isReady_L34 F k) 113 l2 i g else _) = _
      rw [mP113_1 g _ L, mA114 g _ _ L (by decide) (by decide), rW, if_neg (by omega), if_neg (by decide)]
      unfold X12_isReady_L75 X12_isReady_L79 X12_isReady_L80
      rw [e32 ()]
      by_cases c : xand (xshr l2 i) 1 = 0
      · rw [if_pos c, if_pos c]
      · rw [if_neg c, if_neg c, mR113 g _ L, b_xb _ _ _ _ t8]
        by_cases d : 2 ≤ W (169 + 882 * (i : Int) + 8) ∧ W (169 + 882 * (i : Int) + 8) ≤ 4
        · rw [if_pos d, b_xb _ _ _ _ (E_in1 (F := F) (h := g) _ _ _ d), if_neg (by decide)]
          rfl
        · rw [if_neg d, b_xb _ _ _ _ (E_in0 (F := F) (h := g) (W (169 + 882 * (i : Int) + 8)) 2 4 (by omega)), if_pos rfl]
          exact z0
    rw [bs] at st
    by_cases bi : bj l2 i = true
    · rw [if_pos bi, if_neg (by decide)] at st
      by_cases d : 2 ≤ W (169 + 882 * (i : Int) + 8) ∧ W (169 + 882 * (i : Int) + 8) ≤ 4
      · rw [if_pos d] at st
        refine ⟨fun q => st _ (y1 (fun j h1 h2 h3 => q j (by omega) h2 h3)), fun q => st _ (y2 (fun z => q (fun j h1 h2 h3 => ?_)))⟩
        by_cases e : j = i
        · rw [e]; exact d
        · exact z j (by omega) h2 h3
      · rw [if_neg d] at st
        exact ⟨fun q => absurd (q i (Nat.le_refl _) hi8 bi) d, fun q => st _ rfl⟩
    · rw [if_neg bi, if_pos rfl] at st
      refine ⟨fun q => st _ (y1 (fun j h1 h2 h3 => q j (by omega) h2 h3)), fun q => st _ (y2 (fun z => q (fun j h1 h2 h3 => ?_)))⟩
      by_cases e : j = i
      · rw [e] at h3; exact absurd h3 bi
      · exact z j (by omega) h2 h3
theorem E_ready (hF : 2000 ≤ F) (L : LayM g) (rW : aI g 114 = W) (g8 : 0 ≤ W 8 ∧ W 8 ≤ 12) (j : Nat) (hj : (j : Int) < W 8) : (okR W j → X12_isReady F 113 j g = some (1, g)) ∧ (¬ okR W j → X12_isReady F 113 j g = some (0, g)) := by
  have hj12 : j < 12 := by omega
  have t8 := E_itW (F := F) L rW hj12 8 (by omega)
  have t11 := E_itW (F := F) L rW hj12 11 (by omega)
  have ln := E_lnsM (F := F) (h := g) (j : Int) L (by omega) (by rw [rW]; exact g8) (by omega)
  rw [rW] at ln
  obtain ⟨y1, y2⟩ := E_rd1 (F := F) L rW (lns W j) (lns_b W j g8) (W 8).toNat 0 F (by omega) (by omega) g8.2
  unfold X12_isReady
  rw [mR113 g _ L, b_xb _ _ _ _ t8]
  by_cases c0 : W (169 + 882 * (j : Int) + 8) = 0
  · rw [if_pos c0, mR113 g _ L, b_xb _ _ _ _ t11]
    by_cases c1 : W (169 + 882 * (j : Int) + 11) = 2
    · rw [if_pos c1]
      exact ⟨fun x => absurd c1 x.2.1, fun _ => rfl⟩
    · rw [if_neg c1, mR113 g _ L, b_xb _ _ _ _ ln]
      exact ⟨fun x => y1 (fun k _ h2 h3 => x.2.2 k h2 h3), fun x => y2 (fun z => x ⟨c0, c1, fun k h2 h3 => z k (Nat.zero_le _) h2 h3⟩)⟩
  · rw [if_neg c0]
    exact ⟨fun x => absurd x.1 c0, fun _ => rfl⟩
end NXM
