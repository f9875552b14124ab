theorem yshl_c : (((Int32.ofInt 1).toInt64 &&& 63).toBitVec.smod 64#64) = BitVec.ofNat 64 1 := by decide +kernel
theorem tb_shl (a : Int) (i : Nat) (hi : i < 64) : tb (yshl a 1) i = (decide (1 ≤ i) && tb a (i - 1)) := by
  have e : yshl a 1 = ((BitVec.ofInt 64 a) <<< (((Int32.ofInt 1).toInt64 &&& 63).toBitVec.smod 64#64)).toInt := rfl
  rw [yshl_c] at e
  unfold tb
  rw [e, BitVec.ofInt_toInt, BitVec.shiftLeft_ofNat_eq, BitVec.getLsbD_shiftLeft]
  by_cases c : i = 0
  · subst c; simp
  · have : 1 ≤ i := by omega
    simp [hi, this]
    omega
theorem yush_c : ((((Int32.ofInt 1).toInt64.toUInt64 &&& Int64.toUInt64 63).toBitVec % 64#64)) = BitVec.ofNat 64 1 := by decide +kernel
theorem tb_ush (a : Int) (i : Nat) (hi : i < 64) : tb (yush a 1) i = tb a (i + 1) := by
  have e : yush a 1 = ((BitVec.ofInt 64 a) >>> (((Int32.ofInt 1).toInt64.toUInt64 &&& Int64.toUInt64 63).toBitVec % 64#64)).toInt := rfl
  rw [yush_c] at e
  unfold tb
  rw [e, BitVec.ofInt_toInt, BitVec.ushiftRight_eq', BitVec.getLsbD_ushiftRight]
  simp [Nat.add_comm]
theorem tb_m2 : ∀ i, i < 64 → tb (-2) i = decide (i ≠ 0) := by decide +kernel
/-- a condition's tokens done over a stack -/
def evT (e : EnT) : List Ctk → List Bool → List Bool
  | [], st => st
  | t :: ts, st => evT e ts (if t.1 = 0 then decide (suV e t.2.1 0 < suV e t.2.2 0) :: st else if t.1 = 1 then decide (suV e t.2.2 0 < suV e t.2.1 0) :: st else if t.1 = 2 then (!(st.headD false)) :: st.tail else if t.1 = 3 then (st.headD false && st.tail.headD false) :: st.tail.tail else (st.headD false || st.tail.headD false) :: st.tail.tail)
def bitS (z : Int) (st : List Bool) : Prop := ∀ (i : Nat) (b : Bool), st[i]? = some b → tb z i = b
theorem bitS.push {z : Int} {st : List Bool} (b : bitS z st) (hl : st.length < 63) (x : Bool) : bitS (yor (yshl z 1) (if x = true then 1 else 0)) (x :: st) := by
  intro i y e
  have hi : i < (x :: st).length := (List.getElem?_eq_some_iff.mp e).1
  rw [List.length_cons] at hi
  rw [tb_or, tb_shl z i (by omega)]
  cases i with
  | zero =>
    have : x = y := by simpa using e
    subst this
    cases x with
    | true => rw [if_pos rfl, tb_1 0 (by decide)]; rfl
    | false => rw [if_neg (by decide), tb_0]; rfl
  | succ i =>
    have e' : st[i]? = some y := by simpa using e
    rw [show i + 1 - 1 = i by omega, b i y e', decide_eq_true (show 1 ≤ i + 1 by omega), Bool.true_and]
    cases x with
    | true => rw [if_pos rfl, tb_1 _ (by omega), decide_eq_false (by omega), Bool.or_false]
    | false => rw [if_neg (by decide), tb_0, Bool.or_false]
theorem bitS.not {z : Int} {a : Bool} {st : List Bool} (b : bitS z (a :: st)) (hl : st.length < 63) : bitS (yxor z 1) ((!a) :: st) := by
  intro i y e
  have hi : i < ((!a) :: st).length := (List.getElem?_eq_some_iff.mp e).1
  rw [List.length_cons] at hi
  rw [tb_xor, tb_1 i (by omega)]
  cases i with
  | zero =>
    have : (!a) = y := by simpa using e
    rw [b 0 a rfl, ← this]
    cases a <;> rfl
  | succ i =>
    have e' : st[i]? = some y := by simpa using e
    rw [b (i + 1) y (by simpa using e'), decide_eq_false (by omega)]
    cases y <;> rfl
theorem bitS.or {z : Int} {a c : Bool} {st : List Bool} (b : bitS z (a :: c :: st)) (hl : st.length < 60) : bitS (yor (yush z 1) (yand z 1)) ((a || c) :: st) := by
  intro i y e
  have hi : i < ((a || c) :: st).length := (List.getElem?_eq_some_iff.mp e).1
  rw [List.length_cons] at hi
  rw [tb_or, tb_ush z i (by omega), tb_and, tb_1 i (by omega)]
  cases i with
  | zero =>
    have : (a || c) = y := by simpa using e
    rw [b 0 a rfl, b 1 c rfl, ← this]
    cases a <;> cases c <;> rfl
  | succ i =>
    have e' : st[i]? = some y := by simpa using e
    rw [b (i + 1 + 1) y (by simpa using e'), decide_eq_false (by omega), Bool.and_false, Bool.or_false]
theorem bitS.and {z : Int} {a c : Bool} {st : List Bool} (b : bitS z (a :: c :: st)) (hl : st.length < 60) : bitS (yand (yush z 1) (yor z (-2))) ((a && c) :: st) := by
  intro i y e
  have hi : i < ((a && c) :: st).length := (List.getElem?_eq_some_iff.mp e).1
  rw [List.length_cons] at hi
  rw [tb_and, tb_ush z i (by omega), tb_or, tb_m2 i (by omega)]
  cases i with
  | zero =>
    have : (a && c) = y := by simpa using e
    rw [b 0 a rfl, b 1 c rfl, ← this]
    cases a <;> cases c <;> rfl
  | succ i =>
    have e' : st[i]? = some y := by simpa using e
    rw [b (i + 1 + 1) y (by simpa using e'), decide_eq_true (show i + 1 ≠ 0 by omega), Bool.or_true, Bool.and_true]
section CN
variable {F : Nat}
theorem hgt_cons (t : Ctk) (ts : List Ctk) (n m : Nat) (h : hgt (t :: ts) n = some m) (k : t.1 ≤ 4) : (t.1 < 2 ∧ n < 40 ∧ hgt ts (n + 1) = some m) ∨ (t.1 = 2 ∧ 1 ≤ n ∧ hgt ts n = some m) ∨ ((t.1 = 3 ∨ t.1 = 4) ∧ 2 ≤ n ∧ hgt ts (n - 1) = some m) := by
  unfold hgt at h
  by_cases a : t.1 < 2
  · rw [if_pos a] at h
    by_cases b : n < 40
    · rw [if_pos b] at h; exact Or.inl ⟨a, b, h⟩
    · rw [if_neg b] at h; cases h
  · rw [if_neg a] at h
    by_cases c : t.1 = 2
    · rw [if_pos c] at h
      by_cases b : 1 ≤ n
      · rw [if_pos b] at h; exact Or.inr (Or.inl ⟨c, b, h⟩)
      · rw [if_neg b] at h; cases h
    · rw [if_neg c] at h
      by_cases b : 2 ≤ n
      · rw [if_pos b] at h; exact Or.inr (Or.inr ⟨by omega, b, h⟩)
      · rw [if_neg b] at h; cases h
/-- the condition of the class -/
theorem E_holds4 {h : HP} {c : List Int} {cw : Int} {e : EnT} (hF : 500 ≤ F) (d : DoC h c cw e) (o : okE e) : ∀ (ts : List Ctk) (i j k m : Nat) (z : Int) (st : List Bool), ts.length < k → j + ts.length < 1208 → hgt ts st.length = some m → 1 ≤ m → st.length ≤ 40 → (∀ t ∈ ts, okT t) → (∀ (x : Nat) (y : Int), (ts.flatMap tokC ++ [-1])[x]? = some y → c[i + x]? = some y) → bitS z st → X1_holds_L4 F k 10 z j (sI h 10 2 i) = some (if (evT e ts st).headD false = true then 1 else 0, sI h 10 2 ((i + (ts.flatMap tokC ++ [-1]).length : Nat) : Int)) := by
  intro ts
  induction ts with
  | nil =>
    intro i j k m z st hk hj hg hm hs ok hc b
    obtain ⟨k, rfl⟩ : ∃ k', k = k' + 1 := ⟨k - 1, by simp at hk; omega⟩
    have x0 := E_next (F := F) d i _ (hc 0 _ rfl)
    have hl : st.length = m := by unfold hgt at hg; cases hg; rfl
    rw [X1_holds_L4_s, if_neg (by simp at hj; omega), cR10 _ _ (d.at _).1, b_xb _ _ _ _ x0, if_neg (by decide), if_neg (by decide), if_neg (by decide), if_neg (by decide), if_neg (by decide)]
    cases st with
    | nil => simp at hl; omega
    | cons a st =>
      have y := yand_1 z
      rw [b 0 a rfl] at y
      rw [y]
      show some (if xcmp (if a = true then 1 else 0) 0 = 0 then 0 else 1, _) = some (if a = true then 1 else 0, _)
      cases a <;> rfl
  | cons t ts ih =>
    intro i j k m z st hk hj hg hm hs ok hc b
    obtain ⟨k, rfl⟩ : ∃ k', k = k' + 1 := ⟨k - 1, by omega⟩
    rw [List.length_cons] at hk hj
    have kt := ok t (by simp)
    have e1 : w32 ((j : Int) + 1) = ((j + 1 : Nat) : Int) := by rw [w32i _ (by omega) (by omega)]; omega
    have fm : (t :: ts).flatMap tokC ++ [-1] = tokC t ++ (ts.flatMap tokC ++ [-1]) := by rw [List.flatMap_cons, List.append_assoc]
    rw [fm] at hc ⊢
    have hc2 : ∀ (x : Nat) (y : Int), (ts.flatMap tokC ++ [-1])[x]? = some y → c[i + (tokC t).length + x]? = some y := fun x y hx => by
      have := hc ((tokC t).length + x) y (by rw [List.getElem?_append_right (by omega), show (tokC t).length + x - (tokC t).length = x by omega]; exact hx)
      rw [Nat.add_assoc]; exact this
    have hc1 : ∀ (x : Nat) (y : Int), (tokC t)[x]? = some y → c[i + x]? = some y := fun x y hx => by
      have hx' : x < (tokC t).length := (List.getElem?_eq_some_iff.mp hx).1
      exact hc x y (by rw [List.getElem?_append_left hx']; exact hx)
    rw [List.length_append, ← Nat.add_assoc]
    have nx : ∀ (z' : Int) (st' : List Bool) (hp : Int), hgt ts st'.length = some m → st'.length ≤ 40 → bitS z' st' → evT e (t :: ts) st = evT e ts st' → hp = ((i + (tokC t).length : Nat) : Int) → X1_holds_L4 F k 10 z' ((j + 1 : Nat) : Int) (sI h 10 2 hp) = some (if (evT e (t :: ts) st).headD false = true then 1 else 0, sI h 10 2 ((i + (tokC t).length + (ts.flatMap tokC ++ [-1]).length : Nat) : Int)) := by
      intro z' st' hp g1 g2 g3 g4 g5
      rw [g4, g5]
      exact ih (i + (tokC t).length) (j + 1) k m z' st' (by omega) (by omega) g1 hm g2 (fun q hq => ok q (by simp [hq])) hc2 g3
    rcases hgt_cons t ts _ _ hg kt.1 with ⟨a, a2, a3⟩ | ⟨a, a2, a3⟩ | ⟨a, a2, a3⟩
    · obtain ⟨s1, s2⟩ := kt.2 a
      have two : tokC t = (if t.1 = 0 then 60 else 62) :: (sumC t.2.1 ++ sumC t.2.2) := by
        unfold tokC
        by_cases q : t.1 = 0
        · rw [if_pos q, if_pos q]
        · rw [if_neg q, if_neg q, if_pos (by omega)]
      have x0 := E_next (F := F) d i _ (hc1 0 _ (by rw [two]; rfl))
      have y1 := E_sumC (F := F) hF d o t.2.1 s1 (i + 1) (fun x y hx => by
        have hx' : x < (sumC t.2.1).length := (List.getElem?_eq_some_iff.mp hx).1
        have := hc1 (x + 1) y (by rw [two, List.getElem?_cons_succ, List.getElem?_append_left hx']; exact hx)
        rw [show i + 1 + x = i + (x + 1) by omega]; exact this)
      have y2 := E_sumC (F := F) hF d o t.2.2 s2 (i + 1 + (sumC t.2.1).length) (fun x y hx => by
        have := hc1 ((sumC t.2.1).length + x + 1) y (by rw [two, List.getElem?_cons_succ, List.getElem?_append_right (by omega), show (sumC t.2.1).length + x - (sumC t.2.1).length = x by omega]; exact hx)
        rw [show i + 1 + (sumC t.2.1).length + x = i + ((sumC t.2.1).length + x + 1) by omega]; exact this)
      have lt : (tokC t).length = (sumC t.2.1).length + (sumC t.2.2).length + 1 := by rw [two, List.length_cons, List.length_append]
      have he : ((i + 1 + (sumC t.2.1).length + (sumC t.2.2).length : Nat) : Int) = ((i + (tokC t).length : Nat) : Int) := by rw [lt]; omega
      rw [X1_holds_L4_s, if_neg (by omega), cR10 _ _ (d.at _).1, b_xb _ _ _ _ x0]
      unfold X1_holds_L84 X1_holds_L109 X1_holds_L159
      rw [e1]
      by_cases q : t.1 = 0
      · have ev : evT e (t :: ts) st = evT e ts (decide (suV e t.2.1 0 < suV e t.2.2 0) :: st) := by
          show evT e ts (if t.1 = 0 then _ else _) = _
          rw [if_pos q]
        have n1 := nx _ (decide (suV e t.2.1 0 < suV e t.2.2 0) :: st) _ a3 (by rw [List.length_cons]; omega) (b.push (by omega) (decide (suV e t.2.1 0 < suV e t.2.2 0))) ev he
        have eb : (if 0 ≤ xcmp (suV e t.2.1 0) (suV e t.2.2 0) then (0 : Int) else 1) = if decide (suV e t.2.1 0 < suV e t.2.2 0) = true then 1 else 0 := by
          by_cases w : suV e t.2.1 0 < suV e t.2.2 0
          · rw [if_neg (fun z => by have := (xcmp_ge _ _).mp z; omega), if_pos (decide_eq_true w)]
          · rw [if_pos ((xcmp_ge _ _).mpr (by omega)), if_neg (by rw [decide_eq_false w]; decide)]
        rw [if_pos q, if_pos rfl, cR10 _ _ (d.at _).1, b_xb _ _ _ _ y1, cR10 _ _ (d.at _).1, b_xb _ _ _ _ y2, eb]
        exact n1
      · have ev : evT e (t :: ts) st = evT e ts (decide (suV e t.2.2 0 < suV e t.2.1 0) :: st) := by
          show evT e ts (if t.1 = 0 then _ else if t.1 = 1 then _ else _) = _
          rw [if_neg q, if_pos (by omega)]
        have n1 := nx _ (decide (suV e t.2.2 0 < suV e t.2.1 0) :: st) _ a3 (by rw [List.length_cons]; omega) (b.push (by omega) (decide (suV e t.2.2 0 < suV e t.2.1 0))) ev he
        have eb : (if xcmp (suV e t.2.1 0) (suV e t.2.2 0) ≤ 0 then (0 : Int) else 1) = if decide (suV e t.2.2 0 < suV e t.2.1 0) = true then 1 else 0 := by
          by_cases w : suV e t.2.2 0 < suV e t.2.1 0
          · rw [if_neg (fun z => by have := (xcmp_le _ _).mp z; omega), if_pos (decide_eq_true w)]
          · rw [if_pos ((xcmp_le _ _).mpr (by omega)), if_neg (by rw [decide_eq_false w]; decide)]
        rw [if_neg q, if_neg (by decide), if_pos rfl, cR10 _ _ (d.at _).1, b_xb _ _ _ _ y1, cR10 _ _ (d.at _).1, b_xb _ _ _ _ y2, eb]
        exact n1
    · have two : tokC t = [268] := by unfold tokC; rw [if_neg (by omega), if_neg (by omega), if_pos a]
      have x0 := E_next (F := F) d i _ (hc1 0 _ (by rw [two]; rfl))
      cases st with
      | nil => simp at a2
      | cons p st =>
        have ev : evT e (t :: ts) (p :: st) = evT e ts ((!p) :: st) := by
          show evT e ts (if t.1 = 0 then _ else if t.1 = 1 then _ else if t.1 = 2 then _ else _) = _
          rw [if_neg (by omega), if_neg (by omega), if_pos a]; rfl
        have n1 := nx _ ((!p) :: st) ((i + 1 : Nat) : Int) a3 (by simpa using hs) (b.not (by rw [List.length_cons] at hs; omega)) ev (by rw [two]; rfl)
        rw [X1_holds_L4_s, if_neg (by omega), cR10 _ _ (d.at _).1, b_xb _ _ _ _ x0]
        unfold X1_holds_L84 X1_holds_L109 X1_holds_L159
        rw [e1, if_neg (by decide), if_neg (by decide), if_neg (by decide), if_neg (by decide), if_pos rfl]
        exact n1
    · cases st with
      | nil => simp at a2
      | cons p st =>
        cases st with
        | nil => simp at a2
        | cons r st =>
          rw [List.length_cons, List.length_cons] at hs
          have a3' : hgt ts (st.length + 1) = some m := by
            rw [List.length_cons, List.length_cons, show st.length + 1 + 1 - 1 = st.length + 1 by omega] at a3; exact a3
          rcases a with a | a
          · have two : tokC t = [267] := by unfold tokC; rw [if_neg (by omega), if_neg (by omega), if_neg (by omega), if_pos a]
            have x0 := E_next (F := F) d i _ (hc1 0 _ (by rw [two]; rfl))
            have ev : evT e (t :: ts) (p :: r :: st) = evT e ts ((p && r) :: st) := by
              show evT e ts (if t.1 = 0 then _ else if t.1 = 1 then _ else if t.1 = 2 then _ else if t.1 = 3 then _ else _) = _
              rw [if_neg (by omega), if_neg (by omega), if_neg (by omega), if_pos a]; rfl
            have n1 := nx _ ((p && r) :: st) ((i + 1 : Nat) : Int) a3' (by rw [List.length_cons]; omega) (b.and (by omega)) ev (by rw [two]; rfl)
            rw [X1_holds_L4_s, if_neg (by omega), cR10 _ _ (d.at _).1, b_xb _ _ _ _ x0]
            unfold X1_holds_L84 X1_holds_L109 X1_holds_L159
            rw [e1, if_neg (by decide), if_neg (by decide), if_neg (by decide), if_pos rfl]
            exact n1
          · have two : tokC t = [266] := by unfold tokC; rw [if_neg (by omega), if_neg (by omega), if_neg (by omega), if_neg (by omega)]
            have x0 := E_next (F := F) d i _ (hc1 0 _ (by rw [two]; rfl))
            have ev : evT e (t :: ts) (p :: r :: st) = evT e ts ((p || r) :: st) := by
              show evT e ts (if t.1 = 0 then _ else if t.1 = 1 then _ else if t.1 = 2 then _ else if t.1 = 3 then _ else _) = _
              rw [if_neg (by omega), if_neg (by omega), if_neg (by omega), if_neg (by omega)]; rfl
            have n1 := nx _ ((p || r) :: st) ((i + 1 : Nat) : Int) a3' (by rw [List.length_cons]; omega) (b.or (by omega)) ev (by rw [two]; rfl)
            rw [X1_holds_L4_s, if_neg (by omega), cR10 _ _ (d.at _).1, b_xb _ _ _ _ x0]
            unfold X1_holds_L84 X1_holds_L109 X1_holds_L159
            rw [e1, if_neg (by decide), if_neg (by decide), if_pos rfl]
            exact n1
end CN
