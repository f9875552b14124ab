/-! texts: what is read, over things: their kinds K and numbers N (the END is -1, a number -2) -/
abbrev Rs (α : Type) : Type := Nat ⊕ (α × Nat)
def pAt (K N : Nat → Int) (j : Nat) : Rs (Int × Int) :=
  if K j = 271 then .inr ((271, 0), j + 1) else if K j = 272 then .inr ((272, 0), j + 1)
  else if K j = 269 ∨ K j = 270 then (if K (j + 1) = -2 ∧ N (j + 1) ≤ 63 then .inr ((K j, N (j + 1)), j + 2) else .inl (j + 1))
  else .inl j
def pAtom (K N : Nat → Int) (j : Nat) : Rs (Int × Int) := if K j = -2 then .inr ((-2, N j), j + 1) else pAt K N j
def pPart (K N : Nat → Int) (neg : Bool) (j : Nat) : Rs Prt :=
  if K j = -2 then
    (if K (j + 1) = 42 then (match pAtom K N (j + 2) with | .inl f => .inl f | .inr (a, k) => .inr ((neg, some (N j), a.1, a.2), k)) else .inr ((neg, none, -2, N j), j + 1))
  else (match pAt K N j with | .inl f => .inl f | .inr (a, k) => .inr ((neg, none, a.1, a.2), k))
def pRest (K N : Nat → Int) : Nat → Nat → Rs (List Prt)
  | 0, j => .inr ([], j)
  | f + 1, j => if K j = 43 ∨ K j = 45 then (match pPart K N (decide (K j = 45)) (j + 1) with | .inl e => .inl e | .inr (p, k) => (match pRest K N f k with | .inl e => .inl e | .inr (ps, m) => .inr (p :: ps, m))) else .inr ([], j)
def pSum (K N : Nat → Int) (j : Nat) : Rs (List Prt) :=
  match pPart K N false j with | .inl e => .inl e | .inr (p, k) => (match pRest K N 401 k with | .inl e => .inl e | .inr (ps, m) => .inr (p :: ps, m))
def pCmp (K N : Nat → Int) (j : Nat) : Rs (List Ctk) :=
  match pSum K N j with
  | .inl e => .inl e
  | .inr (s, k) => if K k = 60 ∨ K k = 62 then (match pSum K N (k + 1) with | .inl e => .inl e | .inr (u, m) => .inr ([(if K k = 60 then 0 else 1, s, u)], m)) else .inl k
/-- more of the same sort, joined -/
def pL (K : Nat → Int) (sym : Int) (tok : Ctk) (P : Nat → Rs (List Ctk)) : Nat → Nat → Rs (List Ctk)
  | 0, j => .inr ([], j)
  | f + 1, j => if K j = sym then (match P (j + 1) with | .inl e => .inl e | .inr (ts, k) => (match pL K sym tok P f k with | .inl e => .inl e | .inr (us, m) => .inr (ts ++ tok :: us, m))) else .inr ([], j)
def pA (K : Nat → Int) (T : Nat → Rs (List Ctk)) (j : Nat) : Rs (List Ctk) :=
  match T j with | .inl e => .inl e | .inr (ts, k) => (match pL K 267 (3, [], []) T 401 k with | .inl e => .inl e | .inr (us, m) => .inr (ts ++ us, m))
def pC (K : Nat → Int) (T : Nat → Rs (List Ctk)) (j : Nat) : Rs (List Ctk) :=
  match pA K T j with | .inl e => .inl e | .inr (ts, k) => (match pL K 266 (4, [], []) (pA K T) 401 k with | .inl e => .inl e | .inr (us, m) => .inr (ts ++ us, m))
/-- a test, n levels still free -/
def pT (K N : Nat → Int) : Nat → Nat → Rs (List Ctk)
  | 0, j => if K j = 40 ∨ K j = 268 then .inl j else pCmp K N j
  | n + 1, j =>
    if K j = 40 then (match pC K (pT K N n) (j + 1) with | .inl e => .inl e | .inr (ts, k) => if K k = 41 then .inr (ts, k + 1) else .inl k)
    else if K j = 268 then (match pT K N n (j + 1) with | .inl e => .inl e | .inr (ts, k) => .inr (ts ++ [(2, [], [])], k))
    else pCmp K N j
def pTgt (K N : Nat → Int) (j : Nat) : Prop := K j = -2 ∧ 16 ≤ N j ∧ N j ≤ 63
def pSet (K N : Nat → Int) (r : Int) (j : Nat) : Rs Lin :=
  if K j = -2 ∧ 16 ≤ N j ∧ N j ≤ 63 then (if K (j + 1) = 61 then (match pSum K N (j + 2) with | .inl e => .inl e | .inr (s, k) => .inr ((0, N j, r, 0, s, []), k)) else .inl (j + 1)) else .inl j
def pTot (K N : Nat → Int) (j : Nat) : Rs Lin :=
  if K j = -2 ∧ 16 ≤ N j ∧ N j ≤ 63 then (if K (j + 1) = 259 then (if K (j + 2) = -2 ∧ N (j + 2) ≤ 63 then (if K (j + 3) = 260 then (if K (j + 4) = -2 ∧ N (j + 2) ≤ N (j + 4) ∧ N (j + 4) ≤ 63 then .inr ((1, N j, N (j + 2), N (j + 4), [], []), j + 5) else .inl (j + 4)) else .inl (j + 3)) else .inl (j + 2)) else .inl (j + 1)) else .inl j
def pRnd (K N : Nat → Int) (j : Nat) : Rs Lin :=
  if K j = -2 ∧ 16 ≤ N j ∧ N j ≤ 63 then (if K (j + 1) = 262 then (if K (j + 2) = -2 ∧ 1 ≤ N (j + 2) ∧ N (j + 2) ≤ 9999 then .inr ((2, N j, N (j + 2), 0, [], []), j + 3) else .inl (j + 2)) else .inl (j + 1)) else .inl j
def pIf (K N : Nat → Int) (so : Int) (j : Nat) : Rs Lin :=
  if K j = 265 then (match pC K (pT K N 6) (j + 1) with | .inl e => .inl e | .inr (ts, k) => .inr ((so, 0, 0, 0, [], ts), k)) else .inl j
def pLine (K N : Nat → Int) (j : Nat) : Rs Lin :=
  if K j = 256 then (if K (j + 1) = -2 ∧ 1 ≤ N (j + 1) ∧ N (j + 1) ≤ 9 then (if K (j + 2) = 257 then pSet K N (N (j + 1)) (j + 3) else .inl (j + 2)) else .inl (j + 1))
  else if K j = 257 then pSet K N 1 (j + 1)
  else if K j = 258 then pTot K N (j + 1)
  else if K j = 261 then pRnd K N (j + 1)
  else if K j = 263 then pIf K N 3 (j + 1)
  else if K j = 264 then pIf K N 4 (j + 1)
  else .inl j
def pLs (K N : Nat → Int) : Nat → Nat → Rs (List Lin)
  | 0, j => .inl j
  | f + 1, j => match pLine K N j with
    | .inl e => .inl e
    | .inr (l, k) => if K k = -1 then .inr ([l], k) else if K k = 59 then (match pLs K N f (k + 1) with | .inl e => .inl e | .inr (ls, m) => .inr (l :: ls, m)) else .inl k
def pTxt (K N : Nat → Int) : Rs (List Lin) := if K 0 = -1 then .inr ([], 0) else pLs K N 10 0
/-! what is read is well made -/
/-- T is where the END stands: all behind is END; numbers are small -/
def okK (K N : Nat → Int) (T : Nat) : Prop := T ≤ 400 ∧ (∀ j, K j = -1 ↔ T ≤ j) ∧ ∀ j, K j = -2 → 0 ≤ N j ∧ N j ≤ 999999
section SPF
variable {K N : Nat → Int} {T : Nat}
theorem okK.lt (o : okK K N T) {j : Nat} (h : K j ≠ -1) : j < T := by
  rcases Nat.lt_or_ge j T with q | q
  · exact q
  · exact absurd ((o.2.1 j).mpr q) h
theorem pAt_ok (o : okK K N T) {j k : Nat} {a : Int × Int} (h : pAt K N j = .inr (a, k)) : j < k ∧ k ≤ T ∧ ((a.1 = 269 ∨ a.1 = 270) ∧ 0 ≤ a.2 ∧ a.2 ≤ 63 ∨ (a.1 = 271 ∨ a.1 = 272) ∧ a.2 = 0) := by
  unfold pAt at h
  by_cases c1 : K j = 271
  · rw [if_pos c1] at h
    have := o.lt (j := j) (by omega)
    cases h
    exact ⟨by omega, by omega, Or.inr ⟨Or.inl rfl, rfl⟩⟩
  rw [if_neg c1] at h
  by_cases c2 : K j = 272
  · rw [if_pos c2] at h
    have := o.lt (j := j) (by omega)
    cases h
    exact ⟨by omega, by omega, Or.inr ⟨Or.inr rfl, rfl⟩⟩
  rw [if_neg c2] at h
  by_cases c3 : K j = 269 ∨ K j = 270
  · rw [if_pos c3] at h
    by_cases c4 : K (j + 1) = -2 ∧ N (j + 1) ≤ 63
    · rw [if_pos c4] at h
      have := o.lt (j := j + 1) (by omega)
      have b := (o.2.2 (j + 1) c4.1).1
      have q := c4.2
      cases h
      exact ⟨by omega, by omega, Or.inl ⟨c3, b, q⟩⟩
    · rw [if_neg c4] at h; cases h
  · rw [if_neg c3] at h; cases h
theorem pAtom_ok (o : okK K N T) {j k : Nat} {a : Int × Int} (h : pAtom K N j = .inr (a, k)) : j < k ∧ k ≤ T ∧ (a.1 = -2 ∧ 0 ≤ a.2 ∧ a.2 ≤ 999999 ∨ (a.1 = 269 ∨ a.1 = 270) ∧ 0 ≤ a.2 ∧ a.2 ≤ 63 ∨ (a.1 = 271 ∨ a.1 = 272) ∧ a.2 = 0) := by
  unfold pAtom at h
  by_cases c : K j = -2
  · rw [if_pos c] at h
    have := o.lt (j := j) (by omega)
    have b := o.2.2 j c
    cases h
    exact ⟨by omega, by omega, Or.inl ⟨rfl, b⟩⟩
  · rw [if_neg c] at h
    obtain ⟨a1, a2, a3⟩ := pAt_ok o h
    exact ⟨a1, a2, Or.inr a3⟩
theorem pPart_ok (o : okK K N T) {neg : Bool} {j k : Nat} {p : Prt} (h : pPart K N neg j = .inr (p, k)) : j < k ∧ k ≤ T ∧ okP p ∧ p.1 = neg := by
  unfold pPart at h
  by_cases c : K j = -2
  · rw [if_pos c] at h
    have b := o.2.2 j c
    by_cases c2 : K (j + 1) = 42
    · rw [if_pos c2] at h
      cases e : pAtom K N (j + 2) with
      | inl f => rw [e] at h; cases h
      | inr x =>
        obtain ⟨a, m⟩ := x
        rw [e] at h
        obtain ⟨a1, a2, a3⟩ := pAtom_ok o e
        cases h
        refine ⟨by omega, a2, ⟨fun m q => ?_, a3⟩, rfl⟩
        have q' : some (N j) = some m := q
        cases q'
        exact b
    · rw [if_neg c2] at h
      have := o.lt (j := j) (by omega)
      cases h
      exact ⟨by omega, by omega, ⟨fun m q => (by cases q), Or.inl ⟨rfl, b⟩⟩, rfl⟩
  · rw [if_neg c] at h
    cases e : pAt K N j with
    | inl f => rw [e] at h; cases h
    | inr x =>
      obtain ⟨a, m⟩ := x
      rw [e] at h
      obtain ⟨a1, a2, a3⟩ := pAt_ok o e
      cases h
      exact ⟨a1, a2, ⟨fun m q => (by cases q), Or.inr a3⟩, rfl⟩
theorem pRest_ok (o : okK K N T) : ∀ (f j k : Nat) (ps : List Prt), pRest K N f j = .inr (ps, k) → T + 1 ≤ j + f → j ≤ T → j + 2 * ps.length ≤ k ∧ k ≤ T ∧ (∀ p ∈ ps, okP p) ∧ K k ≠ 43 ∧ K k ≠ 45 := by
  intro f
  induction f with
  | zero => intro j k ps h hf hj; omega
  | succ f ih =>
    intro j k ps h hf hj
    unfold pRest at h
    by_cases c : K j = 43 ∨ K j = 45
    · rw [if_pos c] at h
      cases e : pPart K N (decide (K j = 45)) (j + 1) with
      | inl x => rw [e] at h; cases h
      | inr x =>
        obtain ⟨p, m⟩ := x
        rw [e] at h
        obtain ⟨a1, a2, a3, a4⟩ := pPart_ok o e
        cases e2 : pRest K N f m with
        | inl x =>
          change (match pRest K N f m with | .inl e => Sum.inl e | .inr (ps, m) => Sum.inr (p :: ps, m)) = _ at h
          rw [e2] at h; cases h
        | inr x =>
          obtain ⟨qs, m2⟩ := x
          change (match pRest K N f m with | .inl e => Sum.inl e | .inr (ps, m) => Sum.inr (p :: ps, m)) = _ at h
          rw [e2] at h
          obtain ⟨b1, b2, b3, b4⟩ := ih m m2 qs e2 (by omega) a2
          cases h
          refine ⟨by rw [List.length_cons]; omega, b2, fun q hq => ?_, b4⟩
          rcases List.mem_cons.mp hq with x | x
          · rw [x]; exact a3
          · exact b3 q x
    · rw [if_neg c] at h
      cases h
      exact ⟨(by show j + 2 * 0 ≤ j; omega), hj, fun p hp => (by cases hp), fun q => c (Or.inl q), fun q => c (Or.inr q)⟩
theorem pSum_ok (o : okK K N T) {j k : Nat} {s : List Prt} (h : pSum K N j = .inr (s, k)) : j + 2 * s.length ≤ k + 1 ∧ j < k ∧ k ≤ T ∧ okS s ∧ K k ≠ 43 ∧ K k ≠ 45 := by
  unfold pSum at h
  cases e : pPart K N false j with
  | inl x => rw [e] at h; cases h
  | inr x =>
    obtain ⟨p, m⟩ := x
    rw [e] at h
    obtain ⟨a1, a2, a3, a4⟩ := pPart_ok o e
    change (match pRest K N 401 m with | .inl e => Sum.inl e | .inr (ps, m) => Sum.inr (p :: ps, m)) = _ at h
    cases e2 : pRest K N 401 m with
    | inl x => rw [e2] at h; cases h
    | inr x =>
      obtain ⟨qs, m2⟩ := x
      rw [e2] at h
      have hT := o.1
      obtain ⟨b1, b2, b3, b4⟩ := pRest_ok o 401 m m2 qs e2 (by omega) a2
      cases h
      refine ⟨by rw [List.length_cons]; omega, by omega, b2, ⟨by rw [List.length_cons]; omega, by rw [List.length_cons]; omega, fun q hq => ?_, p, qs, rfl, a4⟩, b4⟩
      rcases List.mem_cons.mp hq with x | x
      · rw [x]; exact a3
      · exact b3 q x
/-- a piece of a condition: where it ends, what is in it, how high it goes from m -/
def okC (j k T m : Nat) (ts : List Ctk) : Prop := j < k ∧ k ≤ T ∧ (∀ t ∈ ts, okT t) ∧ ∀ n us, n ≤ m → hgt (ts ++ us) n = hgt us (n + 1)
theorem pCmp_ok (o : okK K N T) {j k : Nat} {ts : List Ctk} (h : pCmp K N j = .inr (ts, k)) : okC j k T 39 ts := by
  unfold pCmp at h
  cases e : pSum K N j with
  | inl x => rw [e] at h; cases h
  | inr x =>
    obtain ⟨s, m⟩ := x
    rw [e] at h
    obtain ⟨-, a1, a2, a3, -⟩ := pSum_ok o e
    change (if K m = 60 ∨ K m = 62 then (match pSum K N (m + 1) with | .inl e => Sum.inl e | .inr (u, n) => Sum.inr ([(if K m = 60 then 0 else 1, s, u)], n)) else .inl m) = _ at h
    by_cases c : K m = 60 ∨ K m = 62
    · rw [if_pos c] at h
      cases e2 : pSum K N (m + 1) with
      | inl x => rw [e2] at h; cases h
      | inr x =>
        obtain ⟨u, n⟩ := x
        rw [e2] at h
        obtain ⟨-, b1, b2, b3, -⟩ := pSum_ok o e2
        cases h
        have q : (if K m = 60 then 0 else 1 : Nat) < 2 := by split <;> omega
        refine ⟨by omega, b2, fun t ht => ?_, fun i us hi => ?_⟩
        · have x := List.mem_singleton.mp ht
          rw [x]
          exact ⟨(by show (if K m = 60 then 0 else 1 : Nat) ≤ 4; omega), fun _ => ⟨a3, b3⟩⟩
        · show (if (if K m = 60 then 0 else 1 : Nat) < 2 then (if i < 40 then hgt us (i + 1) else none) else _) = _
          rw [if_pos q, if_pos (by omega)]
    · rw [if_neg c] at h; cases h
theorem pL_ok {sym : Int} {tok : Ctk} {P : Nat → Rs (List Ctk)} {m : Nat} (hm : 1 ≤ m) (ht : tok.1 = 3 ∨ tok.1 = 4) (hP : ∀ j k ts, j ≤ T → P j = .inr (ts, k) → okC j k T m ts) (hs : sym ≠ -1) (o : okK K N T) : ∀ (f j k : Nat) (us : List Ctk), pL K sym tok P f j = .inr (us, k) → T + 1 ≤ j + f → j ≤ T → j ≤ k ∧ k ≤ T ∧ (∀ t ∈ us, okT t) ∧ (∀ n vs, 1 ≤ n → n ≤ m → hgt (us ++ vs) n = hgt vs n) ∧ K k ≠ sym := by
  intro f
  induction f with
  | zero => intro j k us h hf hj; omega
  | succ f ih =>
    intro j k us h hf hj
    unfold pL at h
    by_cases c : K j = sym
    · rw [if_pos c] at h
      have hjT := o.lt (j := j) (by rw [c]; exact hs)
      cases e : P (j + 1) with
      | inl x => rw [e] at h; cases h
      | inr x =>
        obtain ⟨ts, i⟩ := x
        rw [e] at h
        obtain ⟨a1, a2, a3, a4⟩ := hP (j + 1) i ts (by omega) e
        change (match pL K sym tok P f i with | .inl e => Sum.inl e | .inr (us, m) => Sum.inr (ts ++ tok :: us, m)) = _ at h
        cases e2 : pL K sym tok P f i with
        | inl x => rw [e2] at h; cases h
        | inr x =>
          obtain ⟨ws, i2⟩ := x
          rw [e2] at h
          obtain ⟨b1, b2, b3, b4, b5⟩ := ih i i2 ws e2 (by omega) a2
          cases h
          refine ⟨by omega, b2, fun t hq => ?_, fun n vs n1 n2 => ?_, b5⟩
          · rcases List.mem_append.mp hq with x | x
            · exact a3 t x
            · rcases List.mem_cons.mp x with x | x
              · rw [x]; exact ⟨by omega, fun y => (by omega)⟩
              · exact b3 t x
          · rw [List.append_assoc, a4 n _ n2]
            show (if tok.1 < 2 then _ else if tok.1 = 2 then _ else if 2 ≤ n + 1 then hgt (ws ++ vs) (n + 1 - 1) else none) = _
            rw [if_neg (by omega), if_neg (by omega), if_pos (by omega), Nat.add_sub_cancel]
            exact b4 n vs n1 n2
    · rw [if_neg c] at h
      cases h
      exact ⟨Nat.le_refl _, hj, fun t hq => (by cases hq), fun n vs _ _ => rfl, c⟩
theorem pA_ok {P : Nat → Rs (List Ctk)} {m : Nat} (hm : 1 ≤ m) (hP : ∀ j k ts, j ≤ T → P j = .inr (ts, k) → okC j k T m ts) (o : okK K N T) {j k : Nat} {us : List Ctk} (hj : j ≤ T) (h : pA K P j = .inr (us, k)) : okC j k T (m - 1) us ∧ K k ≠ 267 := by
  unfold pA at h
  have hT := o.1
  cases e : P j with
  | inl x => rw [e] at h; cases h
  | inr x =>
    obtain ⟨ts, i⟩ := x
    rw [e] at h
    obtain ⟨a1, a2, a3, a4⟩ := hP j i ts hj e
    change (match pL K 267 (3, [], []) P 401 i with | .inl e => Sum.inl e | .inr (us, m) => Sum.inr (ts ++ us, m)) = _ at h
    cases e2 : pL K 267 (3, [], []) P 401 i with
    | inl x => rw [e2] at h; cases h
    | inr x =>
      obtain ⟨ws, i2⟩ := x
      rw [e2] at h
      obtain ⟨b1, b2, b3, b4, b5⟩ := pL_ok hm (Or.inl rfl) hP (by decide) o 401 i i2 ws e2 (by omega) a2
      cases h
      refine ⟨⟨by omega, b2, fun t hq => ?_, fun n vs hn => ?_⟩, b5⟩
      · rcases List.mem_append.mp hq with x | x
        · exact a3 t x
        · exact b3 t x
      · rw [List.append_assoc, a4 n _ (by omega)]
        exact b4 (n + 1) vs (by omega) (by omega)
theorem pC_ok {P : Nat → Rs (List Ctk)} {m : Nat} (hm : 2 ≤ m) (hP : ∀ j k ts, j ≤ T → P j = .inr (ts, k) → okC j k T m ts) (o : okK K N T) {j k : Nat} {us : List Ctk} (hj : j ≤ T) (h : pC K P j = .inr (us, k)) : okC j k T (m - 2) us ∧ K k ≠ 266 := by
  unfold pC at h
  have hT := o.1
  cases e : pA K P j with
  | inl x => rw [e] at h; cases h
  | inr x =>
    obtain ⟨ts, i⟩ := x
    rw [e] at h
    obtain ⟨⟨a1, a2, a3, a4⟩, -⟩ := pA_ok (by omega) hP o hj e
    change (match pL K 266 (4, [], []) (pA K P) 401 i with | .inl e => Sum.inl e | .inr (us, m) => Sum.inr (ts ++ us, m)) = _ at h
    cases e2 : pL K 266 (4, [], []) (pA K P) 401 i with
    | inl x => rw [e2] at h; cases h
    | inr x =>
      obtain ⟨ws, i2⟩ := x
      rw [e2] at h
      obtain ⟨b1, b2, b3, b4, b5⟩ := pL_ok (m := m - 1) (by omega) (Or.inr rfl) (fun j k ts hj q => (pA_ok (by omega) hP o hj q).1) (by decide) o 401 i i2 ws e2 (by omega) a2
      cases h
      refine ⟨⟨by omega, b2, fun t hq => ?_, fun n vs hn => ?_⟩, b5⟩
      · rcases List.mem_append.mp hq with x | x
        · exact a3 t x
        · exact b3 t x
      · rw [List.append_assoc, a4 n _ (by omega)]
        exact b4 (n + 1) vs (by omega) (by omega)
theorem okC.mo {j k m m' : Nat} {ts : List Ctk} (h : okC j k T m ts) (q : m' ≤ m) : okC j k T m' ts := ⟨h.1, h.2.1, h.2.2.1, fun n us hn => h.2.2.2 n us (by omega)⟩
theorem pT_ok (o : okK K N T) : ∀ (n : Nat), n ≤ 6 → ∀ (j k : Nat) (ts : List Ctk), j ≤ T → pT K N n j = .inr (ts, k) → okC j k T (39 - 2 * n) ts := by
  intro n
  induction n with
  | zero =>
    intro _ j k ts hj h
    unfold pT at h
    by_cases c : K j = 40 ∨ K j = 268
    · rw [if_pos c] at h; cases h
    · rw [if_neg c] at h
      exact pCmp_ok o h
  | succ n ih =>
    intro hn j k ts hj h
    have ih' := ih (by omega)
    unfold pT at h
    by_cases c1 : K j = 40
    · rw [if_pos c1] at h
      have hjT := o.lt (j := j) (by omega)
      cases e : pC K (pT K N n) (j + 1) with
      | inl x => rw [e] at h; cases h
      | inr x =>
        obtain ⟨us, i⟩ := x
        rw [e] at h
        obtain ⟨⟨a1, a2, a3, a4⟩, -⟩ := pC_ok (m := 39 - 2 * n) (by omega) (fun j k ts hj q => ih' j k ts hj q) o (by omega) e
        change (if K i = 41 then Sum.inr (us, i + 1) else .inl i) = _ at h
        by_cases c2 : K i = 41
        · rw [if_pos c2] at h
          have hiT := o.lt (j := i) (by omega)
          cases h
          exact ⟨by omega, by omega, a3, fun m vs hm => a4 m vs (by omega)⟩
        · rw [if_neg c2] at h; cases h
    rw [if_neg c1] at h
    by_cases c2 : K j = 268
    · rw [if_pos c2] at h
      have hjT := o.lt (j := j) (by omega)
      cases e : pT K N n (j + 1) with
      | inl x => rw [e] at h; cases h
      | inr x =>
        obtain ⟨us, i⟩ := x
        rw [e] at h
        obtain ⟨a1, a2, a3, a4⟩ := ih' (j + 1) i us (by omega) e
        cases h
        refine ⟨by omega, a2, fun t hq => ?_, fun m vs hm => ?_⟩
        · rcases List.mem_append.mp hq with x | x
          · exact a3 t x
          · rw [List.mem_singleton.mp x]; exact ⟨by decide, fun y => absurd y (by decide)⟩
        · rw [List.append_assoc, a4 m _ (by omega)]
          show (if (2 : Nat) < 2 then _ else if (2 : Nat) = 2 then (if 1 ≤ m + 1 then hgt vs (m + 1) else none) else _) = _
          rw [if_neg (by decide), if_pos rfl, if_pos (by omega)]
    · rw [if_neg c2] at h
      exact (pCmp_ok o h).mo (by omega)
theorem pIf_ok (o : okK K N T) {so : Int} (hs : so = 3 ∨ so = 4) {j k : Nat} {l : Lin} (h : pIf K N so j = .inr (l, k)) : j < k ∧ k ≤ T ∧ okL l := by
  unfold pIf at h
  by_cases c : K j = 265
  · rw [if_pos c] at h
    have hjT := o.lt (j := j) (by omega)
    cases e : pC K (pT K N 6) (j + 1) with
    | inl x => rw [e] at h; cases h
    | inr x =>
      obtain ⟨us, i⟩ := x
      rw [e] at h
      obtain ⟨⟨a1, a2, a3, a4⟩, -⟩ := pC_ok (m := 27) (by omega) (fun j k ts hj q => pT_ok o 6 (by omega) j k ts hj q) o (by omega) e
      cases h
      have h4 := a4 0 [] (by omega)
      rw [List.append_nil] at h4
      exact ⟨by omega, a2, (by show 0 ≤ so; omega), (by show so ≤ 4; omega), fun q => (by have q' : so < 3 := q; omega), fun q => (by have q' : so = 0 := q; omega), fun q => (by have q' : so = 1 := q; omega), fun q => (by have q' : so = 2 := q; omega), fun _ => ⟨a3, h4⟩⟩
  · rw [if_neg c] at h; cases h
theorem pSet_ok (o : okK K N T) {r : Int} (hr : 1 ≤ r ∧ r ≤ 9) {j k : Nat} {l : Lin} (h : pSet K N r j = .inr (l, k)) : j < k ∧ k ≤ T ∧ okL l := by
  unfold pSet at h
  by_cases c : K j = -2 ∧ 16 ≤ N j ∧ N j ≤ 63
  · rw [if_pos c] at h
    by_cases c2 : K (j + 1) = 61
    · rw [if_pos c2] at h
      cases e : pSum K N (j + 2) with
      | inl x => rw [e] at h; cases h
      | inr x =>
        obtain ⟨s, i⟩ := x
        rw [e] at h
        obtain ⟨-, a1, a2, a3, -⟩ := pSum_ok o e
        cases h
        exact ⟨by omega, a2, (by show (0 : Int) ≤ 0; decide), (by show (0 : Int) ≤ 4; decide), fun _ => c.2, fun _ => ⟨hr.1, hr.2, a3⟩, fun q => absurd (show (0 : Int) = 1 from q) (by decide), fun q => absurd (show (0 : Int) = 2 from q) (by decide), fun q => absurd (show (3 : Int) ≤ 0 from q) (by decide)⟩
    · rw [if_neg c2] at h; cases h
  · rw [if_neg c] at h; cases h
theorem pTot_ok (o : okK K N T) {j k : Nat} {l : Lin} (h : pTot K N j = .inr (l, k)) : j < k ∧ k ≤ T ∧ okL l := by
  unfold pTot at h
  by_cases c : K j = -2 ∧ 16 ≤ N j ∧ N j ≤ 63
  · rw [if_pos c] at h
    by_cases c2 : K (j + 1) = 259
    · rw [if_pos c2] at h
      by_cases c3 : K (j + 2) = -2 ∧ N (j + 2) ≤ 63
      · rw [if_pos c3] at h
        by_cases c4 : K (j + 3) = 260
        · rw [if_pos c4] at h
          by_cases c5 : K (j + 4) = -2 ∧ N (j + 2) ≤ N (j + 4) ∧ N (j + 4) ≤ 63
          · rw [if_pos c5] at h
            have hjT := o.lt (j := j + 4) (by omega)
            have b := (o.2.2 (j + 2) c3.1).1
            cases h
            exact ⟨by omega, by omega, (by show (0 : Int) ≤ 1; decide), (by show (1 : Int) ≤ 4; decide), fun _ => c.2, fun q => absurd (show (1 : Int) = 0 from q) (by decide), fun _ => ⟨b, c5.2⟩, fun q => absurd (show (1 : Int) = 2 from q) (by decide), fun q => absurd (show (3 : Int) ≤ 1 from q) (by decide)⟩
          · rw [if_neg c5] at h; cases h
        · rw [if_neg c4] at h; cases h
      · rw [if_neg c3] at h; cases h
    · rw [if_neg c2] at h; cases h
  · rw [if_neg c] at h; cases h
theorem pRnd_ok (o : okK K N T) {j k : Nat} {l : Lin} (h : pRnd K N j = .inr (l, k)) : j < k ∧ k ≤ T ∧ okL l := by
  unfold pRnd at h
  by_cases c : K j = -2 ∧ 16 ≤ N j ∧ N j ≤ 63
  · rw [if_pos c] at h
    by_cases c2 : K (j + 1) = 262
    · rw [if_pos c2] at h
      by_cases c3 : K (j + 2) = -2 ∧ 1 ≤ N (j + 2) ∧ N (j + 2) ≤ 9999
      · rw [if_pos c3] at h
        have hjT := o.lt (j := j + 2) (by omega)
        cases h
        exact ⟨by omega, by omega, (by show (0 : Int) ≤ 2; decide), (by show (2 : Int) ≤ 4; decide), fun _ => c.2, fun q => absurd (show (2 : Int) = 0 from q) (by decide), fun q => absurd (show (2 : Int) = 1 from q) (by decide), fun _ => c3.2, fun q => absurd (show (3 : Int) ≤ 2 from q) (by decide)⟩
      · rw [if_neg c3] at h; cases h
    · rw [if_neg c2] at h; cases h
  · rw [if_neg c] at h; cases h
theorem pLine_ok (o : okK K N T) {j k : Nat} {l : Lin} (h : pLine K N j = .inr (l, k)) : j < k ∧ k ≤ T ∧ okL l := by
  unfold pLine at h
  by_cases c1 : K j = 256
  · rw [if_pos c1] at h
    by_cases c2 : K (j + 1) = -2 ∧ 1 ≤ N (j + 1) ∧ N (j + 1) ≤ 9
    · rw [if_pos c2] at h
      by_cases c3 : K (j + 2) = 257
      · rw [if_pos c3] at h
        obtain ⟨a1, a2, a3⟩ := pSet_ok o c2.2 h
        exact ⟨by omega, a2, a3⟩
      · rw [if_neg c3] at h; cases h
    · rw [if_neg c2] at h; cases h
  rw [if_neg c1] at h
  by_cases c2 : K j = 257
  · rw [if_pos c2] at h
    obtain ⟨a1, a2, a3⟩ := pSet_ok o ⟨by decide, by decide⟩ h
    exact ⟨by omega, a2, a3⟩
  rw [if_neg c2] at h
  by_cases c3 : K j = 258
  · rw [if_pos c3] at h
    obtain ⟨a1, a2, a3⟩ := pTot_ok o h
    exact ⟨by omega, a2, a3⟩
  rw [if_neg c3] at h
  by_cases c4 : K j = 261
  · rw [if_pos c4] at h
    obtain ⟨a1, a2, a3⟩ := pRnd_ok o h
    exact ⟨by omega, a2, a3⟩
  rw [if_neg c4] at h
  by_cases c5 : K j = 263
  · rw [if_pos c5] at h
    obtain ⟨a1, a2, a3⟩ := pIf_ok o (Or.inl rfl) h
    exact ⟨by omega, a2, a3⟩
  rw [if_neg c5] at h
  by_cases c6 : K j = 264
  · rw [if_pos c6] at h
    obtain ⟨a1, a2, a3⟩ := pIf_ok o (Or.inr rfl) h
    exact ⟨by omega, a2, a3⟩
  · rw [if_neg c6] at h; cases h
theorem pLs_ok (o : okK K N T) : ∀ (f j k : Nat) (ls : List Lin), pLs K N f j = .inr (ls, k) → ls.length ≤ f ∧ k = T ∧ j ≤ k ∧ ∀ l ∈ ls, okL l := by
  intro f
  induction f with
  | zero => intro j k ls h; unfold pLs at h; cases h
  | succ f ih =>
    intro j k ls h
    unfold pLs at h
    cases e : pLine K N j with
    | inl x => rw [e] at h; cases h
    | inr x =>
      obtain ⟨l, i⟩ := x
      rw [e] at h
      obtain ⟨a1, a2, a3⟩ := pLine_ok o e
      change (if K i = -1 then Sum.inr ([l], i) else if K i = 59 then (match pLs K N f (i + 1) with | .inl e => Sum.inl e | .inr (ls, m) => Sum.inr (l :: ls, m)) else Sum.inl i) = _ at h
      by_cases c1 : K i = -1
      · rw [if_pos c1] at h
        have := (o.2.1 i).mp c1
        cases h
        exact ⟨(by show 1 ≤ f + 1; omega), by omega, by omega, fun m hm => by rw [List.mem_singleton.mp hm]; exact a3⟩
      rw [if_neg c1] at h
      by_cases c2 : K i = 59
      · rw [if_pos c2] at h
        cases e2 : pLs K N f (i + 1) with
        | inl x => rw [e2] at h; cases h
        | inr x =>
          obtain ⟨ms, i2⟩ := x
          rw [e2] at h
          obtain ⟨b1, b2, b3, b4⟩ := ih (i + 1) i2 ms e2
          cases h
          refine ⟨by rw [List.length_cons]; omega, b2, by omega, fun m hm => ?_⟩
          rcases List.mem_cons.mp hm with x | x
          · rw [x]; exact a3
          · exact b4 m x
      · rw [if_neg c2] at h; cases h
end SPF
