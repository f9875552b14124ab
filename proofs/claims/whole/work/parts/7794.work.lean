/-! the reference's steps over its stack -/
def envM (W : Int → Int) : EnT := (fun i => W (9 + i), fun i => W (73 + i), W 1, W 2)
/-- one step over a stack, its top first; none where the stack is too low -/
def stM (e : EnT) (s : Int × Int) (st : List Int) : Option (List Int) :=
  if s.1 = 0 then some (s.2 :: st) else if s.1 = 1 then some (e.1 s.2 :: st) else if s.1 = 2 then some (e.2.1 s.2 :: st) else if s.1 = 3 then some (e.2.2.1 :: st) else if s.1 = 4 then some (e.2.2.2 :: st) else
  match st with
  | [] => none
  | a :: r => if s.1 = 5 then some (w64 (a * s.2) :: r) else if s.1 = 10 then some (w64 (1 - a) :: r) else
    match r with
    | [] => none
    | b :: r => some ((if s.1 = 6 then w64 (b + a) else if s.1 = 7 then w64 (b - a) else if s.1 = 8 then (if b < a then 1 else 0) else if s.1 = 9 then (if a < b then 1 else 0) else if s.1 = 11 then w64 (b * a) else max b a) :: r)
def evM (e : EnT) : List (Int × Int) → List Int → Option (List Int)
  | [], st => some st
  | s :: ts, st => (stM e s st).bind (evM e ts)
theorem evM_app (e : EnT) : ∀ (a b : List (Int × Int)) (st : List Int), evM e (a ++ b) st = (evM e a st).bind (evM e b) := by
  intro a
  induction a with
  | nil => intro b st; rfl
  | cons s a ih =>
    intro b st
    show (stM e s st).bind (evM e (a ++ b)) = ((stM e s st).bind (evM e a)).bind (evM e b)
    cases stM e s st with
    | none => rfl
    | some x => exact ih b x
theorem stM_len {e : EnT} {s : Int × Int} {st st' : List Int} (h : stM e s st = some st') : st'.length ≤ st.length + 1 := by
  unfold stM at h
  by_cases c0 : s.1 = 0
  · rw [if_pos c0] at h; cases h; exact Nat.le_refl _
  rw [if_neg c0] at h
  by_cases c1 : s.1 = 1
  · rw [if_pos c1] at h; cases h; exact Nat.le_refl _
  rw [if_neg c1] at h
  by_cases c2 : s.1 = 2
  · rw [if_pos c2] at h; cases h; exact Nat.le_refl _
  rw [if_neg c2] at h
  by_cases c3 : s.1 = 3
  · rw [if_pos c3] at h; cases h; exact Nat.le_refl _
  rw [if_neg c3] at h
  by_cases c4 : s.1 = 4
  · rw [if_pos c4] at h; cases h; exact Nat.le_refl _
  rw [if_neg c4] at h
  cases st with
  | nil => cases h
  | cons a r =>
    by_cases c5 : s.1 = 5
    · change (if s.1 = 5 then _ else _) = _ at h
      rw [if_pos c5] at h; cases h; exact Nat.le_succ _
    · change (if s.1 = 5 then _ else if s.1 = 10 then _ else _) = _ at h
      rw [if_neg c5] at h
      by_cases c6 : s.1 = 10
      · rw [if_pos c6] at h; cases h; exact Nat.le_succ _
      · rw [if_neg c6] at h
        cases r with
        | nil => cases h
        | cons b r =>
          cases h
          show r.length + 1 ≤ r.length + 1 + 1 + 1
          omega
/-- the steps of a part, of a sum -/
theorem whtM_at (e : EnT) {p : Prt} (k : okP p) (st : List Int) : stM e (whtM p.2.2.1, p.2.2.2) st = some (atV e p.2.2.1 p.2.2.2 :: st) := by
  obtain ⟨k1, k2⟩ := k
  unfold stM atV whtM
  rcases k2 with ⟨a, b, c⟩ | ⟨a | a, b, c⟩ | ⟨a | a, b⟩ <;> rw [a] <;> rfl
theorem prtM_ev {e : EnT} (o : okE e) {p : Prt} (k : okP p) (st : List Int) : evM e (prtM p) st = some (atV e p.2.2.1 p.2.2.2 * p.2.1.getD 1 :: st) := by
  have a := atV_b o k
  have w := whtM_at e k st
  unfold prtM
  cases hm : p.2.1 with
  | none =>
    show (stM e _ st).bind _ = _
    rw [w]
    show some _ = _
    rw [show (none : Option Int).getD 1 = 1 from rfl, Int.mul_one]
  | some m =>
    have km := k.1 m hm
    show (stM e _ st).bind _ = _
    rw [w]
    show (stM e (5, m) (atV e p.2.2.1 p.2.2.2 :: st)).bind (evM e []) = _
    have e1 : stM e (5, m) (atV e p.2.2.1 p.2.2.2 :: st) = some (w64 (atV e p.2.2.1 p.2.2.2 * m) :: st) := rfl
    have b := mul_ab (atV e p.2.2.1 p.2.2.2) m 2147483648 999999 a.1 a.2 (by omega) km.2 (by decide) (by decide)
    rw [e1, w64i _ (by omega) (by omega)]
    rfl
theorem rest_ev {e : EnT} (o : okE e) : ∀ (ps : List Prt) (n : Nat) (v : Int) (st : List Int), (∀ p ∈ ps, okP p) → n + ps.length ≤ 400 → -(n * 2147481500516352) ≤ v → v ≤ n * 2147481500516352 → evM e (ps.flatMap (fun q => prtM q ++ [(if q.1 then 7 else 6, 0)])) (v :: st) = some (suV e ps v :: st) := by
  intro ps
  induction ps with
  | nil => intro n v st _ _ _ _; rfl
  | cons p ps ih =>
    intro n v st ok hn v0 v1
    rw [List.length_cons] at hn
    have kp := ok p (by simp)
    have b := prV_b o kp
    have pv : prV e p = if p.1 = true then -(atV e p.2.2.1 p.2.2.2 * p.2.1.getD 1) else atV e p.2.2.1 p.2.2.2 * p.2.1.getD 1 := by
      unfold prV tms
      cases p.1 with
      | true => rw [if_pos rfl, if_pos rfl, Int.neg_mul, Int.one_mul, Int.neg_mul, Int.mul_comm]
      | false => rw [if_neg (by decide), if_neg (by decide), Int.one_mul, Int.mul_comm]
    have hr := ih (n + 1) (v + prV e p) st (fun q hq => ok q (by simp [hq])) (by omega) (by omega) (by omega)
    show evM e ((prtM p ++ [(if p.1 then 7 else 6, 0)]) ++ ps.flatMap _) (v :: st) = some (suV e ps (v + prV e p) :: st)
    rw [evM_app, evM_app, prtM_ev o kp]
    show ((stM e (if p.1 = true then 7 else 6, 0) (atV e p.2.2.1 p.2.2.2 * p.2.1.getD 1 :: v :: st)).bind fun x => some x).bind _ = _
    have es : stM e (if p.1 = true then 7 else 6, 0) (atV e p.2.2.1 p.2.2.2 * p.2.1.getD 1 :: v :: st) = some ((v + prV e p) :: st) := by
      rw [pv] at b ⊢
      by_cases hp : p.1 = true
      · rw [if_pos hp] at b ⊢
        rw [if_pos hp]
        show some (w64 (v - atV e p.2.2.1 p.2.2.2 * p.2.1.getD 1) :: st) = _
        rw [w64i _ (by omega) (by omega), Int.sub_eq_add_neg]
      · rw [if_neg hp] at b ⊢
        rw [if_neg hp]
        show some (w64 (v + atV e p.2.2.1 p.2.2.2 * p.2.1.getD 1) :: st) = _
        rw [w64i _ (by omega) (by omega)]
    rw [es]
    exact hr
theorem sum_ev {e : EnT} (o : okE e) (s : List Prt) (ks : okS s) (st : List Int) : evM e (sumM s) st = some (suV e s 0 :: st) := by
  obtain ⟨k1, k2, k3, p, ps, rfl, kf⟩ := ks
  have kp := k3 p (by simp)
  have b := prV_b o kp
  have pv : prV e p = atV e p.2.2.1 p.2.2.2 * p.2.1.getD 1 := by
    unfold prV tms
    rw [kf, if_neg (by decide), Int.one_mul, Int.mul_comm]
  show evM e (prtM p ++ ps.flatMap (fun q => prtM q ++ [(if q.1 then 7 else 6, 0)])) st = some (suV e ps (0 + prV e p) :: st)
  rw [evM_app, prtM_ev o kp, ← pv, Int.zero_add]
  rw [List.length_cons] at k2
  exact rest_ev o ps 1 (prV e p) st (fun q hq => k3 q (by simp [hq])) (by omega) (by omega) (by omega)
/-- a stack of truths as numbers -/
def bI (b : Bool) : Int := if b = true then 1 else 0
theorem cond_ev {e : EnT} (o : okE e) : ∀ (ts : List Ctk) (st : List Bool) (m : Nat), hgt ts st.length = some m → (∀ t ∈ ts, okT t) → evM e (ts.flatMap tokM) (st.map bI) = some ((evT e ts st).map bI) ∧ (evT e ts st).length = m := by
  intro ts
  induction ts with
  | nil => intro st m h _; unfold hgt at h; cases h; exact ⟨rfl, rfl⟩
  | cons t ts ih =>
    intro st m h ok
    have kt := ok t (by simp)
    have ok' : ∀ q ∈ ts, okT q := fun q hq => ok q (by simp [hq])
    have st' : ∀ (s2 : List Bool), evM e (tokM t) (st.map bI) = some (s2.map bI) → hgt ts s2.length = some m → evT e (t :: ts) st = evT e ts s2 → evM e ((t :: ts).flatMap tokM) (st.map bI) = some ((evT e (t :: ts) st).map bI) ∧ (evT e (t :: ts) st).length = m := by
      intro s2 x1 x2 x3
      rw [x3, List.flatMap_cons, evM_app, x1]
      exact ih s2 m x2 ok'
    rcases hgt_cons t ts _ _ h kt.1 with ⟨a, a2, a3⟩ | ⟨a, a2, a3⟩ | ⟨a, a2, a3⟩
    · obtain ⟨s1, s2⟩ := kt.2 a
      by_cases q : t.1 = 0
      · refine st' (decide (suV e t.2.1 0 < suV e t.2.2 0) :: st) ?_ a3 (by show evT e ts (if t.1 = 0 then _ else _) = _; rw [if_pos q])
        unfold tokM
        rw [if_pos q, evM_app, evM_app, sum_ev o _ s1]
        show ((evM e (sumM t.2.2) (suV e t.2.1 0 :: st.map bI)).bind _) = _
        rw [sum_ev o _ s2]
        show some ((if suV e t.2.1 0 < suV e t.2.2 0 then (1 : Int) else 0) :: st.map bI) = some (bI (decide (suV e t.2.1 0 < suV e t.2.2 0)) :: st.map bI)
        unfold bI
        by_cases w : suV e t.2.1 0 < suV e t.2.2 0
        · rw [if_pos w, if_pos (decide_eq_true w)]
        · rw [if_neg w, if_neg (by rw [decide_eq_false w]; decide)]
      · refine st' (decide (suV e t.2.2 0 < suV e t.2.1 0) :: st) ?_ a3 (by show evT e ts (if t.1 = 0 then _ else if t.1 = 1 then _ else _) = _; rw [if_neg q, if_pos (by omega)])
        unfold tokM
        rw [if_neg q, if_pos (by omega), evM_app, evM_app, sum_ev o _ s1]
        show ((evM e (sumM t.2.2) (suV e t.2.1 0 :: st.map bI)).bind _) = _
        rw [sum_ev o _ s2]
        show some ((if suV e t.2.2 0 < suV e t.2.1 0 then (1 : Int) else 0) :: st.map bI) = some (bI (decide (suV e t.2.2 0 < suV e t.2.1 0)) :: st.map bI)
        unfold bI
        by_cases w : suV e t.2.2 0 < suV e t.2.1 0
        · rw [if_pos w, if_pos (decide_eq_true w)]
        · rw [if_neg w, if_neg (by rw [decide_eq_false w]; decide)]
    · cases st with
      | nil => simp at a2
      | cons p st =>
        refine st' ((!p) :: st) ?_ (by simpa using a3) (by show evT e ts (if t.1 = 0 then _ else if t.1 = 1 then _ else if t.1 = 2 then _ else _) = _; rw [if_neg (by omega), if_neg (by omega), if_pos a]; rfl)
        unfold tokM
        rw [if_neg (by omega), if_neg (by omega), if_pos a]
        show some (w64 (1 - bI p) :: st.map bI) = some (bI (!p) :: st.map bI)
        cases p <;> rfl
    · cases st with
      | nil => simp at a2
      | cons p st =>
        cases st with
        | nil => simp at a2
        | cons r st =>
          have a3' : hgt ts (st.length + 1) = some m := by
            rw [List.length_cons, List.length_cons, show st.length + 1 + 1 - 1 = st.length + 1 by omega] at a3; exact a3
          rcases a with a | a
          · refine st' ((p && r) :: st) ?_ a3' (by show evT e ts (if t.1 = 0 then _ else if t.1 = 1 then _ else if t.1 = 2 then _ else if t.1 = 3 then _ else _) = _; rw [if_neg (by omega), if_neg (by omega), if_neg (by omega), if_pos a]; rfl)
            unfold tokM
            rw [if_neg (by omega), if_neg (by omega), if_neg (by omega), if_pos a]
            show some (w64 (bI r * bI p) :: st.map bI) = some (bI (p && r) :: st.map bI)
            cases p <;> cases r <;> rfl
          · refine st' ((p || r) :: st) ?_ a3' (by show evT e ts (if t.1 = 0 then _ else if t.1 = 1 then _ else if t.1 = 2 then _ else if t.1 = 3 then _ else _) = _; rw [if_neg (by omega), if_neg (by omega), if_neg (by omega), if_neg (by omega)]; rfl)
            unfold tokM
            rw [if_neg (by omega), if_neg (by omega), if_neg (by omega), if_neg (by omega)]
            show some (max (bI r) (bI p) :: st.map bI) = some (bI (p || r) :: st.map bI)
            cases p <;> cases r <;> rfl
