/-! the class's conditions are the spec's -/
theorem fm3_len : ∀ u : List Prt, (u.flatMap prtC).length = 3 * u.length := by
  intro u
  induction u with
  | nil => rfl
  | cons p u ih => rw [List.flatMap_cons, List.length_append, ih, List.length_cons]; show 3 + _ = _; omega
theorem sumC_len (s : List Prt) : (sumC s).length = 1 + 3 * s.length := by
  unfold sumC
  rw [List.length_cons, fm3_len]; omega
abbrev cdl (ts : List Ctk) : List Int := ts.flatMap tokC
theorem cdl_app (a b : List Ctk) : cdl (a ++ b) = cdl a ++ cdl b := List.flatMap_append
theorem rdC_app (a b : List Ctk) (i : Nat) : rdC (a ++ b) i = (rdC a i || rdC b i) := by unfold rdC; rw [List.any_append]
section CL2
variable {K N B : Nat → Int} {T : Nat}
theorem pCmp_len (o : okK K N T) {j k : Nat} {ts : List Ctk} (h : pCmp K N j = .inr (ts, k)) : (cdl ts).length + 3 * j ≤ 3 * k := by
  unfold pCmp at h
  cases e : pSum K N j with
  | inl x => rw [e] at h; cases h
  | inr x =>
    obtain ⟨s, m⟩ := x
    rw [e] at h
    obtain ⟨a0, a1, a2, a3, -⟩ := pSum_ok o e
    change (if K m = 60 ∨ K m = 62 then (match pSum K N (m + 1) with | .inl e => Sum.inl e | .inr (u, n) => Sum.inr ([(if K m = 60 then 0 else 1, s, u)], n)) else .inl m) = _ at h
    by_cases c : K m = 60 ∨ K m = 62
    · rw [if_pos c] at h
      cases e2 : pSum K N (m + 1) with
      | inl x => rw [e2] at h; cases h
      | inr x =>
        obtain ⟨u, n⟩ := x
        rw [e2] at h
        obtain ⟨b0, b1, b2, b3, -⟩ := pSum_ok o e2
        have ls := sumC_len s
        have lu := sumC_len u
        have l1 := a3.1
        have l2 := b3.1
        cases h
        have lt : (tokC (if K m = 60 then 0 else 1, s, u)).length = 1 + (sumC s).length + (sumC u).length := by
          by_cases q : K m = 60
          · rw [if_pos q]; show (60 :: (sumC s ++ sumC u)).length = _; rw [List.length_cons, List.length_append]; omega
          · rw [if_neg q]; show (62 :: (sumC s ++ sumC u)).length = _; rw [List.length_cons, List.length_append]; omega
        show (([((if K m = 60 then 0 else 1, s, u) : Ctk)]).flatMap tokC).length + _ ≤ _
        rw [List.flatMap_singleton, lt, ls, lu]
        omega
    · rw [if_neg c] at h; cases h
theorem pL_len {sym : Int} {tok : Ctk} (ht : (tokC tok).length = 1) {P : Nat → Rs (List Ctk)} (hP : ∀ j k ts, P j = .inr (ts, k) → (cdl ts).length + 3 * j ≤ 3 * k) : ∀ (f j k : Nat) (us : List Ctk), pL K sym tok P f j = .inr (us, k) → (cdl us).length + 3 * j ≤ 3 * k := by
  intro f
  induction f with
  | zero => intro j k us h; unfold pL at h; cases h; show 0 + 3 * j ≤ 3 * j; omega
  | succ f ih =>
    intro j k us h
    unfold pL at h
    by_cases c : K j = sym
    · rw [if_pos c] at h
      cases e : P (j + 1) with
      | inl x => rw [e] at h; cases h
      | inr x =>
        obtain ⟨ts, i⟩ := x
        rw [e] at h
        have a1 := hP _ _ _ e
        change (match pL K sym tok P f i with | .inl e => Sum.inl e | .inr (us, m) => Sum.inr (ts ++ tok :: us, m)) = _ at h
        cases e2 : pL K sym tok P f i with
        | inl x => rw [e2] at h; cases h
        | inr x =>
          obtain ⟨ws, i2⟩ := x
          rw [e2] at h
          have b1 := ih i i2 ws e2
          cases h
          have : (cdl (ts ++ tok :: ws)).length = (cdl ts).length + (1 + (cdl ws).length) := by
            rw [cdl_app, List.length_append]
            show (cdl ts).length + ((tok :: ws).flatMap tokC).length = _
            rw [List.flatMap_cons, List.length_append, ht]
          omega
    · rw [if_neg c] at h
      cases h
      show 0 + 3 * j ≤ 3 * j; omega
theorem pL_R (o : okK K N T) {sym : Int} (hs : sym ≠ -1) {tok : Ctk} {P : Nat → Rs (List Ctk)} {R : Nat → Prop} (hP : ∀ j k ts, j ≤ T → P j = .inr (ts, k) → k ≤ T ∧ R k) : ∀ (f j k : Nat) (us : List Ctk), pL K sym tok P f j = .inr (us, k) → j ≤ T → R j → R k := by
  intro f
  induction f with
  | zero => intro j k us h hj r; unfold pL at h; cases h; exact r
  | succ f ih =>
    intro j k us h hj r
    unfold pL at h
    by_cases c : K j = sym
    · rw [if_pos c] at h
      cases e : P (j + 1) with
      | inl x => rw [e] at h; cases h
      | inr x =>
        obtain ⟨ts, i⟩ := x
        rw [e] at h
        change (match pL K sym tok P f i with | .inl e => Sum.inl e | .inr (us, m) => Sum.inr (ts ++ tok :: us, m)) = _ at h
        cases e2 : pL K sym tok P f i with
        | inl x => rw [e2] at h; cases h
        | inr x =>
          obtain ⟨ws, i2⟩ := x
          rw [e2] at h
          have lt := o.lt (j := j) (by rw [c]; exact hs)
          have q := hP _ _ _ (by omega) e
          have b1 := ih i i2 ws e2 q.1 q.2
          cases h
          exact b1
    · rw [if_neg c] at h
      cases h
      exact r
theorem pA_len {P : Nat → Rs (List Ctk)} (hP : ∀ j k ts, P j = .inr (ts, k) → (cdl ts).length + 3 * j ≤ 3 * k) {j k : Nat} {us : List Ctk} (h : pA K P j = .inr (us, k)) : (cdl us).length + 3 * j ≤ 3 * k := by
  unfold pA at h
  cases e : P j with
  | inl x => rw [e] at h; cases h
  | inr x =>
    obtain ⟨ts, i⟩ := x
    rw [e] at h
    have a1 := hP _ _ _ e
    change (match pL K 267 (3, [], []) P 401 i with | .inl e => Sum.inl e | .inr (us, m) => Sum.inr (ts ++ us, m)) = _ at h
    cases e2 : pL K 267 (3, [], []) P 401 i with
    | inl x => rw [e2] at h; cases h
    | inr x =>
      obtain ⟨ws, i2⟩ := x
      rw [e2] at h
      have b1 := pL_len rfl hP 401 i i2 ws e2
      cases h
      rw [cdl_app, List.length_append]; omega
theorem pC_len {P : Nat → Rs (List Ctk)} (hP : ∀ j k ts, P j = .inr (ts, k) → (cdl ts).length + 3 * j ≤ 3 * k) {j k : Nat} {us : List Ctk} (h : pC K P j = .inr (us, k)) : (cdl us).length + 3 * j ≤ 3 * k := by
  unfold pC at h
  cases e : pA K P j with
  | inl x => rw [e] at h; cases h
  | inr x =>
    obtain ⟨ts, i⟩ := x
    rw [e] at h
    have a1 := pA_len hP e
    change (match pL K 266 (4, [], []) (pA K P) 401 i with | .inl e => Sum.inl e | .inr (us, m) => Sum.inr (ts ++ us, m)) = _ at h
    cases e2 : pL K 266 (4, [], []) (pA K P) 401 i with
    | inl x => rw [e2] at h; cases h
    | inr x =>
      obtain ⟨ws, i2⟩ := x
      rw [e2] at h
      have b1 := pL_len rfl (fun j k ts q => pA_len hP q) 401 i i2 ws e2
      cases h
      rw [cdl_app, List.length_append]; omega
theorem pT_len (o : okK K N T) : ∀ (n j k : Nat) (ts : List Ctk), pT K N n j = .inr (ts, k) → (cdl ts).length + 3 * j ≤ 3 * k := by
  intro n
  induction n with
  | zero =>
    intro j k ts h
    unfold pT at h
    by_cases c : K j = 40 ∨ K j = 268
    · rw [if_pos c] at h; cases h
    · rw [if_neg c] at h; exact pCmp_len o h
  | succ n ih =>
    intro j k ts h
    unfold pT at h
    by_cases c1 : K j = 40
    · rw [if_pos c1] at h
      cases e : pC K (pT K N n) (j + 1) with
      | inl x => rw [e] at h; cases h
      | inr x =>
        obtain ⟨us, i⟩ := x
        rw [e] at h
        have a1 := pC_len (fun j k ts q => ih j k ts q) e
        change (if K i = 41 then Sum.inr (us, i + 1) else .inl i) = _ at h
        by_cases c2 : K i = 41
        · rw [if_pos c2] at h; cases h; omega
        · rw [if_neg c2] at h; cases h
    rw [if_neg c1] at h
    by_cases c2 : K j = 268
    · rw [if_pos c2] at h
      cases e : pT K N n (j + 1) with
      | inl x => rw [e] at h; cases h
      | inr x =>
        obtain ⟨us, i⟩ := x
        rw [e] at h
        have a1 := ih _ _ _ e
        cases h
        rw [cdl_app, List.length_append]
        show _ + ([(2, [], [])].flatMap tokC).length + _ ≤ _
        have : ([((2, [], []) : Ctk)].flatMap tokC).length = 1 := rfl
        omega
    · rw [if_neg c2] at h; exact pCmp_len o h
theorem pC_ne (o : okK K N T) {P : Nat → Rs (List Ctk)} {m : Nat} (hm : 2 ≤ m) (hP : ∀ j k ts, j ≤ T → P j = .inr (ts, k) → okC j k T m ts) {j k : Nat} {us : List Ctk} (hj : j ≤ T) (h : pC K P j = .inr (us, k)) : K k ≠ 267 := by
  unfold pC at h
  have hT := o.1
  cases e : pA K P j with
  | inl x => rw [e] at h; cases h
  | inr x =>
    obtain ⟨ts, i⟩ := x
    rw [e] at h
    have a1 := pA_ok (by omega) hP o hj e
    change (match pL K 266 (4, [], []) (pA K P) 401 i with | .inl e => Sum.inl e | .inr (us, m) => Sum.inr (ts ++ us, m)) = _ at h
    cases e2 : pL K 266 (4, [], []) (pA K P) 401 i with
    | inl x => rw [e2] at h; cases h
    | inr x =>
      obtain ⟨ws, i2⟩ := x
      rw [e2] at h
      have b1 := pL_R (R := fun k => K k ≠ 267) o (by decide) (fun j k ts z q => ⟨(pA_ok (by omega) hP o z q).1.2.1, (pA_ok (by omega) hP o z q).2⟩) 401 i i2 ws e2 a1.1.2.1 a1.2
      cases h
      exact b1
end CL2
