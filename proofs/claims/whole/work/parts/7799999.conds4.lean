/-! the class's conditions, level by level -/
def BadQ (K N B : Nat → Int) (T : Nat) (Q : Out) (e : Nat) : Prop := ∀ h h', SF0 K N B T h' e → OT h h' → Q h (some (0, h'))
def NAs (F : Nat) (K N B : Nat → Int) (T : Nat) (rd wr : Nat → Bool) (Q : Out) (S : List Int) (dp k : Nat) (X : List Int) (nm : Nat → Bool) : Prop := ∀ p cd, pnd p → cd ++ p.reverse = X → ATs F K N B T rd wr Q (S ++ p) dp k cd nm
def nmC (nm : Nat → Bool) (ts : List Ctk) : Nat → Bool := fun i => nm i || rdC ts i
theorem nmC_nil (nm : Nat → Bool) : nmC nm [] = nm := by funext i; unfold nmC rdC; rw [List.any_nil, Bool.or_false]
theorem nmC_app (nm : Nat → Bool) (a b : List Ctk) : nmC (nmC nm a) b = nmC nm (a ++ b) := by funext i; unfold nmC; rw [rdC_app, Bool.or_assoc]
theorem nmC_tok (nm : Nat → Bool) (a b : List Ctk) (t : Ctk) (ht : t.2.1 = [] ∧ t.2.2 = []) : nmC (nmC nm a) b = nmC nm (a ++ t :: b) := by
  funext i
  unfold nmC
  rw [rdC_app, Bool.or_assoc]
  congr 1
  show (rdC a i || rdC b i) = (rdC a i || (t :: b).any (fun t => rdK t i))
  rw [List.any_cons]
  have : rdK t i = false := by unfold rdK; rw [ht.1, ht.2]; rfl
  rw [this, Bool.false_or]
  rfl
section C4
variable {F : Nat} {K N B : Nat → Int} {T : Nat} {rd wr : Nat → Bool} {Q : Out}
/-- the class's reading is the spec's P, on depth dp -/
def clT (F : Nat) (K N B : Nat → Int) (T : Nat) (rd wr : Nat → Bool) (Q : Out) (P : Nat → Rs (List Ctk)) (dp : Nat) : Prop := ∀ (S : List Int) (j : Nat) (cd : List Int) (nm : Nat → Bool), j ≤ T → S.length ≤ 3 * dp + 2 → cd.length + S.length ≤ 3 * j + 6 →
  match P j with
  | .inl e => BadQ K N B T Q e → LPs F K N B T rd wr Q S dp j cd nm
  | .inr (ts, k) => ATs F K N B T rd wr Q S dp k (cd ++ cdl ts) (nmC nm ts) → LPs F K N B T rd wr Q S dp j cd nm
theorem c_and (o : okK K N T) (c : cls Q) {P : Nat → Rs (List Ctk)} {dp m : Nat} (hd : dp ≤ 5 ∨ dp = 6) (hm : 1 ≤ m) (hP : ∀ j k ts, j ≤ T → P j = .inr (ts, k) → okC j k T m ts) (hl : ∀ j k ts, P j = .inr (ts, k) → (cdl ts).length + 3 * j ≤ 3 * k) (ct : clT F K N B T rd wr Q P dp) {S p : List Int} (f : flr S) (hp : p = [] ∨ p = [266]) (hS : S.length ≤ 3 * dp) (rS : S.length ≤ 18) : ∀ (fu k1 : Nat) (b : Bool) (c1 : List Int) (nm : Nat → Bool), T + 1 ≤ k1 + fu → k1 ≤ T → c1.length + (S ++ p ++ (if b = true then [267] else [])).length ≤ 3 * k1 + 6 →
  match pL K 267 (3, [], []) P fu k1 with
  | .inl e => BadQ K N B T Q e → ATs F K N B T rd wr Q (S ++ p ++ (if b = true then [267] else [])) dp k1 c1 nm
  | .inr (us, k) => NAs F K N B T rd wr Q S dp k (c1 ++ (if b = true then [267] else []) ++ cdl us ++ p.reverse) (nmC nm us) → ATs F K N B T rd wr Q (S ++ p ++ (if b = true then [267] else [])) dp k1 c1 nm := by
  have hpl : p.length ≤ 1 := by rcases hp with q | q <;> rw [q] <;> decide
  have hT := o.1
  intro fu
  induction fu with
  | zero => intro k1 b c1 nm h1 h2 h3; omega
  | succ fu ih =>
    intro k1 b c1 nm h1 h2 h3
    have lb : (if b = true then [(267 : Int)] else []).length ≤ 1 := by split <;> decide
    have lS : (S ++ p ++ (if b = true then [(267 : Int)] else [])).length = S.length + p.length + (if b = true then [(267 : Int)] else []).length := by rw [List.length_append, List.length_append]
    rw [lS] at h3
    unfold pL
    by_cases e : K k1 = 267
    · have lt := o.lt (j := k1) (by omega)
      rw [if_pos e]
      -- to the next test
      have go : LPs F K N B T rd wr Q (S ++ p ++ [267]) dp (k1 + 1) (c1 ++ (if b = true then [267] else [])) nm → ATs F K N B T rd wr Q (S ++ p ++ (if b = true then [267] else [])) dp k1 c1 nm := by
        intro lp
        cases b with
        | true => exact A_and o c f hp e (by omega) rS lp
        | false =>
          have e1 : c1 ++ (if false = true then [267] else []) = c1 := List.append_nil c1
          have e2 : S ++ p ++ (if false = true then [(267 : Int)] else []) = S ++ p := List.append_nil _
          rw [e1] at lp
          rw [e2]
          exact A_and0 o c f hp e rS lp
      have l7 : (S ++ p ++ [(267 : Int)]).length = S.length + p.length + 1 := by rw [List.length_append, List.length_append]; rfl
      have lc : (c1 ++ (if b = true then [(267 : Int)] else [])).length = c1.length + (if b = true then [(267 : Int)] else []).length := List.length_append
      have ct1 := ct (S ++ p ++ [267]) (k1 + 1) (c1 ++ (if b = true then [267] else [])) nm (by omega) (by rw [l7]; omega) (by rw [l7, lc]; omega)
      cases e3 : P (k1 + 1) with
      | inl x =>
        rw [e3] at ct1
        exact fun bq => go (ct1 bq)
      | inr x =>
        obtain ⟨t2, k2⟩ := x
        rw [e3] at ct1
        obtain ⟨a1, a2, -⟩ := hP _ _ _ (by omega) e3
        have l2 := hl _ _ _ e3
        have l3 : (c1 ++ (if b = true then [(267 : Int)] else []) ++ cdl t2).length = c1.length + (if b = true then [(267 : Int)] else []).length + (cdl t2).length := by rw [List.length_append, lc]
        have l8 : (S ++ p ++ (if true = true then [(267 : Int)] else [])).length = S.length + p.length + 1 := l7
        have ih1 := ih k2 true (c1 ++ (if b = true then [267] else []) ++ cdl t2) (nmC nm t2) (by omega) a2 (by rw [l3, l8]; omega)
        show match (match pL K 267 (3, [], []) P fu k2 with | .inl e => (Sum.inl e : Rs (List Ctk)) | .inr (us, m) => Sum.inr (t2 ++ (3, [], []) :: us, m)) with
          | .inl e => BadQ K N B T Q e → ATs F K N B T rd wr Q (S ++ p ++ (if b = true then [267] else [])) dp k1 c1 nm
          | .inr (us, k) => NAs F K N B T rd wr Q S dp k (c1 ++ (if b = true then [267] else []) ++ cdl us ++ p.reverse) (nmC nm us) → ATs F K N B T rd wr Q (S ++ p ++ (if b = true then [267] else [])) dp k1 c1 nm
        cases e4 : pL K 267 (3, [], []) P fu k2 with
        | inl x =>
          rw [e4] at ih1
          exact fun bq => go (ct1 (ih1 bq))
        | inr x =>
          obtain ⟨us, k3⟩ := x
          rw [e4] at ih1
          refine fun na => go (ct1 (ih1 ?_))
          have ec : c1 ++ (if b = true then [(267 : Int)] else []) ++ cdl t2 ++ (if true = true then [(267 : Int)] else []) ++ cdl us = c1 ++ (if b = true then [(267 : Int)] else []) ++ cdl (t2 ++ (3, [], []) :: us) := by
            rw [cdl_app, List.append_assoc, List.append_assoc, List.append_assoc, List.append_assoc]
            rfl
          rw [ec, nmC_tok nm t2 us (3, [], []) ⟨rfl, rfl⟩]
          exact na
    · rw [if_neg e]
      show NAs F K N B T rd wr Q S dp k1 (c1 ++ (if b = true then [267] else []) ++ cdl [] ++ p.reverse) (nmC nm []) → _
      intro na
      rw [nmC_nil] at na
      have x := na (p ++ (if b = true then [267] else [])) c1 (by
        cases b with
        | true =>
          rcases hp with q | q <;> rw [q]
          · exact Or.inr (Or.inl rfl)
          · exact Or.inr (Or.inr (Or.inr rfl))
        | false =>
          rcases hp with q | q <;> rw [q]
          · exact Or.inl rfl
          · exact Or.inr (Or.inr (Or.inl rfl))) (by
        rw [List.reverse_append, ← List.append_assoc]
        have : (if b = true then [(267 : Int)] else []).reverse = (if b = true then [(267 : Int)] else []) := by cases b <;> rfl
        rw [this]
        show _ = c1 ++ (if b = true then [(267 : Int)] else []) ++ [] ++ p.reverse
        rw [List.append_nil])
      rw [← List.append_assoc] at x
      exact x
theorem c_all (o : okK K N T) (c : cls Q) {P : Nat → Rs (List Ctk)} {dp m : Nat} (hd : dp ≤ 5 ∨ dp = 6) (hm : 1 ≤ m) (hP : ∀ j k ts, j ≤ T → P j = .inr (ts, k) → okC j k T m ts) (hl : ∀ j k ts, P j = .inr (ts, k) → (cdl ts).length + 3 * j ≤ 3 * k) (ct : clT F K N B T rd wr Q P dp) {S p : List Int} (f : flr S) (hp : p = [] ∨ p = [266]) (hS : S.length ≤ 3 * dp) (rS : S.length ≤ 18) (j : Nat) (cd : List Int) (nm : Nat → Bool) (hj : j ≤ T) (room : cd.length + (S ++ p).length ≤ 3 * j + 6) :
  match pA K P j with
  | .inl e => BadQ K N B T Q e → LPs F K N B T rd wr Q (S ++ p) dp j cd nm
  | .inr (us, k) => NAs F K N B T rd wr Q S dp k (cd ++ cdl us ++ p.reverse) (nmC nm us) → LPs F K N B T rd wr Q (S ++ p) dp j cd nm := by
  have hpl : p.length ≤ 1 := by rcases hp with q | q <;> rw [q] <;> decide
  have hT := o.1
  have lS : (S ++ p).length = S.length + p.length := List.length_append
  have ct1 := ct (S ++ p) j cd nm hj (by omega) room
  unfold pA
  cases e : P j with
  | inl x => rw [e] at ct1; exact ct1
  | inr x =>
    obtain ⟨ts, k1⟩ := x
    rw [e] at ct1
    obtain ⟨a1, a2, -⟩ := hP _ _ _ hj e
    have l2 := hl _ _ _ e
    have lc : (cd ++ cdl ts).length = cd.length + (cdl ts).length := List.length_append
    have e0 : S ++ p ++ (if false = true then [(267 : Int)] else []) = S ++ p := List.append_nil _
    have e1 : cd ++ cdl ts ++ (if false = true then [(267 : Int)] else []) = cd ++ cdl ts := List.append_nil _
    have l1 := c_and (F := F) (rd := rd) (wr := wr) o c hd hm hP hl ct f hp hS rS 401 k1 false (cd ++ cdl ts) (nmC nm ts) (by omega) a2 (by rw [e0, lc]; omega)
    rw [e0, e1] at l1
    show match (match pL K 267 (3, [], []) P 401 k1 with | .inl e => (Sum.inl e : Rs (List Ctk)) | .inr (us, m) => Sum.inr (ts ++ us, m)) with
      | .inl e => BadQ K N B T Q e → LPs F K N B T rd wr Q (S ++ p) dp j cd nm
      | .inr (us, k) => NAs F K N B T rd wr Q S dp k (cd ++ cdl us ++ p.reverse) (nmC nm us) → LPs F K N B T rd wr Q (S ++ p) dp j cd nm
    cases e4 : pL K 267 (3, [], []) P 401 k1 with
    | inl x => rw [e4] at l1; exact fun bq => ct1 (l1 bq)
    | inr x =>
      obtain ⟨us, k3⟩ := x
      rw [e4] at l1
      refine fun na => ct1 (l1 ?_)
      rw [nmC_app, List.append_assoc cd, ← cdl_app]
      exact na
theorem c_or (o : okK K N T) (c : cls Q) {P : Nat → Rs (List Ctk)} {dp m : Nat} (hd : dp ≤ 5 ∨ dp = 6) (hm : 2 ≤ m) (hP : ∀ j k ts, j ≤ T → P j = .inr (ts, k) → okC j k T m ts) (hl : ∀ j k ts, P j = .inr (ts, k) → (cdl ts).length + 3 * j ≤ 3 * k) (ct : clT F K N B T rd wr Q P dp) {S : List Int} (f : flr S) (hS : S.length ≤ 3 * dp) (rS : S.length ≤ 18) : ∀ (fu k1 : Nat) (X : List Int) (nm : Nat → Bool), T + 1 ≤ k1 + fu → k1 ≤ T → X.length + S.length ≤ 3 * k1 + 6 →
  match pL K 266 (4, [], []) (pA K P) fu k1 with
  | .inl e => BadQ K N B T Q e → NAs F K N B T rd wr Q S dp k1 X nm
  | .inr (us, k) => NAs F K N B T rd wr Q S dp k (X ++ cdl us) (nmC nm us) → NAs F K N B T rd wr Q S dp k1 X nm := by
  have hT := o.1
  intro fu
  induction fu with
  | zero => intro k1 X nm h1 h2 h3; omega
  | succ fu ih =>
    intro k1 X nm h1 h2 h3
    unfold pL
    by_cases e : K k1 = 266
    · have lt := o.lt (j := k1) (by omega)
      rw [if_pos e]
      have go : LPs F K N B T rd wr Q (S ++ [266]) dp (k1 + 1) X nm → NAs F K N B T rd wr Q S dp k1 X nm := by
        intro lp p cd hp hX
        have lX : cd.length + p.length = X.length := by rw [← hX, List.length_append, List.length_reverse]
        exact A_or o c f hp e (by omega) rS (by rw [hX]; exact lp)
      have l6 : (S ++ [(266 : Int)]).length = S.length + 1 := by rw [List.length_append]; rfl
      have ca := c_all (F := F) (rd := rd) (wr := wr) o c hd (by omega) hP hl ct f (Or.inr rfl) hS rS (k1 + 1) X nm (by omega) (by rw [l6]; omega)
      cases e3 : pA K P (k1 + 1) with
      | inl x => rw [e3] at ca; exact fun bq => go (ca bq)
      | inr x =>
        obtain ⟨t2, k2⟩ := x
        rw [e3] at ca
        obtain ⟨⟨a1, a2, -⟩, -⟩ := pA_ok (m := m) (by omega) hP o (by omega) e3
        have l2 := pA_len hl e3
        have l3 : (X ++ cdl t2 ++ ([266] : List Int).reverse).length = X.length + (cdl t2).length + 1 := by rw [List.length_append, List.length_append]; rfl
        have ih1 := ih k2 (X ++ cdl t2 ++ ([266] : List Int).reverse) (nmC nm t2) (by omega) a2 (by rw [l3]; omega)
        show match (match pL K 266 (4, [], []) (pA K P) fu k2 with | .inl e => (Sum.inl e : Rs (List Ctk)) | .inr (us, m) => Sum.inr (t2 ++ (4, [], []) :: us, m)) with
          | .inl e => BadQ K N B T Q e → NAs F K N B T rd wr Q S dp k1 X nm
          | .inr (us, k) => NAs F K N B T rd wr Q S dp k (X ++ cdl us) (nmC nm us) → NAs F K N B T rd wr Q S dp k1 X nm
        cases e4 : pL K 266 (4, [], []) (pA K P) fu k2 with
        | inl x => rw [e4] at ih1; exact fun bq => go (ca (ih1 bq))
        | inr x =>
          obtain ⟨us, k3⟩ := x
          rw [e4] at ih1
          refine fun na => go (ca (ih1 ?_))
          have ec : X ++ cdl t2 ++ ([266] : List Int).reverse ++ cdl us = X ++ cdl (t2 ++ (4, [], []) :: us) := by
            rw [cdl_app, List.append_assoc, List.append_assoc]
            rfl
          rw [ec, nmC_tok nm t2 us (4, [], []) ⟨rfl, rfl⟩]
          exact na
    · rw [if_neg e]
      show NAs F K N B T rd wr Q S dp k1 (X ++ cdl []) (nmC nm []) → _
      rw [nmC_nil]
      show NAs F K N B T rd wr Q S dp k1 (X ++ []) nm → _
      rw [List.append_nil]
      exact id
theorem c_con (o : okK K N T) (c : cls Q) {P : Nat → Rs (List Ctk)} {dp m : Nat} (hd : dp ≤ 5 ∨ dp = 6) (hm : 2 ≤ m) (hP : ∀ j k ts, j ≤ T → P j = .inr (ts, k) → okC j k T m ts) (hl : ∀ j k ts, P j = .inr (ts, k) → (cdl ts).length + 3 * j ≤ 3 * k) (ct : clT F K N B T rd wr Q P dp) {S : List Int} (f : flr S) (hS : S.length ≤ 3 * dp) (rS : S.length ≤ 18) (j : Nat) (cd : List Int) (nm : Nat → Bool) (hj : j ≤ T) (room : cd.length + S.length ≤ 3 * j + 6) :
  match pC K P j with
  | .inl e => BadQ K N B T Q e → LPs F K N B T rd wr Q S dp j cd nm
  | .inr (us, k) => NAs F K N B T rd wr Q S dp k (cd ++ cdl us) (nmC nm us) → LPs F K N B T rd wr Q S dp j cd nm := by
  have hT := o.1
  have ca := c_all (F := F) (rd := rd) (wr := wr) o c hd (by omega) hP hl ct f (Or.inl rfl) hS rS j cd nm hj (by rw [List.append_nil]; exact room)
  rw [List.append_nil] at ca
  unfold pC
  cases e : pA K P j with
  | inl x => rw [e] at ca; exact ca
  | inr x =>
    obtain ⟨ts, k1⟩ := x
    rw [e] at ca
    obtain ⟨⟨a1, a2, -⟩, -⟩ := pA_ok (m := m) (by omega) hP o hj e
    have l2 := pA_len hl e
    have lc : (cd ++ cdl ts).length = cd.length + (cdl ts).length := List.length_append
    have l1 := c_or (F := F) (rd := rd) (wr := wr) o c hd hm hP hl ct f hS rS 401 k1 (cd ++ cdl ts) (nmC nm ts) (by omega) a2 (by rw [lc]; omega)
    have ca' : NAs F K N B T rd wr Q S dp k1 (cd ++ cdl ts) (nmC nm ts) → LPs F K N B T rd wr Q S dp j cd nm := fun na => ca (by
      show NAs F K N B T rd wr Q S dp k1 (cd ++ cdl ts ++ []) (nmC nm ts)
      rw [List.append_nil]; exact na)
    show match (match pL K 266 (4, [], []) (pA K P) 401 k1 with | .inl e => (Sum.inl e : Rs (List Ctk)) | .inr (us, m) => Sum.inr (ts ++ us, m)) with
      | .inl e => BadQ K N B T Q e → LPs F K N B T rd wr Q S dp j cd nm
      | .inr (us, k) => NAs F K N B T rd wr Q S dp k (cd ++ cdl us) (nmC nm us) → LPs F K N B T rd wr Q S dp j cd nm
    cases e4 : pL K 266 (4, [], []) (pA K P) 401 k1 with
    | inl x => rw [e4] at l1; exact fun bq => ca' (l1 bq)
    | inr x =>
      obtain ⟨us, k3⟩ := x
      rw [e4] at l1
      refine fun na => ca' (l1 ?_)
      rw [nmC_app, List.append_assoc, ← cdl_app]
      exact na
end C4
