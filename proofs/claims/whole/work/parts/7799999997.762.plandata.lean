/-! what a plan is made of -/
/-- the first seven jobs that wait, from the job i on (of m) -/
def pkL (W : Int → Int) : Nat → Nat → List Nat → List Nat
  | 0, _, J => J
  | m + 1, i, J => if 7 ≤ J.length then J else if W (169 + 882 * i + 8) = 0 then pkL W m (i + 1) (J ++ [i]) else pkL W m (i + 1) J
def pks (W : Int → Int) : List Nat := pkL W (W 8).toNat 0 []
theorem pkL_7 (W : Int → Int) : ∀ (m i : Nat) (J : List Nat), 7 ≤ J.length → pkL W m i J = J := by
  intro m
  cases m with
  | zero => intro i J _; rfl
  | succ m => intro i J h; unfold pkL; rw [if_pos h]
theorem pkL_ok (W : Int → Int) (n : Nat) : ∀ (m i : Nat) (J : List Nat), i + m = n → J.length ≤ 7 → (∀ j ∈ J, j < n) → (pkL W m i J).length ≤ 7 ∧ ∀ j ∈ pkL W m i J, j < n := by
  intro m
  induction m with
  | zero => intro i J _ h1 h2; exact ⟨h1, h2⟩
  | succ m ih =>
    intro i J hi h1 h2
    unfold pkL
    by_cases c : 7 ≤ J.length
    · rw [if_pos c]; exact ⟨h1, h2⟩
    · rw [if_neg c]
      by_cases d : W (169 + 882 * i + 8) = 0
      · rw [if_pos d]
        refine ih (i + 1) _ (by omega) (by rw [List.length_append, List.length_singleton]; omega) (fun j hj => ?_)
        rcases List.mem_append.mp hj with q | q
        · exact h2 j q
        · rw [List.mem_singleton.mp q]; omega
      · rw [if_neg d]
        exact ih (i + 1) J (by omega) h1 h2
/-- a number of the job at a place: f of it -/
def jbF (W : Int → Int) (J : List Nat) (f : Int) (p : Nat) : Int := match J[p]? with
  | none => 0
  | some j => W (169 + 882 * j + f)
def wsP (W : Int → Int) (J : List Nat) (p o : Nat) : Int := if o = 3 then 0 else if o = 1 then jbF W J 6 p else jbF W J 1 p
def msP (W : Int → Int) (J : List Nat) (p o : Nat) : Int := if o = 0 then jbF W J 0 p else if o = 1 then jbF W J 5 p else 0
def hsP (W : Int → Int) (J : List Nat) (p o : Nat) : Int := if o = 2 then jbF W J 2 p else 0
def haP (W : Int → Int) (J : List Nat) (p o : Nat) : Prop := o = 0 ∨ o = 1 ∧ 0 < jbF W J 5 p ∨ o = 2 ∧ 0 < jbF W J 2 p ∨ o = 3
def blP (W : Int → Int) (J : List Nat) (p i : Nat) : Prop := ∃ a b, J[p]? = some a ∧ J[i]? = some b ∧ bj (lns W a) b = true
def moP (W : Int → Int) (J : List Nat) (p : Nat) : Int := if 0 < jbF W J 5 p then max (jbF W J 1 p) (jbF W J 6 p) else jbF W J 1 p
/-- the jobs are as they must be -/
def JgW (W : Int → Int) : Prop := (0 ≤ W 8 ∧ W 8 ≤ 12) ∧ ∀ j : Nat, (j : Int) < W 8 → JBg W (169 + 882 * j)
theorem jbF_b {W : Int → Int} (g : JgW W) {J : List Nat} (hJ : ∀ j ∈ J, (j : Int) < W 8) (p : Nat) : (0 ≤ jbF W J 0 p ∧ jbF W J 0 p ≤ 60) ∧ (0 ≤ jbF W J 1 p ∧ jbF W J 1 p ≤ 1000) ∧ (0 ≤ jbF W J 2 p ∧ jbF W J 2 p ≤ 480) ∧ (0 ≤ jbF W J 5 p ∧ jbF W J 5 p ≤ 60) ∧ (0 ≤ jbF W J 6 p ∧ jbF W J 6 p ≤ 1000) := by
  unfold jbF
  cases e : J[p]? with
  | none =>
    have z : (0 : Int) ≤ 0 := Int.le_refl _
    exact ⟨⟨z, by show (0 : Int) ≤ 60; decide⟩, ⟨z, by show (0 : Int) ≤ 1000; decide⟩, ⟨z, by show (0 : Int) ≤ 480; decide⟩, ⟨z, by show (0 : Int) ≤ 60; decide⟩, ⟨z, by show (0 : Int) ≤ 1000; decide⟩⟩
  | some j =>
    have := g.2 j (hJ j (List.mem_of_getElem? e))
    obtain ⟨q1, q2, q3, q4, q5, q6, q7, q8, q9, q10, q11, q12, q13, q14, q15⟩ := this
    exact ⟨⟨Int.le_trans (by decide) q1, q2⟩, ⟨q3, q4⟩, ⟨q5, q6⟩, ⟨q10, q11⟩, ⟨q12, q13⟩⟩
theorem lnN_self (W : Int → Int) (j : Nat) : ∀ n : Nat, n ≤ 12 → bj (lnN W j n) j = false := by
  intro n
  induction n with
  | zero => intro _; unfold lnN bj; simp
  | succ n ih =>
    intro h
    have b := lnN_b W j n (by omega)
    have h2 : 2 ^ n ≤ 2 ^ 11 := Nat.pow_le_pow_right (by decide) (by omega)
    unfold lnN
    by_cases c : (n : Int) ≠ (j : Int) ∧ yand (rdM W j) (wrM W n) ≠ 0
    · rw [if_pos c, bj_or _ n j b.1 (by omega) (by omega), ih (by omega), decide_eq_false (by omega)]; rfl
    · rw [if_neg c]; exact ih (by omega)
theorem blP_self {W : Int → Int} (g : JgW W) (J : List Nat) (k : Nat) : ¬ blP W J k k := by
  rintro ⟨a, b, e1, e2, e3⟩
  rw [e1] at e2; cases e2
  have := lnN_self W a (W 8).toNat (by have := g.1; omega)
  change bj (lns W a) a = false at this
  rw [this] at e3; cases e3
theorem haP_3 (W : Int → Int) (J : List Nat) (k : Nat) : haP W J k 3 := Or.inr (Or.inr (Or.inr rfl))
theorem msP_nn {W : Int → Int} (g : JgW W) {J : List Nat} (hJ : ∀ j ∈ J, (j : Int) < W 8) (p o : Nat) : 0 ≤ msP W J p o ∧ msP W J p o ≤ 60 := by
  have := jbF_b g hJ p
  unfold msP
  split
  · omega
  · split <;> omega
theorem hsP_nn {W : Int → Int} (g : JgW W) {J : List Nat} (hJ : ∀ j ∈ J, (j : Int) < W 8) (p o : Nat) : 0 ≤ hsP W J p o ∧ hsP W J p o ≤ 480 := by
  have := jbF_b g hJ p
  unfold hsP
  split <;> omega
theorem wsP_nn {W : Int → Int} (g : JgW W) {J : List Nat} (hJ : ∀ j ∈ J, (j : Int) < W 8) (p o : Nat) : 0 ≤ wsP W J p o ∧ wsP W J p o ≤ 1000 := by
  have := jbF_b g hJ p
  unfold wsP
  split
  · omega
  · split <;> omega
theorem moP_b {W : Int → Int} (g : JgW W) {J : List Nat} (hJ : ∀ j ∈ J, (j : Int) < W 8) (p : Nat) : 0 ≤ moP W J p ∧ moP W J p ≤ 1000 := by
  have := jbF_b g hJ p
  unfold moP
  split <;> omega
theorem wsP_mo {W : Int → Int} (g : JgW W) {J : List Nat} (hJ : ∀ j ∈ J, (j : Int) < W 8) (p o : Nat) (h : haP W J p o) : wsP W J p o ≤ moP W J p := by
  have := jbF_b g hJ p
  unfold haP at h
  unfold wsP moP
  rcases h with rfl | ⟨rfl, h⟩ | ⟨rfl, h⟩ | rfl
  · rw [if_neg (by decide), if_neg (by decide)]; split <;> omega
  · rw [if_neg (by decide), if_pos rfl, if_pos h]; omega
  · rw [if_neg (by decide), if_neg (by decide)]; split <;> omega
  · rw [if_pos rfl]; split <;> omega
theorem smF_b (f : Nat → Nat → Int) (B : Int) (hB : ∀ p o, 0 ≤ f p o ∧ f p o ≤ B) : ∀ (t : List Nat) (p : Nat), 0 ≤ smF f p t ∧ smF f p t ≤ t.length * B := by
  intro t
  induction t with
  | nil => intro p; simp [smF]
  | cons a t ih =>
    intro p
    have := ih (p + 1)
    have := hB p a
    unfold smF
    rw [List.length_cons, show ((t.length + 1 : Nat) : Int) * B = t.length * B + B by rw [Int.natCast_add, Int.add_mul]; simp]
    omega
