/-! the search of the class -/
theorem bjx0 {a b : Int} (ha : 0 ≤ a ∧ a < 4096) (hb : 0 ≤ b ∧ b < 4096) : xand a b = 0 ↔ ∀ k : Nat, k < 12 → bj a k = true → bj b k = false := by
  have e := xand_nn a b ha.1 (by omega) hb.1 (by omega)
  have tb' : ∀ k, (a.toNat &&& b.toNat).testBit k = (bj a k && bj b k) := fun k => Nat.testBit_and _ _ _
  constructor
  · intro h k _ h1
    have h0 : a.toNat &&& b.toNat = 0 := by omega
    have := tb' k
    rw [h0, Nat.zero_testBit, h1, Bool.true_and] at this
    exact this.symm
  · intro h
    have h0 : a.toNat &&& b.toNat = 0 := by
      apply Nat.eq_of_testBit_eq
      intro k
      rw [tb' k, Nat.zero_testBit]
      cases e1 : bj a k with
      | false => rfl
      | true =>
        have hk : k < 12 := by
          rcases Nat.lt_or_ge k 12 with q | q
          · exact q
          · have h2 : 2 ^ 12 ≤ 2 ^ k := Nat.pow_le_pow_right (by decide) q
            unfold bj at e1
            rw [Nat.testBit_lt_two_pow (by omega)] at e1; cases e1
        rw [h k hk e1]; rfl
    rw [e, h0]; rfl
/-- the bits of those left out, of all that those kept lean on -/
def drB (J : List Nat) (t : List Nat) (z : Int) : Prop := (0 ≤ z ∧ z < 4096) ∧ ∀ k : Nat, bj z k = true ↔ ∃ i : Nat, t[i]? = some 3 ∧ J[i]? = some k
def ndB (W : Int → Int) (J : List Nat) (t : List Nat) (z : Int) : Prop := (0 ≤ z ∧ z < 4096) ∧ ∀ k : Nat, bj z k = true ↔ ∃ i a j : Nat, t[i]? = some a ∧ a ≠ 3 ∧ J[i]? = some j ∧ bj (lns W j) k = true
theorem get_app (t : List Nat) (o k a : Nat) : (t ++ [o])[k]? = some a ↔ t[k]? = some a ∨ k = t.length ∧ a = o := by
  rcases Nat.lt_trichotomy k t.length with q | q | q
  · rw [List.getElem?_append_left q]
    exact ⟨Or.inl, fun z => z.elim id (fun z => by omega)⟩
  · subst q
    rw [List.getElem?_append_right (Nat.le_refl _), Nat.sub_self]
    have : t[t.length]? = none := List.getElem?_eq_none (Nat.le_refl _)
    rw [this]
    constructor
    · intro z; cases z; exact Or.inr ⟨rfl, rfl⟩
    · intro z; rcases z with z | ⟨_, rfl⟩
      · cases z
      · rfl
  · have h1 : (t ++ [o])[k]? = none := List.getElem?_eq_none (by simp; omega)
    have h2 : t[k]? = none := List.getElem?_eq_none (by omega)
    rw [h1, h2]
    constructor
    · intro z; cases z
    · intro z; rcases z with z | z
      · cases z
      · omega
theorem drB.app {J t : List Nat} {z : Int} (d : drB J t z) (o j : Nat) (ej : J[t.length]? = some j) (hj : j < 12) : drB J (t ++ [o]) (xor_ z (if o = 3 then xshl 1 j else 0)) := by
  obtain ⟨d1, d2⟩ := d
  by_cases c : o = 3
  · rw [if_pos c]
    refine ⟨?_, fun k => ?_⟩
    · have := or_b z j 12 d1.1 d1.2 hj (by decide); exact this
    · rw [bj_or z j k d1.1 (by omega) (by omega)]
      constructor
      · intro h
        rcases Bool.or_eq_true_iff.mp h with h | h
        · obtain ⟨i, e1, e2⟩ := (d2 k).mp h
          exact ⟨i, (get_app t o i 3).mpr (Or.inl e1), e2⟩
        · have : j = k := of_decide_eq_true h
          exact ⟨t.length, (get_app t o _ 3).mpr (Or.inr ⟨rfl, c.symm⟩), by rw [← this]; exact ej⟩
      · rintro ⟨i, e1, e2⟩
        rcases (get_app t o i 3).mp e1 with e1 | ⟨e1, _⟩
        · rw [(d2 k).mpr ⟨i, e1, e2⟩]; rfl
        · rw [e1, ej] at e2; cases e2; rw [decide_eq_true rfl, Bool.or_true]
  · rw [if_neg c, xor_0 z d1.1 (by omega)]
    refine ⟨d1, fun k => (d2 k).trans ⟨fun ⟨i, e1, e2⟩ => ⟨i, (get_app t o i 3).mpr (Or.inl e1), e2⟩, fun ⟨i, e1, e2⟩ => ?_⟩⟩
    rcases (get_app t o i 3).mp e1 with e1 | ⟨_, e1⟩
    · exact ⟨i, e1, e2⟩
    · exact absurd e1.symm c
theorem ndB.app {W : Int → Int} (g : 0 ≤ W 8 ∧ W 8 ≤ 12) {J t : List Nat} {z : Int} (d : ndB W J t z) (o j : Nat) (ej : J[t.length]? = some j) : ndB W J (t ++ [o]) (xor_ z (if o = 3 then 0 else lns W j)) := by
  obtain ⟨d1, d2⟩ := d
  have lb := lns_b W j g
  by_cases c : o = 3
  · rw [if_pos c, xor_0 z d1.1 (by omega)]
    refine ⟨d1, fun k => (d2 k).trans ⟨fun ⟨i, a, j', e1, e2⟩ => ⟨i, a, j', (get_app t o i a).mpr (Or.inl e1), e2⟩, fun ⟨i, a, j', e1, e2, e3⟩ => ?_⟩⟩
    rcases (get_app t o i a).mp e1 with e1 | ⟨_, e1⟩
    · exact ⟨i, a, j', e1, e2, e3⟩
    · exact absurd (e1.trans c) e2
  · rw [if_neg c]
    refine ⟨?_, fun k => ?_⟩
    · have := inB_or (n := 12) (by decide) (a := z) (b := lns W j) (by unfold inB; exact ⟨d1.1, by show z < 4096; omega⟩) (by unfold inB; exact ⟨lb.1, by show lns W j < 4096; omega⟩)
      exact this
    · rw [bj_o d1 lb]
      constructor
      · intro h
        rcases Bool.or_eq_true_iff.mp h with h | h
        · obtain ⟨i, a, j', e1, e2⟩ := (d2 k).mp h
          exact ⟨i, a, j', (get_app t o i a).mpr (Or.inl e1), e2⟩
        · exact ⟨t.length, o, j, (get_app t o _ o).mpr (Or.inr ⟨rfl, rfl⟩), c, ej, h⟩
      · rintro ⟨i, a, j', e1, e2, e3, e4⟩
        rcases (get_app t o i a).mp e1 with e1 | ⟨e1, _⟩
        · rw [(d2 k).mpr ⟨i, a, j', e1, e2, e3, e4⟩]; rfl
        · rw [e1, ej] at e3; cases e3; rw [e4, Bool.or_true]
theorem drB.nil (J : List Nat) : drB J [] 0 := ⟨⟨by decide, by decide⟩, fun k => ⟨fun h => by unfold bj at h; simp at h, fun ⟨i, e, _⟩ => by simp at e⟩⟩
theorem ndB.nil (W : Int → Int) (J : List Nat) : ndB W J [] 0 := ⟨⟨by decide, by decide⟩, fun k => ⟨fun h => by unfold bj at h; simp at h, fun ⟨i, a, j, e, _⟩ => by simp at e⟩⟩
/-- what the two bit sets say of the next way -/
theorem may_3 {W : Int → Int} {J t : List Nat} {z : Int} (d : ndB W J t z) (hl : t.length < J.length) (j : Nat) (ej : J[t.length]? = some j) : (bj z j = true) ↔ ¬ mayB (haP W J) (blP W J) t 3 := by
  unfold mayB
  rw [if_pos rfl, d.2 j]
  constructor
  · rintro ⟨i, a, j', e1, e2, e3, e4⟩ h
    exact h i a e1 e2 ⟨j', j, e3, ej, e4⟩
  · intro h
    by_cases c : ∃ i a j' : Nat, t[i]? = some a ∧ a ≠ 3 ∧ J[i]? = some j' ∧ bj (lns W j') j = true
    · exact c
    · exact absurd (fun k a e1 e2 ⟨x, y, f1, f2, f3⟩ => by
        rw [ej] at f2; cases f2
        exact c ⟨k, a, x, e1, e2, f1, f3⟩) h
theorem may_n3 {W : Int → Int} (g : 0 ≤ W 8 ∧ W 8 ≤ 12) {J t : List Nat} (hJ : ∀ j ∈ J, (j : Int) < W 8) {z : Int} (d : drB J t z) (j : Nat) (ej : J[t.length]? = some j) (o : Nat) (ho : o ≠ 3) : mayB (haP W J) (blP W J) t o ↔ haP W J t.length o ∧ xand (lns W j) z = 0 := by
  unfold mayB
  rw [if_neg ho, bjx0 (lns_b W j g) d.1]
  constructor
  · rintro ⟨h1, h2⟩
    refine ⟨h1, fun k _ hb => ?_⟩
    cases e : bj z k with
    | false => rfl
    | true =>
      obtain ⟨i, e1, e2⟩ := (d.2 k).mp e
      exact absurd ⟨j, k, ej, e2, hb⟩ (h2 i 3 e1 rfl)
  · rintro ⟨h1, h2⟩
    refine ⟨h1, fun i b e1 e2 => ?_⟩
    subst e2
    rintro ⟨x, y, f1, f2, f3⟩
    rw [ej] at f1; cases f1
    have hy := hJ y (List.mem_of_getElem? f2)
    have := h2 y (by omega) f3
    rw [(d.2 y).mpr ⟨i, e1, f2⟩] at this; cases this
