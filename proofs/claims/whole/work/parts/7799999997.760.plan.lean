/-- if p then a else b -/
noncomputable def cif {α : Type} (p : Prop) (a b : α) : α := @ite α p (Classical.propDecidable p) a b
theorem cif_pos {α : Type} {p : Prop} (h : p) (a b : α) : cif p a b = a := if_pos h
theorem cif_neg {α : Type} {p : Prop} (h : ¬ p) (a b : α) : cif p a b = b := if_neg h
section PL
variable (ws ms hs : Nat → Nat → Int) (has bl : Nat → Nat → Prop) (mo : Nat → Int) (M C : Int)
/-- what is summed along the ways of the first places, from place p on -/
def smF (f : Nat → Nat → Int) : Nat → List Nat → Int
  | _, [] => 0
  | p, o :: t => f p o + smF f (p + 1) t
theorem smF_app (f : Nat → Nat → Int) : ∀ (t : List Nat) (p o : Nat), smF f p (t ++ [o]) = smF f p t + f (p + t.length) o := by
  intro t
  induction t with
  | nil => intro p o; simp [smF]
  | cons a t ih => intro p o; simp only [List.cons_append, smF, ih, List.length_cons]; rw [show p + 1 + t.length = p + (t.length + 1) by omega]; omega
theorem smF_mono (f : Nat → Nat → Int) (h : ∀ p o, 0 ≤ f p o) : ∀ (s : List Nat) (t : List Nat), smF f 0 t ≤ smF f 0 (t ++ s) := by
  intro s
  induction s with
  | nil => intro t; simp
  | cons a s ih =>
    intro t
    have := ih (t ++ [a])
    rw [smF_app] at this
    have := h (0 + t.length) a
    simp only [List.append_assoc, List.singleton_append] at *
    omega
/-- no job that is kept leans on one that is left out -/
def cns (t : List Nat) : Prop := ∀ (k i a b : Nat), t[k]? = some a → t[i]? = some b → a ≠ 3 → b = 3 → ¬ bl k i
def hsA (t : List Nat) : Prop := ∀ k a : Nat, t[k]? = some a → has k a
def okW2 (t : List Nat) : Prop := hsA has t ∧ smF ms 0 t ≤ M ∧ smF hs 0 t ≤ C ∧ cns bl t
abbrev Bst : Type := Int × Int × Int × List Nat
abbrev btr (w m c : Int) (B : Bst) : Prop := B.1 < w ∨ w = B.1 ∧ (m < B.2.1 ∨ m = B.2.1 ∧ c < B.2.2.1)
noncomputable def upB (B : Bst) (t : List Nat) : Bst := cif (okW2 ms hs has bl M C t ∧ btr (smF ws 0 t) (smF ms 0 t) (smF hs 0 t) B) (smF ws 0 t, smF ms 0 t, smF hs 0 t, t) B
noncomputable def enB : Nat → List Nat → Bst → Bst
  | 0, t, B => upB ws ms hs has bl M C B t
  | r + 1, t, B => enB r (t ++ [3]) (enB r (t ++ [2]) (enB r (t ++ [1]) (enB r (t ++ [0]) B)))
/-- may the next place have that way -/
def mayB (t : List Nat) (o : Nat) : Prop := if o = 3 then ∀ k a : Nat, t[k]? = some a → a ≠ 3 → ¬ bl k t.length else has t.length o ∧ ∀ i b : Nat, t[i]? = some b → b = 3 → ¬ bl t.length i
/-- the most from place p on, of r places -/
def mstF : Nat → Nat → Int
  | 0, _ => 0
  | r + 1, p => mstF r (p + 1) + mo p
noncomputable def srB : Nat → List Nat → Bst → Bst
  | 0, t, B => if btr (smF ws 0 t + 0) (smF ms 0 t) (smF hs 0 t) B then (smF ws 0 t, smF ms 0 t, smF hs 0 t, t) else B
  | r + 1, t, B => if btr (smF ws 0 t + mstF mo (r + 1) t.length) (smF ms 0 t) (smF hs 0 t) B then
      (let f := fun (B : Bst) (o : Nat) => cif (mayB has bl t o ∧ smF ms 0 (t ++ [o]) ≤ M ∧ smF hs 0 (t ++ [o]) ≤ C) (srB r (t ++ [o]) B) B
       f (f (f (f B 0) 1) 2) 3) else B
theorem cns_app (t : List Nat) (o : Nat) (nl : ∀ k, ¬ bl k k) : cns bl (t ++ [o]) ↔ cns bl t ∧ (o = 3 → ∀ k a : Nat, t[k]? = some a → a ≠ 3 → ¬ bl k t.length) ∧ (o ≠ 3 → ∀ i b : Nat, t[i]? = some b → b = 3 → ¬ bl t.length i) := by
  have g : ∀ (k a : Nat), (t ++ [o])[k]? = some a ↔ t[k]? = some a ∨ k = t.length ∧ a = o := by
    intro k a
    rcases Nat.lt_trichotomy k t.length with q | q | q
    · rw [List.getElem?_append_left q]
      exact ⟨Or.inl, fun z => z.elim id (fun z => by omega)⟩
    · subst q
      rw [List.getElem?_append_right (Nat.le_refl _), Nat.sub_self]
      have : t[t.length]? = none := List.getElem?_eq_none (Nat.le_refl _)
      rw [this]
      constructor
      · intro z; cases z; exact Or.inr ⟨rfl, rfl⟩
      · intro z; rcases z with z | ⟨_, rfl⟩
        · cases z
        · rfl
    · have h1 : (t ++ [o])[k]? = none := List.getElem?_eq_none (by simp; omega)
      have h2 : t[k]? = none := List.getElem?_eq_none (by omega)
      rw [h1, h2]
      constructor
      · intro z; cases z
      · intro z; rcases z with z | z
        · cases z
        · omega
  constructor
  · intro h
    refine ⟨fun k i a b e1 e2 => h k i a b ((g k a).mpr (Or.inl e1)) ((g i b).mpr (Or.inl e2)), fun ho k a e1 e2 => ?_, fun ho i b e1 e2 => ?_⟩
    · exact h k t.length a o ((g k a).mpr (Or.inl e1)) ((g _ _).mpr (Or.inr ⟨rfl, rfl⟩)) e2 ho
    · exact h t.length i o b ((g _ _).mpr (Or.inr ⟨rfl, rfl⟩)) ((g i b).mpr (Or.inl e1)) ho e2
  · rintro ⟨h1, h2, h3⟩ k i a b e1 e2 n3 e3
    rcases (g k a).mp e1 with f1 | ⟨f1, f2⟩
    · rcases (g i b).mp e2 with f3 | ⟨f3, f4⟩
      · exact h1 k i a b f1 f3 n3 e3
      · rw [f3]; exact h2 (by omega) k a f1 n3
    · rcases (g i b).mp e2 with f3 | ⟨f3, f4⟩
      · rw [f1]; exact h3 (by omega) i b f3 e3
      · rw [f1, f3]; exact nl _
theorem hsA_app (t : List Nat) (o : Nat) : hsA has (t ++ [o]) ↔ hsA has t ∧ has t.length o := by
  constructor
  · intro h
    refine ⟨fun k a e => h k a ?_, h t.length o (by simp)⟩
    have : k < t.length := (List.getElem?_eq_some_iff.mp e).1
    rw [List.getElem?_append_left this]; exact e
  · rintro ⟨h1, h2⟩ k a e
    rcases Nat.lt_or_ge k t.length with q | q
    · rw [List.getElem?_append_left q] at e; exact h1 k a e
    · rw [List.getElem?_append_right q] at e
      rcases Nat.eq_or_lt_of_le q with q | q
      · rw [← q, Nat.sub_self] at e; cases e; rw [← q]; exact h2
      · rw [List.getElem?_eq_none (by simp; omega)] at e; cases e
variable {ws ms hs has bl mo M C}
theorem ok_app (nl : ∀ k, ¬ bl k k) (h3 : ∀ k, has k 3) (nm : ∀ p o, 0 ≤ ms p o) (nh : ∀ p o, 0 ≤ hs p o) (t : List Nat) (o : Nat) : okW2 ms hs has bl M C (t ++ [o]) ↔ okW2 ms hs has bl M C t ∧ mayB has bl t o ∧ smF ms 0 (t ++ [o]) ≤ M ∧ smF hs 0 (t ++ [o]) ≤ C := by
  have am := smF_mono ms nm [o] t
  have ah := smF_mono hs nh [o] t
  unfold okW2 mayB
  rw [cns_app bl t o nl, hsA_app]
  constructor
  · rintro ⟨⟨a1, a2⟩, a3, a4, a5, a6, a7⟩
    refine ⟨⟨a1, by omega, by omega, a5⟩, ?_, a3, a4⟩
    split
    · rename_i q; exact a6 q
    · rename_i q; exact ⟨a2, a7 q⟩
  · rintro ⟨⟨a1, a2, a3, a4⟩, a5, a6, a7⟩
    by_cases q : o = 3
    · rw [if_pos q] at a5
      exact ⟨⟨a1, by rw [q]; exact h3 _⟩, a6, a7, a4, fun _ => a5, fun z => absurd q z⟩
    · rw [if_neg q] at a5
      exact ⟨⟨a1, a5.1⟩, a6, a7, a4, fun z => absurd z q, fun _ => a5.2⟩
theorem en_bad (nl : ∀ k, ¬ bl k k) (h3 : ∀ k, has k 3) (nm : ∀ p o, 0 ≤ ms p o) (nh : ∀ p o, 0 ≤ hs p o) : ∀ (r : Nat) (t : List Nat) (B : Bst), ¬ okW2 ms hs has bl M C t → enB ws ms hs has bl M C r t B = B := by
  intro r
  induction r with
  | zero => intro t B h; unfold enB upB; rw [cif_neg (fun q => h q.1)]
  | succ r ih =>
    intro t B h
    have k : ∀ o, ¬ okW2 ms hs has bl M C (t ++ [o]) := fun o q => h ((ok_app nl h3 nm nh t o).mp q).1
    unfold enB
    rw [ih _ _ (k 0), ih _ _ (k 1), ih _ _ (k 2), ih _ _ (k 3)]
theorem en_cut (nl : ∀ k, ¬ bl k k) (h3 : ∀ k, has k 3) (nm : ∀ p o, 0 ≤ ms p o) (nh : ∀ p o, 0 ≤ hs p o) (wm : ∀ p o, has p o → ws p o ≤ mo p) : ∀ (r : Nat) (t : List Nat) (B : Bst), ¬ btr (smF ws 0 t + mstF mo r t.length) (smF ms 0 t) (smF hs 0 t) B → enB ws ms hs has bl M C r t B = B := by
  intro r
  induction r with
  | zero =>
    intro t B h
    unfold enB upB
    rw [cif_neg (fun q => h (by unfold mstF; rw [Int.add_zero]; exact q.2))]
  | succ r ih =>
    intro t B h
    have k : ∀ (o : Nat) (B' : Bst), B' = B → enB ws ms hs has bl M C r (t ++ [o]) B' = B' := by
      intro o B' eB
      subst eB
      by_cases d : has t.length o
      · apply ih
        intro q
        apply h
        have a1 := wm t.length o d
        have a2 := nm t.length o
        have a3 := nh t.length o
        rw [smF_app, smF_app, smF_app, Nat.zero_add, List.length_append, List.length_singleton] at q
        unfold mstF
        unfold btr at *
        omega
      · exact en_bad nl h3 nm nh r _ _ (fun q => d ((hsA_app has t o).mp q.1).2)
    unfold enB
    rw [k 0 B rfl, k 1 B rfl, k 2 B rfl, k 3 B rfl]
theorem en_sr (nl : ∀ k, ¬ bl k k) (h3 : ∀ k, has k 3) (nm : ∀ p o, 0 ≤ ms p o) (nh : ∀ p o, 0 ≤ hs p o) (wm : ∀ p o, has p o → ws p o ≤ mo p) : ∀ (r : Nat) (t : List Nat) (B : Bst), okW2 ms hs has bl M C t → enB ws ms hs has bl M C r t B = srB ws ms hs has bl mo M C r t B := by
  intro r
  induction r with
  | zero =>
    intro t B h
    unfold enB upB srB
    rw [Int.add_zero]
    by_cases c : btr (smF ws 0 t) (smF ms 0 t) (smF hs 0 t) B
    · rw [cif_pos ⟨h, c⟩, if_pos c]
    · rw [cif_neg (fun q => c q.2), if_neg c]
  | succ r ih =>
    intro t B h
    by_cases c : btr (smF ws 0 t + mstF mo (r + 1) t.length) (smF ms 0 t) (smF hs 0 t) B
    · have st : ∀ (o : Nat) (B : Bst), enB ws ms hs has bl M C r (t ++ [o]) B = cif (mayB has bl t o ∧ smF ms 0 (t ++ [o]) ≤ M ∧ smF hs 0 (t ++ [o]) ≤ C) (srB ws ms hs has bl mo M C r (t ++ [o]) B) B := by
        intro o B
        by_cases d : mayB has bl t o ∧ smF ms 0 (t ++ [o]) ≤ M ∧ smF hs 0 (t ++ [o]) ≤ C
        · rw [cif_pos d]; exact ih _ _ ((ok_app nl h3 nm nh t o).mpr ⟨h, d⟩)
        · rw [cif_neg d]; exact en_bad nl h3 nm nh r _ _ (fun q => d ((ok_app nl h3 nm nh t o).mp q).2)
      unfold enB srB
      rw [if_pos c, st, st, st, st]
    · rw [en_cut nl h3 nm nh wm (r + 1) t B c]
      unfold srB
      rw [if_neg c]
end PL
/-! all ways in a row, by their codes -/
def dgt (n x k : Nat) : Nat := x / 4 ^ (n - 1 - k) % 4
def dgs (n x : Nat) : List Nat := (List.range n).map (dgt n x)
def vlt : List Nat → Nat → Nat
  | [], x => x
  | o :: t, x => vlt t (4 * x + o)
theorem vlt_app : ∀ (t : List Nat) (x o : Nat), vlt (t ++ [o]) x = 4 * vlt t x + o := by
  intro t
  induction t with
  | nil => intro x o; rfl
  | cons a t ih => intro x o; exact ih _ _
theorem dgs_succ (n x h : Nat) (hh : h < 4) : dgs (n + 1) (4 * x + h) = dgs n x ++ [h] := by
  unfold dgs
  rw [List.range_succ, List.map_append, List.map_singleton]
  congr 1
  · apply List.map_congr_left
    intro k hk
    have hk := List.mem_range.mp hk
    unfold dgt
    rw [show n + 1 - 1 - k = (n - 1 - k) + 1 by omega, Nat.pow_succ, Nat.mul_comm (4 ^ (n - 1 - k)) 4, ← Nat.div_div_eq_div_mul, show (4 * x + h) / 4 = x by omega]
  · unfold dgt
    rw [show n + 1 - 1 - n = 0 by omega, Nat.pow_zero, Nat.div_one, show (4 * x + h) % 4 = h by omega]
theorem dgs_vlt : ∀ (n : Nat) (t : List Nat), t.length = n → (∀ o ∈ t, o < 4) → dgs n (vlt t 0) = t := by
  intro n
  induction n with
  | zero => intro t h _; rw [List.length_eq_zero_iff.mp h]; rfl
  | succ n ih =>
    intro t h q
    obtain ⟨s, o, rfl⟩ : ∃ s o, t = s ++ [o] := by
      have : t ≠ [] := fun e => by rw [e] at h; cases h
      exact ⟨t.dropLast, t.getLast this, (List.dropLast_concat_getLast this).symm⟩
    rw [vlt_app, dgs_succ _ _ _ (q o (by simp)), ih s (by simp at h; exact h) (fun a ha => q a (by simp [ha]))]
/-- the codes from c on, n of them -/
def lpB (u : Bst → Nat → Bst) : Nat → Nat → Bst → Bst
  | 0, _, B => B
  | n + 1, c, B => lpB u n (c + 1) (u B c)
theorem lpB_add (u : Bst → Nat → Bst) : ∀ (a b c : Nat) (B : Bst), lpB u (a + b) c B = lpB u b (c + a) (lpB u a c B) := by
  intro a
  induction a with
  | zero => intro b c B; rw [Nat.zero_add]; rfl
  | succ a ih => intro b c B; rw [show a + 1 + b = (a + b) + 1 by omega]; show lpB u (a + b) (c + 1) (u B c) = lpB u b (c + (a + 1)) (lpB u a (c + 1) (u B c)); rw [ih, show c + 1 + a = c + (a + 1) by omega]
theorem lp_en {ws ms hs : Nat → Nat → Int} {has bl : Nat → Nat → Prop} {M C : Int} : ∀ (r : Nat) (t : List Nat) (B : Bst), (∀ o ∈ t, o < 4) → lpB (fun B c => upB ws ms hs has bl M C B (dgs (t.length + r) c)) (4 ^ r) (vlt t 0 * 4 ^ r) B = enB ws ms hs has bl M C r t B := by
  intro r
  induction r with
  | zero =>
    intro t B h
    show upB ws ms hs has bl M C B (dgs (t.length + 0) (vlt t 0 * 4 ^ 0)) = _
    rw [Nat.pow_zero, Nat.mul_one, Nat.add_zero, dgs_vlt _ t rfl h]; rfl
  | succ r ih =>
    intro t B h
    have st : ∀ (o : Nat) (B : Bst), o < 4 → lpB (fun B c => upB ws ms hs has bl M C B (dgs (t.length + (r + 1)) c)) (4 ^ r) ((4 * vlt t 0 + o) * 4 ^ r) B = enB ws ms hs has bl M C r (t ++ [o]) B := by
      intro o B ho
      have := ih (t ++ [o]) B (fun a ha => by
        rcases List.mem_append.mp ha with q | q
        · exact h a q
        · rw [List.mem_singleton.mp q]; exact ho)
      rw [vlt_app, List.length_append, List.length_singleton, show t.length + 1 + r = t.length + (r + 1) by omega] at this
      exact this
    unfold enB
    rw [← st 0 B (by omega), ← st 1 _ (by omega), ← st 2 _ (by omega), ← st 3 _ (by omega), show 4 ^ (r + 1) = 4 ^ r + (4 ^ r + (4 ^ r + 4 ^ r)) by rw [Nat.pow_succ]; omega, lpB_add, lpB_add, lpB_add]
    have e : ∀ o, (4 * vlt t 0 + o) * 4 ^ r = vlt t 0 * (4 ^ r + (4 ^ r + (4 ^ r + 4 ^ r))) + o * 4 ^ r := by
      intro o
      rw [Nat.add_mul, Nat.mul_assoc, Nat.mul_comm 4, Nat.mul_assoc, Nat.mul_comm (4 ^ r) 4]
      congr 1
      congr 1
      omega
    rw [e 0, e 1, e 2, e 3, Nat.zero_mul, Nat.one_mul]
    simp only [Nat.add_zero]
    generalize vlt t 0 * (4 ^ r + (4 ^ r + (4 ^ r + 4 ^ r))) = z
    rw [show z + 2 * 4 ^ r = z + 4 ^ r + 4 ^ r by omega, show z + 3 * 4 ^ r = z + 4 ^ r + 4 ^ r + 4 ^ r by omega]
