/-! the cells that last from call to call, and frames -/
def PC (a k : Nat) : Bool :=
  if a = 2 then k == 1 else if a = 3 then true else if 4 ≤ a ∧ a ≤ 8 then false else if a = 10 ∨ a = 57 then k == 5 else if a = 11 ∨ a = 58 then !(k == 9)
  else if a = 23 ∨ a = 24 ∨ a = 70 ∨ a = 71 then false else if a = 37 ∨ a = 84 then k == 4 else if 103 ≤ a ∧ a ≤ 112 then (107 ≤ a ∧ a ≤ 111 ∧ k = 0)
  else if a = 113 then (k == 3 || k == 5 || k == 10) else if 117 ≤ a ∧ a ≤ 126 then false else true
/-- places whose words as references may change -/
def PR (a k : Nat) : Bool := !(a == 10 && k == 1)
/-- nothing that lasts has changed -/
def Qs (h h' : HP) : Prop := (∀ a k, PC a k = true → gI h' a k = gI h a k) ∧ (∀ a k, 126 < a → gJ h' a k = gJ h a k) ∧ (∀ a k, PR a k = true → gP h' a k = gP h a k) ∧ gS h' = gS h ∧ gn h' = gn h ∧ gc h' = gc h ∧ gs h' = gs h
theorem Qs.rf (h : HP) : Qs h h := ⟨fun _ _ _ => rfl, fun _ _ _ => rfl, fun _ _ _ => rfl, rfl, rfl, rfl, rfl⟩
theorem Qs.tr {a b c : HP} (x : Qs a b) (y : Qs b c) : Qs a c := by
  obtain ⟨x1, x2, x3, x4, x5, x6, x7⟩ := x
  obtain ⟨y1, y2, y3, y4, y5, y6, y7⟩ := y
  exact ⟨fun a k q => (y1 a k q).trans (x1 a k q), fun a k q => (y2 a k q).trans (x2 a k q), fun a k q => (y3 a k q).trans (x3 a k q), y4.trans x4, y5.trans x5, y6.trans x6, y7.trans x7⟩
theorem Qs.sI {h h' : HP} {a k : Nat} {v : Int} (p : PC a k = false) (q : Qs h h') : Qs h (sI h' a k v) := by
  obtain ⟨x1, x2, x3, x4, x5, x6, x7⟩ := q
  refine ⟨fun b j c => ?_, x2, x3, x4, x5, x6, x7⟩
  rw [gI_sI, if_neg (fun e => by rw [e.1, e.2, p] at c; cases c)]
  exact x1 b j c
theorem Qs.sA {h h' : HP} {a : Nat} {i v : Int} (p : ∀ k, PC a k = false) (q : Qs h h') : Qs h (sA h' a i v) := Qs.sI (p _) q
theorem Qs.sJ {h h' : HP} {a k : Nat} {v : Int} (p : a ≤ 126) (q : Qs h h') : Qs h (sJ h' a k v) := by
  obtain ⟨x1, x2, x3, x4, x5, x6, x7⟩ := q
  refine ⟨x1, fun b j c => ?_, x3, x4, x5, x6, x7⟩
  rw [gJ_sJn _ _ _ _ _ (by omega)]
  exact x2 b j c
theorem Qs.sB {h h' : HP} {a : Nat} {i v : Int} (p : a ≤ 126) (q : Qs h h') : Qs h (sB h' a i v) := Qs.sJ p q
theorem Qs.sIr {h h' : HP} {a : Nat} {g : Nat → Int} (p : ∀ k, PC a k = false) (q : Qs h h') : Qs h (sIr h' a g) := by
  obtain ⟨x1, x2, x3, x4, x5, x6, x7⟩ := q
  refine ⟨fun b j c => ?_, x2, x3, x4, x5, x6, x7⟩
  rw [gI_sIrn _ _ _ _ (fun e => by rw [e, p] at c; cases c)]
  exact x1 b j c
theorem Qs.sP {h h' : HP} {v : Option Nat} (q : Qs h h') : Qs h (sP h' 10 1 v) := by
  obtain ⟨x1, x2, x3, x4, x5, x6, x7⟩ := q
  refine ⟨x1, x2, fun b j c => ?_, x4, x5, x6, x7⟩
  rw [gP_sP, if_neg (fun e => by rw [e.1, e.2] at c; cases c)]
  exact x3 b j c
theorem Qs.gI {h h' : HP} (q : Qs h h') {a : Nat} (p : ∀ k, PC a k = true) : gI h' a = gI h a := by
  funext k; exact q.1 a k (p k)
theorem Qs.aI {h h' : HP} (q : Qs h h') {a : Nat} (p : ∀ k, PC a k = true) : aI h' a = aI h a := by
  funext k; exact q.1 a _ (p _)
theorem LayC.Q {h h' : HP} (L : LayC h) (q : Qs h h') : LayC h' := by
  obtain ⟨x1, x2, x3, x4, x5, x6, x7⟩ := q
  unfold LayC at *
  rw [x4]
  have e : ∀ a k, PR a k = true → gP h' a k = gP h a k := x3
  rw [e 1 0 rfl, e 1 2 rfl, e 1 3 rfl, e 1 5 rfl, e 2 0 rfl, e 2 2 rfl, e 2 3 rfl, e 2 4 rfl, e 2 8 rfl, e 2 10 rfl, e 9 0 rfl, e 9 1 rfl, e 9 2 rfl, e 9 3 rfl, e 9 4 rfl, e 9 5 rfl, e 10 0 rfl]
  have f : ∀ a, a ≠ 10 → gP h' a = gP h a := fun a n => by
    funext k; refine e a k ?_; unfold PR; simp [n]
  simp only [f 11 (by decide), f 19 (by decide), f 20 (by decide), f 37 (by decide), f 42 (by decide), f 51 (by decide), f 103 (by decide)]
  exact L
theorem LayM.Q {h h' : HP} (L : LayM h) (q : Qs h h') : LayM h' := by
  obtain ⟨x1, x2, x3, x4, x5, x6, x7⟩ := q
  have f : ∀ a, a ≠ 10 → gP h' a = gP h a := fun a n => by
    funext k; refine x3 a k ?_; unfold PR; simp [n]
  unfold LayM at *
  rw [x4]
  simp only [f 113 (by decide)]
  exact L
theorem LayK.Q {h h' : HP} (L : LayK h) (q : Qs h h') : LayK h' := by
  obtain ⟨x1, x2, x3, x4, x5, x6, x7⟩ := q
  have f : ∀ a, a ≠ 10 → gP h' a = gP h a := fun a n => by
    funext k; refine x3 a k ?_; unfold PR; simp [n]
  unfold LayK at *
  rw [x4]
  simp only [f 56 (by decide), f 57 (by decide), f 58 (by decide), f 66 (by decide), f 67 (by decide), f 84 (by decide), f 89 (by decide), f 98 (by decide)]
  exact L
