/-! the relation over a heap that has grown -/
theorem RAG {n : Int} {h h' : HP} (r : RA n h) (l1 : LayC h') (l2 : LayK h') (l3 : LayM h') (g : gn h ≤ gn h' ∧ gn h' ≤ gn h + 2) (s : gS h' 126 = gS h 126) (e10 : gI h' 10 5 = gI h 10 5) (e1 : gI h' 1 4 = gI h 1 4) (e113 : gI h' 113 3 = gI h 113 3) (p7 : gI h' 107 0 = gI h 107 0) (p8 : gI h' 108 0 = gI h 108 0) (p9 : gI h' 109 0 = gI h 109 0) (p10 : gI h' 110 0 = gI h 110 0) (p11 : gI h' 111 0 = gI h 111 0) (t : RTp h') (N : RN h' 0 (aI h' 114)) (P : ptl (aI h' 114) ≤ 10 * (n + 1)) (K : SmN h h' 47 47) (w5 : aI h' 115 = aI h 115) (c1 : gc h' ≤ gc h + 4) (c2 : gs h' ≤ gs h + 1300) (z : ∀ j : Nat, j < 12 → gI h' (25 + j) 4 = 0 ∨ gI h' (25 + j) 4 = 1) : RA (n + 1) h' := by
  obtain ⟨r1, r2, r3, r4, r5, r6, r7, r8, r9, r10, r11, r12, r13, r14, r15, r16, r17, r18, r19, r20, r21, r22⟩ := r
  obtain ⟨ga, gb⟩ := g
  refine ⟨l1, l2, l3, by omega, by omega, by rw [s]; exact r6, by rw [e10]; exact r7, by rw [e1, e113]; exact r8, by rw [e113]; exact r9, by rw [p7]; exact r10, by rw [p8]; exact r11, by rw [p9]; exact r12, by rw [p10]; exact r13, by rw [p11]; exact r14, t, N, P, ?_, by omega, by omega, fun k k0 k1 => (K.a 48 k (by decide) (by decide) (fun _ => rfl) (fun _ => rfl)).trans (r21 k k0 k1), fun j hj => ⟨z j hj, by
    have e := K.f (25 + j) 4 (by omega) (by omega) (by unfold PN; rw [if_neg (by omega), if_neg (by omega), if_neg (by omega), if_neg (by omega), if_neg (by omega)]) rfl
    rw [show 25 + j + 47 = 72 + j by omega] at e
    rw [e]; exact (r22 j hj).2⟩⟩
  rw [e113, w5]
  intro c
  exact ⟨(r18 c).1.cg K (fun i _ _ => rfl), by have := (r18 c).2; omega⟩
/-- what the class's reading of a text leaves: new objects above, the tape's cells other -/
def CFr (h g : HP) : Prop := (∀ a k, a ≤ gn h → a ≠ 2 → ¬ (4 ≤ a ∧ a ≤ 8) → ¬ (a = 1 ∧ k = 1) → gI g a k = gI h a k) ∧ (∀ a, a ≤ gn h → a ≠ 2 → ¬ (4 ≤ a ∧ a ≤ 8) → gJ g a = gJ h a) ∧ (∀ a, a ≤ gn h → gP g a = gP h a) ∧ (∀ a, a ≤ gn h → gS g a = gS h a) ∧ (gn h ≤ gn g ∧ gn g ≤ gn h + 2) ∧ gc g ≤ gc h + 2 ∧ gs g ≤ gs h + 1204 ∧ gI g 2 1 = 0
/-- what the reference's reading leaves -/
def DFr (g g' : HP) : Prop := (∀ a k, a ≠ 113 → a ≠ 118 → gI g' a k = gI g a k) ∧ (∀ a, a ≠ 113 → a ≠ 118 → gJ g' a = gJ g a) ∧ gP g' = gP g ∧ gS g' = gS g ∧ gn g' = gn g ∧ gc g' ≤ gc g + 1 ∧ gs g' ≤ gs g + 6 ∧ gI g' 113 3 = gI g 113 3 ∧ gI g' 113 5 = 0
theorem OM.dfr {g0 g1 g2 : HP} (e3 : gI g1 113 3 = gI g0 113 3) (e5 : gI g1 113 5 = 0) (x : Ox XMp g0 g1) (o : OM g1 g2) (v w : Int) : DFr g0 (sI (sI g2 113 10 v) 113 0 w) ∧ DFr g0 (sI g2 113 10 v) := by
  have y := x.tr o.1
  obtain ⟨y1, y2, y3, y4, y5, y6⟩ := y
  have z : ∀ a, a ≠ 113 → a ≠ 118 → XMp a = false := fun a q1 q2 => decide_eq_false (fun q => q.elim q1 q2)
  refine ⟨⟨fun a k q1 q2 => ?_, fun a q1 q2 => (y1 a (z a q1 q2)).2, y2, y3, y4, Nat.le_trans (Nat.le_of_eq y5) (Nat.le_add_right _ _), Nat.le_trans (Nat.le_of_eq y6) (Nat.le_add_right _ _), ?_, ?_⟩, fun a k q1 q2 => ?_, fun a q1 q2 => (y1 a (z a q1 q2)).2, y2, y3, y4, Nat.le_trans (Nat.le_of_eq y5) (Nat.le_add_right _ _), Nat.le_trans (Nat.le_of_eq y6) (Nat.le_add_right _ _), ?_, ?_⟩
  · rw [gI_sIn _ _ _ _ _ q1, gI_sIn _ _ _ _ _ q1, (y1 a (z a q1 q2)).1]
  · rw [gI_sIk _ _ _ _ _ (by decide), gI_sIk _ _ _ _ _ (by decide), o.2 3 (by decide) (by decide) (by decide) (by decide)]; exact e3
  · rw [gI_sIk _ _ _ _ _ (by decide), gI_sIk _ _ _ _ _ (by decide), o.2 5 (by decide) (by decide) (by decide) (by decide)]; exact e5
  · rw [gI_sIn _ _ _ _ _ q1, (y1 a (z a q1 q2)).1]
  · rw [gI_sIk _ _ _ _ _ (by decide), o.2 3 (by decide) (by decide) (by decide) (by decide)]; exact e3
  · rw [gI_sIk _ _ _ _ _ (by decide), o.2 5 (by decide) (by decide) (by decide) (by decide)]; exact e5
/-- a call that only reads: refused -/
theorem RAdone {n : Int} {h g g' : HP} (r : RA n h) (x : CFr h g) (y : DFr (exc g) g') (e10 : gI g' 113 10 = gI g 1 1) : RA (n + 1) g' := by
  obtain ⟨x1, x2, x3, x4, x5, x6, x7, x8⟩ := x
  obtain ⟨y1, y2, y3, y4, y5, y6, y7, y8, y9⟩ := y
  have r4 := r.2.2.2.1
  have yc : gc g' ≤ gc g + 1 + 1 := y6
  have ys : gs g' ≤ gs g + 6 + 6 := y7
  have yn : gn g' = gn g := y5
  have fI : ∀ a k, a ≤ gn h → a ≠ 2 → ¬ (4 ≤ a ∧ a ≤ 8) → ¬ (a = 1 ∧ k = 1) → a ≠ 113 → a ≠ 118 → gI g' a k = gI h a k := fun a k q1 q2 q3 q4 q5 q6 => (y1 a k q5 q6).trans (x1 a k q1 q2 q3 q4)
  have fA : ∀ a, a ≤ gn h → a ≠ 1 → a ≠ 2 → ¬ (4 ≤ a ∧ a ≤ 8) → a ≠ 113 → a ≠ 118 → aI g' a = aI h a := fun a q0 q1 q2 q3 q5 q6 => by
    funext i
    exact fI a _ q0 q2 q3 (fun q => q1 q.1) q5 q6
  have fS : ∀ a, a ≤ gn h → gS g' a = gS h a := fun a q => by rw [y4]; exact x4 a q
  have fP : ∀ a, a ≤ gn h → gP g' a = gP h a := fun a q => by rw [y3]; exact x3 a q
  have w4 : aI g' 114 = aI h 114 := fA 114 (by omega) (by decide) (by decide) (by decide) (by decide) (by decide)
  have tx : ∀ t, 126 < t → t ≤ gn h → gI g' t = gI h t ∧ gJ g' t = gJ h t ∧ gP g' t = gP h t ∧ gS g' t = gS h t := fun t t1 t2 => ⟨by funext k; exact fI t k t2 (by omega) (by omega) (by omega) (by omega) (by omega), (y2 t (by omega) (by omega)).trans (x2 t t2 (by omega) (by omega)), fP t t2, fS t t2⟩
  have s0 : SmN h g' 0 0 := ⟨fun a k h1 h2 _ _ => fI _ _ (by omega) (by omega) (by omega) (by omega) (by omega) (by omega), fun j hj => by rw [fP _ (by omega)], tx, by omega⟩
  have sk : SmN h g' 47 47 := ⟨fun a k h1 h2 _ _ => fI _ _ (by omega) (by omega) (by omega) (by omega) (by omega) (by omega), fun j hj => by rw [fP _ (by omega)], tx, by omega⟩
  refine RAG r (r.1.le (fun a q => fS a (by omega)) (fun a q _ => fP a (by omega))) (r.2.1.le (fun a q => fS a (by omega)) (fun a q _ => fP a (by omega))) (r.2.2.1.le (fun a q => fS a (by omega)) (fun a q _ => fP a (by omega))) ⟨by omega, by omega⟩ (fS 126 (by omega)) ?_ ?_ (y8.trans (x1 113 3 (by omega) (by decide) (by decide) (by decide))) ?_ ?_ ?_ ?_ ?_ ?_ ?_ ?_ sk (fA 115 (by omega) (by decide) (by decide) (by decide) (by decide) (by decide)) (by omega) (by omega) (fun j hj => ?_)
  · exact fI 10 5 (by omega) (by decide) (by decide) (by decide) (by decide) (by decide)
  · exact fI 1 4 (by omega) (by decide) (by decide) (by decide) (by decide) (by decide)
  · exact fI 107 0 (by omega) (by decide) (by decide) (by decide) (by decide) (by decide)
  · exact fI 108 0 (by omega) (by decide) (by decide) (by decide) (by decide) (by decide)
  · exact fI 109 0 (by omega) (by decide) (by decide) (by decide) (by decide) (by decide)
  · exact fI 110 0 (by omega) (by decide) (by decide) (by decide) (by decide) (by decide)
  · exact fI 111 0 (by omega) (by decide) (by decide) (by decide) (by decide) (by decide)
  · have t1 : gI g' 2 1 = 0 := (y1 2 1 (by decide) (by decide)).trans x8
    have t2 : gI g' 1 1 = gI g 1 1 := y1 1 1 (by decide) (by decide)
    exact ⟨by rw [t1, y9], by rw [y9]; decide, by rw [y9]; decide, by rw [t2, e10], fun i i0 i1 => by rw [y9] at i1; omega⟩
  · rw [w4]
    exact r.N.cg s0 (fun i _ _ => rfl)
  · rw [w4]
    have := r.2.2.2.2.2.2.2.2.2.2.2.2.2.2.2.2.1
    omega
  · rw [fI _ _ (by omega) (by omega) (by omega) (by omega) (by omega) (by omega)]
    exact (r.2.2.2.2.2.2.2.2.2.2.2.2.2.2.2.2.2.2.2.2.2 j hj).1
