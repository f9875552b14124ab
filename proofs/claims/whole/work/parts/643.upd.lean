/-! a few cells change -/
section UP
variable {X : Nat → Nat → Bool} {h h' : HP}
theorem SmX.rf (X : Nat → Nat → Bool) (h : HP) (b : Nat) : SmX X h h b b := ⟨fun _ _ _ _ _ _ => rfl, fun _ _ => rfl, fun _ _ _ => ⟨rfl, rfl, rfl, rfl⟩, Nat.le_refl _⟩
theorem SmX.uI (s : SmX X h h' 0 0) (a k : Nat) (v : Int) (q : a ≤ 126) (p : (a < 9 ∨ 55 < a) ∨ X a k = true) : SmX X h (sI h' a k v) 0 0 := by
  obtain ⟨s1, s2, s3, s4⟩ := s
  refine ⟨fun c j h1 h2 h3 h4 => ?_, s2, fun t ht hg => ?_, s4⟩
  · rw [gI_sI, if_neg (fun e => by
      rcases p with p | p
      · omega
      · rw [← e.1, ← e.2, Nat.add_zero, h4] at p; cases p)]
    exact s1 c j h1 h2 h3 h4
  · rw [gI_sIn _ _ _ _ _ (by omega)]; exact s3 t ht hg
theorem SmX.uA (s : SmX X h h' 0 0) (a : Nat) (i v : Int) (q : a ≤ 126) (p : (a < 9 ∨ 55 < a) ∨ ∀ k, X a k = true) : SmX X h (sA h' a i v) 0 0 := s.uI a i.toNat v q (p.imp id (fun f => f _))
theorem SmX.uJ {b : Nat} (s : SmX X h h' b b) (a k : Nat) (v : Int) (q : a ≤ 126) : SmX X h (sJ h' a k v) b b := by
  obtain ⟨s1, s2, s3, s4⟩ := s
  refine ⟨s1, s2, fun t ht hg => ?_, s4⟩
  rw [gJ_sJn _ _ _ _ _ (by omega)]; exact s3 t ht hg
theorem SmX.uIk (s : SmX X h h' 47 47) (a k : Nat) (v : Int) (q : a ≤ 126) (p : a < 56 ∨ 102 < a) : SmX X h (sI h' a k v) 47 47 := by
  obtain ⟨s1, s2, s3, s4⟩ := s
  refine ⟨fun c j h1 h2 h3 h4 => ?_, s2, fun t ht hg => ?_, s4⟩
  · rw [gI_sI, if_neg (fun e => by omega)]
    exact s1 c j h1 h2 h3 h4
  · rw [gI_sIn _ _ _ _ _ (by omega)]; exact s3 t ht hg
theorem SmX.uAk (s : SmX X h h' 47 47) (a : Nat) (i v : Int) (q : a ≤ 126) (p : a < 56 ∨ 102 < a) : SmX X h (sA h' a i v) 47 47 := s.uIk a i.toNat v q p
end UP
theorem RA.M {n : Int} {h h' : HP} (r : RA n h) (l1 : LayC h') (l2 : LayK h') (l3 : LayM h') (g : gn h' = gn h) (s : gS h' = gS h) (e10 : gI h' 10 5 = gI h 10 5) (e1 : gI h' 1 4 = gI h 1 4) (e113 : gI h' 113 3 = gI h 113 3) (p7 : gI h' 107 0 = gI h 107 0) (p8 : gI h' 108 0 = gI h 108 0) (p9 : gI h' 109 0 = gI h 109 0) (p10 : gI h' 110 0 = gI h 110 0) (p11 : gI h' 111 0 = gI h 111 0) (t : RTp h') (N : RN h' 0 (aI h' 114)) (P : ptl (aI h' 114) ≤ 10 * (n + 1)) (K : SmN h h' 47 47) (w5 : aI h' 115 = aI h 115) (c1 : gc h' = gc h) (c2 : gs h' = gs h) (z : ∀ j : Nat, j < 12 → gI h' (25 + j) 4 = gI h (25 + j) 4 := by intro j hj; first | rfl | (simp (disch := omega) only [gI_sJ, gI_sB, gI_sP, gI_exc, gI_sIn, gI_sAn, gI_sIrn]; done) | (simp (disch := omega) only [gI_sJ, gI_sB, gI_sP, gI_exc, gI_sIn, gI_sAn, gI_sIrn, gI_sI]; repeat (first | rfl | rw [if_neg (by omega)]))) : RA (n + 1) h' := by
  obtain ⟨r1, r2, r3, r4, r5, r6, r7, r8, r9, r10, r11, r12, r13, r14, r15, r16, r17, r18, r19, r20, r21, r22⟩ := r
  refine ⟨l1, l2, l3, by omega, by omega, by rw [s]; exact r6, by rw [e10]; exact r7, by rw [e1, e113]; exact r8, by rw [e113]; exact r9, by rw [p7]; exact r10, by rw [p8]; exact r11, by rw [p9]; exact r12, by rw [p10]; exact r13, by rw [p11]; exact r14, t, N, P, ?_, by omega, by omega, fun k k0 k1 => (K.a 48 k (by decide) (by decide) (fun _ => rfl) (fun _ => rfl)).trans (r21 k k0 k1), fun j hj => ⟨by rw [z j hj]; exact (r22 j hj).1, by
    have e := K.f (25 + j) 4 (by omega) (by omega) (by unfold PN; rw [if_neg (by omega), if_neg (by omega), if_neg (by omega), if_neg (by omega), if_neg (by omega)]) rfl
    rw [show 25 + j + 47 = 72 + j by omega] at e
    rw [e]; exact (r22 j hj).2⟩⟩
  rw [e113, w5]
  intro c
  exact ⟨(r18 c).1.cg K (fun i _ _ => rfl), by have := (r18 c).2; omega⟩
