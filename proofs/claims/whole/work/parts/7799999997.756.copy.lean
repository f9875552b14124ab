/-! the copying of a night: written by gen_copy.py -/
/-- the cells of the places from s + 9 on are copied to those from d + 9 on: P surely, others perhaps; T: the texts of which jobs -/
def Cq (s d : Nat) (P : Nat → Nat → Prop) (T : Nat → Prop) (h h' : HP) : Prop := (∀ a k, 9 ≤ a → a ≤ 55 → gI h' (a + d) k = gI h (a + d) k ∨ gI h' (a + d) k = gI h (a + s) k) ∧ (∀ a k, 9 ≤ a → a ≤ 55 → P a k → gI h' (a + d) k = gI h (a + s) k) ∧ (∀ x k, x < 9 + d ∨ 55 + d < x ∨ x = 10 + d → gI h' x k = gI h x k) ∧ gJ h' = gJ h ∧ gS h' = gS h ∧ gn h' = gn h ∧ gc h' = gc h ∧ gs h' = gs h ∧ (∀ j, j < 12 → gP h' (25 + d + j) 5 = gP h (25 + d + j) 5 ∨ gP h' (25 + d + j) 5 = gP h (25 + s + j) 5) ∧ (∀ j, j < 12 → T j → gP h' (25 + d + j) 5 = gP h (25 + s + j) 5) ∧ (∀ x k, ¬ (k = 5 ∧ 25 + d ≤ x ∧ x ≤ 36 + d) → gP h' x k = gP h x k)
theorem Cq.rf (s d : Nat) (h : HP) : Cq s d (fun _ _ => False) (fun _ => False) h h := ⟨fun _ _ _ _ => Or.inl rfl, fun _ _ _ _ q => q.elim, fun _ _ _ => rfl, rfl, rfl, rfl, rfl, rfl, fun _ _ => Or.inl rfl, fun _ _ q => q.elim, fun _ _ _ => rfl⟩
theorem Cq.tr {s d : Nat} {P P' : Nat → Nat → Prop} {T T' : Nat → Prop} {a b c : HP} (hd : s = 0 ∧ d = 47 ∨ s = 47 ∧ d = 0) (x : Cq s d P T a b) (y : Cq s d P' T' b c) : Cq s d (fun a k => P a k ∨ P' a k) (fun j => T j ∨ T' j) a c := by
  obtain ⟨x1, x2, x3, x4, x5, x6, x7, x8, x9, x10, x11⟩ := x
  obtain ⟨y1, y2, y3, y4, y5, y6, y7, y8, y9, y10, y11⟩ := y
  have e : ∀ i k, 9 ≤ i → i ≤ 55 → gI b (i + s) k = gI a (i + s) k := fun i k h1 h2 => x3 _ _ (by omega)
  have ep : ∀ j, j < 12 → gP b (25 + s + j) 5 = gP a (25 + s + j) 5 := fun j hj => x11 _ _ (by omega)
  refine ⟨fun i k h1 h2 => ?_, fun i k h1 h2 q => ?_, fun i k q => (y3 i k q).trans (x3 i k q), y4.trans x4, y5.trans x5, y6.trans x6, y7.trans x7, y8.trans x8, fun j hj => ?_, fun j hj q => ?_, fun i k q => (y11 i k q).trans (x11 i k q)⟩
  · rcases y1 i k h1 h2 with z | z
    · rw [z]; exact x1 i k h1 h2
    · rw [z, e i k h1 h2]; exact Or.inr rfl
  · rcases q with q | q
    · rcases y1 i k h1 h2 with z | z
      · rw [z]; exact x2 i k h1 h2 q
      · rw [z, e i k h1 h2]
    · rw [y2 i k h1 h2 q, e i k h1 h2]
  · rcases y9 j hj with z | z
    · rw [z]; exact x9 j hj
    · rw [z, ep j hj]; exact Or.inr rfl
  · rcases q with q | q
    · rcases y9 j hj with z | z
      · rw [z]; exact x10 j hj q
      · rw [z, ep j hj]
    · rw [y10 j hj q, ep j hj]
theorem Cq.mono {s d : Nat} {P P' : Nat → Nat → Prop} {T T' : Nat → Prop} {a b : HP} (x : Cq s d P T a b) (p : ∀ i k, 9 ≤ i → i ≤ 55 → P' i k → P i k) (t : ∀ j, T' j → T j) : Cq s d P' T' a b := by
  obtain ⟨x1, x2, x3, x4, x5, x6, x7, x8, x9, x10, x11⟩ := x
  exact ⟨x1, fun i k h1 h2 q => x2 i k h1 h2 (p i k h1 h2 q), x3, x4, x5, x6, x7, x8, x9, fun j hj q => x10 j hj (t j q), x11⟩
/-- an array's first m, copied -/
def cpA (h : HP) (a b : Nat) (m : Int) : HP := sIr h b (fun k => if (0 : Int).toNat ≤ k ∧ k < (0 : Int).toNat + m.toNat then gI h a ((0 : Int).toNat + (k - (0 : Int).toNat)) else gI h b k)
theorem cpA.q (s d : Nat) (h : HP) (a x y : Nat) (m : Int) (ha : 9 ≤ a ∧ a ≤ 55 ∧ a ≠ 10) (hx : x = a + s) (hy : y = a + d) : Cq s d (fun i k => i = a ∧ (k : Int) < m) (fun _ => False) h (cpA h x y m) := by
  subst hx hy
  refine ⟨fun i k h1 h2 => ?_, fun i k h1 h2 q => ?_, fun i k q => by unfold cpA; rw [gI_sIrn _ _ _ _ (by omega)], rfl, rfl, rfl, rfl, rfl, fun _ _ => Or.inl rfl, fun _ _ q => q.elim, fun _ _ _ => rfl⟩
  · by_cases e : i = a
    · subst e
      unfold cpA
      rw [gI_sIre]
      by_cases c : (0 : Int).toNat ≤ k ∧ k < (0 : Int).toNat + m.toNat
      · rw [if_pos c]; exact Or.inr (by rw [show (0 : Int).toNat + (k - (0 : Int).toNat) = k by omega])
      · rw [if_neg c]; exact Or.inl rfl
    · exact Or.inl (by unfold cpA; rw [gI_sIrn _ _ _ _ (by omega)])
  · obtain ⟨e, c⟩ := q
    subst e
    unfold cpA
    rw [gI_sIre, if_pos (by omega), show (0 : Int).toNat + (k - (0 : Int).toNat) = k by omega]
theorem cpI.q (s d : Nat) (h : HP) (a x y j : Nat) (ha : 9 ≤ a ∧ a ≤ 55 ∧ a ≠ 10) (hx : x = a + s) (hy : y = a + d) : Cq s d (fun i k => i = a ∧ k = j) (fun _ => False) h (sI h y j (gI h x j)) := by
  subst hx hy
  refine ⟨fun i k h1 h2 => ?_, fun i k h1 h2 q => ?_, fun i k q => ?_, rfl, rfl, rfl, rfl, rfl, fun _ _ => Or.inl rfl, fun _ _ q => q.elim, fun _ _ _ => rfl⟩
  · rw [gI_sI]
    by_cases c : i + d = a + d ∧ k = j
    · rw [if_pos c, c.2, show i = a by omega]; exact Or.inr rfl
    · rw [if_neg c]; exact Or.inl rfl
  · rw [gI_sI, if_pos ⟨by omega, q.2⟩, q.1, q.2]
  · rw [gI_sI, if_neg (by omega)]
theorem cpP.q (s d : Nat) (h : HP) (x y j : Nat) (hj : j < 12) (hx : x = 25 + s + j) (hy : y = 25 + d + j) : Cq s d (fun _ _ => False) (fun i => i = j) h (sP h y 5 (gP h x 5)) := by
  subst hx hy
  refine ⟨fun _ _ _ _ => Or.inl rfl, fun _ _ _ _ q => q.elim, fun _ _ _ => rfl, rfl, rfl, rfl, rfl, rfl, fun i hi => ?_, fun i hi q => ?_, fun x k q => ?_⟩
  · show upd2 _ _ _ _ _ _ = _ ∨ upd2 _ _ _ _ _ _ = _
    unfold upd2
    by_cases c : i = j
    · subst c; exact Or.inr (if_pos ⟨rfl, rfl⟩)
    · exact Or.inl (if_neg (by omega))
  · subst q; exact if_pos ⟨rfl, rfl⟩
  · exact if_neg (by omega)
theorem LayC.J {h h' : HP} (L : LayC h) (eS : gS h' = gS h) (f : ∀ x k, ¬ (k = 5 ∧ (25 ≤ x ∧ x ≤ 36 ∨ 72 ≤ x ∧ x ≤ 83)) → gP h' x k = gP h x k) : LayC h' := by
  unfold LayC at *
  simp (disch := omega) only [eS, f]
  exact L
theorem LayK.J {h h' : HP} (L : LayK h) (eS : gS h' = gS h) (f : ∀ x k, ¬ (k = 5 ∧ (25 ≤ x ∧ x ≤ 36 ∨ 72 ≤ x ∧ x ≤ 83)) → gP h' x k = gP h x k) : LayK h' := by
  unfold LayK at *
  simp (disch := omega) only [eS, f]
  exact L
theorem Cq.C {s d : Nat} {P : Nat → Nat → Prop} {T : Nat → Prop} {h h' : HP} (hd : s = 0 ∧ d = 47 ∨ s = 47 ∧ d = 0) (x : Cq s d P T h h') (L : LayC h) : LayC h' := L.J x.2.2.2.2.1 (fun a k q => x.2.2.2.2.2.2.2.2.2.2 a k (by omega))
theorem Cq.K {s d : Nat} {P : Nat → Nat → Prop} {T : Nat → Prop} {h h' : HP} (hd : s = 0 ∧ d = 47 ∨ s = 47 ∧ d = 0) (x : Cq s d P T h h') (L : LayK h) : LayK h' := L.J x.2.2.2.2.1 (fun a k q => x.2.2.2.2.2.2.2.2.2.2 a k (by omega))
theorem Cq.M {s d : Nat} {P : Nat → Nat → Prop} {T : Nat → Prop} {h h' : HP} (hd : s = 0 ∧ d = 47 ∨ s = 47 ∧ d = 0) (x : Cq s d P T h h') (L : LayM h) : LayM h' := by
  have f := x.2.2.2.2.2.2.2.2.2.2
  have eS := x.2.2.2.2.1
  have f' : ∀ a k, 113 ≤ a → gP h' a k = gP h a k := fun a k q => f a k (by omega)
  unfold LayM at *
  simp (disch := omega) only [eS, f']
  exact L
section CP
variable {F : Nat} {β : Type}
theorem cpi_12 (h : HP) (f : HP → Option β) (L : LayC h) (LK : LayK h) (m : Int) (h0 : 0 ≤ m) (h1 : m ≤ 64) : (xcp h (some 12) 0 (some 59) 0 m).bind f = f (cpA h 12 59 m) := b_cp h 12 59 0 0 m f 64 64 (L.2.2.2.2.2.2.2.2.2.2.2.1) (LK.2.2.2.1) ⟨by decide, by decide, h0, by omega, by omega, by omega⟩
theorem cpi_13 (h : HP) (f : HP → Option β) (L : LayC h) (LK : LayK h) (m : Int) (h0 : 0 ≤ m) (h1 : m ≤ 64) : (xcp h (some 13) 0 (some 60) 0 m).bind f = f (cpA h 13 60 m) := b_cp h 13 60 0 0 m f 64 64 (L.2.2.2.2.2.2.2.2.2.2.2.2.1) (LK.2.2.2.2.1) ⟨by decide, by decide, h0, by omega, by omega, by omega⟩
theorem cpi_14 (h : HP) (f : HP → Option β) (L : LayC h) (LK : LayK h) (m : Int) (h0 : 0 ≤ m) (h1 : m ≤ 16) : (xcp h (some 14) 0 (some 61) 0 m).bind f = f (cpA h 14 61 m) := b_cp h 14 61 0 0 m f 16 16 (L.2.2.2.2.2.2.2.2.2.2.2.2.2.1) (LK.2.2.2.2.2.1) ⟨by decide, by decide, h0, by omega, by omega, by omega⟩
theorem cpi_15 (h : HP) (f : HP → Option β) (L : LayC h) (LK : LayK h) (m : Int) (h0 : 0 ≤ m) (h1 : m ≤ 16) : (xcp h (some 15) 0 (some 62) 0 m).bind f = f (cpA h 15 62 m) := b_cp h 15 62 0 0 m f 16 16 (L.2.2.2.2.2.2.2.2.2.2.2.2.2.2.1) (LK.2.2.2.2.2.2.1) ⟨by decide, by decide, h0, by omega, by omega, by omega⟩
theorem cpi_16 (h : HP) (f : HP → Option β) (L : LayC h) (LK : LayK h) (m : Int) (h0 : 0 ≤ m) (h1 : m ≤ 5120) : (xcp h (some 16) 0 (some 63) 0 m).bind f = f (cpA h 16 63 m) := b_cp h 16 63 0 0 m f 5120 5120 (L.2.2.2.2.2.2.2.2.2.2.2.2.2.2.2.1) (LK.2.2.2.2.2.2.2.1) ⟨by decide, by decide, h0, by omega, by omega, by omega⟩
theorem cpi_17 (h : HP) (f : HP → Option β) (L : LayC h) (LK : LayK h) (m : Int) (h0 : 0 ≤ m) (h1 : m ≤ 5120) : (xcp h (some 17) 0 (some 64) 0 m).bind f = f (cpA h 17 64 m) := b_cp h 17 64 0 0 m f 5120 5120 (L.2.2.2.2.2.2.2.2.2.2.2.2.2.2.2.2.1) (LK.2.2.2.2.2.2.2.2.1) ⟨by decide, by decide, h0, by omega, by omega, by omega⟩
theorem cpi_18 (h : HP) (f : HP → Option β) (L : LayC h) (LK : LayK h) (m : Int) (h0 : 0 ≤ m) (h1 : m ≤ 5120) : (xcp h (some 18) 0 (some 65) 0 m).bind f = f (cpA h 18 65 m) := b_cp h 18 65 0 0 m f 5120 5120 (L.2.2.2.2.2.2.2.2.2.2.2.2.2.2.2.2.2.1) (LK.2.2.2.2.2.2.2.2.2.1) ⟨by decide, by decide, h0, by omega, by omega, by omega⟩
theorem cpi_21 (h : HP) (f : HP → Option β) (L : LayC h) (LK : LayK h) (m : Int) (h0 : 0 ≤ m) (h1 : m ≤ 12) : (xcp h (some 21) 0 (some 68) 0 m).bind f = f (cpA h 21 68 m) := b_cp h 21 68 0 0 m f 12 12 (L.2.2.2.2.2.2.2.2.2.2.2.2.2.2.2.2.2.2.2.2.1) (LK.2.2.2.2.2.2.2.2.2.2.2.2.1) ⟨by decide, by decide, h0, by omega, by omega, by omega⟩
theorem cpi_22 (h : HP) (f : HP → Option β) (L : LayC h) (LK : LayK h) (m : Int) (h0 : 0 ≤ m) (h1 : m ≤ 12) : (xcp h (some 22) 0 (some 69) 0 m).bind f = f (cpA h 22 69 m) := b_cp h 22 69 0 0 m f 12 12 (L.2.2.2.2.2.2.2.2.2.2.2.2.2.2.2.2.2.2.2.2.2.1) (LK.2.2.2.2.2.2.2.2.2.2.2.2.2.1) ⟨by decide, by decide, h0, by omega, by omega, by omega⟩
theorem cpi_38 (h : HP) (f : HP → Option β) (L : LayC h) (LK : LayK h) (m : Int) (h0 : 0 ≤ m) (h1 : m ≤ 100) : (xcp h (some 38) 0 (some 85) 0 m).bind f = f (cpA h 38 85 m) := b_cp h 38 85 0 0 m f 100 100 (L.2.2.2.2.2.2.2.2.2.2.2.2.2.2.2.2.2.2.2.2.2.2.2.2.2.1) (LK.2.2.2.2.2.2.2.2.2.2.2.2.2.2.2.2.2.1) ⟨by decide, by decide, h0, by omega, by omega, by omega⟩
theorem cpi_39 (h : HP) (f : HP → Option β) (L : LayC h) (LK : LayK h) (m : Int) (h0 : 0 ≤ m) (h1 : m ≤ 100) : (xcp h (some 39) 0 (some 86) 0 m).bind f = f (cpA h 39 86 m) := b_cp h 39 86 0 0 m f 100 100 (L.2.2.2.2.2.2.2.2.2.2.2.2.2.2.2.2.2.2.2.2.2.2.2.2.2.2.1) (LK.2.2.2.2.2.2.2.2.2.2.2.2.2.2.2.2.2.2.1) ⟨by decide, by decide, h0, by omega, by omega, by omega⟩
theorem cpi_40 (h : HP) (f : HP → Option β) (L : LayC h) (LK : LayK h) (m : Int) (h0 : 0 ≤ m) (h1 : m ≤ 100) : (xcp h (some 40) 0 (some 87) 0 m).bind f = f (cpA h 40 87 m) := b_cp h 40 87 0 0 m f 100 100 (L.2.2.2.2.2.2.2.2.2.2.2.2.2.2.2.2.2.2.2.2.2.2.2.2.2.2.2.1) (LK.2.2.2.2.2.2.2.2.2.2.2.2.2.2.2.2.2.2.2.1) ⟨by decide, by decide, h0, by omega, by omega, by omega⟩
theorem cpi_41 (h : HP) (f : HP → Option β) (L : LayC h) (LK : LayK h) (m : Int) (h0 : 0 ≤ m) (h1 : m ≤ 100) : (xcp h (some 41) 0 (some 88) 0 m).bind f = f (cpA h 41 88 m) := b_cp h 41 88 0 0 m f 100 100 (L.2.2.2.2.2.2.2.2.2.2.2.2.2.2.2.2.2.2.2.2.2.2.2.2.2.2.2.2.1) (LK.2.2.2.2.2.2.2.2.2.2.2.2.2.2.2.2.2.2.2.2.1) ⟨by decide, by decide, h0, by omega, by omega, by omega⟩
theorem cpi_43 (h : HP) (f : HP → Option β) (L : LayC h) (LK : LayK h) (m : Int) (h0 : 0 ≤ m) (h1 : m ≤ 4) : (xcp h (some 43) 0 (some 90) 0 m).bind f = f (cpA h 43 90 m) := b_cp h 43 90 0 0 m f 4 4 (L.2.2.2.2.2.2.2.2.2.2.2.2.2.2.2.2.2.2.2.2.2.2.2.2.2.2.2.2.2.2.1) (LK.2.2.2.2.2.2.2.2.2.2.2.2.2.2.2.2.2.2.2.2.2.2.1) ⟨by decide, by decide, h0, by omega, by omega, by omega⟩
theorem cpi_44 (h : HP) (f : HP → Option β) (L : LayC h) (LK : LayK h) (m : Int) (h0 : 0 ≤ m) (h1 : m ≤ 4) : (xcp h (some 44) 0 (some 91) 0 m).bind f = f (cpA h 44 91 m) := b_cp h 44 91 0 0 m f 4 4 (L.2.2.2.2.2.2.2.2.2.2.2.2.2.2.2.2.2.2.2.2.2.2.2.2.2.2.2.2.2.2.2.1) (LK.2.2.2.2.2.2.2.2.2.2.2.2.2.2.2.2.2.2.2.2.2.2.2.1) ⟨by decide, by decide, h0, by omega, by omega, by omega⟩
theorem cpi_45 (h : HP) (f : HP → Option β) (L : LayC h) (LK : LayK h) (m : Int) (h0 : 0 ≤ m) (h1 : m ≤ 4) : (xcp h (some 45) 0 (some 92) 0 m).bind f = f (cpA h 45 92 m) := b_cp h 45 92 0 0 m f 4 4 (L.2.2.2.2.2.2.2.2.2.2.2.2.2.2.2.2.2.2.2.2.2.2.2.2.2.2.2.2.2.2.2.2.1) (LK.2.2.2.2.2.2.2.2.2.2.2.2.2.2.2.2.2.2.2.2.2.2.2.2.1) ⟨by decide, by decide, h0, by omega, by omega, by omega⟩
theorem cpi_46 (h : HP) (f : HP → Option β) (L : LayC h) (LK : LayK h) (m : Int) (h0 : 0 ≤ m) (h1 : m ≤ 4) : (xcp h (some 46) 0 (some 93) 0 m).bind f = f (cpA h 46 93 m) := b_cp h 46 93 0 0 m f 4 4 (L.2.2.2.2.2.2.2.2.2.2.2.2.2.2.2.2.2.2.2.2.2.2.2.2.2.2.2.2.2.2.2.2.2.1) (LK.2.2.2.2.2.2.2.2.2.2.2.2.2.2.2.2.2.2.2.2.2.2.2.2.2.1) ⟨by decide, by decide, h0, by omega, by omega, by omega⟩
theorem cpi_47 (h : HP) (f : HP → Option β) (L : LayC h) (LK : LayK h) (m : Int) (h0 : 0 ≤ m) (h1 : m ≤ 3) : (xcp h (some 47) 0 (some 94) 0 m).bind f = f (cpA h 47 94 m) := b_cp h 47 94 0 0 m f 3 3 (L.2.2.2.2.2.2.2.2.2.2.2.2.2.2.2.2.2.2.2.2.2.2.2.2.2.2.2.2.2.2.2.2.2.2.1) (LK.2.2.2.2.2.2.2.2.2.2.2.2.2.2.2.2.2.2.2.2.2.2.2.2.2.2.1) ⟨by decide, by decide, h0, by omega, by omega, by omega⟩
theorem cpi_52 (h : HP) (f : HP → Option β) (L : LayC h) (LK : LayK h) (m : Int) (h0 : 0 ≤ m) (h1 : m ≤ 20) : (xcp h (some 52) 0 (some 99) 0 m).bind f = f (cpA h 52 99 m) := b_cp h 52 99 0 0 m f 20 20 (L.2.2.2.2.2.2.2.2.2.2.2.2.2.2.2.2.2.2.2.2.2.2.2.2.2.2.2.2.2.2.2.2.2.2.2.2.2.2.2.1) (LK.2.2.2.2.2.2.2.2.2.2.2.2.2.2.2.2.2.2.2.2.2.2.2.2.2.2.2.2.2.2.2.1) ⟨by decide, by decide, h0, by omega, by omega, by omega⟩
theorem cpi_53 (h : HP) (f : HP → Option β) (L : LayC h) (LK : LayK h) (m : Int) (h0 : 0 ≤ m) (h1 : m ≤ 20) : (xcp h (some 53) 0 (some 100) 0 m).bind f = f (cpA h 53 100 m) := b_cp h 53 100 0 0 m f 20 20 (L.2.2.2.2.2.2.2.2.2.2.2.2.2.2.2.2.2.2.2.2.2.2.2.2.2.2.2.2.2.2.2.2.2.2.2.2.2.2.2.2.1) (LK.2.2.2.2.2.2.2.2.2.2.2.2.2.2.2.2.2.2.2.2.2.2.2.2.2.2.2.2.2.2.2.2.1) ⟨by decide, by decide, h0, by omega, by omega, by omega⟩
theorem cpi_54 (h : HP) (f : HP → Option β) (L : LayC h) (LK : LayK h) (m : Int) (h0 : 0 ≤ m) (h1 : m ≤ 20) : (xcp h (some 54) 0 (some 101) 0 m).bind f = f (cpA h 54 101 m) := b_cp h 54 101 0 0 m f 20 20 (L.2.2.2.2.2.2.2.2.2.2.2.2.2.2.2.2.2.2.2.2.2.2.2.2.2.2.2.2.2.2.2.2.2.2.2.2.2.2.2.2.2.1) (LK.2.2.2.2.2.2.2.2.2.2.2.2.2.2.2.2.2.2.2.2.2.2.2.2.2.2.2.2.2.2.2.2.2.1) ⟨by decide, by decide, h0, by omega, by omega, by omega⟩
theorem cpi_55 (h : HP) (f : HP → Option β) (L : LayC h) (LK : LayK h) (m : Int) (h0 : 0 ≤ m) (h1 : m ≤ 20) : (xcp h (some 55) 0 (some 102) 0 m).bind f = f (cpA h 55 102 m) := b_cp h 55 102 0 0 m f 20 20 (L.2.2.2.2.2.2.2.2.2.2.2.2.2.2.2.2.2.2.2.2.2.2.2.2.2.2.2.2.2.2.2.2.2.2.2.2.2.2.2.2.2.2.1) (LK.2.2.2.2.2.2.2.2.2.2.2.2.2.2.2.2.2.2.2.2.2.2.2.2.2.2.2.2.2.2.2.2.2.2.1) ⟨by decide, by decide, h0, by omega, by omega, by omega⟩
theorem cpb_12 (h : HP) (f : HP → Option β) (L : LayC h) (LK : LayK h) (m : Int) (h0 : 0 ≤ m) (h1 : m ≤ 64) : (xcp h (some 59) 0 (some 12) 0 m).bind f = f (cpA h 59 12 m) := b_cp h 59 12 0 0 m f 64 64 (LK.2.2.2.1) (L.2.2.2.2.2.2.2.2.2.2.2.1) ⟨by decide, by decide, h0, by omega, by omega, by omega⟩
theorem cpb_13 (h : HP) (f : HP → Option β) (L : LayC h) (LK : LayK h) (m : Int) (h0 : 0 ≤ m) (h1 : m ≤ 64) : (xcp h (some 60) 0 (some 13) 0 m).bind f = f (cpA h 60 13 m) := b_cp h 60 13 0 0 m f 64 64 (LK.2.2.2.2.1) (L.2.2.2.2.2.2.2.2.2.2.2.2.1) ⟨by decide, by decide, h0, by omega, by omega, by omega⟩
theorem cpb_14 (h : HP) (f : HP → Option β) (L : LayC h) (LK : LayK h) (m : Int) (h0 : 0 ≤ m) (h1 : m ≤ 16) : (xcp h (some 61) 0 (some 14) 0 m).bind f = f (cpA h 61 14 m) := b_cp h 61 14 0 0 m f 16 16 (LK.2.2.2.2.2.1) (L.2.2.2.2.2.2.2.2.2.2.2.2.2.1) ⟨by decide, by decide, h0, by omega, by omega, by omega⟩
theorem cpb_15 (h : HP) (f : HP → Option β) (L : LayC h) (LK : LayK h) (m : Int) (h0 : 0 ≤ m) (h1 : m ≤ 16) : (xcp h (some 62) 0 (some 15) 0 m).bind f = f (cpA h 62 15 m) := b_cp h 62 15 0 0 m f 16 16 (LK.2.2.2.2.2.2.1) (L.2.2.2.2.2.2.2.2.2.2.2.2.2.2.1) ⟨by decide, by decide, h0, by omega, by omega, by omega⟩
theorem cpb_16 (h : HP) (f : HP → Option β) (L : LayC h) (LK : LayK h) (m : Int) (h0 : 0 ≤ m) (h1 : m ≤ 5120) : (xcp h (some 63) 0 (some 16) 0 m).bind f = f (cpA h 63 16 m) := b_cp h 63 16 0 0 m f 5120 5120 (LK.2.2.2.2.2.2.2.1) (L.2.2.2.2.2.2.2.2.2.2.2.2.2.2.2.1) ⟨by decide, by decide, h0, by omega, by omega, by omega⟩
theorem cpb_17 (h : HP) (f : HP → Option β) (L : LayC h) (LK : LayK h) (m : Int) (h0 : 0 ≤ m) (h1 : m ≤ 5120) : (xcp h (some 64) 0 (some 17) 0 m).bind f = f (cpA h 64 17 m) := b_cp h 64 17 0 0 m f 5120 5120 (LK.2.2.2.2.2.2.2.2.1) (L.2.2.2.2.2.2.2.2.2.2.2.2.2.2.2.2.1) ⟨by decide, by decide, h0, by omega, by omega, by omega⟩
theorem cpb_18 (h : HP) (f : HP → Option β) (L : LayC h) (LK : LayK h) (m : Int) (h0 : 0 ≤ m) (h1 : m ≤ 5120) : (xcp h (some 65) 0 (some 18) 0 m).bind f = f (cpA h 65 18 m) := b_cp h 65 18 0 0 m f 5120 5120 (LK.2.2.2.2.2.2.2.2.2.1) (L.2.2.2.2.2.2.2.2.2.2.2.2.2.2.2.2.2.1) ⟨by decide, by decide, h0, by omega, by omega, by omega⟩
theorem cpb_21 (h : HP) (f : HP → Option β) (L : LayC h) (LK : LayK h) (m : Int) (h0 : 0 ≤ m) (h1 : m ≤ 12) : (xcp h (some 68) 0 (some 21) 0 m).bind f = f (cpA h 68 21 m) := b_cp h 68 21 0 0 m f 12 12 (LK.2.2.2.2.2.2.2.2.2.2.2.2.1) (L.2.2.2.2.2.2.2.2.2.2.2.2.2.2.2.2.2.2.2.2.1) ⟨by decide, by decide, h0, by omega, by omega, by omega⟩
theorem cpb_22 (h : HP) (f : HP → Option β) (L : LayC h) (LK : LayK h) (m : Int) (h0 : 0 ≤ m) (h1 : m ≤ 12) : (xcp h (some 69) 0 (some 22) 0 m).bind f = f (cpA h 69 22 m) := b_cp h 69 22 0 0 m f 12 12 (LK.2.2.2.2.2.2.2.2.2.2.2.2.2.1) (L.2.2.2.2.2.2.2.2.2.2.2.2.2.2.2.2.2.2.2.2.2.1) ⟨by decide, by decide, h0, by omega, by omega, by omega⟩
theorem cpb_38 (h : HP) (f : HP → Option β) (L : LayC h) (LK : LayK h) (m : Int) (h0 : 0 ≤ m) (h1 : m ≤ 100) : (xcp h (some 85) 0 (some 38) 0 m).bind f = f (cpA h 85 38 m) := b_cp h 85 38 0 0 m f 100 100 (LK.2.2.2.2.2.2.2.2.2.2.2.2.2.2.2.2.2.1) (L.2.2.2.2.2.2.2.2.2.2.2.2.2.2.2.2.2.2.2.2.2.2.2.2.2.1) ⟨by decide, by decide, h0, by omega, by omega, by omega⟩
theorem cpb_39 (h : HP) (f : HP → Option β) (L : LayC h) (LK : LayK h) (m : Int) (h0 : 0 ≤ m) (h1 : m ≤ 100) : (xcp h (some 86) 0 (some 39) 0 m).bind f = f (cpA h 86 39 m) := b_cp h 86 39 0 0 m f 100 100 (LK.2.2.2.2.2.2.2.2.2.2.2.2.2.2.2.2.2.2.1) (L.2.2.2.2.2.2.2.2.2.2.2.2.2.2.2.2.2.2.2.2.2.2.2.2.2.2.1) ⟨by decide, by decide, h0, by omega, by omega, by omega⟩
theorem cpb_40 (h : HP) (f : HP → Option β) (L : LayC h) (LK : LayK h) (m : Int) (h0 : 0 ≤ m) (h1 : m ≤ 100) : (xcp h (some 87) 0 (some 40) 0 m).bind f = f (cpA h 87 40 m) := b_cp h 87 40 0 0 m f 100 100 (LK.2.2.2.2.2.2.2.2.2.2.2.2.2.2.2.2.2.2.2.1) (L.2.2.2.2.2.2.2.2.2.2.2.2.2.2.2.2.2.2.2.2.2.2.2.2.2.2.2.1) ⟨by decide, by decide, h0, by omega, by omega, by omega⟩
theorem cpb_41 (h : HP) (f : HP → Option β) (L : LayC h) (LK : LayK h) (m : Int) (h0 : 0 ≤ m) (h1 : m ≤ 100) : (xcp h (some 88) 0 (some 41) 0 m).bind f = f (cpA h 88 41 m) := b_cp h 88 41 0 0 m f 100 100 (LK.2.2.2.2.2.2.2.2.2.2.2.2.2.2.2.2.2.2.2.2.1) (L.2.2.2.2.2.2.2.2.2.2.2.2.2.2.2.2.2.2.2.2.2.2.2.2.2.2.2.2.1) ⟨by decide, by decide, h0, by omega, by omega, by omega⟩
theorem cpb_43 (h : HP) (f : HP → Option β) (L : LayC h) (LK : LayK h) (m : Int) (h0 : 0 ≤ m) (h1 : m ≤ 4) : (xcp h (some 90) 0 (some 43) 0 m).bind f = f (cpA h 90 43 m) := b_cp h 90 43 0 0 m f 4 4 (LK.2.2.2.2.2.2.2.2.2.2.2.2.2.2.2.2.2.2.2.2.2.2.1) (L.2.2.2.2.2.2.2.2.2.2.2.2.2.2.2.2.2.2.2.2.2.2.2.2.2.2.2.2.2.2.1) ⟨by decide, by decide, h0, by omega, by omega, by omega⟩
theorem cpb_44 (h : HP) (f : HP → Option β) (L : LayC h) (LK : LayK h) (m : Int) (h0 : 0 ≤ m) (h1 : m ≤ 4) : (xcp h (some 91) 0 (some 44) 0 m).bind f = f (cpA h 91 44 m) := b_cp h 91 44 0 0 m f 4 4 (LK.2.2.2.2.2.2.2.2.2.2.2.2.2.2.2.2.2.2.2.2.2.2.2.1) (L.2.2.2.2.2.2.2.2.2.2.2.2.2.2.2.2.2.2.2.2.2.2.2.2.2.2.2.2.2.2.2.1) ⟨by decide, by decide, h0, by omega, by omega, by omega⟩
theorem cpb_45 (h : HP) (f : HP → Option β) (L : LayC h) (LK : LayK h) (m : Int) (h0 : 0 ≤ m) (h1 : m ≤ 4) : (xcp h (some 92) 0 (some 45) 0 m).bind f = f (cpA h 92 45 m) := b_cp h 92 45 0 0 m f 4 4 (LK.2.2.2.2.2.2.2.2.2.2.2.2.2.2.2.2.2.2.2.2.2.2.2.2.1) (L.2.2.2.2.2.2.2.2.2.2.2.2.2.2.2.2.2.2.2.2.2.2.2.2.2.2.2.2.2.2.2.2.1) ⟨by decide, by decide, h0, by omega, by omega, by omega⟩
theorem cpb_46 (h : HP) (f : HP → Option β) (L : LayC h) (LK : LayK h) (m : Int) (h0 : 0 ≤ m) (h1 : m ≤ 4) : (xcp h (some 93) 0 (some 46) 0 m).bind f = f (cpA h 93 46 m) := b_cp h 93 46 0 0 m f 4 4 (LK.2.2.2.2.2.2.2.2.2.2.2.2.2.2.2.2.2.2.2.2.2.2.2.2.2.1) (L.2.2.2.2.2.2.2.2.2.2.2.2.2.2.2.2.2.2.2.2.2.2.2.2.2.2.2.2.2.2.2.2.2.1) ⟨by decide, by decide, h0, by omega, by omega, by omega⟩
theorem cpb_47 (h : HP) (f : HP → Option β) (L : LayC h) (LK : LayK h) (m : Int) (h0 : 0 ≤ m) (h1 : m ≤ 3) : (xcp h (some 94) 0 (some 47) 0 m).bind f = f (cpA h 94 47 m) := b_cp h 94 47 0 0 m f 3 3 (LK.2.2.2.2.2.2.2.2.2.2.2.2.2.2.2.2.2.2.2.2.2.2.2.2.2.2.1) (L.2.2.2.2.2.2.2.2.2.2.2.2.2.2.2.2.2.2.2.2.2.2.2.2.2.2.2.2.2.2.2.2.2.2.1) ⟨by decide, by decide, h0, by omega, by omega, by omega⟩
theorem cpb_52 (h : HP) (f : HP → Option β) (L : LayC h) (LK : LayK h) (m : Int) (h0 : 0 ≤ m) (h1 : m ≤ 20) : (xcp h (some 99) 0 (some 52) 0 m).bind f = f (cpA h 99 52 m) := b_cp h 99 52 0 0 m f 20 20 (LK.2.2.2.2.2.2.2.2.2.2.2.2.2.2.2.2.2.2.2.2.2.2.2.2.2.2.2.2.2.2.2.1) (L.2.2.2.2.2.2.2.2.2.2.2.2.2.2.2.2.2.2.2.2.2.2.2.2.2.2.2.2.2.2.2.2.2.2.2.2.2.2.2.1) ⟨by decide, by decide, h0, by omega, by omega, by omega⟩
theorem cpb_53 (h : HP) (f : HP → Option β) (L : LayC h) (LK : LayK h) (m : Int) (h0 : 0 ≤ m) (h1 : m ≤ 20) : (xcp h (some 100) 0 (some 53) 0 m).bind f = f (cpA h 100 53 m) := b_cp h 100 53 0 0 m f 20 20 (LK.2.2.2.2.2.2.2.2.2.2.2.2.2.2.2.2.2.2.2.2.2.2.2.2.2.2.2.2.2.2.2.2.1) (L.2.2.2.2.2.2.2.2.2.2.2.2.2.2.2.2.2.2.2.2.2.2.2.2.2.2.2.2.2.2.2.2.2.2.2.2.2.2.2.2.1) ⟨by decide, by decide, h0, by omega, by omega, by omega⟩
theorem cpb_54 (h : HP) (f : HP → Option β) (L : LayC h) (LK : LayK h) (m : Int) (h0 : 0 ≤ m) (h1 : m ≤ 20) : (xcp h (some 101) 0 (some 54) 0 m).bind f = f (cpA h 101 54 m) := b_cp h 101 54 0 0 m f 20 20 (LK.2.2.2.2.2.2.2.2.2.2.2.2.2.2.2.2.2.2.2.2.2.2.2.2.2.2.2.2.2.2.2.2.2.1) (L.2.2.2.2.2.2.2.2.2.2.2.2.2.2.2.2.2.2.2.2.2.2.2.2.2.2.2.2.2.2.2.2.2.2.2.2.2.2.2.2.2.1) ⟨by decide, by decide, h0, by omega, by omega, by omega⟩
theorem cpb_55 (h : HP) (f : HP → Option β) (L : LayC h) (LK : LayK h) (m : Int) (h0 : 0 ≤ m) (h1 : m ≤ 20) : (xcp h (some 102) 0 (some 55) 0 m).bind f = f (cpA h 102 55 m) := b_cp h 102 55 0 0 m f 20 20 (LK.2.2.2.2.2.2.2.2.2.2.2.2.2.2.2.2.2.2.2.2.2.2.2.2.2.2.2.2.2.2.2.2.2.2.1) (L.2.2.2.2.2.2.2.2.2.2.2.2.2.2.2.2.2.2.2.2.2.2.2.2.2.2.2.2.2.2.2.2.2.2.2.2.2.2.2.2.2.2.1) ⟨by decide, by decide, h0, by omega, by omega, by omega⟩
theorem cpiX7 {h : HP} (L0 : LayC h) (K0 : LayK h) (hr : 0 ≤ gI h 11 7 ∧ gI h 11 7 ≤ 5120) : ∃ h', X7_copyFrom F 58 (some 11) h = some ((), h') ∧ Cq 0 47 (fun i k => (i = 12 ∨ i = 13) ∧ k < 64 ∨ (i = 14 ∨ i = 15) ∧ k < 16 ∨ (i = 16 ∨ i = 17 ∨ i = 18) ∧ (k : Int) < gI h 11 7 ∨ i = 11 ∧ (k = 7 ∨ k = 8)) (fun _ => False) h h' := by
  have q0 := Cq.rf 0 47 h
  obtain ⟨R, eR⟩ : ∃ R, R = gI h 11 7 := ⟨_, rfl⟩
  rw [← eR] at hr ⊢
  have em : max 0 (min R 5120) = R := by omega
  unfold X7_copyFrom
  rw [cI11 h 7 _ L0, ← eR, em]
  rw [cP11_0 h _ L0, kP58_0 h _ K0, cpi_12 h _ L0 K0 64 (by omega) (by omega)]
  have q1 := q0.tr (Or.inl ⟨rfl, rfl⟩) (cpA.q 0 47 h 12 12 59 64 (by decide) rfl rfl)
  have L1 : LayC (cpA h 12 59 64) := L0
  have K1 : LayK (cpA h 12 59 64) := K0
  generalize cpA h 12 59 64 = h1 at q1 L1 K1 ⊢
  rw [cP11_1 h1 _ L1, kP58_1 h1 _ K1, cpi_13 h1 _ L1 K1 64 (by omega) (by omega)]
  have q2 := q1.tr (Or.inl ⟨rfl, rfl⟩) (cpA.q 0 47 h1 13 13 60 64 (by decide) rfl rfl)
  have L2 : LayC (cpA h1 13 60 64) := L1
  have K2 : LayK (cpA h1 13 60 64) := K1
  generalize cpA h1 13 60 64 = h2 at q2 L2 K2 ⊢
  rw [cP11_2 h2 _ L2, kP58_2 h2 _ K2, cpi_14 h2 _ L2 K2 16 (by omega) (by omega)]
  have q3 := q2.tr (Or.inl ⟨rfl, rfl⟩) (cpA.q 0 47 h2 14 14 61 16 (by decide) rfl rfl)
  have L3 : LayC (cpA h2 14 61 16) := L2
  have K3 : LayK (cpA h2 14 61 16) := K2
  generalize cpA h2 14 61 16 = h3 at q3 L3 K3 ⊢
  rw [cP11_3 h3 _ L3, kP58_3 h3 _ K3, cpi_15 h3 _ L3 K3 16 (by omega) (by omega)]
  have q4 := q3.tr (Or.inl ⟨rfl, rfl⟩) (cpA.q 0 47 h3 15 15 62 16 (by decide) rfl rfl)
  have L4 : LayC (cpA h3 15 62 16) := L3
  have K4 : LayK (cpA h3 15 62 16) := K3
  generalize cpA h3 15 62 16 = h4 at q4 L4 K4 ⊢
  rw [cP11_4 h4 _ L4, kP58_4 h4 _ K4, cpi_16 h4 _ L4 K4 R (by omega) (by omega)]
  have q5 := q4.tr (Or.inl ⟨rfl, rfl⟩) (cpA.q 0 47 h4 16 16 63 R (by decide) rfl rfl)
  have L5 : LayC (cpA h4 16 63 R) := L4
  have K5 : LayK (cpA h4 16 63 R) := K4
  generalize cpA h4 16 63 R = h5 at q5 L5 K5 ⊢
  rw [cP11_5 h5 _ L5, kP58_5 h5 _ K5, cpi_17 h5 _ L5 K5 R (by omega) (by omega)]
  have q6 := q5.tr (Or.inl ⟨rfl, rfl⟩) (cpA.q 0 47 h5 17 17 64 R (by decide) rfl rfl)
  have L6 : LayC (cpA h5 17 64 R) := L5
  have K6 : LayK (cpA h5 17 64 R) := K5
  generalize cpA h5 17 64 R = h6 at q6 L6 K6 ⊢
  rw [cP11_6 h6 _ L6, kP58_6 h6 _ K6, cpi_18 h6 _ L6 K6 R (by omega) (by omega)]
  have q7 := q6.tr (Or.inl ⟨rfl, rfl⟩) (cpA.q 0 47 h6 18 18 65 R (by decide) rfl rfl)
  have L7 : LayC (cpA h6 18 65 R) := L6
  have K7 : LayK (cpA h6 18 65 R) := K6
  generalize cpA h6 18 65 R = h7 at q7 L7 K7 ⊢
  rw [cI11 h7 7 _ L7, kW58 h7 7 _ _ K7]
  have q8 := q7.tr (Or.inl ⟨rfl, rfl⟩) (cpI.q 0 47 h7 11 11 58 7 (by decide) rfl rfl)
  have L8 : LayC (sI h7 58 7 (gI h7 11 7)) := L7
  have K8 : LayK (sI h7 58 7 (gI h7 11 7)) := K7
  generalize sI h7 58 7 (gI h7 11 7) = h8 at q8 L8 K8 ⊢
  rw [cI11 h8 8 _ L8, kW58 h8 8 _ _ K8]
  have q9 := q8.tr (Or.inl ⟨rfl, rfl⟩) (cpI.q 0 47 h8 11 11 58 8 (by decide) rfl rfl)
  have L9 : LayC (sI h8 58 8 (gI h8 11 8)) := L8
  have K9 : LayK (sI h8 58 8 (gI h8 11 8)) := K8
  generalize sI h8 58 8 (gI h8 11 8) = h9 at q9 L9 K9 ⊢
  rw [cI11 h9 9 _ L9, kW58 h9 9 _ _ K9]
  have q10 := q9.tr (Or.inl ⟨rfl, rfl⟩) (cpI.q 0 47 h9 11 11 58 9 (by decide) rfl rfl)
  have L10 : LayC (sI h9 58 9 (gI h9 11 9)) := L9
  have K10 : LayK (sI h9 58 9 (gI h9 11 9)) := K9
  generalize sI h9 58 9 (gI h9 11 9) = h10 at q10 L10 K10 ⊢
  refine ⟨_, rfl, q10.mono (fun i k h1 h2 z => ?_) (fun j z => z.elim)⟩
  rcases z with ⟨rfl | rfl, z⟩ | ⟨rfl | rfl, z⟩ | ⟨rfl | rfl | rfl, z⟩ | ⟨rfl, rfl | rfl⟩
  · exact Or.inl (Or.inl (Or.inl (Or.inl (Or.inl (Or.inl (Or.inl (Or.inl (Or.inl (Or.inr ⟨rfl, by omega⟩)))))))))
  · exact Or.inl (Or.inl (Or.inl (Or.inl (Or.inl (Or.inl (Or.inl (Or.inl (Or.inr ⟨rfl, by omega⟩))))))))
  · exact Or.inl (Or.inl (Or.inl (Or.inl (Or.inl (Or.inl (Or.inl (Or.inr ⟨rfl, by omega⟩)))))))
  · exact Or.inl (Or.inl (Or.inl (Or.inl (Or.inl (Or.inl (Or.inr ⟨rfl, by omega⟩))))))
  · exact Or.inl (Or.inl (Or.inl (Or.inl (Or.inl (Or.inr ⟨rfl, by omega⟩)))))
  · exact Or.inl (Or.inl (Or.inl (Or.inl (Or.inr ⟨rfl, by omega⟩))))
  · exact Or.inl (Or.inl (Or.inl (Or.inr ⟨rfl, by omega⟩)))
  · exact Or.inl (Or.inl (Or.inr ⟨rfl, rfl⟩))
  · exact Or.inl (Or.inr ⟨rfl, rfl⟩)
theorem cpiX10 {h : HP} (L0 : LayC h) (K0 : LayK h) : ∃ h', X10_copyFrom F 84 (some 37) h = some ((), h') ∧ Cq 0 47 (fun i k => 38 ≤ i ∧ i ≤ 41 ∧ k < 100 ∨ i = 37 ∧ k = 4) (fun _ => False) h h' := by
  have q0 := Cq.rf 0 47 h
  unfold X10_copyFrom
  rw [cP37_0 h _ L0, kP84_0 h _ K0, cpi_38 h _ L0 K0 100 (by omega) (by omega)]
  have q1 := q0.tr (Or.inl ⟨rfl, rfl⟩) (cpA.q 0 47 h 38 38 85 100 (by decide) rfl rfl)
  have L1 : LayC (cpA h 38 85 100) := L0
  have K1 : LayK (cpA h 38 85 100) := K0
  generalize cpA h 38 85 100 = h1 at q1 L1 K1 ⊢
  rw [cP37_1 h1 _ L1, kP84_1 h1 _ K1, cpi_39 h1 _ L1 K1 100 (by omega) (by omega)]
  have q2 := q1.tr (Or.inl ⟨rfl, rfl⟩) (cpA.q 0 47 h1 39 39 86 100 (by decide) rfl rfl)
  have L2 : LayC (cpA h1 39 86 100) := L1
  have K2 : LayK (cpA h1 39 86 100) := K1
  generalize cpA h1 39 86 100 = h2 at q2 L2 K2 ⊢
  rw [cP37_2 h2 _ L2, kP84_2 h2 _ K2, cpi_40 h2 _ L2 K2 100 (by omega) (by omega)]
  have q3 := q2.tr (Or.inl ⟨rfl, rfl⟩) (cpA.q 0 47 h2 40 40 87 100 (by decide) rfl rfl)
  have L3 : LayC (cpA h2 40 87 100) := L2
  have K3 : LayK (cpA h2 40 87 100) := K2
  generalize cpA h2 40 87 100 = h3 at q3 L3 K3 ⊢
  rw [cP37_3 h3 _ L3, kP84_3 h3 _ K3, cpi_41 h3 _ L3 K3 100 (by omega) (by omega)]
  have q4 := q3.tr (Or.inl ⟨rfl, rfl⟩) (cpA.q 0 47 h3 41 41 88 100 (by decide) rfl rfl)
  have L4 : LayC (cpA h3 41 88 100) := L3
  have K4 : LayK (cpA h3 41 88 100) := K3
  generalize cpA h3 41 88 100 = h4 at q4 L4 K4 ⊢
  rw [cI37 h4 4 _ L4, kW84 h4 4 _ _ K4]
  have q5 := q4.tr (Or.inl ⟨rfl, rfl⟩) (cpI.q 0 47 h4 37 37 84 4 (by decide) rfl rfl)
  have L5 : LayC (sI h4 84 4 (gI h4 37 4)) := L4
  have K5 : LayK (sI h4 84 4 (gI h4 37 4)) := K4
  generalize sI h4 84 4 (gI h4 37 4) = h5 at q5 L5 K5 ⊢
  exact ⟨_, rfl, q5.mono (fun i k h1 h2 z => by omega) (fun j z => z.elim)⟩
theorem cpiX0 {h : HP} (L0 : LayC h) (K0 : LayK h) : ∃ h', X0_copyFrom F 89 (some 42) h = some ((), h') ∧ Cq 0 47 (fun i k => 43 ≤ i ∧ i ≤ 46 ∧ k < 4 ∨ i = 47 ∧ k < 3 ∨ i = 42 ∧ (k = 6 ∨ k = 7)) (fun _ => False) h h' := by
  have q0 := Cq.rf 0 47 h
  unfold X0_copyFrom
  rw [cP42_0 h _ L0, kP89_0 h _ K0, cpi_43 h _ L0 K0 4 (by omega) (by omega)]
  have q1 := q0.tr (Or.inl ⟨rfl, rfl⟩) (cpA.q 0 47 h 43 43 90 4 (by decide) rfl rfl)
  have L1 : LayC (cpA h 43 90 4) := L0
  have K1 : LayK (cpA h 43 90 4) := K0
  generalize cpA h 43 90 4 = h1 at q1 L1 K1 ⊢
  rw [cP42_1 h1 _ L1, kP89_1 h1 _ K1, cpi_44 h1 _ L1 K1 4 (by omega) (by omega)]
  have q2 := q1.tr (Or.inl ⟨rfl, rfl⟩) (cpA.q 0 47 h1 44 44 91 4 (by decide) rfl rfl)
  have L2 : LayC (cpA h1 44 91 4) := L1
  have K2 : LayK (cpA h1 44 91 4) := K1
  generalize cpA h1 44 91 4 = h2 at q2 L2 K2 ⊢
  rw [cP42_2 h2 _ L2, kP89_2 h2 _ K2, cpi_45 h2 _ L2 K2 4 (by omega) (by omega)]
  have q3 := q2.tr (Or.inl ⟨rfl, rfl⟩) (cpA.q 0 47 h2 45 45 92 4 (by decide) rfl rfl)
  have L3 : LayC (cpA h2 45 92 4) := L2
  have K3 : LayK (cpA h2 45 92 4) := K2
  generalize cpA h2 45 92 4 = h3 at q3 L3 K3 ⊢
  rw [cP42_3 h3 _ L3, kP89_3 h3 _ K3, cpi_46 h3 _ L3 K3 4 (by omega) (by omega)]
  have q4 := q3.tr (Or.inl ⟨rfl, rfl⟩) (cpA.q 0 47 h3 46 46 93 4 (by decide) rfl rfl)
  have L4 : LayC (cpA h3 46 93 4) := L3
  have K4 : LayK (cpA h3 46 93 4) := K3
  generalize cpA h3 46 93 4 = h4 at q4 L4 K4 ⊢
  rw [cP42_4 h4 _ L4, kP89_4 h4 _ K4, cpi_47 h4 _ L4 K4 3 (by omega) (by omega)]
  have q5 := q4.tr (Or.inl ⟨rfl, rfl⟩) (cpA.q 0 47 h4 47 47 94 3 (by decide) rfl rfl)
  have L5 : LayC (cpA h4 47 94 3) := L4
  have K5 : LayK (cpA h4 47 94 3) := K4
  generalize cpA h4 47 94 3 = h5 at q5 L5 K5 ⊢
  rw [cI42 h5 6 _ L5, kW89 h5 6 _ _ K5]
  have q6 := q5.tr (Or.inl ⟨rfl, rfl⟩) (cpI.q 0 47 h5 42 42 89 6 (by decide) rfl rfl)
  have L6 : LayC (sI h5 89 6 (gI h5 42 6)) := L5
  have K6 : LayK (sI h5 89 6 (gI h5 42 6)) := K5
  generalize sI h5 89 6 (gI h5 42 6) = h6 at q6 L6 K6 ⊢
  rw [cI42 h6 7 _ L6, kW89 h6 7 _ _ K6]
  have q7 := q6.tr (Or.inl ⟨rfl, rfl⟩) (cpI.q 0 47 h6 42 42 89 7 (by decide) rfl rfl)
  have L7 : LayC (sI h6 89 7 (gI h6 42 7)) := L6
  have K7 : LayK (sI h6 89 7 (gI h6 42 7)) := K6
  generalize sI h6 89 7 (gI h6 42 7) = h7 at q7 L7 K7 ⊢
  exact ⟨_, rfl, q7.mono (fun i k h1 h2 z => by omega) (fun j z => z.elim)⟩
theorem cpiX5 {h : HP} (L0 : LayC h) (K0 : LayK h) (hz : gI h 51 5 = 0 ∨ gI h 51 5 = 1) : ∃ h', X5_copyFrom F 98 (some 51) h = some ((), h') ∧ Cq 0 47 (fun i k => 52 ≤ i ∧ i ≤ 55 ∧ k < 20 ∨ i = 51 ∧ (k = 4 ∨ k = 5)) (fun _ => False) h h' := by
  have q0 := Cq.rf 0 47 h
  unfold X5_copyFrom
  rw [cP51_0 h _ L0, kP98_0 h _ K0, cpi_52 h _ L0 K0 20 (by omega) (by omega)]
  have q1 := q0.tr (Or.inl ⟨rfl, rfl⟩) (cpA.q 0 47 h 52 52 99 20 (by decide) rfl rfl)
  have L1 : LayC (cpA h 52 99 20) := L0
  have K1 : LayK (cpA h 52 99 20) := K0
  generalize cpA h 52 99 20 = h1 at q1 L1 K1 ⊢
  rw [cP51_1 h1 _ L1, kP98_1 h1 _ K1, cpi_53 h1 _ L1 K1 20 (by omega) (by omega)]
  have q2 := q1.tr (Or.inl ⟨rfl, rfl⟩) (cpA.q 0 47 h1 53 53 100 20 (by decide) rfl rfl)
  have L2 : LayC (cpA h1 53 100 20) := L1
  have K2 : LayK (cpA h1 53 100 20) := K1
  generalize cpA h1 53 100 20 = h2 at q2 L2 K2 ⊢
  rw [cP51_2 h2 _ L2, kP98_2 h2 _ K2, cpi_54 h2 _ L2 K2 20 (by omega) (by omega)]
  have q3 := q2.tr (Or.inl ⟨rfl, rfl⟩) (cpA.q 0 47 h2 54 54 101 20 (by decide) rfl rfl)
  have L3 : LayC (cpA h2 54 101 20) := L2
  have K3 : LayK (cpA h2 54 101 20) := K2
  generalize cpA h2 54 101 20 = h3 at q3 L3 K3 ⊢
  rw [cP51_3 h3 _ L3, kP98_3 h3 _ K3, cpi_55 h3 _ L3 K3 20 (by omega) (by omega)]
  have q4 := q3.tr (Or.inl ⟨rfl, rfl⟩) (cpA.q 0 47 h3 55 55 102 20 (by decide) rfl rfl)
  have L4 : LayC (cpA h3 55 102 20) := L3
  have K4 : LayK (cpA h3 55 102 20) := K3
  generalize cpA h3 55 102 20 = h4 at q4 L4 K4 ⊢
  rw [cI51 h4 4 _ L4, kW98 h4 4 _ _ K4]
  have q5 := q4.tr (Or.inl ⟨rfl, rfl⟩) (cpI.q 0 47 h4 51 51 98 4 (by decide) rfl rfl)
  have L5 : LayC (sI h4 98 4 (gI h4 51 4)) := L4
  have K5 : LayK (sI h4 98 4 (gI h4 51 4)) := K4
  generalize sI h4 98 4 (gI h4 51 4) = h5 at q5 L5 K5 ⊢
  rw [cI51 h5 5 _ L5, kZ98 h5 5 _ _ K5 (by rw [q5.2.2.1 51 5 (by decide)]; exact hz)]
  have q6 := q5.tr (Or.inl ⟨rfl, rfl⟩) (cpI.q 0 47 h5 51 51 98 5 (by decide) rfl rfl)
  have L6 : LayC (sI h5 98 5 (gI h5 51 5)) := L5
  have K6 : LayK (sI h5 98 5 (gI h5 51 5)) := K5
  generalize sI h5 98 5 (gI h5 51 5) = h6 at q6 L6 K6 ⊢
  exact ⟨_, rfl, q6.mono (fun i k h1 h2 z => by omega) (fun j z => z.elim)⟩
theorem cpiX2 {h : HP} (L0 : LayC h) (K0 : LayK h) (j : Nat) (hj : j < 12) (hz : gI h (25 + j) 4 = 0 ∨ gI h (25 + j) 4 = 1) : ∃ h', X2_copyFrom F (72 + j) (some (25 + j)) h = some ((), h') ∧ Cq 0 47 (fun i k => i = 25 + j ∧ k < 18 ∧ k ≠ 5) (fun i => i = j) h h' := by
  have q0 := Cq.rf 0 47 h
  unfold X2_copyFrom
  rw [cIj h j 0 _ L0 hj, kWj h j 0 _ _ K0 hj]
  have q1 := q0.tr (Or.inl ⟨rfl, rfl⟩) (cpI.q 0 47 h (25 + j) (25 + j) (72 + j) 0 (by omega) (by omega) (by omega))
  have L1 : LayC (sI h (72 + j) 0 (gI h (25 + j) 0)) := L0
  have K1 : LayK (sI h (72 + j) 0 (gI h (25 + j) 0)) := K0
  generalize sI h (72 + j) 0 (gI h (25 + j) 0) = h1 at q1 L1 K1 ⊢
  rw [cIj h1 j 1 _ L1 hj, kWj h1 j 1 _ _ K1 hj]
  have q2 := q1.tr (Or.inl ⟨rfl, rfl⟩) (cpI.q 0 47 h1 (25 + j) (25 + j) (72 + j) 1 (by omega) (by omega) (by omega))
  have L2 : LayC (sI h1 (72 + j) 1 (gI h1 (25 + j) 1)) := L1
  have K2 : LayK (sI h1 (72 + j) 1 (gI h1 (25 + j) 1)) := K1
  generalize sI h1 (72 + j) 1 (gI h1 (25 + j) 1) = h2 at q2 L2 K2 ⊢
  rw [cIj h2 j 2 _ L2 hj, kWj h2 j 2 _ _ K2 hj]
  have q3 := q2.tr (Or.inl ⟨rfl, rfl⟩) (cpI.q 0 47 h2 (25 + j) (25 + j) (72 + j) 2 (by omega) (by omega) (by omega))
  have L3 : LayC (sI h2 (72 + j) 2 (gI h2 (25 + j) 2)) := L2
  have K3 : LayK (sI h2 (72 + j) 2 (gI h2 (25 + j) 2)) := K2
  generalize sI h2 (72 + j) 2 (gI h2 (25 + j) 2) = h3 at q3 L3 K3 ⊢
  rw [cIj h3 j 3 _ L3 hj, kWj h3 j 3 _ _ K3 hj]
  have q4 := q3.tr (Or.inl ⟨rfl, rfl⟩) (cpI.q 0 47 h3 (25 + j) (25 + j) (72 + j) 3 (by omega) (by omega) (by omega))
  have L4 : LayC (sI h3 (72 + j) 3 (gI h3 (25 + j) 3)) := L3
  have K4 : LayK (sI h3 (72 + j) 3 (gI h3 (25 + j) 3)) := K3
  generalize sI h3 (72 + j) 3 (gI h3 (25 + j) 3) = h4 at q4 L4 K4 ⊢
  rw [cIj h4 j 4 _ L4 hj, kZj h4 j 4 _ _ K4 hj (by rw [q4.2.2.1 (25 + j) 4 (by omega)]; exact hz)]
  have q5 := q4.tr (Or.inl ⟨rfl, rfl⟩) (cpI.q 0 47 h4 (25 + j) (25 + j) (72 + j) 4 (by omega) (by omega) (by omega))
  have L5 : LayC (sI h4 (72 + j) 4 (gI h4 (25 + j) 4)) := L4
  have K5 : LayK (sI h4 (72 + j) 4 (gI h4 (25 + j) 4)) := K4
  generalize sI h4 (72 + j) 4 (gI h4 (25 + j) 4) = h5 at q5 L5 K5 ⊢
  rw [cPj h5 j 5 _ L5 hj, kQj h5 j 5 _ _ K5 hj]
  have x6 := cpP.q 0 47 h5 (25 + j) (72 + j) j hj (by omega) (by omega)
  have q6 := q5.tr (Or.inl ⟨rfl, rfl⟩) x6
  have L6 := x6.C (Or.inl ⟨rfl, rfl⟩) L5
  have K6 := x6.K (Or.inl ⟨rfl, rfl⟩) K5
  clear x6
  generalize sP h5 (72 + j) 5 (gP h5 (25 + j) 5) = h6 at q6 L6 K6 ⊢
  rw [cIj h6 j 6 _ L6 hj, kWj h6 j 6 _ _ K6 hj]
  have q7 := q6.tr (Or.inl ⟨rfl, rfl⟩) (cpI.q 0 47 h6 (25 + j) (25 + j) (72 + j) 6 (by omega) (by omega) (by omega))
  have L7 : LayC (sI h6 (72 + j) 6 (gI h6 (25 + j) 6)) := L6
  have K7 : LayK (sI h6 (72 + j) 6 (gI h6 (25 + j) 6)) := K6
  generalize sI h6 (72 + j) 6 (gI h6 (25 + j) 6) = h7 at q7 L7 K7 ⊢
  rw [cIj h7 j 7 _ L7 hj, kWj h7 j 7 _ _ K7 hj]
  have q8 := q7.tr (Or.inl ⟨rfl, rfl⟩) (cpI.q 0 47 h7 (25 + j) (25 + j) (72 + j) 7 (by omega) (by omega) (by omega))
  have L8 : LayC (sI h7 (72 + j) 7 (gI h7 (25 + j) 7)) := L7
  have K8 : LayK (sI h7 (72 + j) 7 (gI h7 (25 + j) 7)) := K7
  generalize sI h7 (72 + j) 7 (gI h7 (25 + j) 7) = h8 at q8 L8 K8 ⊢
  rw [cIj h8 j 8 _ L8 hj, kWj h8 j 8 _ _ K8 hj]
  have q9 := q8.tr (Or.inl ⟨rfl, rfl⟩) (cpI.q 0 47 h8 (25 + j) (25 + j) (72 + j) 8 (by omega) (by omega) (by omega))
  have L9 : LayC (sI h8 (72 + j) 8 (gI h8 (25 + j) 8)) := L8
  have K9 : LayK (sI h8 (72 + j) 8 (gI h8 (25 + j) 8)) := K8
  generalize sI h8 (72 + j) 8 (gI h8 (25 + j) 8) = h9 at q9 L9 K9 ⊢
  rw [cIj h9 j 9 _ L9 hj, kWj h9 j 9 _ _ K9 hj]
  have q10 := q9.tr (Or.inl ⟨rfl, rfl⟩) (cpI.q 0 47 h9 (25 + j) (25 + j) (72 + j) 9 (by omega) (by omega) (by omega))
  have L10 : LayC (sI h9 (72 + j) 9 (gI h9 (25 + j) 9)) := L9
  have K10 : LayK (sI h9 (72 + j) 9 (gI h9 (25 + j) 9)) := K9
  generalize sI h9 (72 + j) 9 (gI h9 (25 + j) 9) = h10 at q10 L10 K10 ⊢
  rw [cIj h10 j 10 _ L10 hj, kWj h10 j 10 _ _ K10 hj]
  have q11 := q10.tr (Or.inl ⟨rfl, rfl⟩) (cpI.q 0 47 h10 (25 + j) (25 + j) (72 + j) 10 (by omega) (by omega) (by omega))
  have L11 : LayC (sI h10 (72 + j) 10 (gI h10 (25 + j) 10)) := L10
  have K11 : LayK (sI h10 (72 + j) 10 (gI h10 (25 + j) 10)) := K10
  generalize sI h10 (72 + j) 10 (gI h10 (25 + j) 10) = h11 at q11 L11 K11 ⊢
  rw [cIj h11 j 11 _ L11 hj, kWj h11 j 11 _ _ K11 hj]
  have q12 := q11.tr (Or.inl ⟨rfl, rfl⟩) (cpI.q 0 47 h11 (25 + j) (25 + j) (72 + j) 11 (by omega) (by omega) (by omega))
  have L12 : LayC (sI h11 (72 + j) 11 (gI h11 (25 + j) 11)) := L11
  have K12 : LayK (sI h11 (72 + j) 11 (gI h11 (25 + j) 11)) := K11
  generalize sI h11 (72 + j) 11 (gI h11 (25 + j) 11) = h12 at q12 L12 K12 ⊢
  rw [cIj h12 j 12 _ L12 hj, kWj h12 j 12 _ _ K12 hj]
  have q13 := q12.tr (Or.inl ⟨rfl, rfl⟩) (cpI.q 0 47 h12 (25 + j) (25 + j) (72 + j) 12 (by omega) (by omega) (by omega))
  have L13 : LayC (sI h12 (72 + j) 12 (gI h12 (25 + j) 12)) := L12
  have K13 : LayK (sI h12 (72 + j) 12 (gI h12 (25 + j) 12)) := K12
  generalize sI h12 (72 + j) 12 (gI h12 (25 + j) 12) = h13 at q13 L13 K13 ⊢
  rw [cIj h13 j 13 _ L13 hj, kWj h13 j 13 _ _ K13 hj]
  have q14 := q13.tr (Or.inl ⟨rfl, rfl⟩) (cpI.q 0 47 h13 (25 + j) (25 + j) (72 + j) 13 (by omega) (by omega) (by omega))
  have L14 : LayC (sI h13 (72 + j) 13 (gI h13 (25 + j) 13)) := L13
  have K14 : LayK (sI h13 (72 + j) 13 (gI h13 (25 + j) 13)) := K13
  generalize sI h13 (72 + j) 13 (gI h13 (25 + j) 13) = h14 at q14 L14 K14 ⊢
  rw [cIj h14 j 14 _ L14 hj, kWj h14 j 14 _ _ K14 hj]
  have q15 := q14.tr (Or.inl ⟨rfl, rfl⟩) (cpI.q 0 47 h14 (25 + j) (25 + j) (72 + j) 14 (by omega) (by omega) (by omega))
  have L15 : LayC (sI h14 (72 + j) 14 (gI h14 (25 + j) 14)) := L14
  have K15 : LayK (sI h14 (72 + j) 14 (gI h14 (25 + j) 14)) := K14
  generalize sI h14 (72 + j) 14 (gI h14 (25 + j) 14) = h15 at q15 L15 K15 ⊢
  rw [cIj h15 j 15 _ L15 hj, kWj h15 j 15 _ _ K15 hj]
  have q16 := q15.tr (Or.inl ⟨rfl, rfl⟩) (cpI.q 0 47 h15 (25 + j) (25 + j) (72 + j) 15 (by omega) (by omega) (by omega))
  have L16 : LayC (sI h15 (72 + j) 15 (gI h15 (25 + j) 15)) := L15
  have K16 : LayK (sI h15 (72 + j) 15 (gI h15 (25 + j) 15)) := K15
  generalize sI h15 (72 + j) 15 (gI h15 (25 + j) 15) = h16 at q16 L16 K16 ⊢
  rw [cIj h16 j 16 _ L16 hj, kWj h16 j 16 _ _ K16 hj]
  have q17 := q16.tr (Or.inl ⟨rfl, rfl⟩) (cpI.q 0 47 h16 (25 + j) (25 + j) (72 + j) 16 (by omega) (by omega) (by omega))
  have L17 : LayC (sI h16 (72 + j) 16 (gI h16 (25 + j) 16)) := L16
  have K17 : LayK (sI h16 (72 + j) 16 (gI h16 (25 + j) 16)) := K16
  generalize sI h16 (72 + j) 16 (gI h16 (25 + j) 16) = h17 at q17 L17 K17 ⊢
  rw [cIj h17 j 17 _ L17 hj, kWj h17 j 17 _ _ K17 hj]
  have q18 := q17.tr (Or.inl ⟨rfl, rfl⟩) (cpI.q 0 47 h17 (25 + j) (25 + j) (72 + j) 17 (by omega) (by omega) (by omega))
  have L18 : LayC (sI h17 (72 + j) 17 (gI h17 (25 + j) 17)) := L17
  have K18 : LayK (sI h17 (72 + j) 17 (gI h17 (25 + j) 17)) := K17
  generalize sI h17 (72 + j) 17 (gI h17 (25 + j) 17) = h18 at q18 L18 K18 ⊢
  exact ⟨_, rfl, q18.mono (fun i k h1 h2 z => by omega) (fun i z => by simp only [false_or, or_false]; exact z)⟩
theorem E_atK {h : HP} (j : Int) (L : LayK h) (q : 0 ≤ j ∧ j < 12) : X3_at F 66 j h = some (some (72 + j.toNat), h) := by
  unfold X3_at; simp (disch := (first | assumption | with_reducible rfl | (simp only [LayC_sI, LayC_sJ, LayC_sA, LayC_sB, LayC_sIr, LayC_exc, LayM_sI, LayM_sJ, LayM_sA, LayM_sB, LayM_sIr, LayM_exc, LayK_sI, LayK_sJ, LayK_sA, LayK_sB, LayK_sIr, LayK_exc]; assumption) | omega | decide | (simp (disch := (first | decide | omega)) only [gI_sJ, gI_sB, gI_sP, gI_exc, gI_sIe, aI_sJ, aI_sB, aI_sP, aI_exc, aI_sAe, aJ_sI, aJ_sA, aJ_sP, aJ_sIr, aJ_exc, aJ_sBe, gJ_sI, gJ_sA, gJ_sP, gJ_sIr, gJ_exc, gP_sI, gP_sJ, gP_sA, gP_sB, gP_sIr, gP_exc, gI_sIn, gI_sIk, gI_sAn, gI_sIrn, aI_sIn, aI_sAn, aI_sIrn, aI_sAk, aJ_sJn, aJ_sBn, gJ_sJn, gJ_sBn, gJ_sJe, gS_sI, gS_sJ, gS_sP, gS_sA, gS_sB, gS_sIr, gS_exc, w32i, w64i]; first | done | assumption | omega))) only [↓b_xbs, ↓b_xthr, ↓b_xthl, ↓b_xctr, ↓b_xctl, ↓b_xz, ↓b_xzX, ↓b_xd, ↓if_pos, ↓if_neg, ↓kI56, ↓kW56, ↓kR56, ↓kI57, ↓kW57, ↓kJ57, ↓kV57, ↓kR57, ↓kI58, ↓kW58, ↓kR58, ↓kA59, ↓kS59, ↓kL59, ↓kA60, ↓kS60, ↓kL60, ↓kA61, ↓kS61, ↓kL61, ↓kA62, ↓kS62, ↓kL62, ↓kA63, ↓kS63, ↓kL63, ↓kA64, ↓kS64, ↓kL64, ↓kA65, ↓kS65, ↓kL65, ↓kI66, ↓kW66, ↓kZ66, ↓kR66, ↓kA68, ↓kS68, ↓kL68, ↓kA69, ↓kS69, ↓kL69, ↓kA70, ↓kS70, ↓kL70, ↓kI71, ↓kW71, ↓kZ71, ↓kR71, ↓kI84, ↓kW84, ↓kR84, ↓kA85, ↓kS85, ↓kL85, ↓kA86, ↓kS86, ↓kL86, ↓kA87, ↓kS87, ↓kL87, ↓kA88, ↓kS88, ↓kL88, ↓kI89, ↓kW89, ↓kR89, ↓kA90, ↓kS90, ↓kL90, ↓kA91, ↓kS91, ↓kL91, ↓kA92, ↓kS92, ↓kL92, ↓kA93, ↓kS93, ↓kL93, ↓kA94, ↓kS94, ↓kL94, ↓kA95, ↓kS95, ↓kL95, ↓kA96, ↓kS96, ↓kL96, ↓kA97, ↓kS97, ↓kL97, ↓kI98, ↓kW98, ↓kZ98, ↓kR98, ↓kA99, ↓kS99, ↓kL99, ↓kA100, ↓kS100, ↓kL100, ↓kA101, ↓kS101, ↓kL101, ↓kA102, ↓kS102, ↓kL102, ↓kP56_0, ↓kP56_1, ↓kP56_2, ↓kP56_3, ↓kP56_4, ↓kP56_5, ↓kP57_0, ↓kP58_0, ↓kP58_1, ↓kP58_2, ↓kP58_3, ↓kP58_4, ↓kP58_5, ↓kP58_6, ↓kP66_0, ↓kP66_1, ↓kP66_2, ↓kP66_3, ↓kP66_6, ↓kP84_0, ↓kP84_1, ↓kP84_2, ↓kP84_3, ↓kP89_0, ↓kP89_1, ↓kP89_2, ↓kP89_3, ↓kP89_4, ↓kP89_5, ↓kP89_8, ↓kP89_9, ↓kP98_0, ↓kP98_1, ↓kP98_2, ↓kP98_3, ↓kIj, ↓kWj, ↓kZj, ↓kPj, ↓kQj, ↓kRj, ↓kAj]
  rw [if_neg (by intro e; cases e)]
theorem cpiX3 : ∀ (m i n : Nat) (h : HP), m < n → i + m = 12 → LayC h → LayK h → (∀ j : Nat, j < 12 → gI h (25 + j) 4 = 0 ∨ gI h (25 + j) 4 = 1) → (gI h 19 4 = 0 ∨ gI h 19 4 = 1) → ∃ h', X3_copyFrom_L2 F n 66 (some 19) i h = some ((), h') ∧ Cq 0 47 (fun a k => 25 + i ≤ a ∧ a ≤ 36 ∧ k < 18 ∧ k ≠ 5 ∨ (a = 21 ∨ a = 22) ∧ k < 12 ∨ a = 19 ∧ (k = 4 ∨ k = 5)) (fun j => i ≤ j ∧ j < 12) h h' := by
  intro m
  induction m with
  | zero =>
    intro i n h hn hi L0 K0 hw hz
    obtain ⟨n, rfl⟩ : ∃ n', n = n' + 1 := ⟨n - 1, by omega⟩
    rw [X3_copyFrom_L2_s, if_pos (by omega)]
    have q0 := Cq.rf 0 47 h
    rw [cP19_1 h _ L0, kP66_1 h _ K0, cpi_21 h _ L0 K0 12 (by omega) (by omega)]
    have q1 := q0.tr (Or.inl ⟨rfl, rfl⟩) (cpA.q 0 47 h 21 21 68 12 (by decide) rfl rfl)
    have L1 : LayC (cpA h 21 68 12) := L0
    have K1 : LayK (cpA h 21 68 12) := K0
    generalize cpA h 21 68 12 = h1 at q1 L1 K1 ⊢
    rw [cP19_2 h1 _ L1, kP66_2 h1 _ K1, cpi_22 h1 _ L1 K1 12 (by omega) (by omega)]
    have q2 := q1.tr (Or.inl ⟨rfl, rfl⟩) (cpA.q 0 47 h1 22 22 69 12 (by decide) rfl rfl)
    have L2 : LayC (cpA h1 22 69 12) := L1
    have K2 : LayK (cpA h1 22 69 12) := K1
    generalize cpA h1 22 69 12 = h2 at q2 L2 K2 ⊢
    rw [cI19 h2 4 _ L2, kZ66 h2 4 _ _ K2 (by rw [q2.2.2.1 19 4 (by decide)]; exact hz)]
    have q3 := q2.tr (Or.inl ⟨rfl, rfl⟩) (cpI.q 0 47 h2 19 19 66 4 (by decide) rfl rfl)
    have L3 : LayC (sI h2 66 4 (gI h2 19 4)) := L2
    have K3 : LayK (sI h2 66 4 (gI h2 19 4)) := K2
    generalize sI h2 66 4 (gI h2 19 4) = h3 at q3 L3 K3 ⊢
    rw [cI19 h3 5 _ L3, kW66 h3 5 _ _ K3]
    have q4 := q3.tr (Or.inl ⟨rfl, rfl⟩) (cpI.q 0 47 h3 19 19 66 5 (by decide) rfl rfl)
    have L4 : LayC (sI h3 66 5 (gI h3 19 5)) := L3
    have K4 : LayK (sI h3 66 5 (gI h3 19 5)) := K3
    generalize sI h3 66 5 (gI h3 19 5) = h4 at q4 L4 K4 ⊢
    exact ⟨_, rfl, q4.mono (fun i k h1 h2 z => by omega) (fun j z => by omega)⟩
  | succ m ih =>
    intro i n h hn hi L0 K0 hw hz
    obtain ⟨n, rfl⟩ : ∃ n', n = n' + 1 := ⟨n - 1, by omega⟩
    obtain ⟨h1, e1, q1⟩ := cpiX2 (F := F) L0 K0 i (by omega) (hw i (by omega))
    have f1 := q1.2.2.1
    obtain ⟨h2, e2, q2⟩ := ih (i + 1) n h1 (by omega) (by omega) (q1.C (Or.inl ⟨rfl, rfl⟩) L0) (q1.K (Or.inl ⟨rfl, rfl⟩) K0) (fun j hj => by rw [f1 (25 + j) 4 (by omega)]; exact hw j hj) (by rw [f1 19 4 (by omega)]; exact hz)
    refine ⟨h2, ?_, (q1.tr (Or.inl ⟨rfl, rfl⟩) q2).mono (fun a k h1 h2 z => by omega) (fun j z => by omega)⟩
    have ei : w32 ((i : Int) + 1) = ((i + 1 : Nat) : Int) := by rw [w32i _ (by omega) (by omega)]; omega
    have a1 := E_at (F := F) (i : Int) L0 (by omega)
    have a2 := E_atK (F := F) (i : Int) K0 (by omega)
    rw [Int.toNat_natCast] at a1 a2
    rw [X3_copyFrom_L2_s, if_neg (by omega), kR66 h _ K0, b_xb _ _ _ _ a2, cR19 h _ L0, b_xb _ _ _ _ a1, kRj h i _ K0 (by omega), b_xb _ _ _ _ e1, ei]
    exact e2
theorem cpiX4 {h : HP} (hF : 13 ≤ F) (L0 : LayC h) (K0 : LayK h) (hr : 0 ≤ gI h 11 7 ∧ gI h 11 7 ≤ 5120) (hw : ∀ j : Nat, j < 12 → gI h (25 + j) 4 = 0 ∨ gI h (25 + j) 4 = 1) (hz : gI h 19 4 = 0 ∨ gI h 19 4 = 1) (hp : gI h 51 5 = 0 ∨ gI h 51 5 = 1) : ∃ h', X4_copyFrom F 56 (some 9) h = some ((), h') ∧ Cq 0 47 (fun a k => (a = 12 ∨ a = 13) ∧ k < 64 ∨ (a = 14 ∨ a = 15) ∧ k < 16 ∨ (a = 16 ∨ a = 17 ∨ a = 18) ∧ (k : Int) < gI h 11 7 ∨ a = 11 ∧ (k = 7 ∨ k = 8) ∨ 25 ≤ a ∧ a ≤ 36 ∧ k < 18 ∧ k ≠ 5 ∨ (a = 21 ∨ a = 22) ∧ k < 12 ∨ a = 19 ∧ (k = 4 ∨ k = 5) ∨ 38 ≤ a ∧ a ≤ 41 ∧ k < 100 ∨ a = 37 ∧ k = 4 ∨ 43 ≤ a ∧ a ≤ 46 ∧ k < 4 ∨ a = 47 ∧ k < 3 ∨ a = 42 ∧ (k = 6 ∨ k = 7) ∨ 52 ≤ a ∧ a ≤ 55 ∧ k < 20 ∨ a = 51 ∧ (k = 4 ∨ k = 5) ∨ a = 9 ∧ 6 ≤ k ∧ k ≤ 11) (fun j => j < 12) h h' := by
  obtain ⟨ha, ea, qa⟩ := cpiX7 (F := F) L0 K0 hr
  have La := qa.C (Or.inl ⟨rfl, rfl⟩) L0
  have Ka := qa.K (Or.inl ⟨rfl, rfl⟩) K0
  have f1 := qa.2.2.1
  obtain ⟨hb, eb, qb⟩ := cpiX3 (F := F) 12 0 F ha (by omega) (by omega) La Ka (fun j hj => by rw [f1 (25 + j) 4 (by omega)]; exact hw j hj) (by rw [f1 19 4 (by omega)]; exact hz)
  have Lb := qb.C (Or.inl ⟨rfl, rfl⟩) La
  have Kb := qb.K (Or.inl ⟨rfl, rfl⟩) Ka
  have qab := qa.tr (Or.inl ⟨rfl, rfl⟩) qb
  obtain ⟨hc, ec, qc⟩ := cpiX10 (F := F) Lb Kb
  have Lc := qc.C (Or.inl ⟨rfl, rfl⟩) Lb
  have Kc := qc.K (Or.inl ⟨rfl, rfl⟩) Kb
  have qac := qab.tr (Or.inl ⟨rfl, rfl⟩) qc
  obtain ⟨hd, ed, qd⟩ := cpiX0 (F := F) Lc Kc
  have Ld := qd.C (Or.inl ⟨rfl, rfl⟩) Lc
  have Kd := qd.K (Or.inl ⟨rfl, rfl⟩) Kc
  have qad := qac.tr (Or.inl ⟨rfl, rfl⟩) qd
  obtain ⟨he, ee, qe⟩ := cpiX5 (F := F) Ld Kd (by rw [qad.2.2.1 51 5 (by decide)]; exact hp)
  have Le := qe.C (Or.inl ⟨rfl, rfl⟩) Ld
  have Ke := qe.K (Or.inl ⟨rfl, rfl⟩) Kd
  have qae := qad.tr (Or.inl ⟨rfl, rfl⟩) qe
  have eb' : X3_copyFrom F 66 (some 19) ha = some ((), hb) := eb
  unfold X4_copyFrom
  rw [kP56_1 h _ K0, cP9_1 h _ L0, kR58 h _ K0, b_xb _ _ _ _ ea, kP56_2 ha _ Ka, cP9_2 ha _ La, kR66 ha _ Ka, b_xb _ _ _ _ eb', kP56_3 hb _ Kb, cP9_3 hb _ Lb, kR84 hb _ Kb, b_xb _ _ _ _ ec, kP56_4 hc _ Kc, cP9_4 hc _ Lc, kR89 hc _ Kc, b_xb _ _ _ _ ed, kP56_5 hd _ Kd, cP9_5 hd _ Ld, kR98 hd _ Kd, b_xb _ _ _ _ ee]
  clear ea eb eb' ec ed ee
  have q0 := qae
  have L0 := Le
  have K0 := Ke
  rw [cI9 he 6 _ L0, kW56 he 6 _ _ K0]
  have q1 := q0.tr (Or.inl ⟨rfl, rfl⟩) (cpI.q 0 47 he 9 9 56 6 (by decide) rfl rfl)
  have L1 : LayC (sI he 56 6 (gI he 9 6)) := L0
  have K1 : LayK (sI he 56 6 (gI he 9 6)) := K0
  generalize sI he 56 6 (gI he 9 6) = h1 at q1 L1 K1 ⊢
  rw [cI9 h1 7 _ L1, kW56 h1 7 _ _ K1]
  have q2 := q1.tr (Or.inl ⟨rfl, rfl⟩) (cpI.q 0 47 h1 9 9 56 7 (by decide) rfl rfl)
  have L2 : LayC (sI h1 56 7 (gI h1 9 7)) := L1
  have K2 : LayK (sI h1 56 7 (gI h1 9 7)) := K1
  generalize sI h1 56 7 (gI h1 9 7) = h2 at q2 L2 K2 ⊢
  rw [cI9 h2 8 _ L2, kW56 h2 8 _ _ K2]
  have q3 := q2.tr (Or.inl ⟨rfl, rfl⟩) (cpI.q 0 47 h2 9 9 56 8 (by decide) rfl rfl)
  have L3 : LayC (sI h2 56 8 (gI h2 9 8)) := L2
  have K3 : LayK (sI h2 56 8 (gI h2 9 8)) := K2
  generalize sI h2 56 8 (gI h2 9 8) = h3 at q3 L3 K3 ⊢
  rw [cI9 h3 9 _ L3, kW56 h3 9 _ _ K3]
  have q4 := q3.tr (Or.inl ⟨rfl, rfl⟩) (cpI.q 0 47 h3 9 9 56 9 (by decide) rfl rfl)
  have L4 : LayC (sI h3 56 9 (gI h3 9 9)) := L3
  have K4 : LayK (sI h3 56 9 (gI h3 9 9)) := K3
  generalize sI h3 56 9 (gI h3 9 9) = h4 at q4 L4 K4 ⊢
  rw [cI9 h4 10 _ L4, kW56 h4 10 _ _ K4]
  have q5 := q4.tr (Or.inl ⟨rfl, rfl⟩) (cpI.q 0 47 h4 9 9 56 10 (by decide) rfl rfl)
  have L5 : LayC (sI h4 56 10 (gI h4 9 10)) := L4
  have K5 : LayK (sI h4 56 10 (gI h4 9 10)) := K4
  generalize sI h4 56 10 (gI h4 9 10) = h5 at q5 L5 K5 ⊢
  rw [cI9 h5 11 _ L5, kW56 h5 11 _ _ K5]
  have q6 := q5.tr (Or.inl ⟨rfl, rfl⟩) (cpI.q 0 47 h5 9 9 56 11 (by decide) rfl rfl)
  have L6 : LayC (sI h5 56 11 (gI h5 9 11)) := L5
  have K6 : LayK (sI h5 56 11 (gI h5 9 11)) := K5
  generalize sI h5 56 11 (gI h5 9 11) = h6 at q6 L6 K6 ⊢
  refine ⟨_, rfl, q6.mono (fun a k h1 h2 z => ?_) (fun j z => Or.inl (Or.inl (Or.inl (Or.inl (Or.inl (Or.inl (Or.inl (Or.inl (Or.inl (Or.inr ⟨Nat.zero_le _, z⟩))))))))))⟩
  rcases z with z | z | z | z | z | z | z | z | z | z | z | z | z | z | z
  · exact Or.inl (Or.inl (Or.inl (Or.inl (Or.inl (Or.inl (Or.inl (Or.inl (Or.inl (Or.inl (Or.inl z))))))))))
  · exact Or.inl (Or.inl (Or.inl (Or.inl (Or.inl (Or.inl (Or.inl (Or.inl (Or.inl (Or.inl (Or.inr (Or.inl z)))))))))))
  · exact Or.inl (Or.inl (Or.inl (Or.inl (Or.inl (Or.inl (Or.inl (Or.inl (Or.inl (Or.inl (Or.inr (Or.inr (Or.inl z))))))))))))
  · exact Or.inl (Or.inl (Or.inl (Or.inl (Or.inl (Or.inl (Or.inl (Or.inl (Or.inl (Or.inl (Or.inr (Or.inr (Or.inr (z)))))))))))))
  · exact Or.inl (Or.inl (Or.inl (Or.inl (Or.inl (Or.inl (Or.inl (Or.inl (Or.inl (Or.inr (Or.inl ⟨by omega, z.2⟩))))))))))
  · exact Or.inl (Or.inl (Or.inl (Or.inl (Or.inl (Or.inl (Or.inl (Or.inl (Or.inl (Or.inr (Or.inr (Or.inl z)))))))))))
  · exact Or.inl (Or.inl (Or.inl (Or.inl (Or.inl (Or.inl (Or.inl (Or.inl (Or.inl (Or.inr (Or.inr (Or.inr (z))))))))))))
  · exact Or.inl (Or.inl (Or.inl (Or.inl (Or.inl (Or.inl (Or.inl (Or.inl (Or.inr (Or.inl z)))))))))
  · exact Or.inl (Or.inl (Or.inl (Or.inl (Or.inl (Or.inl (Or.inl (Or.inl (Or.inr (Or.inr (z))))))))))
  · exact Or.inl (Or.inl (Or.inl (Or.inl (Or.inl (Or.inl (Or.inl (Or.inr (Or.inl z))))))))
  · exact Or.inl (Or.inl (Or.inl (Or.inl (Or.inl (Or.inl (Or.inl (Or.inr (Or.inr (Or.inl z)))))))))
  · exact Or.inl (Or.inl (Or.inl (Or.inl (Or.inl (Or.inl (Or.inl (Or.inr (Or.inr (Or.inr (z))))))))))
  · exact Or.inl (Or.inl (Or.inl (Or.inl (Or.inl (Or.inl (Or.inr (Or.inl z)))))))
  · exact Or.inl (Or.inl (Or.inl (Or.inl (Or.inl (Or.inl (Or.inr (Or.inr (z))))))))
  · obtain ⟨z1, z2, z3⟩ := z
    obtain q | q | q | q | q | q : k = 6 ∨ k = 7 ∨ k = 8 ∨ k = 9 ∨ k = 10 ∨ k = 11 := by omega
    · exact Or.inl (Or.inl (Or.inl (Or.inl (Or.inl (Or.inr ⟨z1, q⟩)))))
    · exact Or.inl (Or.inl (Or.inl (Or.inl (Or.inr ⟨z1, q⟩))))
    · exact Or.inl (Or.inl (Or.inl (Or.inr ⟨z1, q⟩)))
    · exact Or.inl (Or.inl (Or.inr ⟨z1, q⟩))
    · exact Or.inl (Or.inr ⟨z1, q⟩)
    · exact Or.inr ⟨z1, q⟩
theorem cpbX7 {h : HP} (L0 : LayC h) (K0 : LayK h) (hr : 0 ≤ gI h 58 7 ∧ gI h 58 7 ≤ 5120) : ∃ h', X7_copyFrom F 11 (some 58) h = some ((), h') ∧ Cq 47 0 (fun i k => (i = 12 ∨ i = 13) ∧ k < 64 ∨ (i = 14 ∨ i = 15) ∧ k < 16 ∨ (i = 16 ∨ i = 17 ∨ i = 18) ∧ (k : Int) < gI h 58 7 ∨ i = 11 ∧ (k = 7 ∨ k = 8)) (fun _ => False) h h' := by
  have q0 := Cq.rf 47 0 h
  obtain ⟨R, eR⟩ : ∃ R, R = gI h 58 7 := ⟨_, rfl⟩
  rw [← eR] at hr ⊢
  have em : max 0 (min R 5120) = R := by omega
  unfold X7_copyFrom
  rw [kI58 h 7 _ K0, ← eR, em]
  rw [kP58_0 h _ K0, cP11_0 h _ L0, cpb_12 h _ L0 K0 64 (by omega) (by omega)]
  have q1 := q0.tr (Or.inr ⟨rfl, rfl⟩) (cpA.q 47 0 h 12 59 12 64 (by decide) rfl rfl)
  have L1 : LayC (cpA h 59 12 64) := L0
  have K1 : LayK (cpA h 59 12 64) := K0
  generalize cpA h 59 12 64 = h1 at q1 L1 K1 ⊢
  rw [kP58_1 h1 _ K1, cP11_1 h1 _ L1, cpb_13 h1 _ L1 K1 64 (by omega) (by omega)]
  have q2 := q1.tr (Or.inr ⟨rfl, rfl⟩) (cpA.q 47 0 h1 13 60 13 64 (by decide) rfl rfl)
  have L2 : LayC (cpA h1 60 13 64) := L1
  have K2 : LayK (cpA h1 60 13 64) := K1
  generalize cpA h1 60 13 64 = h2 at q2 L2 K2 ⊢
  rw [kP58_2 h2 _ K2, cP11_2 h2 _ L2, cpb_14 h2 _ L2 K2 16 (by omega) (by omega)]
  have q3 := q2.tr (Or.inr ⟨rfl, rfl⟩) (cpA.q 47 0 h2 14 61 14 16 (by decide) rfl rfl)
  have L3 : LayC (cpA h2 61 14 16) := L2
  have K3 : LayK (cpA h2 61 14 16) := K2
  generalize cpA h2 61 14 16 = h3 at q3 L3 K3 ⊢
  rw [kP58_3 h3 _ K3, cP11_3 h3 _ L3, cpb_15 h3 _ L3 K3 16 (by omega) (by omega)]
  have q4 := q3.tr (Or.inr ⟨rfl, rfl⟩) (cpA.q 47 0 h3 15 62 15 16 (by decide) rfl rfl)
  have L4 : LayC (cpA h3 62 15 16) := L3
  have K4 : LayK (cpA h3 62 15 16) := K3
  generalize cpA h3 62 15 16 = h4 at q4 L4 K4 ⊢
  rw [kP58_4 h4 _ K4, cP11_4 h4 _ L4, cpb_16 h4 _ L4 K4 R (by omega) (by omega)]
  have q5 := q4.tr (Or.inr ⟨rfl, rfl⟩) (cpA.q 47 0 h4 16 63 16 R (by decide) rfl rfl)
  have L5 : LayC (cpA h4 63 16 R) := L4
  have K5 : LayK (cpA h4 63 16 R) := K4
  generalize cpA h4 63 16 R = h5 at q5 L5 K5 ⊢
  rw [kP58_5 h5 _ K5, cP11_5 h5 _ L5, cpb_17 h5 _ L5 K5 R (by omega) (by omega)]
  have q6 := q5.tr (Or.inr ⟨rfl, rfl⟩) (cpA.q 47 0 h5 17 64 17 R (by decide) rfl rfl)
  have L6 : LayC (cpA h5 64 17 R) := L5
  have K6 : LayK (cpA h5 64 17 R) := K5
  generalize cpA h5 64 17 R = h6 at q6 L6 K6 ⊢
  rw [kP58_6 h6 _ K6, cP11_6 h6 _ L6, cpb_18 h6 _ L6 K6 R (by omega) (by omega)]
  have q7 := q6.tr (Or.inr ⟨rfl, rfl⟩) (cpA.q 47 0 h6 18 65 18 R (by decide) rfl rfl)
  have L7 : LayC (cpA h6 65 18 R) := L6
  have K7 : LayK (cpA h6 65 18 R) := K6
  generalize cpA h6 65 18 R = h7 at q7 L7 K7 ⊢
  rw [kI58 h7 7 _ K7, cW11 h7 7 _ _ L7]
  have q8 := q7.tr (Or.inr ⟨rfl, rfl⟩) (cpI.q 47 0 h7 11 58 11 7 (by decide) rfl rfl)
  have L8 : LayC (sI h7 11 7 (gI h7 58 7)) := L7
  have K8 : LayK (sI h7 11 7 (gI h7 58 7)) := K7
  generalize sI h7 11 7 (gI h7 58 7) = h8 at q8 L8 K8 ⊢
  rw [kI58 h8 8 _ K8, cW11 h8 8 _ _ L8]
  have q9 := q8.tr (Or.inr ⟨rfl, rfl⟩) (cpI.q 47 0 h8 11 58 11 8 (by decide) rfl rfl)
  have L9 : LayC (sI h8 11 8 (gI h8 58 8)) := L8
  have K9 : LayK (sI h8 11 8 (gI h8 58 8)) := K8
  generalize sI h8 11 8 (gI h8 58 8) = h9 at q9 L9 K9 ⊢
  rw [kI58 h9 9 _ K9, cW11 h9 9 _ _ L9]
  have q10 := q9.tr (Or.inr ⟨rfl, rfl⟩) (cpI.q 47 0 h9 11 58 11 9 (by decide) rfl rfl)
  have L10 : LayC (sI h9 11 9 (gI h9 58 9)) := L9
  have K10 : LayK (sI h9 11 9 (gI h9 58 9)) := K9
  generalize sI h9 11 9 (gI h9 58 9) = h10 at q10 L10 K10 ⊢
  refine ⟨_, rfl, q10.mono (fun i k h1 h2 z => ?_) (fun j z => z.elim)⟩
  rcases z with ⟨rfl | rfl, z⟩ | ⟨rfl | rfl, z⟩ | ⟨rfl | rfl | rfl, z⟩ | ⟨rfl, rfl | rfl⟩
  · exact Or.inl (Or.inl (Or.inl (Or.inl (Or.inl (Or.inl (Or.inl (Or.inl (Or.inl (Or.inr ⟨rfl, by omega⟩)))))))))
  · exact Or.inl (Or.inl (Or.inl (Or.inl (Or.inl (Or.inl (Or.inl (Or.inl (Or.inr ⟨rfl, by omega⟩))))))))
  · exact Or.inl (Or.inl (Or.inl (Or.inl (Or.inl (Or.inl (Or.inl (Or.inr ⟨rfl, by omega⟩)))))))
  · exact Or.inl (Or.inl (Or.inl (Or.inl (Or.inl (Or.inl (Or.inr ⟨rfl, by omega⟩))))))
  · exact Or.inl (Or.inl (Or.inl (Or.inl (Or.inl (Or.inr ⟨rfl, by omega⟩)))))
  · exact Or.inl (Or.inl (Or.inl (Or.inl (Or.inr ⟨rfl, by omega⟩))))
  · exact Or.inl (Or.inl (Or.inl (Or.inr ⟨rfl, by omega⟩)))
  · exact Or.inl (Or.inl (Or.inr ⟨rfl, rfl⟩))
  · exact Or.inl (Or.inr ⟨rfl, rfl⟩)
theorem cpbX10 {h : HP} (L0 : LayC h) (K0 : LayK h) : ∃ h', X10_copyFrom F 37 (some 84) h = some ((), h') ∧ Cq 47 0 (fun i k => 38 ≤ i ∧ i ≤ 41 ∧ k < 100 ∨ i = 37 ∧ k = 4) (fun _ => False) h h' := by
  have q0 := Cq.rf 47 0 h
  unfold X10_copyFrom
  rw [kP84_0 h _ K0, cP37_0 h _ L0, cpb_38 h _ L0 K0 100 (by omega) (by omega)]
  have q1 := q0.tr (Or.inr ⟨rfl, rfl⟩) (cpA.q 47 0 h 38 85 38 100 (by decide) rfl rfl)
  have L1 : LayC (cpA h 85 38 100) := L0
  have K1 : LayK (cpA h 85 38 100) := K0
  generalize cpA h 85 38 100 = h1 at q1 L1 K1 ⊢
  rw [kP84_1 h1 _ K1, cP37_1 h1 _ L1, cpb_39 h1 _ L1 K1 100 (by omega) (by omega)]
  have q2 := q1.tr (Or.inr ⟨rfl, rfl⟩) (cpA.q 47 0 h1 39 86 39 100 (by decide) rfl rfl)
  have L2 : LayC (cpA h1 86 39 100) := L1
  have K2 : LayK (cpA h1 86 39 100) := K1
  generalize cpA h1 86 39 100 = h2 at q2 L2 K2 ⊢
  rw [kP84_2 h2 _ K2, cP37_2 h2 _ L2, cpb_40 h2 _ L2 K2 100 (by omega) (by omega)]
  have q3 := q2.tr (Or.inr ⟨rfl, rfl⟩) (cpA.q 47 0 h2 40 87 40 100 (by decide) rfl rfl)
  have L3 : LayC (cpA h2 87 40 100) := L2
  have K3 : LayK (cpA h2 87 40 100) := K2
  generalize cpA h2 87 40 100 = h3 at q3 L3 K3 ⊢
  rw [kP84_3 h3 _ K3, cP37_3 h3 _ L3, cpb_41 h3 _ L3 K3 100 (by omega) (by omega)]
  have q4 := q3.tr (Or.inr ⟨rfl, rfl⟩) (cpA.q 47 0 h3 41 88 41 100 (by decide) rfl rfl)
  have L4 : LayC (cpA h3 88 41 100) := L3
  have K4 : LayK (cpA h3 88 41 100) := K3
  generalize cpA h3 88 41 100 = h4 at q4 L4 K4 ⊢
  rw [kI84 h4 4 _ K4, cW37 h4 4 _ _ L4]
  have q5 := q4.tr (Or.inr ⟨rfl, rfl⟩) (cpI.q 47 0 h4 37 84 37 4 (by decide) rfl rfl)
  have L5 : LayC (sI h4 37 4 (gI h4 84 4)) := L4
  have K5 : LayK (sI h4 37 4 (gI h4 84 4)) := K4
  generalize sI h4 37 4 (gI h4 84 4) = h5 at q5 L5 K5 ⊢
  exact ⟨_, rfl, q5.mono (fun i k h1 h2 z => by omega) (fun j z => z.elim)⟩
theorem cpbX0 {h : HP} (L0 : LayC h) (K0 : LayK h) : ∃ h', X0_copyFrom F 42 (some 89) h = some ((), h') ∧ Cq 47 0 (fun i k => 43 ≤ i ∧ i ≤ 46 ∧ k < 4 ∨ i = 47 ∧ k < 3 ∨ i = 42 ∧ (k = 6 ∨ k = 7)) (fun _ => False) h h' := by
  have q0 := Cq.rf 47 0 h
  unfold X0_copyFrom
  rw [kP89_0 h _ K0, cP42_0 h _ L0, cpb_43 h _ L0 K0 4 (by omega) (by omega)]
  have q1 := q0.tr (Or.inr ⟨rfl, rfl⟩) (cpA.q 47 0 h 43 90 43 4 (by decide) rfl rfl)
  have L1 : LayC (cpA h 90 43 4) := L0
  have K1 : LayK (cpA h 90 43 4) := K0
  generalize cpA h 90 43 4 = h1 at q1 L1 K1 ⊢
  rw [kP89_1 h1 _ K1, cP42_1 h1 _ L1, cpb_44 h1 _ L1 K1 4 (by omega) (by omega)]
  have q2 := q1.tr (Or.inr ⟨rfl, rfl⟩) (cpA.q 47 0 h1 44 91 44 4 (by decide) rfl rfl)
  have L2 : LayC (cpA h1 91 44 4) := L1
  have K2 : LayK (cpA h1 91 44 4) := K1
  generalize cpA h1 91 44 4 = h2 at q2 L2 K2 ⊢
  rw [kP89_2 h2 _ K2, cP42_2 h2 _ L2, cpb_45 h2 _ L2 K2 4 (by omega) (by omega)]
  have q3 := q2.tr (Or.inr ⟨rfl, rfl⟩) (cpA.q 47 0 h2 45 92 45 4 (by decide) rfl rfl)
  have L3 : LayC (cpA h2 92 45 4) := L2
  have K3 : LayK (cpA h2 92 45 4) := K2
  generalize cpA h2 92 45 4 = h3 at q3 L3 K3 ⊢
  rw [kP89_3 h3 _ K3, cP42_3 h3 _ L3, cpb_46 h3 _ L3 K3 4 (by omega) (by omega)]
  have q4 := q3.tr (Or.inr ⟨rfl, rfl⟩) (cpA.q 47 0 h3 46 93 46 4 (by decide) rfl rfl)
  have L4 : LayC (cpA h3 93 46 4) := L3
  have K4 : LayK (cpA h3 93 46 4) := K3
  generalize cpA h3 93 46 4 = h4 at q4 L4 K4 ⊢
  rw [kP89_4 h4 _ K4, cP42_4 h4 _ L4, cpb_47 h4 _ L4 K4 3 (by omega) (by omega)]
  have q5 := q4.tr (Or.inr ⟨rfl, rfl⟩) (cpA.q 47 0 h4 47 94 47 3 (by decide) rfl rfl)
  have L5 : LayC (cpA h4 94 47 3) := L4
  have K5 : LayK (cpA h4 94 47 3) := K4
  generalize cpA h4 94 47 3 = h5 at q5 L5 K5 ⊢
  rw [kI89 h5 6 _ K5, cW42 h5 6 _ _ L5]
  have q6 := q5.tr (Or.inr ⟨rfl, rfl⟩) (cpI.q 47 0 h5 42 89 42 6 (by decide) rfl rfl)
  have L6 : LayC (sI h5 42 6 (gI h5 89 6)) := L5
  have K6 : LayK (sI h5 42 6 (gI h5 89 6)) := K5
  generalize sI h5 42 6 (gI h5 89 6) = h6 at q6 L6 K6 ⊢
  rw [kI89 h6 7 _ K6, cW42 h6 7 _ _ L6]
  have q7 := q6.tr (Or.inr ⟨rfl, rfl⟩) (cpI.q 47 0 h6 42 89 42 7 (by decide) rfl rfl)
  have L7 : LayC (sI h6 42 7 (gI h6 89 7)) := L6
  have K7 : LayK (sI h6 42 7 (gI h6 89 7)) := K6
  generalize sI h6 42 7 (gI h6 89 7) = h7 at q7 L7 K7 ⊢
  exact ⟨_, rfl, q7.mono (fun i k h1 h2 z => by omega) (fun j z => z.elim)⟩
theorem cpbX5 {h : HP} (L0 : LayC h) (K0 : LayK h) (hz : gI h 98 5 = 0 ∨ gI h 98 5 = 1) : ∃ h', X5_copyFrom F 51 (some 98) h = some ((), h') ∧ Cq 47 0 (fun i k => 52 ≤ i ∧ i ≤ 55 ∧ k < 20 ∨ i = 51 ∧ (k = 4 ∨ k = 5)) (fun _ => False) h h' := by
  have q0 := Cq.rf 47 0 h
  unfold X5_copyFrom
  rw [kP98_0 h _ K0, cP51_0 h _ L0, cpb_52 h _ L0 K0 20 (by omega) (by omega)]
  have q1 := q0.tr (Or.inr ⟨rfl, rfl⟩) (cpA.q 47 0 h 52 99 52 20 (by decide) rfl rfl)
  have L1 : LayC (cpA h 99 52 20) := L0
  have K1 : LayK (cpA h 99 52 20) := K0
  generalize cpA h 99 52 20 = h1 at q1 L1 K1 ⊢
  rw [kP98_1 h1 _ K1, cP51_1 h1 _ L1, cpb_53 h1 _ L1 K1 20 (by omega) (by omega)]
  have q2 := q1.tr (Or.inr ⟨rfl, rfl⟩) (cpA.q 47 0 h1 53 100 53 20 (by decide) rfl rfl)
  have L2 : LayC (cpA h1 100 53 20) := L1
  have K2 : LayK (cpA h1 100 53 20) := K1
  generalize cpA h1 100 53 20 = h2 at q2 L2 K2 ⊢
  rw [kP98_2 h2 _ K2, cP51_2 h2 _ L2, cpb_54 h2 _ L2 K2 20 (by omega) (by omega)]
  have q3 := q2.tr (Or.inr ⟨rfl, rfl⟩) (cpA.q 47 0 h2 54 101 54 20 (by decide) rfl rfl)
  have L3 : LayC (cpA h2 101 54 20) := L2
  have K3 : LayK (cpA h2 101 54 20) := K2
  generalize cpA h2 101 54 20 = h3 at q3 L3 K3 ⊢
  rw [kP98_3 h3 _ K3, cP51_3 h3 _ L3, cpb_55 h3 _ L3 K3 20 (by omega) (by omega)]
  have q4 := q3.tr (Or.inr ⟨rfl, rfl⟩) (cpA.q 47 0 h3 55 102 55 20 (by decide) rfl rfl)
  have L4 : LayC (cpA h3 102 55 20) := L3
  have K4 : LayK (cpA h3 102 55 20) := K3
  generalize cpA h3 102 55 20 = h4 at q4 L4 K4 ⊢
  rw [kI98 h4 4 _ K4, cW51 h4 4 _ _ L4]
  have q5 := q4.tr (Or.inr ⟨rfl, rfl⟩) (cpI.q 47 0 h4 51 98 51 4 (by decide) rfl rfl)
  have L5 : LayC (sI h4 51 4 (gI h4 98 4)) := L4
  have K5 : LayK (sI h4 51 4 (gI h4 98 4)) := K4
  generalize sI h4 51 4 (gI h4 98 4) = h5 at q5 L5 K5 ⊢
  rw [kI98 h5 5 _ K5, cZ51 h5 5 _ _ L5 (by rw [q5.2.2.1 98 5 (by decide)]; exact hz)]
  have q6 := q5.tr (Or.inr ⟨rfl, rfl⟩) (cpI.q 47 0 h5 51 98 51 5 (by decide) rfl rfl)
  have L6 : LayC (sI h5 51 5 (gI h5 98 5)) := L5
  have K6 : LayK (sI h5 51 5 (gI h5 98 5)) := K5
  generalize sI h5 51 5 (gI h5 98 5) = h6 at q6 L6 K6 ⊢
  exact ⟨_, rfl, q6.mono (fun i k h1 h2 z => by omega) (fun j z => z.elim)⟩
theorem cpbX2 {h : HP} (L0 : LayC h) (K0 : LayK h) (j : Nat) (hj : j < 12) (hz : gI h (72 + j) 4 = 0 ∨ gI h (72 + j) 4 = 1) : ∃ h', X2_copyFrom F (25 + j) (some (72 + j)) h = some ((), h') ∧ Cq 47 0 (fun i k => i = 25 + j ∧ k < 18 ∧ k ≠ 5) (fun i => i = j) h h' := by
  have q0 := Cq.rf 47 0 h
  unfold X2_copyFrom
  rw [kIj h j 0 _ K0 hj, cWj h j 0 _ _ L0 hj]
  have q1 := q0.tr (Or.inr ⟨rfl, rfl⟩) (cpI.q 47 0 h (25 + j) (72 + j) (25 + j) 0 (by omega) (by omega) (by omega))
  have L1 : LayC (sI h (25 + j) 0 (gI h (72 + j) 0)) := L0
  have K1 : LayK (sI h (25 + j) 0 (gI h (72 + j) 0)) := K0
  generalize sI h (25 + j) 0 (gI h (72 + j) 0) = h1 at q1 L1 K1 ⊢
  rw [kIj h1 j 1 _ K1 hj, cWj h1 j 1 _ _ L1 hj]
  have q2 := q1.tr (Or.inr ⟨rfl, rfl⟩) (cpI.q 47 0 h1 (25 + j) (72 + j) (25 + j) 1 (by omega) (by omega) (by omega))
  have L2 : LayC (sI h1 (25 + j) 1 (gI h1 (72 + j) 1)) := L1
  have K2 : LayK (sI h1 (25 + j) 1 (gI h1 (72 + j) 1)) := K1
  generalize sI h1 (25 + j) 1 (gI h1 (72 + j) 1) = h2 at q2 L2 K2 ⊢
  rw [kIj h2 j 2 _ K2 hj, cWj h2 j 2 _ _ L2 hj]
  have q3 := q2.tr (Or.inr ⟨rfl, rfl⟩) (cpI.q 47 0 h2 (25 + j) (72 + j) (25 + j) 2 (by omega) (by omega) (by omega))
  have L3 : LayC (sI h2 (25 + j) 2 (gI h2 (72 + j) 2)) := L2
  have K3 : LayK (sI h2 (25 + j) 2 (gI h2 (72 + j) 2)) := K2
  generalize sI h2 (25 + j) 2 (gI h2 (72 + j) 2) = h3 at q3 L3 K3 ⊢
  rw [kIj h3 j 3 _ K3 hj, cWj h3 j 3 _ _ L3 hj]
  have q4 := q3.tr (Or.inr ⟨rfl, rfl⟩) (cpI.q 47 0 h3 (25 + j) (72 + j) (25 + j) 3 (by omega) (by omega) (by omega))
  have L4 : LayC (sI h3 (25 + j) 3 (gI h3 (72 + j) 3)) := L3
  have K4 : LayK (sI h3 (25 + j) 3 (gI h3 (72 + j) 3)) := K3
  generalize sI h3 (25 + j) 3 (gI h3 (72 + j) 3) = h4 at q4 L4 K4 ⊢
  rw [kIj h4 j 4 _ K4 hj, cZj h4 j 4 _ _ L4 hj (by rw [q4.2.2.1 (72 + j) 4 (by omega)]; exact hz)]
  have q5 := q4.tr (Or.inr ⟨rfl, rfl⟩) (cpI.q 47 0 h4 (25 + j) (72 + j) (25 + j) 4 (by omega) (by omega) (by omega))
  have L5 : LayC (sI h4 (25 + j) 4 (gI h4 (72 + j) 4)) := L4
  have K5 : LayK (sI h4 (25 + j) 4 (gI h4 (72 + j) 4)) := K4
  generalize sI h4 (25 + j) 4 (gI h4 (72 + j) 4) = h5 at q5 L5 K5 ⊢
  rw [kPj h5 j 5 _ K5 hj, cQj h5 j 5 _ _ L5 hj]
  have x6 := cpP.q 47 0 h5 (72 + j) (25 + j) j hj (by omega) (by omega)
  have q6 := q5.tr (Or.inr ⟨rfl, rfl⟩) x6
  have L6 := x6.C (Or.inr ⟨rfl, rfl⟩) L5
  have K6 := x6.K (Or.inr ⟨rfl, rfl⟩) K5
  clear x6
  generalize sP h5 (25 + j) 5 (gP h5 (72 + j) 5) = h6 at q6 L6 K6 ⊢
  rw [kIj h6 j 6 _ K6 hj, cWj h6 j 6 _ _ L6 hj]
  have q7 := q6.tr (Or.inr ⟨rfl, rfl⟩) (cpI.q 47 0 h6 (25 + j) (72 + j) (25 + j) 6 (by omega) (by omega) (by omega))
  have L7 : LayC (sI h6 (25 + j) 6 (gI h6 (72 + j) 6)) := L6
  have K7 : LayK (sI h6 (25 + j) 6 (gI h6 (72 + j) 6)) := K6
  generalize sI h6 (25 + j) 6 (gI h6 (72 + j) 6) = h7 at q7 L7 K7 ⊢
  rw [kIj h7 j 7 _ K7 hj, cWj h7 j 7 _ _ L7 hj]
  have q8 := q7.tr (Or.inr ⟨rfl, rfl⟩) (cpI.q 47 0 h7 (25 + j) (72 + j) (25 + j) 7 (by omega) (by omega) (by omega))
  have L8 : LayC (sI h7 (25 + j) 7 (gI h7 (72 + j) 7)) := L7
  have K8 : LayK (sI h7 (25 + j) 7 (gI h7 (72 + j) 7)) := K7
  generalize sI h7 (25 + j) 7 (gI h7 (72 + j) 7) = h8 at q8 L8 K8 ⊢
  rw [kIj h8 j 8 _ K8 hj, cWj h8 j 8 _ _ L8 hj]
  have q9 := q8.tr (Or.inr ⟨rfl, rfl⟩) (cpI.q 47 0 h8 (25 + j) (72 + j) (25 + j) 8 (by omega) (by omega) (by omega))
  have L9 : LayC (sI h8 (25 + j) 8 (gI h8 (72 + j) 8)) := L8
  have K9 : LayK (sI h8 (25 + j) 8 (gI h8 (72 + j) 8)) := K8
  generalize sI h8 (25 + j) 8 (gI h8 (72 + j) 8) = h9 at q9 L9 K9 ⊢
  rw [kIj h9 j 9 _ K9 hj, cWj h9 j 9 _ _ L9 hj]
  have q10 := q9.tr (Or.inr ⟨rfl, rfl⟩) (cpI.q 47 0 h9 (25 + j) (72 + j) (25 + j) 9 (by omega) (by omega) (by omega))
  have L10 : LayC (sI h9 (25 + j) 9 (gI h9 (72 + j) 9)) := L9
  have K10 : LayK (sI h9 (25 + j) 9 (gI h9 (72 + j) 9)) := K9
  generalize sI h9 (25 + j) 9 (gI h9 (72 + j) 9) = h10 at q10 L10 K10 ⊢
  rw [kIj h10 j 10 _ K10 hj, cWj h10 j 10 _ _ L10 hj]
  have q11 := q10.tr (Or.inr ⟨rfl, rfl⟩) (cpI.q 47 0 h10 (25 + j) (72 + j) (25 + j) 10 (by omega) (by omega) (by omega))
  have L11 : LayC (sI h10 (25 + j) 10 (gI h10 (72 + j) 10)) := L10
  have K11 : LayK (sI h10 (25 + j) 10 (gI h10 (72 + j) 10)) := K10
  generalize sI h10 (25 + j) 10 (gI h10 (72 + j) 10) = h11 at q11 L11 K11 ⊢
  rw [kIj h11 j 11 _ K11 hj, cWj h11 j 11 _ _ L11 hj]
  have q12 := q11.tr (Or.inr ⟨rfl, rfl⟩) (cpI.q 47 0 h11 (25 + j) (72 + j) (25 + j) 11 (by omega) (by omega) (by omega))
  have L12 : LayC (sI h11 (25 + j) 11 (gI h11 (72 + j) 11)) := L11
  have K12 : LayK (sI h11 (25 + j) 11 (gI h11 (72 + j) 11)) := K11
  generalize sI h11 (25 + j) 11 (gI h11 (72 + j) 11) = h12 at q12 L12 K12 ⊢
  rw [kIj h12 j 12 _ K12 hj, cWj h12 j 12 _ _ L12 hj]
  have q13 := q12.tr (Or.inr ⟨rfl, rfl⟩) (cpI.q 47 0 h12 (25 + j) (72 + j) (25 + j) 12 (by omega) (by omega) (by omega))
  have L13 : LayC (sI h12 (25 + j) 12 (gI h12 (72 + j) 12)) := L12
  have K13 : LayK (sI h12 (25 + j) 12 (gI h12 (72 + j) 12)) := K12
  generalize sI h12 (25 + j) 12 (gI h12 (72 + j) 12) = h13 at q13 L13 K13 ⊢
  rw [kIj h13 j 13 _ K13 hj, cWj h13 j 13 _ _ L13 hj]
  have q14 := q13.tr (Or.inr ⟨rfl, rfl⟩) (cpI.q 47 0 h13 (25 + j) (72 + j) (25 + j) 13 (by omega) (by omega) (by omega))
  have L14 : LayC (sI h13 (25 + j) 13 (gI h13 (72 + j) 13)) := L13
  have K14 : LayK (sI h13 (25 + j) 13 (gI h13 (72 + j) 13)) := K13
  generalize sI h13 (25 + j) 13 (gI h13 (72 + j) 13) = h14 at q14 L14 K14 ⊢
  rw [kIj h14 j 14 _ K14 hj, cWj h14 j 14 _ _ L14 hj]
  have q15 := q14.tr (Or.inr ⟨rfl, rfl⟩) (cpI.q 47 0 h14 (25 + j) (72 + j) (25 + j) 14 (by omega) (by omega) (by omega))
  have L15 : LayC (sI h14 (25 + j) 14 (gI h14 (72 + j) 14)) := L14
  have K15 : LayK (sI h14 (25 + j) 14 (gI h14 (72 + j) 14)) := K14
  generalize sI h14 (25 + j) 14 (gI h14 (72 + j) 14) = h15 at q15 L15 K15 ⊢
  rw [kIj h15 j 15 _ K15 hj, cWj h15 j 15 _ _ L15 hj]
  have q16 := q15.tr (Or.inr ⟨rfl, rfl⟩) (cpI.q 47 0 h15 (25 + j) (72 + j) (25 + j) 15 (by omega) (by omega) (by omega))
  have L16 : LayC (sI h15 (25 + j) 15 (gI h15 (72 + j) 15)) := L15
  have K16 : LayK (sI h15 (25 + j) 15 (gI h15 (72 + j) 15)) := K15
  generalize sI h15 (25 + j) 15 (gI h15 (72 + j) 15) = h16 at q16 L16 K16 ⊢
  rw [kIj h16 j 16 _ K16 hj, cWj h16 j 16 _ _ L16 hj]
  have q17 := q16.tr (Or.inr ⟨rfl, rfl⟩) (cpI.q 47 0 h16 (25 + j) (72 + j) (25 + j) 16 (by omega) (by omega) (by omega))
  have L17 : LayC (sI h16 (25 + j) 16 (gI h16 (72 + j) 16)) := L16
  have K17 : LayK (sI h16 (25 + j) 16 (gI h16 (72 + j) 16)) := K16
  generalize sI h16 (25 + j) 16 (gI h16 (72 + j) 16) = h17 at q17 L17 K17 ⊢
  rw [kIj h17 j 17 _ K17 hj, cWj h17 j 17 _ _ L17 hj]
  have q18 := q17.tr (Or.inr ⟨rfl, rfl⟩) (cpI.q 47 0 h17 (25 + j) (72 + j) (25 + j) 17 (by omega) (by omega) (by omega))
  have L18 : LayC (sI h17 (25 + j) 17 (gI h17 (72 + j) 17)) := L17
  have K18 : LayK (sI h17 (25 + j) 17 (gI h17 (72 + j) 17)) := K17
  generalize sI h17 (25 + j) 17 (gI h17 (72 + j) 17) = h18 at q18 L18 K18 ⊢
  exact ⟨_, rfl, q18.mono (fun i k h1 h2 z => by omega) (fun i z => by simp only [false_or, or_false]; exact z)⟩
theorem cpbX3 : ∀ (m i n : Nat) (h : HP), m < n → i + m = 12 → LayC h → LayK h → (∀ j : Nat, j < 12 → gI h (72 + j) 4 = 0 ∨ gI h (72 + j) 4 = 1) → (gI h 66 4 = 0 ∨ gI h 66 4 = 1) → ∃ h', X3_copyFrom_L2 F n 19 (some 66) i h = some ((), h') ∧ Cq 47 0 (fun a k => 25 + i ≤ a ∧ a ≤ 36 ∧ k < 18 ∧ k ≠ 5 ∨ (a = 21 ∨ a = 22) ∧ k < 12 ∨ a = 19 ∧ (k = 4 ∨ k = 5)) (fun j => i ≤ j ∧ j < 12) h h' := by
  intro m
  induction m with
  | zero =>
    intro i n h hn hi L0 K0 hw hz
    obtain ⟨n, rfl⟩ : ∃ n', n = n' + 1 := ⟨n - 1, by omega⟩
    rw [X3_copyFrom_L2_s, if_pos (by omega)]
    have q0 := Cq.rf 47 0 h
    rw [kP66_1 h _ K0, cP19_1 h _ L0, cpb_21 h _ L0 K0 12 (by omega) (by omega)]
    have q1 := q0.tr (Or.inr ⟨rfl, rfl⟩) (cpA.q 47 0 h 21 68 21 12 (by decide) rfl rfl)
    have L1 : LayC (cpA h 68 21 12) := L0
    have K1 : LayK (cpA h 68 21 12) := K0
    generalize cpA h 68 21 12 = h1 at q1 L1 K1 ⊢
    rw [kP66_2 h1 _ K1, cP19_2 h1 _ L1, cpb_22 h1 _ L1 K1 12 (by omega) (by omega)]
    have q2 := q1.tr (Or.inr ⟨rfl, rfl⟩) (cpA.q 47 0 h1 22 69 22 12 (by decide) rfl rfl)
    have L2 : LayC (cpA h1 69 22 12) := L1
    have K2 : LayK (cpA h1 69 22 12) := K1
    generalize cpA h1 69 22 12 = h2 at q2 L2 K2 ⊢
    rw [kI66 h2 4 _ K2, cZ19 h2 4 _ _ L2 (by rw [q2.2.2.1 66 4 (by decide)]; exact hz)]
    have q3 := q2.tr (Or.inr ⟨rfl, rfl⟩) (cpI.q 47 0 h2 19 66 19 4 (by decide) rfl rfl)
    have L3 : LayC (sI h2 19 4 (gI h2 66 4)) := L2
    have K3 : LayK (sI h2 19 4 (gI h2 66 4)) := K2
    generalize sI h2 19 4 (gI h2 66 4) = h3 at q3 L3 K3 ⊢
    rw [kI66 h3 5 _ K3, cW19 h3 5 _ _ L3]
    have q4 := q3.tr (Or.inr ⟨rfl, rfl⟩) (cpI.q 47 0 h3 19 66 19 5 (by decide) rfl rfl)
    have L4 : LayC (sI h3 19 5 (gI h3 66 5)) := L3
    have K4 : LayK (sI h3 19 5 (gI h3 66 5)) := K3
    generalize sI h3 19 5 (gI h3 66 5) = h4 at q4 L4 K4 ⊢
    exact ⟨_, rfl, q4.mono (fun i k h1 h2 z => by omega) (fun j z => by omega)⟩
  | succ m ih =>
    intro i n h hn hi L0 K0 hw hz
    obtain ⟨n, rfl⟩ : ∃ n', n = n' + 1 := ⟨n - 1, by omega⟩
    obtain ⟨h1, e1, q1⟩ := cpbX2 (F := F) L0 K0 i (by omega) (hw i (by omega))
    have f1 := q1.2.2.1
    obtain ⟨h2, e2, q2⟩ := ih (i + 1) n h1 (by omega) (by omega) (q1.C (Or.inr ⟨rfl, rfl⟩) L0) (q1.K (Or.inr ⟨rfl, rfl⟩) K0) (fun j hj => by rw [f1 (72 + j) 4 (by omega)]; exact hw j hj) (by rw [f1 66 4 (by omega)]; exact hz)
    refine ⟨h2, ?_, (q1.tr (Or.inr ⟨rfl, rfl⟩) q2).mono (fun a k h1 h2 z => by omega) (fun j z => by omega)⟩
    have ei : w32 ((i : Int) + 1) = ((i + 1 : Nat) : Int) := by rw [w32i _ (by omega) (by omega)]; omega
    have a1 := E_atK (F := F) (i : Int) K0 (by omega)
    have a2 := E_at (F := F) (i : Int) L0 (by omega)
    rw [Int.toNat_natCast] at a1 a2
    rw [X3_copyFrom_L2_s, if_neg (by omega), cR19 h _ L0, b_xb _ _ _ _ a2, kR66 h _ K0, b_xb _ _ _ _ a1, cRj h i _ L0 (by omega), b_xb _ _ _ _ e1, ei]
    exact e2
theorem cpbX4 {h : HP} (hF : 13 ≤ F) (L0 : LayC h) (K0 : LayK h) (hr : 0 ≤ gI h 58 7 ∧ gI h 58 7 ≤ 5120) (hw : ∀ j : Nat, j < 12 → gI h (72 + j) 4 = 0 ∨ gI h (72 + j) 4 = 1) (hz : gI h 66 4 = 0 ∨ gI h 66 4 = 1) (hp : gI h 98 5 = 0 ∨ gI h 98 5 = 1) : ∃ h', X4_copyFrom F 9 (some 56) h = some ((), h') ∧ Cq 47 0 (fun a k => (a = 12 ∨ a = 13) ∧ k < 64 ∨ (a = 14 ∨ a = 15) ∧ k < 16 ∨ (a = 16 ∨ a = 17 ∨ a = 18) ∧ (k : Int) < gI h 58 7 ∨ a = 11 ∧ (k = 7 ∨ k = 8) ∨ 25 ≤ a ∧ a ≤ 36 ∧ k < 18 ∧ k ≠ 5 ∨ (a = 21 ∨ a = 22) ∧ k < 12 ∨ a = 19 ∧ (k = 4 ∨ k = 5) ∨ 38 ≤ a ∧ a ≤ 41 ∧ k < 100 ∨ a = 37 ∧ k = 4 ∨ 43 ≤ a ∧ a ≤ 46 ∧ k < 4 ∨ a = 47 ∧ k < 3 ∨ a = 42 ∧ (k = 6 ∨ k = 7) ∨ 52 ≤ a ∧ a ≤ 55 ∧ k < 20 ∨ a = 51 ∧ (k = 4 ∨ k = 5) ∨ a = 9 ∧ 6 ≤ k ∧ k ≤ 11) (fun j => j < 12) h h' := by
  obtain ⟨ha, ea, qa⟩ := cpbX7 (F := F) L0 K0 hr
  have La := qa.C (Or.inr ⟨rfl, rfl⟩) L0
  have Ka := qa.K (Or.inr ⟨rfl, rfl⟩) K0
  have f1 := qa.2.2.1
  obtain ⟨hb, eb, qb⟩ := cpbX3 (F := F) 12 0 F ha (by omega) (by omega) La Ka (fun j hj => by rw [f1 (72 + j) 4 (by omega)]; exact hw j hj) (by rw [f1 66 4 (by omega)]; exact hz)
  have Lb := qb.C (Or.inr ⟨rfl, rfl⟩) La
  have Kb := qb.K (Or.inr ⟨rfl, rfl⟩) Ka
  have qab := qa.tr (Or.inr ⟨rfl, rfl⟩) qb
  obtain ⟨hc, ec, qc⟩ := cpbX10 (F := F) Lb Kb
  have Lc := qc.C (Or.inr ⟨rfl, rfl⟩) Lb
  have Kc := qc.K (Or.inr ⟨rfl, rfl⟩) Kb
  have qac := qab.tr (Or.inr ⟨rfl, rfl⟩) qc
  obtain ⟨hd, ed, qd⟩ := cpbX0 (F := F) Lc Kc
  have Ld := qd.C (Or.inr ⟨rfl, rfl⟩) Lc
  have Kd := qd.K (Or.inr ⟨rfl, rfl⟩) Kc
  have qad := qac.tr (Or.inr ⟨rfl, rfl⟩) qd
  obtain ⟨he, ee, qe⟩ := cpbX5 (F := F) Ld Kd (by rw [qad.2.2.1 98 5 (by decide)]; exact hp)
  have Le := qe.C (Or.inr ⟨rfl, rfl⟩) Ld
  have Ke := qe.K (Or.inr ⟨rfl, rfl⟩) Kd
  have qae := qad.tr (Or.inr ⟨rfl, rfl⟩) qe
  have eb' : X3_copyFrom F 19 (some 66) ha = some ((), hb) := eb
  unfold X4_copyFrom
  rw [cP9_1 h _ L0, kP56_1 h _ K0, cR11 h _ L0, b_xb _ _ _ _ ea, cP9_2 ha _ La, kP56_2 ha _ Ka, cR19 ha _ La, b_xb _ _ _ _ eb', cP9_3 hb _ Lb, kP56_3 hb _ Kb, cR37 hb _ Lb, b_xb _ _ _ _ ec, cP9_4 hc _ Lc, kP56_4 hc _ Kc, cR42 hc _ Lc, b_xb _ _ _ _ ed, cP9_5 hd _ Ld, kP56_5 hd _ Kd, cR51 hd _ Ld, b_xb _ _ _ _ ee]
  clear ea eb eb' ec ed ee
  have q0 := qae
  have L0 := Le
  have K0 := Ke
  rw [kI56 he 6 _ K0, cW9 he 6 _ _ L0]
  have q1 := q0.tr (Or.inr ⟨rfl, rfl⟩) (cpI.q 47 0 he 9 56 9 6 (by decide) rfl rfl)
  have L1 : LayC (sI he 9 6 (gI he 56 6)) := L0
  have K1 : LayK (sI he 9 6 (gI he 56 6)) := K0
  generalize sI he 9 6 (gI he 56 6) = h1 at q1 L1 K1 ⊢
  rw [kI56 h1 7 _ K1, cW9 h1 7 _ _ L1]
  have q2 := q1.tr (Or.inr ⟨rfl, rfl⟩) (cpI.q 47 0 h1 9 56 9 7 (by decide) rfl rfl)
  have L2 : LayC (sI h1 9 7 (gI h1 56 7)) := L1
  have K2 : LayK (sI h1 9 7 (gI h1 56 7)) := K1
  generalize sI h1 9 7 (gI h1 56 7) = h2 at q2 L2 K2 ⊢
  rw [kI56 h2 8 _ K2, cW9 h2 8 _ _ L2]
  have q3 := q2.tr (Or.inr ⟨rfl, rfl⟩) (cpI.q 47 0 h2 9 56 9 8 (by decide) rfl rfl)
  have L3 : LayC (sI h2 9 8 (gI h2 56 8)) := L2
  have K3 : LayK (sI h2 9 8 (gI h2 56 8)) := K2
  generalize sI h2 9 8 (gI h2 56 8) = h3 at q3 L3 K3 ⊢
  rw [kI56 h3 9 _ K3, cW9 h3 9 _ _ L3]
  have q4 := q3.tr (Or.inr ⟨rfl, rfl⟩) (cpI.q 47 0 h3 9 56 9 9 (by decide) rfl rfl)
  have L4 : LayC (sI h3 9 9 (gI h3 56 9)) := L3
  have K4 : LayK (sI h3 9 9 (gI h3 56 9)) := K3
  generalize sI h3 9 9 (gI h3 56 9) = h4 at q4 L4 K4 ⊢
  rw [kI56 h4 10 _ K4, cW9 h4 10 _ _ L4]
  have q5 := q4.tr (Or.inr ⟨rfl, rfl⟩) (cpI.q 47 0 h4 9 56 9 10 (by decide) rfl rfl)
  have L5 : LayC (sI h4 9 10 (gI h4 56 10)) := L4
  have K5 : LayK (sI h4 9 10 (gI h4 56 10)) := K4
  generalize sI h4 9 10 (gI h4 56 10) = h5 at q5 L5 K5 ⊢
  rw [kI56 h5 11 _ K5, cW9 h5 11 _ _ L5]
  have q6 := q5.tr (Or.inr ⟨rfl, rfl⟩) (cpI.q 47 0 h5 9 56 9 11 (by decide) rfl rfl)
  have L6 : LayC (sI h5 9 11 (gI h5 56 11)) := L5
  have K6 : LayK (sI h5 9 11 (gI h5 56 11)) := K5
  generalize sI h5 9 11 (gI h5 56 11) = h6 at q6 L6 K6 ⊢
  refine ⟨_, rfl, q6.mono (fun a k h1 h2 z => ?_) (fun j z => Or.inl (Or.inl (Or.inl (Or.inl (Or.inl (Or.inl (Or.inl (Or.inl (Or.inl (Or.inr ⟨Nat.zero_le _, z⟩))))))))))⟩
  rcases z with z | z | z | z | z | z | z | z | z | z | z | z | z | z | z
  · exact Or.inl (Or.inl (Or.inl (Or.inl (Or.inl (Or.inl (Or.inl (Or.inl (Or.inl (Or.inl (Or.inl z))))))))))
  · exact Or.inl (Or.inl (Or.inl (Or.inl (Or.inl (Or.inl (Or.inl (Or.inl (Or.inl (Or.inl (Or.inr (Or.inl z)))))))))))
  · exact Or.inl (Or.inl (Or.inl (Or.inl (Or.inl (Or.inl (Or.inl (Or.inl (Or.inl (Or.inl (Or.inr (Or.inr (Or.inl z))))))))))))
  · exact Or.inl (Or.inl (Or.inl (Or.inl (Or.inl (Or.inl (Or.inl (Or.inl (Or.inl (Or.inl (Or.inr (Or.inr (Or.inr (z)))))))))))))
  · exact Or.inl (Or.inl (Or.inl (Or.inl (Or.inl (Or.inl (Or.inl (Or.inl (Or.inl (Or.inr (Or.inl ⟨by omega, z.2⟩))))))))))
  · exact Or.inl (Or.inl (Or.inl (Or.inl (Or.inl (Or.inl (Or.inl (Or.inl (Or.inl (Or.inr (Or.inr (Or.inl z)))))))))))
  · exact Or.inl (Or.inl (Or.inl (Or.inl (Or.inl (Or.inl (Or.inl (Or.inl (Or.inl (Or.inr (Or.inr (Or.inr (z))))))))))))
  · exact Or.inl (Or.inl (Or.inl (Or.inl (Or.inl (Or.inl (Or.inl (Or.inl (Or.inr (Or.inl z)))))))))
  · exact Or.inl (Or.inl (Or.inl (Or.inl (Or.inl (Or.inl (Or.inl (Or.inl (Or.inr (Or.inr (z))))))))))
  · exact Or.inl (Or.inl (Or.inl (Or.inl (Or.inl (Or.inl (Or.inl (Or.inr (Or.inl z))))))))
  · exact Or.inl (Or.inl (Or.inl (Or.inl (Or.inl (Or.inl (Or.inl (Or.inr (Or.inr (Or.inl z)))))))))
  · exact Or.inl (Or.inl (Or.inl (Or.inl (Or.inl (Or.inl (Or.inl (Or.inr (Or.inr (Or.inr (z))))))))))
  · exact Or.inl (Or.inl (Or.inl (Or.inl (Or.inl (Or.inl (Or.inr (Or.inl z)))))))
  · exact Or.inl (Or.inl (Or.inl (Or.inl (Or.inl (Or.inl (Or.inr (Or.inr (z))))))))
  · obtain ⟨z1, z2, z3⟩ := z
    obtain q | q | q | q | q | q : k = 6 ∨ k = 7 ∨ k = 8 ∨ k = 9 ∨ k = 10 ∨ k = 11 := by omega
    · exact Or.inl (Or.inl (Or.inl (Or.inl (Or.inl (Or.inr ⟨z1, q⟩)))))
    · exact Or.inl (Or.inl (Or.inl (Or.inl (Or.inr ⟨z1, q⟩))))
    · exact Or.inl (Or.inl (Or.inl (Or.inr ⟨z1, q⟩)))
    · exact Or.inl (Or.inl (Or.inr ⟨z1, q⟩))
    · exact Or.inl (Or.inr ⟨z1, q⟩)
    · exact Or.inr ⟨z1, q⟩
end CP
