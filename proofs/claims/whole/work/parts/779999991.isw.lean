/-! the reference's words on the tape -/
theorem wdS_at {j p : Nat} {x : Int} {s : List Int} (h : (wdS j).drop p = x :: s) : p < (wdS j).length ∧ p < (STB j).length ∧ sch j (p : Int) = x ∧ (wdS j).drop (p + 1) = s := by
  have hp : p < (wdS j).length := by
    rcases Nat.lt_or_ge p (wdS j).length with q | q
    · exact q
    · rw [List.drop_eq_nil_of_le q] at h; cases h
  have e := List.drop_eq_getElem_cons hp
  rw [h] at e
  injection e with e1 e2
  have hp2 : p < (STB j).length := by unfold wdS at hp; rw [List.length_map] at hp; exact hp
  refine ⟨hp, hp2, ?_, e2.symm⟩
  have e3 : (wdS j)[p] = ((STB j)[p]).toInt := List.getElem_map _
  rw [e1]
  refine Eq.trans ?_ e3.symm
  unfold sch
  rw [show ((p : Int)).toNat = p by omega, List.getD_eq_getElem?_getD, List.getElem?_eq_getElem hp2]
  rfl
theorem wdS_len (j : Nat) : (wdS j).length = (STB j).length := by unfold wdS; rw [List.length_map]
section ISW
variable {F : Nat} {c : Nat → Int} {R : Nat} {h : HP}
theorem Q_len {j id : Nat} (hj : j < 18) (hid : id = 1000000 + j) : XJ0_length_8abf5 F id h = some ((((wdS j).length : Nat) : Int), h) := by
  unfold XJ0_length_8abf5
  rw [if_pos (by omega), show id - 1000000 = j by omega, wdS_len]
theorem Q_chr {j id p : Nat} (hj : j < 18) (hid : id = 1000000 + j) (hp : p < (STB j).length) : XJ0_charAt_5068e F id (p : Int) h = some (sch j (p : Int), h) := by
  unfold XJ0_charAt_5068e
  rw [show id - 1000000 = j by omega, if_pos ⟨by omega, by omega, by omega, by omega⟩]
theorem Q_wS (b : BM c R h) {j id : Nat} (hj : j < 18) (hid : id = 1000000 + j) {a m k : Nat} {x : Int} {s : List Int} (ha : gI h 113 8 = (a : Int)) (h1 : (wdS j).drop m = x :: s) (am : a + m < 400) (hm : m < (wdS j).length) : X12_isWord_L24 F (k + 1) 113 (some id) 1 (m : Int) h = X12_isWord_L24 F k 113 (some id) (if aI h 116 ((a + m : Nat) : Int) = x then 1 else 0) ((m + 1 : Nat) : Int) h := by
  have L := b.1
  obtain ⟨g1, g2, g3, g4⟩ := wdS_at h1
  have ew : w32 ((a : Int) + (m : Int)) = ((a + m : Nat) : Int) := by rw [w32i _ (by omega) (by omega)]; omega
  rw [X12_isWord_L24_s, if_neg (by decide)]
  show xb (XJ0_length_8abf5 F id h) _ = _
  rw [b_xb _ _ _ _ (Q_len hj hid), if_neg (by omega), mP113_4 h _ L, mI113 h 8 _ L, ha, ew, mA116 h _ _ L (by omega) (by omega)]
  show xb (XJ0_charAt_5068e F id (m : Int) h) _ = _
  rw [b_xb _ _ _ _ (Q_chr hj hid g2), g3]
  unfold X12_isWord_L60
  rw [w32j (by omega)]
theorem Q_wL (b : BM c R h) {j id : Nat} (hj : j < 18) (hid : id = 1000000 + j) {a e : Nat} (ha : gI h 113 8 = (a : Int)) (he : e ≤ R) (hae : e = a + (wdS j).length) : ∀ (s : List Int) (m k : Nat), (wdS j).drop m = s → m + s.length = (wdS j).length → s.length < k → (mW c s (a + m) e → X12_isWord_L24 F k 113 (some id) 1 (m : Int) h = some (1, h)) ∧ (¬ mW c s (a + m) e → X12_isWord_L24 F k 113 (some id) 1 (m : Int) h = some (0, h)) := by
  have hR := b.2.1
  have L := b.1
  have xn : ∀ {β : Type} (f : Nat → Option β), (xnn (some id)).bind f = f id := fun f => rfl
  intro s
  induction s with
  | nil =>
    intro m k h1 h2 h3
    obtain ⟨k, rfl⟩ : ∃ k', k = k' + 1 := ⟨k - 1, by omega⟩
    have h2' : m + 0 = (wdS j).length := h2
    have st : X12_isWord_L24 F (k + 1) 113 (some id) 1 (m : Int) h = some (1, h) := by
      rw [X12_isWord_L24_s, if_neg (by decide)]
      show xb (XJ0_length_8abf5 F id h) _ = _
      rw [b_xb _ _ _ _ (Q_len hj hid), if_pos (by omega)]
      rfl
    exact ⟨fun _ => st, fun q => absurd (show a + m = e by omega) q⟩
  | cons x s ih =>
    intro m k h1 h2 h3
    obtain ⟨k, rfl⟩ : ∃ k', k = k' + 1 := ⟨k - 1, by omega⟩
    rw [List.length_cons] at h2 h3
    obtain ⟨g1, g2, g3, g4⟩ := wdS_at h1
    have he400 : a + m < R := by omega
    obtain ⟨w1, w2, w3⟩ := b.2.2.2 (a + m) he400
    have st := Q_wS (F := F) b hj hid ha h1 (by omega) (by omega) (k := k)
    rw [st]
    have stop : X12_isWord_L24 F k 113 (some id) 0 ((m + 1 : Nat) : Int) h = some (0, h) := by
      obtain ⟨k2, e2⟩ : ∃ k', k = k' + 1 := ⟨k - 1, by omega⟩
      rw [e2]
      rfl
    clear st
    have r0 : 0 ≤ x ∧ x < 128 := by
      have r := sch_rng hj (show (0 : Int) ≤ (m : Int) by omega) (show (m : Int) < ((STB j).length : Int) by omega)
      rw [g3] at r
      exact r
    by_cases q : aI h 116 ((a + m : Nat) : Int) = x
    · rw [if_pos q]
      have cx : c (a + m) = x := by omega
      obtain ⟨i1, i2⟩ := ih (m + 1) k g4 (by omega) (by omega)
      exact ⟨fun y => i1 y.2.2, fun y => i2 (fun z => y ⟨by omega, cx, z⟩)⟩
    · rw [if_neg q, stop]
      exact ⟨fun y => absurd y.2.1 (by omega), fun _ => rfl⟩
theorem w32_sub {a e : Nat} (h : a ≤ e) (q : e ≤ 400) : w32 ((e : Int) - (a : Int)) = (e : Int) - (a : Int) := w32i _ (by omega) (by omega)
theorem Q_w1 (b : BM c R h) (hF : 500 ≤ F) {j id : Nat} (hj : j < 18) (hid : id = 1000000 + j) {a e : Nat} (ha : gI h 113 8 = (a : Int)) (hp : gI h 113 6 = (e : Int)) (hae : a ≤ e) (he : e ≤ R) (m : mW c (wdS j) a e) : X12_isWord F 113 (some id) h = some (1, h) := by
  have hR := b.2.1
  have L := b.1
  have ln := mW_len c _ _ _ m
  have xx := (Q_wL (F := F) b hj hid ha he ln (wdS j) 0 F rfl (Nat.zero_add _) (by omega)).1 m
  unfold X12_isWord
  rw [mI113 h 6 _ L, mI113 h 8 _ L, hp, ha]
  show xb (XJ0_length_8abf5 F id h) _ = _
  rw [b_xb _ _ _ _ (Q_len hj hid), w32_sub hae (by omega), if_pos (by omega)]
  exact xx
theorem Q_w0 (b : BM c R h) (hF : 500 ≤ F) {j id : Nat} (hj : j < 18) (hid : id = 1000000 + j) {a e : Nat} (ha : gI h 113 8 = (a : Int)) (hp : gI h 113 6 = (e : Int)) (hae : a ≤ e) (he : e ≤ R) (m : ¬ mW c (wdS j) a e) : X12_isWord F 113 (some id) h = some (0, h) := by
  have hR := b.2.1
  have L := b.1
  have stop : X12_isWord_L21 F 113 (some id) 0 h = some (0, h) := by
    obtain ⟨k, e2⟩ : ∃ k', F = k' + 1 := ⟨F - 1, by omega⟩
    rw [e2]
    rfl
  unfold X12_isWord
  rw [mI113 h 6 _ L, mI113 h 8 _ L, hp, ha]
  show xb (XJ0_length_8abf5 F id h) _ = _
  rw [b_xb _ _ _ _ (Q_len hj hid), w32_sub hae (by omega)]
  by_cases q : (e : Int) - (a : Int) = (((wdS j).length : Nat) : Int)
  · rw [if_pos q]
    exact (Q_wL (F := F) b hj hid ha he (by omega) (wdS j) 0 F rfl (Nat.zero_add _) (by omega)).2 m
  · rw [if_neg q]
    exact stop
end ISW
