/-! bytes to things: ends, kinds, numbers -/
def rnD (c : Nat → Int) : Nat → Nat → Nat
  | 0, i => i
  | f + 1, i => if 48 ≤ c i ∧ c i ≤ 57 then rnD c f (i + 1) else i
def rnL (c : Nat → Int) : Nat → Nat → Nat
  | 0, i => i
  | f + 1, i => if 97 ≤ c i ∧ c i ≤ 122 then rnL c f (i + 1) else i
theorem rnD_le (c : Nat → Int) : ∀ f i, i ≤ rnD c f i ∧ rnD c f i ≤ i + f := by
  intro f
  induction f with
  | zero => intro i; exact ⟨Nat.le_refl _, Nat.le_refl _⟩
  | succ f ih =>
    intro i
    unfold rnD
    by_cases q : 48 ≤ c i ∧ c i ≤ 57
    · rw [if_pos q]; have := ih (i + 1); omega
    · rw [if_neg q]; omega
theorem rnL_le (c : Nat → Int) : ∀ f i, i ≤ rnL c f i ∧ rnL c f i ≤ i + f := by
  intro f
  induction f with
  | zero => intro i; exact ⟨Nat.le_refl _, Nat.le_refl _⟩
  | succ f ih =>
    intro i
    unfold rnL
    by_cases q : 97 ≤ c i ∧ c i ≤ 122
    · rw [if_pos q]; have := ih (i + 1); omega
    · rw [if_neg q]; omega
theorem rnD_dg (c : Nat → Int) : ∀ f i t, i ≤ t → t < rnD c f i → 48 ≤ c t ∧ c t ≤ 57 := by
  intro f
  induction f with
  | zero => intro i t h1 h2; unfold rnD at h2; omega
  | succ f ih =>
    intro i t h1 h2
    unfold rnD at h2
    by_cases q : 48 ≤ c i ∧ c i ≤ 57
    · rw [if_pos q] at h2
      by_cases e : t = i
      · rw [e]; exact q
      · exact ih (i + 1) t (by omega) h2
    · rw [if_neg q] at h2; omega
def enD (c : Nat → Int) (R i : Nat) : Nat := if 48 ≤ c i ∧ c i ≤ 57 then rnD c (R - (i + 1)) (i + 1) else if 97 ≤ c i ∧ c i ≤ 122 then rnL c (R - (i + 1)) (i + 1) else i + 1
theorem enD_le (c : Nat → Int) {R i : Nat} (hi : i < R) : i < enD c R i ∧ enD c R i ≤ R := by
  have a := rnD_le c (R - (i + 1)) (i + 1)
  have b := rnL_le c (R - (i + 1)) (i + 1)
  unfold enD
  by_cases q : 48 ≤ c i ∧ c i ≤ 57
  · rw [if_pos q]; omega
  · rw [if_neg q]
    by_cases q2 : 97 ≤ c i ∧ c i ≤ 122
    · rw [if_pos q2]; omega
    · rw [if_neg q2]; omega
/-- the words, one after another, each with a blank: read along c from a, which ends at e -/
def kwA (c : Nat → Int) (a e : Nat) : List Int → Int → Option Nat → Int
  | [], _, _ => -3
  | x :: s, k, q => if x = 32 then (if q = some e then k else kwA c a e s (k + 1) (some a)) else (match q with | none => kwA c a e s k none | some p => if p < e ∧ c p = x then kwA c a e s k (some (p + 1)) else kwA c a e s k none)
def kwS : List Int := (STB 0).map Int32.toInt
theorem kwS_len : kwS.length ≤ 100 := by
  unfold kwS
  rw [List.length_map]
  exact stb_len 0 (by decide)
theorem kwS_at {p : Nat} {x : Int} {s : List Int} (h : kwS.drop p = x :: s) : p < kwS.length ∧ sch 0 (p : Int) = x ∧ kwS.drop (p + 1) = s := by
  have hp : p < kwS.length := by
    rcases Nat.lt_or_ge p kwS.length with q | q
    · exact q
    · rw [List.drop_eq_nil_of_le q] at h; cases h
  have e := List.drop_eq_getElem_cons hp
  rw [h] at e
  injection e with e1 e2
  refine ⟨hp, ?_, e2.symm⟩
  have hp2 : p < (STB 0).length := by unfold kwS at hp; rw [List.length_map] at hp; exact hp
  have e3 : kwS[p] = ((STB 0)[p]).toInt := List.getElem_map _
  rw [e1]
  refine Eq.trans ?_ e3.symm
  unfold sch
  rw [show ((p : Int)).toNat = p by omega, List.getD_eq_getElem?_getD, List.getElem?_eq_getElem hp2]
  rfl
def knD (c : Nat → Int) (R i : Nat) : Int := if 48 ≤ c i ∧ c i ≤ 57 then (if enD c R i - i ≤ 6 then -2 else -3) else if 97 ≤ c i ∧ c i ≤ 122 then kwA c i (enD c R i) kwS 256 (some i) else c i
def vlD (c : Nat → Int) : Nat → Nat → Int → Int
  | 0, _, a => a
  | f + 1, i, a => vlD c f (i + 1) (10 * a + c i - 48)
def lim10 : Nat → Int
  | 0 => 1
  | m + 1 => 10 * lim10 m
theorem lim10_le : ∀ m, m < 7 → lim10 m ≤ 1000000 := by decide
theorem vlD_in (c : Nat → Int) : ∀ f i m a, (∀ t, i ≤ t → t < i + f → 48 ≤ c t ∧ c t ≤ 57) → 0 ≤ a → a < lim10 m → 0 ≤ vlD c f i a ∧ vlD c f i a < lim10 (m + f) := by
  intro f
  induction f with
  | zero => intro i m a _ h1 h2; exact ⟨h1, h2⟩
  | succ f ih =>
    intro i m a h h1 h2
    have d := h i (Nat.le_refl _) (by omega)
    have e : lim10 (m + 1) = 10 * lim10 m := rfl
    have x := ih (i + 1) (m + 1) (10 * a + c i - 48) (fun t q1 q2 => h t (by omega) (by omega)) (by omega) (by omega)
    rw [show m + (f + 1) = m + 1 + f by omega]
    exact x
section SCN
variable {F : Nat} {c : Nat → Int} {R : Nat} {h : HP}
def BY (c : Nat → Int) (R : Nat) (h : HP) : Prop := LayC h ∧ R ≤ 400 ∧ ∀ i : Nat, i < R → aI h 3 i = c i
theorem B_at (b : BY c R h) {i : Nat} (hi : i < R) : X8_byteAt F 2 (i : Int) h = some (c i, h) := by
  obtain ⟨L, hR, q⟩ := b
  unfold X8_byteAt
  rw [if_neg (by omega), if_neg (by omega), cP2_0 h _ L, cA3 h _ _ L (by omega) (by omega), q i hi]
theorem B_dg1 (x : Int) (q : 48 ≤ x ∧ x ≤ 57) : X8_isDigit F x h = some (1, h) := by
  unfold X8_isDigit
  rw [if_neg (by omega), if_neg (by omega)]
theorem B_dg0 (x : Int) (q : ¬ (48 ≤ x ∧ x ≤ 57)) : X8_isDigit F x h = some (0, h) := by
  unfold X8_isDigit
  by_cases q2 : x < 48
  · rw [if_pos q2]
  · rw [if_neg q2, if_pos (by omega)]
theorem B_lt1 (x : Int) (q : 97 ≤ x ∧ x ≤ 122) : X8_isLetter F x h = some (1, h) := by
  unfold X8_isLetter
  rw [if_neg (by omega), if_neg (by omega)]
theorem B_lt0 (x : Int) (q : ¬ (97 ≤ x ∧ x ≤ 122)) : X8_isLetter F x h = some (0, h) := by
  unfold X8_isLetter
  by_cases q2 : x < 97
  · rw [if_pos q2]
  · rw [if_neg q2, if_pos (by omega)]
theorem B_rnD (b : BY c R h) : ∀ (f i k : Nat), i + f = R → f < k → X8_endOfThing_L15 F k 2 (R : Int) (i : Int) h = some (((rnD c f i : Nat) : Int), h) := by
  intro f
  induction f with
  | zero =>
    intro i k hi hk
    obtain ⟨k, rfl⟩ : ∃ k', k = k' + 1 := ⟨k - 1, by omega⟩
    show (if (R : Int) ≤ (i : Int) then some ((i : Int), h) else _) = _
    rw [if_pos (by omega)]
    rfl
  | succ f ih =>
    intro i k hi hk
    obtain ⟨k, rfl⟩ : ∃ k', k = k' + 1 := ⟨k - 1, by omega⟩
    have hR := b.2.1
    have q0 : ¬ (R : Int) ≤ (i : Int) := by omega
    show (if (R : Int) ≤ (i : Int) then some ((i : Int), h) else (xrc h (some 2) 8 17).bind fun a4 => xb (X8_byteAt F a4 (i : Int) h) fun v2 h3 => xb (X8_isDigit F v2 h3) fun v5 h6 => _) = _
    rw [if_neg q0, cR2 h _ b.1, b_xb _ _ _ _ (B_at b (by omega))]
    unfold rnD
    by_cases q : 48 ≤ c i ∧ c i ≤ 57
    · rw [b_xb _ _ _ _ (B_dg1 _ q), if_neg (by decide), w32j (by omega), if_pos q]
      exact ih (i + 1) k (by omega) (by omega)
    · rw [b_xb _ _ _ _ (B_dg0 _ q), if_pos rfl, if_neg q]
theorem B_rnL (b : BY c R h) : ∀ (f i k : Nat), i + f = R → f < k → X8_endOfThing_L48 F k 2 (R : Int) (i : Int) h = some (((rnL c f i : Nat) : Int), h) := by
  intro f
  induction f with
  | zero =>
    intro i k hi hk
    obtain ⟨k, rfl⟩ : ∃ k', k = k' + 1 := ⟨k - 1, by omega⟩
    show (if (R : Int) ≤ (i : Int) then some ((i : Int), h) else _) = _
    rw [if_pos (by omega)]
    rfl
  | succ f ih =>
    intro i k hi hk
    obtain ⟨k, rfl⟩ : ∃ k', k = k' + 1 := ⟨k - 1, by omega⟩
    have hR := b.2.1
    have q0 : ¬ (R : Int) ≤ (i : Int) := by omega
    show (if (R : Int) ≤ (i : Int) then some ((i : Int), h) else (xrc h (some 2) 8 17).bind fun a4 => xb (X8_byteAt F a4 (i : Int) h) fun v2 h3 => xb (X8_isLetter F v2 h3) fun v5 h6 => _) = _
    rw [if_neg q0, cR2 h _ b.1, b_xb _ _ _ _ (B_at b (by omega))]
    unfold rnL
    by_cases q : 97 ≤ c i ∧ c i ≤ 122
    · rw [b_xb _ _ _ _ (B_lt1 _ q), if_neg (by decide), w32j (by omega), if_pos q]
      exact ih (i + 1) k (by omega) (by omega)
    · rw [b_xb _ _ _ _ (B_lt0 _ q), if_pos rfl, if_neg q]
theorem B_end (b : BY c R h) (hF : 500 ≤ F) {i : Nat} (hi : i < R) : X8_endOfThing F 2 (i : Int) (R : Int) h = some (((enD c R i : Nat) : Int), h) := by
  have hR := b.2.1
  unfold X8_endOfThing enD
  rw [cR2 h _ b.1, b_xb _ _ _ _ (B_at b hi)]
  by_cases q : 48 ≤ c i ∧ c i ≤ 57
  · rw [b_xb _ _ _ _ (B_dg1 _ q), if_neg (by decide), w32j (by omega), if_pos q]
    exact B_rnD b _ _ F (by omega) (by omega)
  · rw [b_xb _ _ _ _ (B_dg0 _ q), if_pos rfl, if_neg q, cR2 h _ b.1, b_xb _ _ _ _ (B_at b hi)]
    by_cases q2 : 97 ≤ c i ∧ c i ≤ 122
    · rw [b_xb _ _ _ _ (B_lt1 _ q2), if_neg (by decide), w32j (by omega), if_pos q2]
      exact B_rnL b _ _ F (by omega) (by omega)
    · rw [b_xb _ _ _ _ (B_lt0 _ q2), if_pos rfl, w32j (by omega), if_neg q2]
def qz (q : Option Nat) : Int := match q with | none => -1 | some p => (p : Int)
theorem B_word (b : BY c R h) {a e : Nat} (hae : a ≤ e ∧ e ≤ R) : ∀ (s : List Int) (p k : Nat) (kk : Int) (q : Option Nat), kwS.drop p = s → p + s.length = kwS.length → s.length < k → 0 ≤ kk → kk + s.length ≤ 1000 → (∀ x, q = some x → x ≤ e) → X8_kindOfWord_L10 F k 2 (a : Int) (e : Int) kk (qz q) (p : Int) h = some (kwA c a e s kk q, h) := by
  have hR := b.2.1
  have hl := kwS_len
  have lenS : ((STB (1000000 - 1000000)).length : Int) = (kwS.length : Int) := by
    unfold kwS
    rw [List.length_map]
  have eL : XJ0_length_8abf5 F 1000000 h = some ((kwS.length : Int), h) := by
    unfold XJ0_length_8abf5
    rw [if_pos (by decide), lenS]
  have eC : ∀ p : Nat, p < kwS.length → XJ0_charAt_5068e F 1000000 (p : Int) h = some (sch 0 (p : Int), h) := fun p hp => by
    unfold XJ0_charAt_5068e
    rw [if_pos ⟨by decide, by decide, by omega, by rw [lenS]; omega⟩]
  intro s
  induction s with
  | nil =>
    intro p k kk q h1 h2 h3 h4 h5 h6
    obtain ⟨k, rfl⟩ : ∃ k', k = k' + 1 := ⟨k - 1, by omega⟩
    have h2' : p + 0 = kwS.length := h2
    show ((xnn (some 1000000)).bind fun a3 => xb (XJ0_length_8abf5 F a3 h) fun v1 h2 => if v1 ≤ (p : Int) then some (-3, h2) else _) = _
    show (xb (XJ0_length_8abf5 F 1000000 h) fun v1 h2 => if v1 ≤ (p : Int) then some (-3, h2) else _) = _
    rw [b_xb _ _ _ _ eL, if_pos (by omega)]
    rfl
  | cons x s ih =>
    intro p k kk q h1 h2 h3 h4 h5 h6
    obtain ⟨k, rfl⟩ : ∃ k', k = k' + 1 := ⟨k - 1, by omega⟩
    rw [List.length_cons] at h2 h3 h5
    obtain ⟨g1, g2, g3⟩ := kwS_at h1
    have nx : ∀ (k2 : Int) (q2 : Option Nat), (k2 = kk ∨ k2 = kk + 1) → (∀ y, q2 = some y → y ≤ e) → X8_kindOfWord_L86 F (X8_kindOfWord_L10 F k) 2 (a : Int) (e : Int) k2 (qz q2) (p : Int) h = some (kwA c a e s k2 q2, h) := fun k2 q2 w1 w2 => by
      unfold X8_kindOfWord_L86
      rw [w32j (by omega)]
      exact ih (p + 1) k k2 q2 g3 (by omega) (by omega) (by omega) (by omega) w2
    have nn : X8_kindOfWord_L83 F (X8_kindOfWord_L10 F k) 2 (a : Int) (e : Int) kk (p : Int) h = some (kwA c a e s kk none, h) := nx kk none (Or.inl rfl) (fun y w => (by cases w))
    have q0 : ¬ (kwS.length : Int) ≤ (p : Int) := by omega
    show (xb (XJ0_length_8abf5 F 1000000 h) fun v1 h2 => if v1 ≤ (p : Int) then some (-3, h2) else (xnn (some 1000000)).bind fun a7 => xb (XJ0_charAt_5068e F a7 (p : Int) h2) fun v5 h6 => if v5 = 32 then (if qz q = (e : Int) then some (kk, h6) else X8_kindOfWord_L86 F (X8_kindOfWord_L10 F k) 2 (a : Int) (e : Int) (w32 (kk + 1)) (a : Int) (p : Int) h6) else if qz q = -1 then X8_kindOfWord_L83 F (X8_kindOfWord_L10 F k) 2 (a : Int) (e : Int) kk (p : Int) h6 else if (e : Int) ≤ qz q then X8_kindOfWord_L83 F (X8_kindOfWord_L10 F k) 2 (a : Int) (e : Int) kk (p : Int) h6 else (xrc h6 (some 2) 8 17).bind fun a13 => xb (X8_byteAt F a13 (qz q) h6) fun v11 h12 => if v11 = v5 then X8_kindOfWord_L84 F (X8_kindOfWord_L10 F k) 2 (a : Int) (e : Int) kk (p : Int) (w32 (qz q + 1)) h12 else X8_kindOfWord_L83 F (X8_kindOfWord_L10 F k) 2 (a : Int) (e : Int) kk (p : Int) h12) = _
    rw [b_xb _ _ _ _ eL, if_neg q0]
    show (xb (XJ0_charAt_5068e F 1000000 (p : Int) h) fun v5 h6 => _) = _
    rw [b_xb _ _ _ _ (eC p g1), g2]
    unfold kwA
    by_cases c1 : x = 32
    · rw [if_pos c1, if_pos c1]
      by_cases c2 : q = some e
      · rw [if_pos c2, c2, if_pos (show qz (some e) = (e : Int) from rfl)]
      · have c3 : ¬ qz q = (e : Int) := fun w => c2 (by
          cases q with
          | none => have w' : (-1 : Int) = (e : Int) := w; omega
          | some y => have w' : ((y : Nat) : Int) = (e : Int) := w; rw [show y = e by omega])
        rw [if_neg c2, if_neg c3, w32i _ (by omega) (by omega)]
        exact nx (kk + 1) (some a) (Or.inr rfl) (fun y w => (by cases w; exact hae.1))
    · rw [if_neg c1, if_neg c1]
      cases q with
      | none =>
        rw [if_pos (show qz none = -1 from rfl)]
        exact nn
      | some y =>
        have hy := h6 y rfl
        have ey : qz (some y) = (y : Int) := rfl
        rw [ey, if_neg (by omega)]
        by_cases c2 : (e : Int) ≤ (y : Int)
        · rw [if_pos c2, nn]
          show _ = some (if y < e ∧ c y = x then _ else _, h)
          rw [if_neg (by omega)]
        · rw [if_neg c2, cR2 h _ b.1, b_xb _ _ _ _ (B_at b (by omega))]
          show _ = some (if y < e ∧ c y = x then _ else _, h)
          by_cases c3 : c y = x
          · rw [if_pos c3, if_pos ⟨by omega, c3⟩, w32j (by omega)]
            exact nx kk (some (y + 1)) (Or.inl rfl) (fun z w => (by cases w; omega))
          · rw [if_neg c3, if_neg (fun w => c3 w.2)]
            exact nn
theorem B_kind (b : BY c R h) (hF : 500 ≤ F) {i : Nat} (hi : i < R) : X8_kindOf F 2 (i : Int) ((enD c R i : Nat) : Int) h = some (knD c R i, h) := by
  have hR := b.2.1
  have hl := kwS_len
  obtain ⟨e1, e2⟩ := enD_le c hi
  unfold X8_kindOf knD
  rw [cR2 h _ b.1, b_xb _ _ _ _ (B_at b hi)]
  by_cases q : 48 ≤ c i ∧ c i ≤ 57
  · rw [b_xb _ _ _ _ (B_dg1 _ q), if_neg (by decide), if_pos q, w32i _ (by omega) (by omega)]
    by_cases q2 : enD c R i - i ≤ 6
    · rw [if_pos q2, if_pos (by omega)]
    · rw [if_neg q2, if_neg (by omega)]
  · rw [b_xb _ _ _ _ (B_dg0 _ q), if_pos rfl, if_neg q]
    by_cases q2 : 97 ≤ c i ∧ c i ≤ 122
    · rw [b_xb _ _ _ _ (B_lt1 _ q2), if_neg (by decide), if_pos q2, cR2 h _ b.1]
      have x := B_word (F := F) b (a := i) (e := enD c R i) ⟨by omega, e2⟩ kwS 0 F 256 (some i) rfl (Nat.zero_add _) (by omega) (by decide) (by omega) (fun y w => (by cases w; omega))
      have x' : X8_kindOfWord F 2 (i : Int) ((enD c R i : Nat) : Int) h = some (kwA c i (enD c R i) kwS 256 (some i), h) := x
      rw [b_xb _ _ _ _ x']
    · rw [b_xb _ _ _ _ (B_lt0 _ q2), if_pos rfl, if_neg q2]
end SCN
