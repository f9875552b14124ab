/-! the class scans: things one after another -/
def nvD (c : Nat → Int) (R i : Nat) : Int := if knD c R i = -2 then vlD c (enD c R i - i) i 0 else 0
def bgs (c : Nat → Int) (R : Nat) : Nat → Nat → List Nat
  | 0, _ => []
  | f + 1, i => if R ≤ i then [] else if c i = 32 then bgs c R f (i + 1) else i :: bgs c R f (enD c R i)
theorem kwA_ge (c : Nat → Int) (a e : Nat) : ∀ (s : List Int) (k : Int) (q : Option Nat), 0 ≤ k → kwA c a e s k q = -3 ∨ k ≤ kwA c a e s k q := by
  intro s
  induction s with
  | nil => intro k q hk; exact Or.inl rfl
  | cons x s ih =>
    intro k q hk
    unfold kwA
    by_cases c1 : x = 32
    · rw [if_pos c1]
      by_cases c2 : q = some e
      · rw [if_pos c2]; exact Or.inr (by omega)
      · rw [if_neg c2]
        rcases ih (k + 1) (some a) (by omega) with w | w
        · exact Or.inl w
        · exact Or.inr (by omega)
    · rw [if_neg c1]
      cases q with
      | none => exact ih k none hk
      | some y =>
        show (if y < e ∧ c y = x then kwA c a e s k (some (y + 1)) else kwA c a e s k none) = -3 ∨ k ≤ (if y < e ∧ c y = x then kwA c a e s k (some (y + 1)) else kwA c a e s k none)
        by_cases c2 : y < e ∧ c y = x
        · rw [if_pos c2]; exact ih k _ hk
        · rw [if_neg c2]; exact ih k _ hk
theorem knD_2 {c : Nat → Int} {R i : Nat} (hc : 0 ≤ c i) (h : knD c R i = -2) : (48 ≤ c i ∧ c i ≤ 57) ∧ enD c R i - i ≤ 6 := by
  unfold knD at h
  by_cases q : 48 ≤ c i ∧ c i ≤ 57
  · rw [if_pos q] at h
    by_cases q2 : enD c R i - i ≤ 6
    · exact ⟨q, q2⟩
    · rw [if_neg q2] at h; omega
  · rw [if_neg q] at h
    by_cases q2 : 97 ≤ c i ∧ c i ≤ 122
    · rw [if_pos q2] at h
      rcases kwA_ge c i (enD c R i) kwS 256 (some i) (by decide) with w | w
      · omega
      · omega
    · rw [if_neg q2] at h; omega
theorem knD_1 {c : Nat → Int} {R i : Nat} (hc : 0 ≤ c i) : knD c R i ≠ -1 := by
  unfold knD
  by_cases q : 48 ≤ c i ∧ c i ≤ 57
  · rw [if_pos q]
    by_cases q2 : enD c R i - i ≤ 6
    · rw [if_pos q2]; decide
    · rw [if_neg q2]; decide
  · rw [if_neg q]
    by_cases q2 : 97 ≤ c i ∧ c i ≤ 122
    · rw [if_pos q2]
      rcases kwA_ge c i (enD c R i) kwS 256 (some i) (by decide) with w | w
      · omega
      · omega
    · rw [if_neg q2]; omega
theorem enD_dg {c : Nat → Int} {R i : Nat} (q : 48 ≤ c i ∧ c i ≤ 57) : ∀ t, i ≤ t → t < enD c R i → 48 ≤ c t ∧ c t ≤ 57 := by
  intro t h1 h2
  unfold enD at h2
  rw [if_pos q] at h2
  by_cases e : t = i
  · rw [e]; exact q
  · exact rnD_dg c _ _ t (by omega) h2
theorem nvD_in {c : Nat → Int} {R i : Nat} (hc : 0 ≤ c i) (hi : i < R) (h : knD c R i = -2) : 0 ≤ nvD c R i ∧ nvD c R i ≤ 999999 := by
  obtain ⟨q1, q2⟩ := knD_2 hc h
  obtain ⟨e1, e2⟩ := enD_le c hi
  unfold nvD
  rw [if_pos h]
  have x := vlD_in c (enD c R i - i) i 0 0 (fun t w1 w2 => enD_dg (R := R) q1 t w1 (by omega)) (by decide) (by decide)
  have y := lim10_le (0 + (enD c R i - i)) (by omega)
  omega
theorem bgs_in (c : Nat → Int) (R : Nat) : ∀ (f i : Nat), (∀ x ∈ bgs c R f i, i ≤ x ∧ x < R) ∧ (bgs c R f i).length + i ≤ max R i := by
  intro f
  induction f with
  | zero => intro i; exact ⟨fun x hx => (by cases hx), by show 0 + i ≤ _; omega⟩
  | succ f ih =>
    intro i
    unfold bgs
    by_cases q : R ≤ i
    · rw [if_pos q]; exact ⟨fun x hx => (by cases hx), by show 0 + i ≤ _; omega⟩
    rw [if_neg q]
    obtain ⟨e1, e2⟩ := enD_le c (show i < R by omega)
    by_cases q2 : c i = 32
    · rw [if_pos q2]
      obtain ⟨a, b⟩ := ih (i + 1)
      exact ⟨fun x hx => (by have := a x hx; omega), by omega⟩
    · rw [if_neg q2]
      obtain ⟨a, b⟩ := ih (enD c R i)
      refine ⟨fun x hx => ?_, by rw [List.length_cons]; omega⟩
      rcases List.mem_cons.mp hx with w | w
      · rw [w]; omega
      · have := a x w; omega
/-- things by number: kinds, numbers, begins -/
def Kf (c : Nat → Int) (R : Nat) (l : List Nat) (j : Nat) : Int := match l[j]? with | some i => knD c R i | none => -1
def Nf (c : Nat → Int) (R : Nat) (l : List Nat) (j : Nat) : Int := match l[j]? with | some i => nvD c R i | none => 0
def Bf (R : Nat) (l : List Nat) (j : Nat) : Int := match l[j]? with | some i => (i : Int) | none => (R : Int)
theorem Kf_ok {c : Nat → Int} {R : Nat} (hR : R ≤ 400) (hc : ∀ i, i < R → 0 ≤ c i) (l : List Nat) (hl : ∀ x ∈ l, x < R) (hn : l.length ≤ R) : okK (Kf c R l) (Nf c R l) l.length := by
  refine ⟨by omega, fun j => ?_, fun j h => ?_⟩
  · unfold Kf
    cases e : l[j]? with
    | none => exact ⟨fun _ => List.getElem?_eq_none_iff.mp e, fun _ => rfl⟩
    | some i =>
      have m := hl i (List.mem_of_getElem? e)
      have lt := (List.getElem?_eq_some_iff.mp e).1
      exact ⟨fun w => absurd w (knD_1 (hc i m)), fun w => absurd lt (by omega)⟩
  · unfold Kf at h
    unfold Nf
    cases e : l[j]? with
    | none => rw [e] at h; exact absurd (show (-1 : Int) = -2 from h) (by decide)
    | some i =>
      rw [e] at h
      have m := hl i (List.mem_of_getElem? e)
      exact nvD_in (hc i m) m h
section SC2
variable {F : Nat} {c : Nat → Int} {R : Nat} {h : HP}
def addH (h : HP) (t : Nat) (kd i v : Int) : HP := sI (sA (sA (sA h 4 (t : Int) kd) 5 (t : Int) i) 6 (t : Int) v) 2 5 ((t + 1 : Nat) : Int)
theorem addH_ot (h : HP) (t : Nat) (kd i v : Int) : OT h (addH h t kd i v) := (((OT.A h 4 _ _ (by decide)).tr (OT.A _ 5 _ _ (by decide))).tr (OT.A _ 6 _ _ (by decide))).tr (OT.I _ 5 _ (by decide))
theorem addH_by (b : BY c R h) (t : Nat) (kd i v : Int) : BY c R (addH h t kd i v) := by
  obtain ⟨L, hR, q⟩ := b
  refine ⟨L, hR, fun x hx => ?_⟩
  unfold addH
  rw [aI_sIn _ _ _ _ _ (by decide), aI_sAn _ _ _ _ _ (by decide), aI_sAn _ _ _ _ _ (by decide), aI_sAn _ _ _ _ _ (by decide)]
  exact q x hx
theorem addH_at (h : HP) (t : Nat) (kd i v : Int) (m : Nat) : aI (addH h t kd i v) 4 m = (if m = t then kd else aI h 4 m) ∧ aI (addH h t kd i v) 5 m = (if m = t then i else aI h 5 m) ∧ aI (addH h t kd i v) 6 m = (if m = t then v else aI h 6 m) := by
  unfold addH
  rw [aI_sIn _ _ _ _ _ (by decide), aI_sIn _ _ _ _ _ (by decide), aI_sIn _ _ _ _ _ (by decide), aI_sAn _ 6 _ _ 4 (by decide), aI_sAn _ 5 _ _ 4 (by decide), aI_sAn _ 6 _ _ 5 (by decide), aI_sA _ 4 _ _ _ (by omega) (by omega), aI_sA _ 5 _ _ _ (by omega) (by omega), aI_sA _ 6 _ _ _ (by omega) (by omega), aI_sAn _ 4 _ _ 5 (by decide), aI_sAn _ 5 _ _ 6 (by decide), aI_sAn _ 4 _ _ 6 (by decide)]
  by_cases q : m = t
  · rw [if_pos q, if_pos q, if_pos q, if_pos (by omega), if_pos (by omega), if_pos (by omega)]; exact ⟨rfl, rfl, rfl⟩
  · rw [if_neg q, if_neg q, if_neg q, if_neg (by omega), if_neg (by omega), if_neg (by omega)]; exact ⟨rfl, rfl, rfl⟩
theorem E_L59 (L : LayC h) {t : Nat} (ht : gI h 2 5 = t) (h4 : t ≤ 400) (kd i v : Int) : X8_addThing_L59 F 2 kd i v h = some ((), addH h t kd i v) := by
  unfold X8_addThing_L59 addH
  rw [cP2_2 h _ L, cI2 h 5 _ L, ht, cS4 h _ _ _ L (by omega) (by omega), cP2_3 _ _ (by exact L), cI2 _ 5 _ (by exact L), gI_sAn _ _ _ _ _ (by decide), ht, cS5 _ _ _ _ (by exact L) (by omega) (by omega), cP2_4 _ _ (by exact L), cI2 _ 5 _ (by exact L), gI_sAn _ _ _ _ _ (by decide), gI_sAn _ _ _ _ _ (by decide), ht, cS6 _ _ _ _ (by exact L) (by omega) (by omega), cI2 _ 5 _ (by exact L), gI_sAn _ _ _ _ _ (by decide), gI_sAn _ _ _ _ _ (by decide), gI_sAn _ _ _ _ _ (by decide), ht, w32j (by omega), cW2 _ 5 _ _ (by exact L)]
theorem E_L24 (b : BY c R h) {t : Nat} (ht : gI h 2 5 = t) (h4 : t ≤ 400) (i : Int) : ∀ (f p m k : Nat) (a : Int), p + f ≤ R → f < k → m + f ≤ 6 → (∀ x, p ≤ x → x < p + f → 48 ≤ c x ∧ c x ≤ 57) → 0 ≤ a → a < lim10 m → X8_addThing_L24 F k 2 (-2) i ((p + f : Nat) : Int) a (p : Int) h = some ((), addH h t (-2) i (vlD c f p a)) := by
  intro f
  induction f with
  | zero =>
    intro p m k a hp hk hm hd h1 h2
    obtain ⟨k, rfl⟩ : ∃ k', k = k' + 1 := ⟨k - 1, by omega⟩
    show (if (-2 : Int) = -2 then (if ((p + 0 : Nat) : Int) ≤ (p : Int) then X8_addThing_L59 F 2 (-2) i a h else _) else X8_addThing_L59 F 2 (-2) i a h) = _
    rw [if_pos rfl, if_pos (by omega), E_L59 b.1 ht h4]
    rfl
  | succ f ih =>
    intro p m k a hp hk hm hd h1 h2
    obtain ⟨k, rfl⟩ : ∃ k', k = k' + 1 := ⟨k - 1, by omega⟩
    have q0 : ¬ ((p + (f + 1) : Nat) : Int) ≤ (p : Int) := by omega
    have hR := b.2.1
    have dg := hd p (Nat.le_refl _) (by omega)
    have l1 : lim10 (m + 1) = 10 * lim10 m := rfl
    have l2 := lim10_le (m + 1) (by omega)
    have w1 : w32 (10 * a) = 10 * a := w32i _ (by omega) (by omega)
    have w2 : w32 (10 * a + c p) = 10 * a + c p := w32i _ (by omega) (by omega)
    have w3 : w32 (10 * a + c p - 48) = 10 * a + c p - 48 := w32i _ (by omega) (by omega)
    show (if (-2 : Int) = -2 then (if ((p + (f + 1) : Nat) : Int) ≤ (p : Int) then _ else (xrc h (some 2) 8 17).bind fun a5 => xb (X8_byteAt F a5 (p : Int) h) fun v3 h4 => X8_addThing_L24 F k 2 (-2) i ((p + (f + 1) : Nat) : Int) (w32 ((w32 ((w32 (10 * a)) + v3)) - 48)) (w32 ((p : Int) + 1)) h4) else X8_addThing_L59 F 2 (-2) i a h) = _
    rw [if_pos rfl, if_neg q0, cR2 h _ b.1, b_xb _ _ _ _ (B_at b (by omega)), w1, w2, w3, w32j (by omega), show p + (f + 1) = p + 1 + f by omega]
    exact ih (p + 1) (m + 1) k _ (by omega) (by omega) (by omega) (fun x y1 y2 => hd x (by omega) (by omega)) (by omega) (by omega)
theorem E_addE (hF : 500 ≤ F) (L : LayC h) {t : Nat} (ht : gI h 2 5 = t) (h4 : t ≤ 400) (kd i e : Int) (hk : kd ≠ -2) : X8_addThing F 2 kd i e h = some ((), addH h t kd i 0) := by
  obtain ⟨k, rfl⟩ : ∃ k', F = k' + 1 := ⟨F - 1, by omega⟩
  unfold X8_addThing
  rw [cI2 h 5 _ L, ht, if_neg (by omega), cI2 h 5 _ L, ht, if_pos (by omega)]
  show (if kd = -2 then _ else X8_addThing_L59 (k + 1) 2 kd i 0 h) = _
  rw [if_neg hk]
  exact E_L59 L ht h4 kd i 0
theorem E_addT (hF : 500 ≤ F) (b : BY c R h) (hc : ∀ i, i < R → 0 ≤ c i) {t : Nat} (ht : gI h 2 5 = t) (h4 : t ≤ 400) {i : Nat} (hi : i < R) : X8_addThing F 2 (knD c R i) (i : Int) ((enD c R i : Nat) : Int) h = some ((), addH h t (knD c R i) (i : Int) (nvD c R i)) := by
  by_cases q : knD c R i = -2
  · obtain ⟨q1, q2⟩ := knD_2 (hc i hi) q
    obtain ⟨e1, e2⟩ := enD_le c hi
    have L := b.1
    have ev : nvD c R i = vlD c (enD c R i - i) i 0 := by unfold nvD; rw [if_pos q]
    have x := E_L24 (F := F) b ht h4 (i : Int) (enD c R i - i) i 0 F 0 (by omega) (by omega) (by omega) (fun x y1 y2 => enD_dg (R := R) q1 x y1 (by omega)) (by decide) (by decide)
    rw [show i + (enD c R i - i) = enD c R i by omega] at x
    rw [ev, q]
    unfold X8_addThing
    rw [cI2 h 5 _ L, ht, if_neg (by omega), cI2 h 5 _ L, ht, if_pos (by omega)]
    exact x
  · rw [E_addE hF b.1 ht h4 _ _ _ q]
    have ev : nvD c R i = 0 := by unfold nvD; rw [if_neg q]
    rw [ev]
def rowsT (c : Nat → Int) (R : Nat) (h : HP) (t : Nat) (l : List Nat) : Prop := ∀ m i, l[m]? = some i → aI h 4 ((t + m : Nat) : Int) = knD c R i ∧ aI h 5 ((t + m : Nat) : Int) = (i : Int) ∧ aI h 6 ((t + m : Nat) : Int) = nvD c R i
def endT (R : Nat) (h : HP) (t : Nat) : Prop := aI h 4 (t : Int) = -1 ∧ aI h 5 (t : Int) = (R : Int) ∧ aI h 6 (t : Int) = 0
def keepT (h h' : HP) (t : Nat) : Prop := ∀ m : Nat, m < t → aI h' 4 (m : Int) = aI h 4 (m : Int) ∧ aI h' 5 (m : Int) = aI h 5 (m : Int) ∧ aI h' 6 (m : Int) = aI h 6 (m : Int)
theorem E_scanL (hF : 500 ≤ F) (hc : ∀ i, i < R → 0 ≤ c i) : ∀ (f i t k : Nat) (h : HP), BY c R h → R ≤ i + f → f < k → i ≤ R → t ≤ i → gI h 2 5 = t → ∃ h', X8_scan_L7 F k 2 (R : Int) (i : Int) h = some ((), h') ∧ OT h h' ∧ BY c R h' ∧ gI h' 2 5 = ((t + (bgs c R f i).length + 1 : Nat) : Int) ∧ rowsT c R h' t (bgs c R f i) ∧ endT R h' (t + (bgs c R f i).length) ∧ keepT h h' t := by
  have stop : ∀ (i t k : Nat) (h : HP), BY c R h → R ≤ i → 0 < k → t ≤ R → gI h 2 5 = t → ∃ h', X8_scan_L7 F k 2 (R : Int) (i : Int) h = some ((), h') ∧ OT h h' ∧ BY c R h' ∧ gI h' 2 5 = ((t + 0 + 1 : Nat) : Int) ∧ endT R h' (t + 0) ∧ keepT h h' t := by
    intro i t k h b hi hk ht g5
    obtain ⟨k, rfl⟩ : ∃ k', k = k' + 1 := ⟨k - 1, by omega⟩
    have hR := b.2.1
    refine ⟨addH h t (-1) (R : Int) 0, ?_, addH_ot _ _ _ _ _, addH_by b _ _ _ _, gI_sIe _ _ _ _, ?_, fun m hm => ?_⟩
    · show (if (R : Int) ≤ (i : Int) then (xrc h (some 2) 8 17).bind fun a4 => xb (X8_addThing F a4 (-1) (R : Int) (R : Int) h) fun v2 h3 => some ((), h3) else _) = _
      rw [if_pos (by omega), cR2 h _ b.1, b_xb _ _ _ _ (E_addE hF b.1 g5 (by omega) (-1) (R : Int) (R : Int) (by decide))]
    · have x := addH_at h t (-1) (R : Int) 0 t
      rw [if_pos rfl, if_pos rfl, if_pos rfl] at x
      exact x
    · have x := addH_at h t (-1) (R : Int) 0 m
      rw [if_neg (by omega), if_neg (by omega), if_neg (by omega)] at x
      exact x
  intro f
  induction f with
  | zero =>
    intro i t k h b hi hk hiR ht g5
    obtain ⟨h', a1, a2, a3, a4, a5, a6⟩ := stop i t k h b (by omega) (by omega) (by omega) g5
    exact ⟨h', a1, a2, a3, a4, fun m x q => (by cases q), a5, a6⟩
  | succ f ih =>
    intro i t k h b hi hk hiR ht g5
    by_cases q : R ≤ i
    · obtain ⟨h', a1, a2, a3, a4, a5, a6⟩ := stop i t k h b q (by omega) (by omega) g5
      have e : bgs c R (f + 1) i = [] := by unfold bgs; rw [if_pos q]
      rw [e]
      exact ⟨h', a1, a2, a3, a4, fun m x q => (by cases q), a5, a6⟩
    obtain ⟨k, rfl⟩ : ∃ k', k = k' + 1 := ⟨k - 1, by omega⟩
    have hR := b.2.1
    have hi' : i < R := by omega
    obtain ⟨e1, e2⟩ := enD_le c hi'
    have q' : ¬ (R : Int) ≤ (i : Int) := by omega
    have emx : max (w32 ((i : Int) + 1)) ((enD c R i : Nat) : Int) = ((enD c R i : Nat) : Int) := by rw [w32j (by omega)]; omega
    have st : X8_scan_L7 F (k + 1) 2 (R : Int) (i : Int) h = (if c i = 32 then X8_scan_L41 F (X8_scan_L7 F k) 2 (R : Int) (i : Int) ((enD c R i : Nat) : Int) h else (xrc h (some 2) 8 17).bind fun a14 => xb (X8_kindOf F a14 (i : Int) ((enD c R i : Nat) : Int) h) fun v12 h13 => (xrc h13 (some 2) 8 17).bind fun a17 => xb (X8_addThing F a17 v12 (i : Int) ((enD c R i : Nat) : Int) h13) fun v15 h16 => X8_scan_L41 F (X8_scan_L7 F k) 2 (R : Int) (i : Int) ((enD c R i : Nat) : Int) h16) := by
      show (if (R : Int) ≤ (i : Int) then _ else (xrc h (some 2) 8 17).bind fun a7 => xb (X8_endOfThing F a7 (i : Int) (R : Int) h) fun v5 h6 => (xrc h6 (some 2) 8 17).bind fun a10 => xb (X8_byteAt F a10 (i : Int) h6) fun v8 h9 => _) = _
      rw [if_neg q', cR2 h _ b.1, b_xb _ _ _ _ (B_end b hF hi'), cR2 h _ b.1, b_xb _ _ _ _ (B_at b hi')]
      rfl
    rw [st]
    unfold bgs
    rw [if_neg q]
    by_cases c1 : c i = 32
    · rw [if_pos c1, if_pos c1]
      have en : enD c R i = i + 1 := by unfold enD; rw [if_neg (by omega), if_neg (by omega)]
      unfold X8_scan_L41
      rw [emx, en]
      exact ih (i + 1) t k h b (by omega) (by omega) (by omega) (by omega) g5
    · rw [if_neg c1, if_neg c1, cR2 h _ b.1, b_xb _ _ _ _ (B_kind b hF hi'), cR2 h _ b.1, b_xb _ _ _ _ (E_addT hF b hc g5 (by omega) hi')]
      unfold X8_scan_L41
      rw [emx]
      obtain ⟨h', a1, a2, a3, a4, a5, a6, a7⟩ := ih (enD c R i) (t + 1) k (addH h t (knD c R i) (i : Int) (nvD c R i)) (addH_by b _ _ _ _) (by omega) (by omega) (by omega) (by omega) (gI_sIe _ _ _ _)
      have z := addH_at h t (knD c R i) (i : Int) (nvD c R i)
      refine ⟨h', a1, (addH_ot _ _ _ _ _).tr a2, a3, ?_, fun m x w => ?_, ?_, fun m hm => ?_⟩
      · rw [a4, List.length_cons]; omega
      · cases m with
        | zero =>
          have w' : some i = some x := w
          cases w'
          obtain ⟨y1, y2, y3⟩ := a7 t (by omega)
          obtain ⟨z1, z2, z3⟩ := z t
          rw [if_pos rfl] at z1 z2 z3
          rw [Nat.add_zero, y1, y2, y3, z1, z2, z3]
          exact ⟨rfl, rfl, rfl⟩
        | succ m =>
          have w' : (bgs c R f (enD c R i))[m]? = some x := w
          have y := a5 m x w'
          rw [show t + 1 + m = t + (m + 1) by omega] at y
          exact y
      · rw [List.length_cons, show t + ((bgs c R f (enD c R i)).length + 1) = t + 1 + (bgs c R f (enD c R i)).length by omega]
        exact a6
      · obtain ⟨y1, y2, y3⟩ := a7 m (by omega)
        obtain ⟨z1, z2, z3⟩ := z m
        rw [if_neg (by omega)] at z1 z2 z3
        rw [y1, y2, y3, z1, z2, z3]
        exact ⟨rfl, rfl, rfl⟩
end SC2
