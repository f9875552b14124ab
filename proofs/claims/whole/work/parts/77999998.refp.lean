/-! the reference's point on the tape: things from a place on -/
def gbs (c : Nat → Int) (R p : Nat) : List Nat := bgs c R (R - p) p
theorem bgs_fu (c : Nat → Int) (R : Nat) : ∀ (f g i : Nat), R ≤ i + f → R ≤ i + g → bgs c R f i = bgs c R g i := by
  intro f
  induction f with
  | zero =>
    intro g i h1 h2
    cases g with
    | zero => rfl
    | succ g => unfold bgs; rw [if_pos (by omega)]
  | succ f ih =>
    intro g i h1 h2
    cases g with
    | zero => unfold bgs; rw [if_pos (by omega)]
    | succ g =>
      unfold bgs
      by_cases q : R ≤ i
      · rw [if_pos q, if_pos q]
      rw [if_neg q, if_neg q]
      obtain ⟨e1, e2⟩ := enD_le c (show i < R by omega)
      by_cases q2 : c i = 32
      · rw [if_pos q2, if_pos q2]; exact ih g (i + 1) (by omega) (by omega)
      · rw [if_neg q2, if_neg q2, ih g (enD c R i) (by omega) (by omega)]
theorem gbs_end (c : Nat → Int) {R p : Nat} (h : R ≤ p) : gbs c R p = [] := by
  unfold gbs
  rw [Nat.sub_eq_zero_of_le h]
  rfl
theorem gbs_bl (c : Nat → Int) {R p : Nat} (h : p < R) (e : c p = 32) : gbs c R p = gbs c R (p + 1) := by
  unfold gbs
  obtain ⟨f, hf⟩ : ∃ f, R - p = f + 1 := ⟨R - p - 1, by omega⟩
  rw [hf]
  show (if R ≤ p then [] else if c p = 32 then bgs c R f (p + 1) else p :: bgs c R f (enD c R p)) = _
  rw [if_neg (by omega), if_pos e]
  exact bgs_fu c R _ _ _ (by omega) (by omega)
theorem gbs_th (c : Nat → Int) {R p : Nat} (h : p < R) (e : c p ≠ 32) : gbs c R p = p :: gbs c R (enD c R p) := by
  unfold gbs
  obtain ⟨f, hf⟩ : ∃ f, R - p = f + 1 := ⟨R - p - 1, by omega⟩
  obtain ⟨e1, e2⟩ := enD_le c h
  rw [hf]
  show (if R ≤ p then [] else if c p = 32 then bgs c R f (p + 1) else p :: bgs c R f (enD c R p)) = _
  rw [if_neg (by omega), if_neg e, bgs_fu c R f (R - enD c R p) (enD c R p) (by omega) (by omega)]
/-- at p, thing j comes next -/
def atP (c : Nat → Int) (R p j : Nat) : Prop := p ≤ R ∧ j ≤ (Lf c R).length ∧ gbs c R p = (Lf c R).drop j
theorem atP_0 (c : Nat → Int) (R : Nat) : atP c R 0 0 := ⟨Nat.zero_le _, Nat.zero_le _, rfl⟩
theorem atP_bl {c : Nat → Int} {R p j : Nat} (a : atP c R p j) (h : p < R) (e : c p = 32) : atP c R (p + 1) j := ⟨by omega, a.2.1, by rw [← gbs_bl c h e]; exact a.2.2⟩
theorem atP_th {c : Nat → Int} {R p j : Nat} (a : atP c R p j) (h : p < R) (e : c p ≠ 32) : Kf c R (Lf c R) j = knD c R p ∧ Nf c R (Lf c R) j = nvD c R p ∧ Bf R (Lf c R) j = (p : Int) ∧ atP c R (enD c R p) (j + 1) ∧ j < (Lf c R).length := by
  obtain ⟨a1, a2, a3⟩ := a
  rw [gbs_th c h e] at a3
  have hj : j < (Lf c R).length := by
    rcases Nat.lt_or_ge j (Lf c R).length with q | q
    · exact q
    · rw [List.drop_eq_nil_of_le q] at a3; cases a3
  rw [List.drop_eq_getElem_cons hj] at a3
  injection a3 with b1 b2
  have g : (Lf c R)[j]? = some p := by rw [List.getElem?_eq_getElem hj, ← b1]
  obtain ⟨e1, e2⟩ := enD_le c h
  refine ⟨?_, ?_, ?_, ⟨e2, hj, b2⟩, hj⟩
  · unfold Kf; rw [g]
  · unfold Nf; rw [g]
  · unfold Bf; rw [g]
theorem atP_end {c : Nat → Int} {R p j : Nat} (a : atP c R p j) (h : R ≤ p) : Kf c R (Lf c R) j = -1 ∧ Bf R (Lf c R) j = (R : Int) ∧ j = (Lf c R).length := by
  obtain ⟨a1, a2, a3⟩ := a
  rw [gbs_end c h] at a3
  have hj : (Lf c R).length ≤ j := by
    rcases Nat.lt_or_ge j (Lf c R).length with q | q
    · rw [List.drop_eq_getElem_cons q] at a3; cases a3
    · exact q
  have g : (Lf c R)[j]? = none := List.getElem?_eq_none_iff.mpr hj
  refine ⟨?_, ?_, by omega⟩
  · unfold Kf; rw [g]
  · unfold Bf; rw [g]
section RFP
variable {F : Nat} {c : Nat → Int} {R : Nat} {h : HP}
/-- the reference's tape: signed bytes -/
def BM (c : Nat → Int) (R : Nat) (h : HP) : Prop := LayM h ∧ R ≤ 400 ∧ gI h 113 7 = (R : Int) ∧ ∀ i : Nat, i < R → aI h 116 i % 256 = c i ∧ -128 ≤ aI h 116 i ∧ aI h 116 i < 128
theorem BM.f (b : BM c R h) (k : Nat) (v : Int) (hk : k ≠ 7) : BM c R (sI h 113 k v) := by
  obtain ⟨L, hR, e, q⟩ := b
  refine ⟨L, hR, by rw [gI_sIk _ _ _ _ _ (Ne.symm hk)]; exact e, fun i hi => ?_⟩
  rw [aI_sIn _ _ _ _ _ (by decide)]
  exact q i hi
theorem Q_at1 (b : BM c R h) {p : Nat} (hp : gI h 113 6 = (p : Int)) (h1 : p < R) {x y : Int} (hx : 0 ≤ x) (hy : y < 128) (q : x ≤ c p ∧ c p ≤ y) : X12_isAt F 113 x y h = some (1, h) := by
  obtain ⟨L, hR, e, w⟩ := b
  obtain ⟨w1, w2, w3⟩ := w p h1
  unfold X12_isAt
  rw [mI113 h 6 _ L, mI113 h 7 _ L, hp, e, if_neg (by omega), mP113_4 h _ L, mI113 h 6 _ L, hp, mA116 h _ _ L (by omega) (by omega), if_neg (by omega), mP113_4 h _ L, mI113 h 6 _ L, hp, mA116 h _ _ L (by omega) (by omega), if_neg (by omega)]
theorem Q_at0 (b : BM c R h) {p : Nat} (hp : gI h 113 6 = (p : Int)) {x y : Int} (hx : 0 ≤ x) (hy : y < 128) (q : ¬ (p < R ∧ x ≤ c p ∧ c p ≤ y)) : X12_isAt F 113 x y h = some (0, h) := by
  obtain ⟨L, hR, e, w⟩ := b
  unfold X12_isAt
  rw [mI113 h 6 _ L, mI113 h 7 _ L, hp, e]
  by_cases h1 : p < R
  · obtain ⟨w1, w2, w3⟩ := w p h1
    rw [if_neg (by omega), mP113_4 h _ L, mI113 h 6 _ L, hp, mA116 h _ _ L (by omega) (by omega)]
    by_cases q1 : aI h 116 p < x
    · rw [if_pos q1]
    · rw [if_neg q1, mP113_4 h _ L, mI113 h 6 _ L, hp, mA116 h _ _ L (by omega) (by omega), if_pos (by omega)]
  · rw [if_pos (by omega)]
/-- blanks passed: h' is h but for the point and the begin -/
def ptH (h : HP) (p b : Int) : HP := sI (sI h 113 6 p) 113 8 b
theorem sI_idv (h : HP) (a k : Nat) (v : Int) (e : gI h a k = v) : sI h a k v = h := by
  have x : upd2 h.1 a k v = h.1 := by
    funext x y
    show (if x = a ∧ y = k then v else h.1 x y) = h.1 x y
    by_cases q : x = a ∧ y = k
    · rw [if_pos q, q.1, q.2]; exact e.symm
    · rw [if_neg q]
  show (upd2 h.1 a k v, h.2) = h
  rw [x]
theorem ptH_6 (h : HP) (p b u : Int) : ptH (sI h 113 6 u) p b = ptH h p b := by
  have x : upd2 (upd2 (upd2 h.1 113 6 u) 113 6 p) 113 8 b = upd2 (upd2 h.1 113 6 p) 113 8 b := by
    funext x y
    show (if x = 113 ∧ y = 8 then b else if x = 113 ∧ y = 6 then p else if x = 113 ∧ y = 6 then u else h.1 x y) = (if x = 113 ∧ y = 8 then b else if x = 113 ∧ y = 6 then p else h.1 x y)
    by_cases q : x = 113 ∧ y = 6
    · rw [if_pos q, if_pos q]
    · rw [if_neg q, if_neg q, if_neg q]
  show (upd2 (upd2 (upd2 h.1 113 6 u) 113 6 p) 113 8 b, h.2) = (upd2 (upd2 h.1 113 6 p) 113 8 b, h.2)
  rw [x]
theorem ptH_s6 (h : HP) (p b u : Int) : sI (ptH h p b) 113 6 u = ptH h u b := by
  have x : upd2 (upd2 (upd2 h.1 113 6 p) 113 8 b) 113 6 u = upd2 (upd2 h.1 113 6 u) 113 8 b := by
    funext x y
    show (if x = 113 ∧ y = 6 then u else if x = 113 ∧ y = 8 then b else if x = 113 ∧ y = 6 then p else h.1 x y) = (if x = 113 ∧ y = 8 then b else if x = 113 ∧ y = 6 then u else h.1 x y)
    by_cases q : x = 113 ∧ y = 6
    · rw [if_pos q, if_neg (by omega), if_pos q]
    · rw [if_neg q, if_neg q, if_neg q]
  show (upd2 (upd2 (upd2 h.1 113 6 p) 113 8 b) 113 6 u, h.2) = (upd2 (upd2 h.1 113 6 u) 113 8 b, h.2)
  rw [x]
theorem ptH_pt (h : HP) (p b u v : Int) : ptH (ptH h p b) u v = ptH h u v := by
  have x : upd2 (upd2 (upd2 (upd2 h.1 113 6 p) 113 8 b) 113 6 u) 113 8 v = upd2 (upd2 h.1 113 6 u) 113 8 v := by
    funext x y
    show (if x = 113 ∧ y = 8 then v else if x = 113 ∧ y = 6 then u else if x = 113 ∧ y = 8 then b else if x = 113 ∧ y = 6 then p else h.1 x y) = (if x = 113 ∧ y = 8 then v else if x = 113 ∧ y = 6 then u else h.1 x y)
    by_cases q : x = 113 ∧ y = 8
    · rw [if_pos q, if_pos q]
    · rw [if_neg q, if_neg q]
      by_cases q2 : x = 113 ∧ y = 6
      · rw [if_pos q2, if_pos q2, if_neg q]
      · rw [if_neg q2, if_neg q2, if_neg q, if_neg q2]
  show (upd2 (upd2 (upd2 (upd2 h.1 113 6 p) 113 8 b) 113 6 u) 113 8 v, h.2) = (upd2 (upd2 h.1 113 6 u) 113 8 v, h.2)
  rw [x]
theorem ptH_g6 (h : HP) (p b : Int) : gI (ptH h p b) 113 6 = p := by unfold ptH; rw [gI_sIk _ _ _ _ _ (by decide), gI_sIe]
theorem ptH_g8 (h : HP) (p b : Int) : gI (ptH h p b) 113 8 = b := gI_sIe _ _ _ _
theorem BM.pt (b : BM c R h) (p x : Int) : BM c R (ptH h p x) := (b.f 6 p (by decide)).f 8 x (by decide)
theorem Q_blL (hR : R ≤ 400) : ∀ (f p k : Nat) (h : HP), BM c R h → R ≤ p + f → f < k → p ≤ R → gI h 113 6 = (p : Int) → ∃ p' : Nat, X12_blanks_L0 F k 113 h = some ((), ptH h (p' : Int) (p' : Int)) ∧ p ≤ p' ∧ p' ≤ R ∧ (p' < R → c p' ≠ 32) ∧ ∀ j, atP c R p j → atP c R p' j := by
  have stop : ∀ (p k : Nat) (h : HP), BM c R h → 0 < k → gI h 113 6 = (p : Int) → ¬ (p < R ∧ c p = 32) → X12_blanks_L0 F k 113 h = some ((), ptH h (p : Int) (p : Int)) := by
    intro p k h b hk hp q
    obtain ⟨k, rfl⟩ : ∃ k', k = k' + 1 := ⟨k - 1, by omega⟩
    show ((xrc h (some 113) 12 31).bind fun a3 => xb (X12_isAt F a3 32 32 h) fun v1 h2 => if v1 = 0 then (xgI h2 (some 113) 12 31 6).bind fun v5 => (xpI h2 (some 113) 12 31 8 v5).bind fun h6 => some ((), h6) else _) = _
    rw [mR113 h _ b.1, b_xb _ _ _ _ (Q_at0 b hp (by decide) (by decide) (by omega)), if_pos rfl, mI113 h 6 _ b.1, hp, mW113 h 8 _ _ b.1]
    unfold ptH
    rw [sI_idv h 113 6 _ hp]
  intro f
  induction f with
  | zero =>
    intro p k h b hf hk hpR hp
    exact ⟨p, stop p k h b (by omega) hp (by omega), Nat.le_refl _, hpR, fun w => absurd w (by omega), fun j a => a⟩
  | succ f ih =>
    intro p k h b hf hk hpR hp
    by_cases q : p < R ∧ c p = 32
    · obtain ⟨k, rfl⟩ : ∃ k', k = k' + 1 := ⟨k - 1, by omega⟩
      obtain ⟨p', a1, a2, a3, a4, a5⟩ := ih (p + 1) k (sI h 113 6 ((p + 1 : Nat) : Int)) (b.f 6 _ (by decide)) (by omega) (by omega) (by omega) (gI_sIe _ _ _ _)
      refine ⟨p', ?_, by omega, a3, a4, fun j a => a5 j (atP_bl a q.1 q.2)⟩
      rw [ptH_6] at a1
      show ((xrc h (some 113) 12 31).bind fun a3 => xb (X12_isAt F a3 32 32 h) fun v1 h2 => if v1 = 0 then _ else (xgI h2 (some 113) 12 31 6).bind fun v7 => (xpI h2 (some 113) 12 31 6 (w32 (v7 + 1))).bind fun h8 => X12_blanks_L0 F k 113 h8) = _
      rw [mR113 h _ b.1, b_xb _ _ _ _ (Q_at1 b hp q.1 (by decide) (by decide) (by omega)), if_neg (by decide), mI113 h 6 _ b.1, hp, w32j (by omega), mW113 h 6 _ _ b.1]
      exact a1
    · exact ⟨p, stop p k h b (by omega) hp q, Nat.le_refl _, hpR, fun w e => q ⟨w, e⟩, fun j a => a⟩
theorem Q_bl (hF : 500 ≤ F) (b : BM c R h) {p : Nat} (hpR : p ≤ R) (hp : gI h 113 6 = (p : Int)) : ∃ p' : Nat, X12_blanks F 113 h = some ((), ptH h (p' : Int) (p' : Int)) ∧ p ≤ p' ∧ p' ≤ R ∧ (p' < R → c p' ≠ 32) ∧ ∀ j, atP c R p j → atP c R p' j := by
  have hR := b.2.1
  exact Q_blL hR R p F h b (by omega) (by omega) hpR hp
theorem Q_ltL : ∀ (f p k : Nat) (h : HP), BM c R h → p + f = R → f < k → gI h 113 6 = (p : Int) → X12_letters_L4 F k 113 h = some ((), sI h 113 6 ((rnL c f p : Nat) : Int)) := by
  intro f
  induction f with
  | zero =>
    intro p k h b hf hk hp
    obtain ⟨k, rfl⟩ : ∃ k', k = k' + 1 := ⟨k - 1, by omega⟩
    show ((xrc h (some 113) 12 31).bind fun a3 => xb (X12_isAt F a3 97 122 h) fun v1 h2 => if v1 = 0 then some ((), h2) else _) = _
    rw [mR113 h _ b.1, b_xb _ _ _ _ (Q_at0 b hp (by decide) (by decide) (by omega)), if_pos rfl]
    have e : rnL c 0 p = p := rfl
    rw [e, sI_idv h 113 6 _ hp]
  | succ f ih =>
    intro p k h b hf hk hp
    obtain ⟨k, rfl⟩ : ∃ k', k = k' + 1 := ⟨k - 1, by omega⟩
    have hR := b.2.1
    show ((xrc h (some 113) 12 31).bind fun a3 => xb (X12_isAt F a3 97 122 h) fun v1 h2 => if v1 = 0 then some ((), h2) else (xgI h2 (some 113) 12 31 6).bind fun v5 => (xpI h2 (some 113) 12 31 6 (w32 (v5 + 1))).bind fun h6 => X12_letters_L4 F k 113 h6) = _
    unfold rnL
    by_cases q : 97 ≤ c p ∧ c p ≤ 122
    · rw [if_pos q, mR113 h _ b.1, b_xb _ _ _ _ (Q_at1 b hp (by omega) (by decide) (by decide) q), if_neg (by decide), mI113 h 6 _ b.1, hp, w32j (by omega), mW113 h 6 _ _ b.1, ih (p + 1) k _ (b.f 6 _ (by decide)) (by omega) (by omega) (gI_sIe _ _ _ _)]
      congr 2
      have x : upd2 (upd2 h.1 113 6 ((p + 1 : Nat) : Int)) 113 6 ((rnL c f (p + 1) : Nat) : Int) = upd2 h.1 113 6 ((rnL c f (p + 1) : Nat) : Int) := by
        funext x y
        show (if x = 113 ∧ y = 6 then _ else if x = 113 ∧ y = 6 then _ else h.1 x y) = (if x = 113 ∧ y = 6 then _ else h.1 x y)
        by_cases q : x = 113 ∧ y = 6
        · rw [if_pos q, if_pos q]
        · rw [if_neg q, if_neg q, if_neg q]
      exact congrArg (fun z => (z, h.2)) x
    · rw [if_neg q, mR113 h _ b.1, b_xb _ _ _ _ (Q_at0 b hp (by decide) (by decide) (by omega)), if_pos rfl, sI_idv h 113 6 _ hp]
/-- letters: blanks passed, then the letters that stand there -/
theorem Q_lt (hF : 500 ≤ F) (b : BM c R h) {p : Nat} (hpR : p ≤ R) (hp : gI h 113 6 = (p : Int)) : ∃ p' : Nat, X12_letters F 113 h = some ((), ptH h ((rnL c (R - p') p' : Nat) : Int) (p' : Int)) ∧ p ≤ p' ∧ p' ≤ R ∧ (p' < R → c p' ≠ 32) ∧ ∀ j, atP c R p j → atP c R p' j := by
  have hR := b.2.1
  obtain ⟨p', a1, a2, a3, a4, a5⟩ := Q_bl (F := F) hF b hpR hp
  refine ⟨p', ?_, a2, a3, a4, a5⟩
  have x := Q_ltL (F := F) (R - p') p' F (ptH h (p' : Int) (p' : Int)) (b.pt _ _) (by omega) (by omega) (ptH_g6 _ _ _)
  rw [ptH_s6] at x
  unfold X12_letters
  rw [mR113 h _ b.1, b_xb _ _ _ _ a1]
  exact x
theorem rnL_en {p : Nat} (hp : p < R) (q : 97 ≤ c p ∧ c p ≤ 122) : rnL c (R - p) p = enD c R p := by
  obtain ⟨f, hf⟩ : ∃ f, R - p = f + 1 := ⟨R - p - 1, by omega⟩
  unfold enD
  rw [if_neg (by omega), if_pos q, hf, show R - (p + 1) = f by omega]
  show (if 97 ≤ c p ∧ c p ≤ 122 then rnL c f (p + 1) else p) = _
  rw [if_pos q]
theorem rnL_no {p : Nat} (q : ¬ (p < R ∧ 97 ≤ c p ∧ c p ≤ 122)) : rnL c (R - p) p = p := by
  by_cases h : p < R
  · obtain ⟨f, hf⟩ : ∃ f, R - p = f + 1 := ⟨R - p - 1, by omega⟩
    rw [hf]
    show (if 97 ≤ c p ∧ c p ≤ 122 then rnL c f (p + 1) else p) = _
    rw [if_neg (by omega)]
  · rw [Nat.sub_eq_zero_of_le (by omega)]
    rfl
end RFP
