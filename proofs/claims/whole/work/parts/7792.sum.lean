/-! a text's sums: what they come to -/
/-- what a sum reads: the words, the olds, the day, the weather -/
abbrev EnT : Type := (Int → Int) × (Int → Int) × Int × Int
def atV (e : EnT) (w of_ : Int) : Int := if w = -2 then of_ else if w = 269 then e.1 of_ else if w = 270 then e.2.1 of_ else if w = 271 then e.2.2.1 else e.2.2.2
def prV (e : EnT) (p : Prt) : Int := tms p * atV e p.2.2.1 p.2.2.2
def suV (e : EnT) : List Prt → Int → Int
  | [], v => v
  | p :: s, v => suV e s (v + prV e p)
/-- all that is read is a 32-bit number, or what is carried -/
def okE (e : EnT) : Prop := (∀ i : Int, 0 ≤ i → i ≤ 63 → -2147483648 ≤ e.1 i ∧ e.1 i ≤ 2147483648) ∧ (∀ i : Int, 0 ≤ i → i ≤ 63 → -2147483648 ≤ e.2.1 i ∧ e.2.1 i ≤ 2147483648) ∧ (0 ≤ e.2.2.1 ∧ e.2.2.1 ≤ 9) ∧ (0 ≤ e.2.2.2 ∧ e.2.2.2 ≤ 9)
theorem atV_b {e : EnT} (o : okE e) {p : Prt} (k : okP p) : -2147483648 ≤ atV e p.2.2.1 p.2.2.2 ∧ atV e p.2.2.1 p.2.2.2 ≤ 2147483648 := by
  obtain ⟨o1, o2, o3, o4⟩ := o
  obtain ⟨k1, k2⟩ := k
  unfold atV
  rcases k2 with ⟨a, b, c⟩ | ⟨a | a, b, c⟩ | ⟨a | a, b⟩
  · rw [if_pos a]; omega
  · rw [if_neg (by omega), if_pos a]; exact o1 _ b c
  · rw [if_neg (by omega), if_neg (by omega), if_pos a]; exact o2 _ b c
  · rw [if_neg (by omega), if_neg (by omega), if_neg (by omega), if_pos a]; omega
  · rw [if_neg (by omega), if_neg (by omega), if_neg (by omega), if_neg (by omega)]; omega
theorem tms_b {p : Prt} (k : okP p) : -999999 ≤ tms p ∧ tms p ≤ 999999 := by
  obtain ⟨k1, k2⟩ := k
  have : 0 ≤ p.2.1.getD 1 ∧ p.2.1.getD 1 ≤ 999999 := by
    cases e : p.2.1 with
    | none => exact ⟨by decide, by decide⟩
    | some m => exact k1 m e
  unfold tms
  cases p.1 with
  | true => rw [if_pos rfl]; omega
  | false => rw [if_neg (by decide)]; omega
theorem mul_ab (a b A B : Int) (h1 : -A ≤ a) (h2 : a ≤ A) (h3 : -B ≤ b) (h4 : b ≤ B) (hA : 0 ≤ A) (hB : 0 ≤ B) : -(A * B) ≤ a * b ∧ a * b ≤ A * B := by
  have x : (a * b).natAbs ≤ (A * B).natAbs := by
    rw [Int.natAbs_mul, Int.natAbs_mul]
    exact Nat.mul_le_mul (by omega) (by omega)
  have y : 0 ≤ A * B := Int.mul_nonneg hA hB
  omega
theorem prV_b {e : EnT} (o : okE e) {p : Prt} (k : okP p) : -2147481500516352 ≤ prV e p ∧ prV e p ≤ 2147481500516352 := by
  have t := tms_b k
  have a := atV_b o k
  have := mul_ab (tms p) (atV e p.2.2.1 p.2.2.2) 999999 2147483648 t.1 t.2 a.1 a.2 (by decide) (by decide)
  unfold prV
  omega
theorem suV_b {e : EnT} (o : okE e) : ∀ (s : List Prt) (v : Int), (∀ p ∈ s, okP p) → v - s.length * 2147481500516352 ≤ suV e s v ∧ suV e s v ≤ v + s.length * 2147481500516352 := by
  intro s
  induction s with
  | nil => intro v _; unfold suV; simp
  | cons p s ih =>
    intro v h
    have b := prV_b o (h p (by simp))
    have := ih (v + prV e p) (fun q hq => h q (by simp [hq]))
    unfold suV
    rw [List.length_cons]
    omega
section SU2
variable {F : Nat}
theorem sI_sI (h : HP) (a k : Nat) (v w : Int) : sI (sI h a k v) a k w = sI h a k w := by
  show (upd2 (upd2 h.1 a k v) a k w, h.2) = (upd2 h.1 a k w, h.2)
  congr 1
  funext x y
  unfold upd2
  split <;> rfl
/-- the class's doer over a text: its code, and what is read -/
def DoC (h : HP) (c : List Int) (cw : Int) (e : EnT) : Prop := LayC h ∧ (∃ t q n : Nat, 126 < t ∧ 126 < q ∧ gP h 10 1 = some t ∧ gS h t = (9, 4) ∧ gP h t 0 = some q ∧ gS h q = (100, n) ∧ c.length ≤ n ∧ n ≤ 1208 ∧ ∀ (i : Nat) (z : Int), c[i]? = some z → aI h q i = z) ∧ gI h 10 5 = cw ∧ (0 ≤ cw → gJ h 10 6 = e.1 cw) ∧ (∀ i : Int, 0 ≤ i → i ≤ 63 → i ≠ cw → aI h 12 i = e.1 i) ∧ (∀ i : Int, 0 ≤ i → i ≤ 63 → aI h 13 i = e.2.1 i) ∧ gI h 10 3 = e.2.2.1 ∧ gI h 10 4 = e.2.2.2
theorem DoC.at {h : HP} {c : List Int} {cw : Int} {e : EnT} (d : DoC h c cw e) (v : Int) : DoC (sI h 10 2 v) c cw e := by
  obtain ⟨L, ⟨t, q, n, t1, t2, t3, t4, t5, t6, t7, t8, t9⟩, d1, d2, d3, d4, d5, d6⟩ := d
  refine ⟨L, ⟨t, q, n, t1, t2, t3, t4, t5, t6, t7, t8, fun i z e => by rw [aI_sIn _ _ _ _ _ (by omega)]; exact t9 i z e⟩, by rw [gI_sIk _ _ _ _ _ (by decide)]; exact d1, d2, fun i h1 h2 h3 => by rw [aI_sIn _ _ _ _ _ (by decide)]; exact d3 i h1 h2 h3, fun i h1 h2 => by rw [aI_sIn _ _ _ _ _ (by decide)]; exact d4 i h1 h2, by rw [gI_sIk _ _ _ _ _ (by decide)]; exact d5, by rw [gI_sIk _ _ _ _ _ (by decide)]; exact d6⟩
theorem E_codeAt {h : HP} (t q n : Nat) (t4 : gS h t = (9, 4)) (t5 : gP h t 0 = some q) (t6 : gS h q = (100, n)) (i : Nat) (hi : i < n) (hn : n ≤ 1208) : X9_codeAt F t i h = some (aI h q i, h) := by
  unfold X9_codeAt
  have c1 : ¬ (i : Int) < 0 := by omega
  have c2 : ¬ (n : Int) ≤ i := by omega
  rw [if_neg c1, b_gP h t 9 4 0 _ (some q) t4 t5, b_al h q 100 n _ t6 ⟨by decide, by decide, by omega⟩, if_neg c2, b_gP h t 9 4 0 _ (some q) t4 t5, b_aI h q 100 i _ n t6 (by omega) (by omega)]
theorem E_next {h : HP} {c : List Int} {cw : Int} {e : EnT} (d : DoC h c cw e) (i : Nat) (z : Int) (hz : c[i]? = some z) : X1_nextCode F 10 (sI h 10 2 i) = some (z, sI h 10 2 ((i + 1 : Nat) : Int)) := by
  obtain ⟨L, ⟨t, q, n, t1, t2, t3, t4, t5, t6, t7, t8, t9⟩, d1, d2, d3, d4, d5, d6⟩ := d.at i
  have hi : i < c.length := (List.getElem?_eq_some_iff.mp hz).1
  have e1 : w32 ((i : Int) + 1) = ((i + 1 : Nat) : Int) := by rw [w32i _ (by omega) (by omega)]; omega
  have ez := t9 i z hz
  have g2 : gI (sI h 10 2 i) 10 2 = i := gI_sIe _ _ _ _
  have gp : (xgP (sI h 10 2 i) (some 10) 1 8 1).bind (fun v1 => if v1 = none then X1_nextCode_L22 F 10 0 (sI h 10 2 i) else (xgP (sI h 10 2 i) (some 10) 1 8 1).bind fun v3 => (xgI (sI h 10 2 i) (some 10) 1 8 2).bind fun v4 => (xrc (sI h 10 2 i) v3 9 4).bind fun a7 => xb (X9_codeAt F a7 v4 (sI h 10 2 i)) fun v5 h6 => X1_nextCode_L22 F 10 v5 h6) = X1_nextCode F 10 (sI h 10 2 i) := rfl
  have b10 : ∀ {β : Type} (f : Option Nat → Option β), (xgP (sI h 10 2 i) (some 10) 1 8 1).bind f = f (some t) := fun f => b_gP _ 10 1 8 1 f (some t) L.2.2.2.2.2.2.2.2.2.1 t3
  have ca : X9_codeAt F t i (sI h 10 2 i) = some (z, sI h 10 2 i) := (E_codeAt (F := F) t q n t4 t5 t6 i (Nat.lt_of_lt_of_le hi t7) t8).trans (by rw [ez])
  rw [← gp, b10, if_neg (by intro e; cases e), b10, cI10 _ 2 _ L, g2, b_rc _ t 9 4 _ t4, b_xb _ _ _ _ ca]
  unfold X1_nextCode_L22
  rw [cI10 _ 2 _ L, g2, cW10 _ 2 _ _ L, e1, sI_sI]
theorem E_atom {h : HP} {c : List Int} {cw : Int} {e : EnT} (d : DoC h c cw e) {p : Prt} (k : okP p) : X1_atom F 10 p.2.2.1 p.2.2.2 h = some (atV e p.2.2.1 p.2.2.2, h) := by
  obtain ⟨L, -, d1, d2, d3, d4, d5, d6⟩ := d
  obtain ⟨k1, k2⟩ := k
  rcases k2 with ⟨a, b, c⟩ | ⟨a | a, b, c⟩ | ⟨a | a, b⟩
  · have ea : atV e p.2.2.1 p.2.2.2 = p.2.2.2 := by unfold atV; rw [if_pos a]
    rw [ea]; unfold X1_atom; rw [if_pos a]
  · have ea : atV e p.2.2.1 p.2.2.2 = e.1 p.2.2.2 := by unfold atV; rw [if_neg (by omega), if_pos a]
    rw [ea]; unfold X1_atom
    rw [if_neg (by omega), if_pos a]
    by_cases x : p.2.2.2 = cw
    · have y := d2 (by omega)
      rw [cI10 h 5 _ L, d1, if_pos x, cJ10 h 6 _ L, y, x]
    · have y := d3 _ b c x
      have ew := E_wordAt (F := F) (h := h) p.2.2.2 L ⟨b, by omega⟩
      rw [cI10 h 5 _ L, d1, if_neg x, cP10_0 h _ L, cR11 h _ L, b_xb _ _ _ _ ew, y]
  · have ea : atV e p.2.2.1 p.2.2.2 = e.2.1 p.2.2.2 := by unfold atV; rw [if_neg (by omega), if_neg (by omega), if_pos a]
    have y := d4 _ b c
    have ew := E_oldAt (F := F) (h := h) p.2.2.2 L ⟨b, by omega⟩
    rw [ea]; unfold X1_atom
    rw [if_neg (by omega), if_neg (by omega), if_pos a, cP10_0 h _ L, cR11 h _ L, b_xb _ _ _ _ ew, y]
  · have ea : atV e p.2.2.1 p.2.2.2 = e.2.2.1 := by unfold atV; rw [if_neg (by omega), if_neg (by omega), if_neg (by omega), if_pos a]
    rw [ea]; unfold X1_atom
    rw [if_neg (by omega), if_neg (by omega), if_neg (by omega), if_pos a, cI10 h 3 _ L, d5]
  · have ea : atV e p.2.2.1 p.2.2.2 = e.2.2.2 := by unfold atV; rw [if_neg (by omega), if_neg (by omega), if_neg (by omega), if_neg (by omega)]
    rw [ea]; unfold X1_atom
    rw [if_neg (by omega), if_neg (by omega), if_neg (by omega), if_neg (by omega), if_pos a, cI10 h 4 _ L, d6]
theorem E_sm10 {h : HP} {c : List Int} {cw : Int} {e : EnT} (d : DoC h c cw e) (o : okE e) (n : Nat) (hn : n ≤ 400) : ∀ (s : List Prt) (i j k : Nat) (v : Int), s.length < k → j + s.length = n → (∀ p ∈ s, okP p) → (∀ (x : Nat) (z : Int), (s.flatMap prtC)[x]? = some z → c[i + x]? = some z) → -(j * 2147481500516352) ≤ v → v ≤ j * 2147481500516352 → X1_sum_L10 F k 10 n v j (sI h 10 2 i) = some (suV e s v, sI h 10 2 ((i + (s.flatMap prtC).length : Nat) : Int)) := by
  intro s
  induction s with
  | nil =>
    intro i j k v hk hj _ _ _ _
    obtain ⟨k, rfl⟩ : ∃ k', k = k' + 1 := ⟨k - 1, by omega⟩
    rw [X1_sum_L10_s, if_pos (by simp at hj; omega)]; rfl
  | cons p s ih =>
    intro i j k v hk hj ok hc v0 v1
    obtain ⟨k, rfl⟩ : ∃ k', k = k' + 1 := ⟨k - 1, by omega⟩
    rw [List.length_cons] at hj hk
    have e1 : w32 ((j : Int) + 1) = ((j + 1 : Nat) : Int) := by rw [w32i _ (by omega) (by omega)]; omega
    have kp := ok p (by simp)
    have fm : (p :: s).flatMap prtC = tms p :: p.2.2.1 :: p.2.2.2 :: s.flatMap prtC := rfl
    rw [fm] at hc ⊢
    have x0 := E_next (F := F) d i _ (hc 0 _ rfl)
    have x1 := E_next (F := F) d (i + 1) _ (by have := hc 1 _ rfl; exact this)
    have x2 := E_next (F := F) d (i + 1 + 1) _ (by have := hc 2 _ rfl; exact this)
    have xa := E_atom (F := F) (d.at ((i + 1 + 1 + 1 : Nat) : Int)) kp
    have b := prV_b o kp
    have ew : w64 (tms p * atV e p.2.2.1 p.2.2.2) = prV e p := by unfold prV at b ⊢; exact w64i _ (by omega) (by omega)
    have ev : w64 (v + prV e p) = v + prV e p := w64i _ (by omega) (by omega)
    have hr := ih (i + 3) (j + 1) k (v + prV e p) (by omega) (by omega) (fun q hq => ok q (by simp [hq])) (fun x z hx => by have := hc (x + 3) z hx; rw [show i + 3 + x = i + (x + 3) by omega]; exact this) (by omega) (by omega)
    have L := d.1
    rw [X1_sum_L10_s, if_neg (by omega), if_neg (by omega), cR10 _ _ (d.at _).1, b_xb _ _ _ _ x0, cR10 _ _ (d.at _).1, b_xb _ _ _ _ x1, cR10 _ _ (d.at _).1, b_xb _ _ _ _ x2, cR10 _ _ (d.at _).1, b_xb _ _ _ _ xa, ew, ev, e1]
    rw [show i + 1 + 1 + 1 = i + 3 by omega, hr]
    rw [List.length_cons, List.length_cons, List.length_cons, show i + 3 + (s.flatMap prtC).length = i + ((s.flatMap prtC).length + 1 + 1 + 1) by omega]
    rfl
/-- a whole sum -/
theorem E_sumC {h : HP} {c : List Int} {cw : Int} {e : EnT} (hF : 500 ≤ F) (d : DoC h c cw e) (o : okE e) (s : List Prt) (ks : okS s) (i : Nat) (hc : ∀ (x : Nat) (z : Int), (sumC s)[x]? = some z → c[i + x]? = some z) : X1_sum F 10 (sI h 10 2 i) = some (suV e s 0, sI h 10 2 ((i + (sumC s).length : Nat) : Int)) := by
  obtain ⟨k1, k2, k3, k4⟩ := ks
  have x0 := E_next (F := F) d i _ (hc 0 _ rfl)
  have y := E_sm10 (F := F) d o s.length k2 s (i + 1) 0 F 0 (by omega) (by omega) k3 (fun x z hx => by have := hc (x + 1) z hx; rw [show i + 1 + x = i + (x + 1) by omega]; exact this) (by omega) (by omega)
  unfold X1_sum
  rw [cR10 _ _ (d.at _).1, b_xb _ _ _ _ x0]
  have e2 : (sumC s).length = (s.flatMap prtC).length + 1 := rfl
  rw [e2, show i + ((s.flatMap prtC).length + 1) = i + 1 + (s.flatMap prtC).length by omega]
  exact y
end SU2
