/-! a job set up by the class, laid by the reference -/
def suH (h : HP) (p : Nat) (a b c d e : Int) (t : Nat) : HP := sI (sI (sI (sI (sI (sI (sI (sI (sI (sI (sI (sI (sP (sI (sI (sI (sI (sI h p 0 a) p 1 b) p 2 c) p 3 d) p 4 e) p 5 (some t)) p 6 0) p 7 0) p 8 0) p 9 0) p 10 0) p 11 0) p 12 0) p 13 0) p 14 (-1)) p 15 0) p 16 0) p 17 0
theorem all_S {h h' : HP} (fS : ∀ a, a ≤ 126 → gS h' a = gS h a) (a : Nat) (g : a + 12 ≤ 126) : (∀ i : Nat, i < 12 → gS h' (a + i) = (2, 18)) = (∀ i : Nat, i < 12 → gS h (a + i) = (2, 18)) := by
  apply propext
  constructor
  · intro q i hi
    rw [← fS _ (by omega)]; exact q i hi
  · intro q i hi
    rw [fS _ (by omega)]; exact q i hi
theorem all_P {h h' : HP} (b a : Nat) (e : gP h' b = gP h b) : (∀ i : Nat, i < 12 → gP h' b i = some (a + i)) = (∀ i : Nat, i < 12 → gP h b i = some (a + i)) := by rw [e]
def jpl (a : Nat) : Prop := 25 ≤ a ∧ a ≤ 36
theorem LayC.le {h h' : HP} (fS : ∀ a, a ≤ 126 → gS h' a = gS h a) (fP : ∀ a, a ≤ 126 → (a < 25 ∨ 36 < a) → gP h' a = gP h a) (L : LayC h) : LayC h' := by
  have e : LayC h' = LayC h := by
    unfold LayC
    rw [all_S fS 25 (by omega), all_P 20 25 (fP 20 (by omega) (by omega))]
    simp (disch := omega) only [fS, fP]
  rw [e]; exact L
theorem LayK.le {h h' : HP} (fS : ∀ a, a ≤ 126 → gS h' a = gS h a) (fP : ∀ a, a ≤ 126 → (a < 25 ∨ 36 < a) → gP h' a = gP h a) (L : LayK h) : LayK h' := by
  have e : LayK h' = LayK h := by
    unfold LayK
    rw [all_S fS 72 (by omega), all_P 67 72 (fP 67 (by omega) (by omega))]
    simp (disch := omega) only [fS, fP]
  rw [e]; exact L
theorem LayM.le {h h' : HP} (fS : ∀ a, a ≤ 126 → gS h' a = gS h a) (fP : ∀ a, a ≤ 126 → (a < 25 ∨ 36 < a) → gP h' a = gP h a) (L : LayM h) : LayM h' := by
  have e : LayM h' = LayM h := by
    unfold LayM
    simp (disch := omega) only [fS, fP]
  rw [e]; exact L
section SUJ
variable {F : Nat} {h : HP} {a b c d e : Int} {t : Nat}
theorem LayC_sPj (L : LayC h) (j : Nat) (hj : j < 12) (v : Option Nat) : LayC (sP h (25 + j) 5 v) := LayC.le (h := h) (fun _ _ => rfl) (fun x h1 h2 => gP_sPn h (25 + j) 5 v x (by omega)) L
theorem E_setUp (L : LayC h) (j : Nat) (hj : j < 12) (he : e = 0 ∨ e = 1) : X2_setUp F (25 + j) a b c d e (some t) h = some ((), suH h (25 + j) a b c d e t) := by
  have L5 : LayC (sP (sI (sI (sI (sI (sI h (25 + j) 0 a) (25 + j) 1 b) (25 + j) 2 c) (25 + j) 3 d) (25 + j) 4 e) (25 + j) 5 (some t)) := LayC_sPj (by exact L) j hj _
  unfold X2_setUp suH
  rw [cWj h j 0 _ _ L hj, cWj _ j 1 _ _ (by exact L) hj, cWj _ j 2 _ _ (by exact L) hj, cWj _ j 3 _ _ (by exact L) hj, cZj _ j 4 _ _ (by exact L) hj he, cQj _ j 5 _ _ (by exact L) hj, cWj _ j 6 _ _ (by exact L5) hj, cWj _ j 7 _ _ (by exact L5) hj, cWj _ j 8 _ _ (by exact L5) hj, cWj _ j 9 _ _ (by exact L5) hj, cWj _ j 10 _ _ (by exact L5) hj, cWj _ j 11 _ _ (by exact L5) hj, cWj _ j 12 _ _ (by exact L5) hj, cWj _ j 13 _ _ (by exact L5) hj, cWj _ j 14 _ _ (by exact L5) hj, cWj _ j 15 _ _ (by exact L5) hj, cWj _ j 16 _ _ (by exact L5) hj, cWj _ j 17 _ _ (by exact L5) hj]
theorem suH_0 (p : Nat) : gI (suH h p a b c d e t) p 0 = a := by
  unfold suH
  rw [gI_sIk _ _ _ _ _ (by decide), gI_sIk _ _ _ _ _ (by decide), gI_sIk _ _ _ _ _ (by decide), gI_sIk _ _ _ _ _ (by decide), gI_sIk _ _ _ _ _ (by decide), gI_sIk _ _ _ _ _ (by decide), gI_sIk _ _ _ _ _ (by decide), gI_sIk _ _ _ _ _ (by decide), gI_sIk _ _ _ _ _ (by decide), gI_sIk _ _ _ _ _ (by decide), gI_sIk _ _ _ _ _ (by decide), gI_sIk _ _ _ _ _ (by decide), gI_sP, gI_sIk _ _ _ _ _ (by decide), gI_sIk _ _ _ _ _ (by decide), gI_sIk _ _ _ _ _ (by decide), gI_sIk _ _ _ _ _ (by decide), gI_sIe]
theorem suH_1 (p : Nat) : gI (suH h p a b c d e t) p 1 = b := by
  unfold suH
  rw [gI_sIk _ _ _ _ _ (by decide), gI_sIk _ _ _ _ _ (by decide), gI_sIk _ _ _ _ _ (by decide), gI_sIk _ _ _ _ _ (by decide), gI_sIk _ _ _ _ _ (by decide), gI_sIk _ _ _ _ _ (by decide), gI_sIk _ _ _ _ _ (by decide), gI_sIk _ _ _ _ _ (by decide), gI_sIk _ _ _ _ _ (by decide), gI_sIk _ _ _ _ _ (by decide), gI_sIk _ _ _ _ _ (by decide), gI_sIk _ _ _ _ _ (by decide), gI_sP, gI_sIk _ _ _ _ _ (by decide), gI_sIk _ _ _ _ _ (by decide), gI_sIk _ _ _ _ _ (by decide), gI_sIe]
theorem suH_2 (p : Nat) : gI (suH h p a b c d e t) p 2 = c := by
  unfold suH
  rw [gI_sIk _ _ _ _ _ (by decide), gI_sIk _ _ _ _ _ (by decide), gI_sIk _ _ _ _ _ (by decide), gI_sIk _ _ _ _ _ (by decide), gI_sIk _ _ _ _ _ (by decide), gI_sIk _ _ _ _ _ (by decide), gI_sIk _ _ _ _ _ (by decide), gI_sIk _ _ _ _ _ (by decide), gI_sIk _ _ _ _ _ (by decide), gI_sIk _ _ _ _ _ (by decide), gI_sIk _ _ _ _ _ (by decide), gI_sIk _ _ _ _ _ (by decide), gI_sP, gI_sIk _ _ _ _ _ (by decide), gI_sIk _ _ _ _ _ (by decide), gI_sIe]
theorem suH_3 (p : Nat) : gI (suH h p a b c d e t) p 3 = d := by
  unfold suH
  rw [gI_sIk _ _ _ _ _ (by decide), gI_sIk _ _ _ _ _ (by decide), gI_sIk _ _ _ _ _ (by decide), gI_sIk _ _ _ _ _ (by decide), gI_sIk _ _ _ _ _ (by decide), gI_sIk _ _ _ _ _ (by decide), gI_sIk _ _ _ _ _ (by decide), gI_sIk _ _ _ _ _ (by decide), gI_sIk _ _ _ _ _ (by decide), gI_sIk _ _ _ _ _ (by decide), gI_sIk _ _ _ _ _ (by decide), gI_sIk _ _ _ _ _ (by decide), gI_sP, gI_sIk _ _ _ _ _ (by decide), gI_sIe]
theorem suH_4 (p : Nat) : gI (suH h p a b c d e t) p 4 = e := by
  unfold suH
  rw [gI_sIk _ _ _ _ _ (by decide), gI_sIk _ _ _ _ _ (by decide), gI_sIk _ _ _ _ _ (by decide), gI_sIk _ _ _ _ _ (by decide), gI_sIk _ _ _ _ _ (by decide), gI_sIk _ _ _ _ _ (by decide), gI_sIk _ _ _ _ _ (by decide), gI_sIk _ _ _ _ _ (by decide), gI_sIk _ _ _ _ _ (by decide), gI_sIk _ _ _ _ _ (by decide), gI_sIk _ _ _ _ _ (by decide), gI_sIk _ _ _ _ _ (by decide), gI_sP, gI_sIe]
theorem suH_6 (p : Nat) : gI (suH h p a b c d e t) p 6 = 0 := by
  unfold suH
  rw [gI_sIk _ _ _ _ _ (by decide), gI_sIk _ _ _ _ _ (by decide), gI_sIk _ _ _ _ _ (by decide), gI_sIk _ _ _ _ _ (by decide), gI_sIk _ _ _ _ _ (by decide), gI_sIk _ _ _ _ _ (by decide), gI_sIk _ _ _ _ _ (by decide), gI_sIk _ _ _ _ _ (by decide), gI_sIk _ _ _ _ _ (by decide), gI_sIk _ _ _ _ _ (by decide), gI_sIk _ _ _ _ _ (by decide), gI_sIe]
theorem suH_7 (p : Nat) : gI (suH h p a b c d e t) p 7 = 0 := by
  unfold suH
  rw [gI_sIk _ _ _ _ _ (by decide), gI_sIk _ _ _ _ _ (by decide), gI_sIk _ _ _ _ _ (by decide), gI_sIk _ _ _ _ _ (by decide), gI_sIk _ _ _ _ _ (by decide), gI_sIk _ _ _ _ _ (by decide), gI_sIk _ _ _ _ _ (by decide), gI_sIk _ _ _ _ _ (by decide), gI_sIk _ _ _ _ _ (by decide), gI_sIk _ _ _ _ _ (by decide), gI_sIe]
theorem suH_8 (p : Nat) : gI (suH h p a b c d e t) p 8 = 0 := by
  unfold suH
  rw [gI_sIk _ _ _ _ _ (by decide), gI_sIk _ _ _ _ _ (by decide), gI_sIk _ _ _ _ _ (by decide), gI_sIk _ _ _ _ _ (by decide), gI_sIk _ _ _ _ _ (by decide), gI_sIk _ _ _ _ _ (by decide), gI_sIk _ _ _ _ _ (by decide), gI_sIk _ _ _ _ _ (by decide), gI_sIk _ _ _ _ _ (by decide), gI_sIe]
theorem suH_9 (p : Nat) : gI (suH h p a b c d e t) p 9 = 0 := by
  unfold suH
  rw [gI_sIk _ _ _ _ _ (by decide), gI_sIk _ _ _ _ _ (by decide), gI_sIk _ _ _ _ _ (by decide), gI_sIk _ _ _ _ _ (by decide), gI_sIk _ _ _ _ _ (by decide), gI_sIk _ _ _ _ _ (by decide), gI_sIk _ _ _ _ _ (by decide), gI_sIk _ _ _ _ _ (by decide), gI_sIe]
theorem suH_10 (p : Nat) : gI (suH h p a b c d e t) p 10 = 0 := by
  unfold suH
  rw [gI_sIk _ _ _ _ _ (by decide), gI_sIk _ _ _ _ _ (by decide), gI_sIk _ _ _ _ _ (by decide), gI_sIk _ _ _ _ _ (by decide), gI_sIk _ _ _ _ _ (by decide), gI_sIk _ _ _ _ _ (by decide), gI_sIk _ _ _ _ _ (by decide), gI_sIe]
theorem suH_11 (p : Nat) : gI (suH h p a b c d e t) p 11 = 0 := by
  unfold suH
  rw [gI_sIk _ _ _ _ _ (by decide), gI_sIk _ _ _ _ _ (by decide), gI_sIk _ _ _ _ _ (by decide), gI_sIk _ _ _ _ _ (by decide), gI_sIk _ _ _ _ _ (by decide), gI_sIk _ _ _ _ _ (by decide), gI_sIe]
theorem suH_12 (p : Nat) : gI (suH h p a b c d e t) p 12 = 0 := by
  unfold suH
  rw [gI_sIk _ _ _ _ _ (by decide), gI_sIk _ _ _ _ _ (by decide), gI_sIk _ _ _ _ _ (by decide), gI_sIk _ _ _ _ _ (by decide), gI_sIk _ _ _ _ _ (by decide), gI_sIe]
theorem suH_13 (p : Nat) : gI (suH h p a b c d e t) p 13 = 0 := by
  unfold suH
  rw [gI_sIk _ _ _ _ _ (by decide), gI_sIk _ _ _ _ _ (by decide), gI_sIk _ _ _ _ _ (by decide), gI_sIk _ _ _ _ _ (by decide), gI_sIe]
theorem suH_14 (p : Nat) : gI (suH h p a b c d e t) p 14 = -1 := by
  unfold suH
  rw [gI_sIk _ _ _ _ _ (by decide), gI_sIk _ _ _ _ _ (by decide), gI_sIk _ _ _ _ _ (by decide), gI_sIe]
theorem suH_15 (p : Nat) : gI (suH h p a b c d e t) p 15 = 0 := by
  unfold suH
  rw [gI_sIk _ _ _ _ _ (by decide), gI_sIk _ _ _ _ _ (by decide), gI_sIe]
theorem suH_16 (p : Nat) : gI (suH h p a b c d e t) p 16 = 0 := by
  unfold suH
  rw [gI_sIk _ _ _ _ _ (by decide), gI_sIe]
theorem suH_17 (p : Nat) : gI (suH h p a b c d e t) p 17 = 0 := by
  unfold suH
  rw [gI_sIe]
theorem suH_n (p x : Nat) (q : x ≠ p) : gI (suH h p a b c d e t) x = gI h x := by
  unfold suH
  rw [gI_sIn _ _ _ _ _ q, gI_sIn _ _ _ _ _ q, gI_sIn _ _ _ _ _ q, gI_sIn _ _ _ _ _ q, gI_sIn _ _ _ _ _ q, gI_sIn _ _ _ _ _ q, gI_sIn _ _ _ _ _ q, gI_sIn _ _ _ _ _ q, gI_sIn _ _ _ _ _ q, gI_sIn _ _ _ _ _ q, gI_sIn _ _ _ _ _ q, gI_sIn _ _ _ _ _ q, gI_sP, gI_sIn _ _ _ _ _ q, gI_sIn _ _ _ _ _ q, gI_sIn _ _ _ _ _ q, gI_sIn _ _ _ _ _ q, gI_sIn _ _ _ _ _ q]
theorem suH_P (p x k : Nat) (q : ¬ (x = p ∧ k = 5)) : gP (suH h p a b c d e t) x k = gP h x k := by
  show (if x = p ∧ k = 5 then some t else gP h x k) = _
  rw [if_neg q]
theorem suH_p (p : Nat) : gP (suH h p a b c d e t) p 5 = some t := by
  show (if p = p ∧ 5 = 5 then some t else _) = _
  rw [if_pos ⟨rfl, rfl⟩]
theorem suH_J (p : Nat) : gJ (suH h p a b c d e t) = gJ h := rfl
theorem suH_S (p : Nat) : gS (suH h p a b c d e t) = gS h := rfl
theorem suH_k (p : Nat) : gn (suH h p a b c d e t) = gn h ∧ gc (suH h p a b c d e t) = gc h ∧ gs (suH h p a b c d e t) = gs h := ⟨rfl, rfl, rfl⟩
theorem suH_C (L : LayC h) (j : Nat) (hj : j < 12) : LayC (suH h (25 + j) a b c d e t) := LayC.le (h := h) (fun _ _ => rfl) (fun x h1 h2 => by funext k; exact suH_P (25 + j) x k (by omega)) L
/-! the reference -/
def lydH (h : HP) (o a b c d e n r w : Int) : HP := sA (sA (sA (sA (sA (sA (sA (sA (sA (sA (sA h 114 (o + 0) a) 114 (o + 1) b) 114 (o + 2) c) 114 (o + 3) d) 114 (o + 4) e) 114 (o + 12) (-1)) 114 (o + 16) n) 114 (o + 17) (w32 r)) 114 (o + 18) (w32 (yush r 32))) 114 (o + 19) (w32 w)) 114 (o + 20) (w32 (yush w 32))
theorem lyd_at (o n r w : Int) (ho : 0 ≤ o) (x : Int) (hx : 0 ≤ x) : aI (lydH h o a b c d e n r w) 114 x = if x = o + 20 then w32 (yush w 32) else if x = o + 19 then w32 w else if x = o + 18 then w32 (yush r 32) else if x = o + 17 then w32 r else if x = o + 16 then n else if x = o + 12 then -1 else if x = o + 4 then e else if x = o + 3 then d else if x = o + 2 then c else if x = o + 1 then b else if x = o + 0 then a else aI h 114 x := by
  unfold lydH
  rw [aI_sA _ _ _ _ _ (by omega) hx, aI_sA _ _ _ _ _ (by omega) hx, aI_sA _ _ _ _ _ (by omega) hx, aI_sA _ _ _ _ _ (by omega) hx, aI_sA _ _ _ _ _ (by omega) hx, aI_sA _ _ _ _ _ (by omega) hx, aI_sA _ _ _ _ _ (by omega) hx, aI_sA _ _ _ _ _ (by omega) hx, aI_sA _ _ _ _ _ (by omega) hx, aI_sA _ _ _ _ _ (by omega) hx, aI_sA _ _ _ _ _ (by omega) hx]
theorem lyd_o (o n r w : Int) : Oi 114 h (lydH h o a b c d e n r w) := ((((((((((Oi.A 114 h _ _).tr (Oi.A 114 _ _ _)).tr (Oi.A 114 _ _ _)).tr (Oi.A 114 _ _ _)).tr (Oi.A 114 _ _ _)).tr (Oi.A 114 _ _ _)).tr (Oi.A 114 _ _ _)).tr (Oi.A 114 _ _ _)).tr (Oi.A 114 _ _ _)).tr (Oi.A 114 _ _ _)).tr (Oi.A 114 _ _ _)
theorem E_lay (L : LayM h) {j : Nat} (hj : j < 12) (n : Int) (rc : Nat → Int → Int → Int → Int → Int → Int → Int → Int → HP → Option (Int × HP)) : ((xrc h (some 113) 12 31).bind fun a4 => xb (X12_sets F a4 (j : Int) 0 a h) fun _ h3 => (xrc h3 (some 113) 12 31).bind fun a7 => xb (X12_sets F a7 (j : Int) 1 b h3) fun _ h6 => (xrc h6 (some 113) 12 31).bind fun a10 => xb (X12_sets F a10 (j : Int) 2 c h6) fun _ h9 => (xrc h9 (some 113) 12 31).bind fun a13 => xb (X12_sets F a13 (j : Int) 3 d h9) fun _ h12 => X12_job_L258 F 113 n (j : Int) (if e = 0 then 0 else 1) 4 (j : Int) (some 113) h12) = some ((j : Int), lydH h (169 + 882 * (j : Int)) a b c d (if e = 0 then 0 else 1) n (gJ h 113 15) (gJ h 113 14)) := by
  unfold X12_job_L258 lydH
  rw [mR113 h _ L, b_xb _ _ _ _ (E_sets (F := F) (h := h) (j : Int) 0 a L (by omega)), mR113 _ _ (by exact L), b_xb _ _ _ _ (E_sets (j : Int) 1 b (by exact L) (by omega)), mR113 _ _ (by exact L), b_xb _ _ _ _ (E_sets (j : Int) 2 c (by exact L) (by omega)), mR113 _ _ (by exact L), b_xb _ _ _ _ (E_sets (j : Int) 3 d (by exact L) (by omega)), mR113 _ _ (by exact L), b_xb _ _ _ _ (E_sets (j : Int) 4 _ (by exact L) (by omega)), mR113 _ _ (by exact L), b_xb _ _ _ _ (E_sets (j : Int) 12 (-1) (by exact L) (by omega)), mR113 _ _ (by exact L), b_xb _ _ _ _ (E_sets (j : Int) 16 n (by exact L) (by omega)), mJ113 _ 15 _ (by exact L), mR113 _ _ (by exact L), b_xb _ _ _ _ (E_sets (j : Int) 17 _ (by exact L) (by omega)), mJ113 _ 15 _ (by exact L), mR113 _ _ (by exact L), b_xb _ _ _ _ (E_sets (j : Int) 18 _ (by exact L) (by omega)), mJ113 _ 14 _ (by exact L), mR113 _ _ (by exact L), b_xb _ _ _ _ (E_sets (j : Int) 19 _ (by exact L) (by omega)), mJ113 _ 14 _ (by exact L), mR113 _ _ (by exact L), b_xb _ _ _ _ (E_sets (j : Int) 20 _ (by exact L) (by omega))]
  rfl
theorem E_cpL {j : Nat} (hj : j < 12) (n : Int) : ∀ (m i k : Nat) (h : HP), m < k → i + m = 882 → LayM h → ∃ h', X12_job_L167 F k 113 a b c d e n (j : Int) (i : Int) h = some ((j : Int), lydH h' (169 + 882 * (j : Int)) a b c d (if e = 0 then 0 else 1) n (gJ h 113 15) (gJ h 113 14)) ∧ Oi 114 h h' ∧ ∀ x : Int, 0 ≤ x → aI h' 114 x = if 169 + 882 * (j : Int) + (i : Int) ≤ x ∧ x < 169 + 882 * (j : Int) + 882 then (if x - (169 + 882 * (j : Int)) < 22 then 0 else aI h 118 (x - (169 + 882 * (j : Int)))) else aI h 114 x := by
  intro m
  induction m with
  | zero =>
    intro i k h hk hi L
    obtain ⟨k, rfl⟩ : ∃ k', k = k' + 1 := ⟨k - 1, by omega⟩
    refine ⟨h, ?_, Oi.rf _ _, fun x hx => by rw [if_neg (by omega)]⟩
    rw [X12_job_L167_s, if_pos (by omega)]
    exact E_lay L hj n (X12_job_L167 F k)
  | succ m ih =>
    intro i k h hk hi L
    obtain ⟨k, rfl⟩ : ∃ k', k = k' + 1 := ⟨k - 1, by omega⟩
    have st : X12_job_L167 F (k + 1) 113 a b c d e n (j : Int) (i : Int) h = X12_job_L167 F k 113 a b c d e n (j : Int) ((i + 1 : Nat) : Int) (sA h 114 (169 + 882 * (j : Int) + (i : Int)) (if (i : Int) < 22 then 0 else aI h 118 (i : Int))) := by
      rw [X12_job_L167_s, if_neg (by omega), mP113_1 h _ L, b_xb _ _ _ _ (E_jobAt (F := F) (h := h) (j : Int) (i : Int) (by omega))]
      unfold X12_job_L204
      by_cases q : (22 : Int) ≤ (i : Int)
      · rw [if_pos q, mP113_12 h _ L, mA118 h _ _ L (by omega) (by omega), mS114 h _ _ _ L (by omega) (by omega), w32j (by omega), if_neg (by omega)]
      · rw [if_neg q, mS114 h _ _ _ L (by omega) (by omega), w32j (by omega), if_pos (by omega)]
    obtain ⟨h', x1, x2, x3⟩ := ih (i + 1) k (sA h 114 (169 + 882 * (j : Int) + (i : Int)) (if (i : Int) < 22 then 0 else aI h 118 (i : Int))) (by omega) (by omega) L
    refine ⟨h', st.trans x1, (Oi.A 114 h _ _).tr x2, fun x hx => ?_⟩
    rw [x3 x hx, aI_sAn _ _ _ _ _ (by decide), aI_sA _ _ _ _ _ (by omega) hx]
    by_cases q : x = 169 + 882 * (j : Int) + (i : Int)
    · rw [if_neg (by omega), if_pos q, if_pos (show 169 + 882 * (j : Int) + (i : Int) ≤ x ∧ x < 169 + 882 * (j : Int) + 882 by omega), q, show 169 + 882 * (j : Int) + (i : Int) - (169 + 882 * (j : Int)) = (i : Int) by omega]
    · rw [if_neg q]
      by_cases q2 : 169 + 882 * (j : Int) + ((i + 1 : Nat) : Int) ≤ x ∧ x < 169 + 882 * (j : Int) + 882
      · rw [if_pos q2, if_pos (show 169 + 882 * (j : Int) + (i : Int) ≤ x ∧ x < 169 + 882 * (j : Int) + 882 by omega)]
      · rw [if_neg q2, if_neg (by omega)]
/-! the reference's array with the new job -/
def nwW (W D : Int → Int) (o a b c d e n r1 r2 w1 w2 j1 : Int) (x : Int) : Int := if x = o + 20 then w2 else if x = o + 19 then w1 else if x = o + 18 then r2 else if x = o + 17 then r1 else if x = o + 16 then n else if x = o + 12 then -1 else if x = o + 4 then e else if x = o + 3 then d else if x = o + 2 then c else if x = o + 1 then b else if x = o + 0 then a else if o ≤ x ∧ x < o + 882 then (if x - o < 22 then 0 else D (x - o)) else if x = 8 then j1 else W x
section NW
variable {W D : Int → Int} {o n r1 r2 w1 w2 j1 : Int}
theorem nw_out (x : Int) (q : x < o ∨ o + 882 ≤ x) (q2 : x ≠ 8) : nwW W D o a b c d e n r1 r2 w1 w2 j1 x = W x := by
  unfold nwW
  rw [if_neg (by omega), if_neg (by omega), if_neg (by omega), if_neg (by omega), if_neg (by omega), if_neg (by omega), if_neg (by omega), if_neg (by omega), if_neg (by omega), if_neg (by omega), if_neg (by omega), if_neg (by omega), if_neg (by omega)]
theorem nw_8 (q : 8 < o) : nwW W D o a b c d e n r1 r2 w1 w2 j1 8 = j1 := by
  unfold nwW
  rw [if_neg (by omega), if_neg (by omega), if_neg (by omega), if_neg (by omega), if_neg (by omega), if_neg (by omega), if_neg (by omega), if_neg (by omega), if_neg (by omega), if_neg (by omega), if_neg (by omega), if_neg (by omega), if_pos rfl]
theorem nw_D (f : Int) (q : 22 ≤ f ∧ f < 882) : nwW W D o a b c d e n r1 r2 w1 w2 j1 (o + f) = D f := by
  unfold nwW
  rw [if_neg (by omega), if_neg (by omega), if_neg (by omega), if_neg (by omega), if_neg (by omega), if_neg (by omega), if_neg (by omega), if_neg (by omega), if_neg (by omega), if_neg (by omega), if_neg (by omega), if_pos (by omega), if_neg (by omega), show o + f - o = f by omega]
theorem nw_0 (f : Int) (q : 5 ≤ f ∧ f < 12 ∨ 13 ≤ f ∧ f < 16 ∨ f = 21) : nwW W D o a b c d e n r1 r2 w1 w2 j1 (o + f) = 0 := by
  unfold nwW
  rw [if_neg (by omega), if_neg (by omega), if_neg (by omega), if_neg (by omega), if_neg (by omega), if_neg (by omega), if_neg (by omega), if_neg (by omega), if_neg (by omega), if_neg (by omega), if_neg (by omega), if_pos (by omega), if_pos (by omega)]
theorem nw_20_ : nwW W D o a b c d e n r1 r2 w1 w2 j1 (o + 20) = w2 := by
  unfold nwW
  rw [if_pos rfl]
theorem nw_19_ : nwW W D o a b c d e n r1 r2 w1 w2 j1 (o + 19) = w1 := by
  unfold nwW
  rw [if_neg (by omega), if_pos rfl]
theorem nw_18_ : nwW W D o a b c d e n r1 r2 w1 w2 j1 (o + 18) = r2 := by
  unfold nwW
  rw [if_neg (by omega), if_neg (by omega), if_pos rfl]
theorem nw_17_ : nwW W D o a b c d e n r1 r2 w1 w2 j1 (o + 17) = r1 := by
  unfold nwW
  rw [if_neg (by omega), if_neg (by omega), if_neg (by omega), if_pos rfl]
theorem nw_16_ : nwW W D o a b c d e n r1 r2 w1 w2 j1 (o + 16) = n := by
  unfold nwW
  rw [if_neg (by omega), if_neg (by omega), if_neg (by omega), if_neg (by omega), if_pos rfl]
theorem nw_12_ : nwW W D o a b c d e n r1 r2 w1 w2 j1 (o + 12) = -1 := by
  unfold nwW
  rw [if_neg (by omega), if_neg (by omega), if_neg (by omega), if_neg (by omega), if_neg (by omega), if_pos rfl]
theorem nw_4_ : nwW W D o a b c d e n r1 r2 w1 w2 j1 (o + 4) = e := by
  unfold nwW
  rw [if_neg (by omega), if_neg (by omega), if_neg (by omega), if_neg (by omega), if_neg (by omega), if_neg (by omega), if_pos rfl]
theorem nw_3_ : nwW W D o a b c d e n r1 r2 w1 w2 j1 (o + 3) = d := by
  unfold nwW
  rw [if_neg (by omega), if_neg (by omega), if_neg (by omega), if_neg (by omega), if_neg (by omega), if_neg (by omega), if_neg (by omega), if_pos rfl]
theorem nw_2_ : nwW W D o a b c d e n r1 r2 w1 w2 j1 (o + 2) = c := by
  unfold nwW
  rw [if_neg (by omega), if_neg (by omega), if_neg (by omega), if_neg (by omega), if_neg (by omega), if_neg (by omega), if_neg (by omega), if_neg (by omega), if_pos rfl]
theorem nw_1_ : nwW W D o a b c d e n r1 r2 w1 w2 j1 (o + 1) = b := by
  unfold nwW
  rw [if_neg (by omega), if_neg (by omega), if_neg (by omega), if_neg (by omega), if_neg (by omega), if_neg (by omega), if_neg (by omega), if_neg (by omega), if_neg (by omega), if_pos rfl]
theorem nw_0_ : nwW W D o a b c d e n r1 r2 w1 w2 j1 (o + 0) = a := by
  unfold nwW
  rw [if_neg (by omega), if_neg (by omega), if_neg (by omega), if_neg (by omega), if_neg (by omega), if_neg (by omega), if_neg (by omega), if_neg (by omega), if_neg (by omega), if_neg (by omega), if_pos rfl]
end NW
end SUJ
