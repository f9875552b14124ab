/-! the machine's minute, on both sides -/
def XNm : Nat → Bool := fun a => decide (a = 114 ∨ a = 119 ∨ a = 120)
theorem Ox.toN {h h' : HP} (o : Ox XM h h') : Ox XNm h h' := o.mo (fun a q => by
  have := of_decide_eq_false q
  unfold XM
  rw [beq_eq_false_iff_ne.mpr (show a ≠ 114 by omega), beq_eq_false_iff_ne.mpr (show a ≠ 120 by omega)]
  rfl)
theorem Oi.x {h h' : HP} (o : Oi 119 h h') : Ox XNm h h' := ⟨fun a q => ⟨o.1 a (by have := of_decide_eq_false q; omega), by rw [o.2.1]⟩, o.2.2.1, o.2.2.2.1, o.2.2.2.2.1, o.2.2.2.2.2⟩
theorem Ox.N (h : HP) (k v : Int) : Ox XNm h (sA h 114 k v) := Ox.A h 114 k v rfl
/-- what stands at first in a minute, and what is kept -/
def MC (h : HP) (W : Int → Int) : Prop := LayC h ∧ RN h 0 W ∧ gI h 10 5 = -1 ∧ ptl W ≤ 5110
def MS (h h' : HP) (W W1 : Int → Int) : Prop := MC h' W1 ∧ OC h h' ∧ ptl W1 ≤ ptl W
theorem MS.rf {h : HP} {W : Int → Int} (m : MC h W) : MS h h W W := ⟨m, OC.rf h, Int.le_refl _⟩
theorem MS.tr {a b c : HP} {U V W : Int → Int} (x : MS a b U V) (y : MS b c V W) : MS a c U W := ⟨y.1, x.2.1.tr y.2.1, Int.le_trans y.2.2 x.2.2⟩
theorem sW_id (W : Int → Int) (i : Int) : sW W i (W i) = W := by
  funext x
  unfold sW
  by_cases e : x = i
  · rw [if_pos e, e]
  · rw [if_neg e]
section MA
variable {F : Nat} {h : HP} {W : Int → Int}
theorem RN.sc9 {h' : HP} {W' : Int → Int} (r : RN h 0 W) (s : SmX (fun a _ => decide (a = 9)) h h' 0 0) (sc : RSc h' 0 W') (gs : GSc W') (w : ∀ i : Int, 9 ≤ i → i < 11357 + 7 * W 11356 → W' i = W i) (w8 : W' 8 = W 8) (n : RRn W') : RN h' 0 W' := by
  obtain ⟨n1, n2, n3, n4, n5, n6, n7, n8, n9, n10, n11⟩ := r
  have g8 := n2.g8
  have hr := n8.2.1
  exact ⟨sc, gs, n3.cg s (fun a k q => decide_eq_false (by omega)) (fun i a c => w i (by omega) (by omega)), n4.cg s (fun a k q => decide_eq_false (by omega)) (fun i a c => w i (by omega) (by omega)), n5.cg s (fun a k q => decide_eq_false (by omega)) (fun i a c => w i (by omega) (by omega)), n6.cg s (fun a k q => decide_eq_false (by omega)) (fun i a c => w i (by omega) (by omega)), n7.cg s (fun a k q => decide_eq_false (by omega)) (fun i a c => w i (by omega) (by omega)), n8.cg s (fun a k q => decide_eq_false (by omega)) w8 (fun i a c => w i (by omega) (by omega)), n9.cg s (fun a k q => decide_eq_false (by omega)) g8.2 w8 (fun i a c => w i (by omega) (by omega)), n10.cg s (fun a k q => decide_eq_false (by omega)) g8 w8 (fun j' f' a c d e => w _ (by omega) (by omega)), n⟩
/-- a job at its begin -/
def totW (W : Int → Int) (o : Int) : Int := if W (o + 11) = 1 then W (o + 5) else W (o + 0)
def begW (W : Int → Int) (o tot j : Int) : Int → Int := sW (sW (sW (sW W (o + 8) 1) (o + 21) tot) (o + 9) tot) 4 j
def begH (h : HP) (p : Nat) (tot j : Int) : HP := sI (sI (sI (sI h 9 10 j) p 9 1) p 11 tot) p 12 tot
theorem E_beginC (L : LayC h) (j : Nat) (hj : j < 12) (w5 w0 w11 : Int) (e10 : gI h (25 + j) 10 = w11) (e6 : gI h (25 + j) 6 = w5) (e0 : gI h (25 + j) 0 = w0) : X2_begin F (25 + j) h = some ((), sI (sI (sI h (25 + j) 9 1) (25 + j) 11 (if w11 = 1 then w5 else w0)) (25 + j) 12 (if w11 = 1 then w5 else w0)) := by
  unfold X2_begin X2_begin_L25
  rw [cWj h j 9 _ _ L hj, cIj _ j 10 _ (by exact L) hj, gI_sIk _ _ _ _ _ (by decide), e10]
  by_cases c : w11 = 1
  · rw [if_pos c, if_pos c, cIj _ j 6 _ (by exact L) hj, gI_sIk _ _ _ _ _ (by decide), e6, cWj _ j 11 _ _ (by exact L) hj, cIj _ j 11 _ (by exact L) hj, gI_sIe, cWj _ j 12 _ _ (by exact L) hj]
  · rw [if_neg c, if_neg c, cIj _ j 0 _ (by exact L) hj, gI_sIk _ _ _ _ _ (by decide), e0, cWj _ j 11 _ _ (by exact L) hj, cIj _ j 11 _ (by exact L) hj, gI_sIe, cWj _ j 12 _ _ (by exact L) hj]
theorem begW_v {W : Int → Int} {o tot j : Int} (ho : 169 ≤ o) : begW W o tot j 4 = j ∧ begW W o tot j (o + 8) = 1 ∧ begW W o tot j (o + 9) = tot ∧ begW W o tot j (o + 21) = tot ∧ ∀ i : Int, i ≠ 4 → i ≠ o + 8 → i ≠ o + 9 → i ≠ o + 21 → begW W o tot j i = W i := by
  unfold begW
  refine ⟨sW_e _ _, ?_, ?_, ?_, fun i h1 h2 h3 h4 => ?_⟩
  · rw [sW_n (by omega), sW_n (by omega), sW_n (by omega), sW_e]
  · rw [sW_n (by omega), sW_e]
  · rw [sW_n (by omega), sW_n (by omega), sW_e]
  · rw [sW_n h1, sW_n h3, sW_n h4, sW_n h2]
theorem JBg.tot {o : Int} (g : JBg W o) : 0 ≤ totW W o ∧ totW W o ≤ 60 := by
  unfold JBg at g
  obtain ⟨Q0, Q1, Q2, Q3, Q4, Q5, Q6, Q7, Q8, Q9, Q10, Q11⟩ := g
  unfold totW
  split
  · exact ⟨Q9, Q10⟩
  · exact ⟨by clear Q11; omega, Q1⟩
theorem RN.beg (r : RN h 0 W) (j : Nat) (hj : (j : Int) < W 8) : RN (begH h (25 + j) (totW W (169 + 882 * (j : Int))) j) 0 (begW W (169 + 882 * (j : Int)) (totW W (169 + 882 * (j : Int))) j) := by
  have g8 := r.2.1.g8
  have hj12 : j < 12 := by omega
  obtain ⟨f0, g0, -⟩ := r.jb j hj
  have tb := g0.tot
  obtain ⟨v4, v8, v9, v21, vo⟩ := begW_v (W := W) (o := 169 + 882 * (j : Int)) (tot := totW W (169 + 882 * (j : Int))) (j := j) (by omega)
  generalize totW W (169 + 882 * (j : Int)) = tot at *
  have t : ∀ a, a = 25 + j ∨ a = 9 → ∀ k, (fun a (_ : Nat) => decide (a = 25 + j ∨ a = 9)) a k = true := fun a q k => decide_eq_true q
  have s : SmX (fun a _ => decide (a = 25 + j ∨ a = 9)) h (begH h (25 + j) tot j) 0 0 := ((((SmX.rf _ h 0).uI 9 10 _ (by omega) (Or.inr (t 9 (Or.inr rfl) 10))).uI _ 9 _ (by omega) (Or.inr (t _ (Or.inl rfl) 9))).uI _ 11 _ (by omega) (Or.inr (t _ (Or.inl rfl) 11))).uI _ 12 _ (by omega) (Or.inr (t _ (Or.inl rfl) 12))
  have gn : ∀ a, a ≠ 25 + j → a ≠ 9 → gI (begH h (25 + j) tot j) a = gI h a := fun a q1 q2 => by
    unfold begH
    rw [gI_sIn _ _ _ _ _ q1, gI_sIn _ _ _ _ _ q1, gI_sIn _ _ _ _ _ q1, gI_sIn _ _ _ _ _ q2]
  have g9 : ∀ k, k ≠ 10 → gI (begH h (25 + j) tot j) 9 k = gI h 9 k := fun k q => by
    unfold begH
    rw [gI_sIn _ _ _ _ _ (by omega), gI_sIn _ _ _ _ _ (by omega), gI_sIn _ _ _ _ _ (by omega), gI_sIk _ _ _ _ _ q]
  have g10 : gI (begH h (25 + j) tot j) 9 10 = j := by
    unfold begH
    rw [gI_sIn _ _ _ _ _ (by omega), gI_sIn _ _ _ _ _ (by omega), gI_sIn _ _ _ _ _ (by omega), gI_sIe]
  have gk : ∀ k, k ≠ 9 → k ≠ 11 → k ≠ 12 → gI (begH h (25 + j) tot j) (25 + j) k = gI h (25 + j) k := fun k q1 q2 q3 => by
    unfold begH
    rw [gI_sIk _ _ _ _ _ q3, gI_sIk _ _ _ _ _ q2, gI_sIk _ _ _ _ _ q1, gI_sIn _ _ _ _ _ (by omega)]
  have k9 : gI (begH h (25 + j) tot j) (25 + j) 9 = 1 := by
    unfold begH
    rw [gI_sIk _ _ _ _ _ (by decide), gI_sIk _ _ _ _ _ (by decide), gI_sIe]
  have k11 : gI (begH h (25 + j) tot j) (25 + j) 11 = tot := by
    unfold begH
    rw [gI_sIk _ _ _ _ _ (by decide), gI_sIe]
  have k12 : gI (begH h (25 + j) tot j) (25 + j) 12 = tot := by
    unfold begH
    rw [gI_sIe]
  have vk : ∀ k : Int, 0 ≤ k → k < 9 → k ≠ 4 → begW W (169 + 882 * (j : Int)) tot j k = W k := fun k a b c => vo k c (by omega) (by omega) (by omega)
  have vj : ∀ k : Int, 0 ≤ k → k < 16 → k ≠ 8 → k ≠ 9 → begW W (169 + 882 * (j : Int)) tot j (169 + 882 * (j : Int) + k) = W (169 + 882 * (j : Int) + k) := fun k a b c d => vo _ (by omega) (by omega) (by omega) (by omega)
  obtain ⟨s1, s2, s3, s4, s5, s6, s7, s8, s9⟩ := r.1
  simp only [Nat.add_zero] at s1 s2 s3 s4 s5 s6 s7 s8 s9
  refine r.job j hj s ?_ ?_ (fun i h0 h1 h2 h3 => vo i (by omega) (by omega) (by omega) (by omega)) (vk 8 (by decide) (by decide) (by decide)) ?_ ?_ ?_
  · unfold RSc
    simp only [Nat.add_zero]
    rw [vk 0 (by decide) (by decide) (by decide), vk 1 (by decide) (by decide) (by decide), vk 2 (by decide) (by decide) (by decide), vk 3 (by decide) (by decide) (by decide), v4, vk 5 (by decide) (by decide) (by decide), vk 6 (by decide) (by decide) (by decide), vk 7 (by decide) (by decide) (by decide), vk 8 (by decide) (by decide) (by decide), g9 6 (by decide), g9 7 (by decide), g9 8 (by decide), g9 9 (by decide), g10, g9 11 (by decide), gn 51 (by omega) (by decide), gn 11 (by omega) (by decide), gn 19 (by omega) (by decide)]
    exact ⟨s1, s2, s3, s4, rfl, s6, s7, s8, s9⟩
  · have gs := r.2.1
    unfold GSc at gs ⊢
    rw [vk 0 (by decide) (by decide) (by decide), vk 1 (by decide) (by decide) (by decide), vk 2 (by decide) (by decide) (by decide), vk 3 (by decide) (by decide) (by decide), v4, vk 5 (by decide) (by decide) (by decide), vk 6 (by decide) (by decide) (by decide), vk 8 (by decide) (by decide) (by decide)]
    obtain ⟨a1, a2, a3, a4, a5, a6, a7, a8, a9, a10, a11, a12, a13, a14, a15⟩ := gs
    exact ⟨a1, a2, a3, a4, a5, a6, a7, a8, by omega, hj, a11, a12, a13, a14, a15⟩
  · unfold JBf at f0 ⊢
    obtain ⟨F0, F1, F2, F3, F4, F5, F6, F7, F8, F9, F10, F11, F12, F13, F14, F15, F16⟩ := f0
    rw [vj 0 (by decide) (by decide) (by decide) (by decide), vj 1 (by decide) (by decide) (by decide) (by decide), vj 2 (by decide) (by decide) (by decide) (by decide), vj 3 (by decide) (by decide) (by decide) (by decide), vj 4 (by decide) (by decide) (by decide) (by decide), vj 5 (by decide) (by decide) (by decide) (by decide), vj 6 (by decide) (by decide) (by decide) (by decide), vj 7 (by decide) (by decide) (by decide) (by decide), v8, v9, vj 10 (by decide) (by decide) (by decide) (by decide), vj 11 (by decide) (by decide) (by decide) (by decide), vj 12 (by decide) (by decide) (by decide) (by decide), vj 13 (by decide) (by decide) (by decide) (by decide), vj 14 (by decide) (by decide) (by decide) (by decide), vj 15 (by decide) (by decide) (by decide) (by decide), v21]
    rw [gk 0 (by decide) (by decide) (by decide), gk 1 (by decide) (by decide) (by decide), gk 2 (by decide) (by decide) (by decide), gk 3 (by decide) (by decide) (by decide), gk 4 (by decide) (by decide) (by decide), gk 6 (by decide) (by decide) (by decide), gk 7 (by decide) (by decide) (by decide), gk 8 (by decide) (by decide) (by decide), k9, k12, gk 13 (by decide) (by decide) (by decide), gk 10 (by decide) (by decide) (by decide), gk 14 (by decide) (by decide) (by decide), gk 15 (by decide) (by decide) (by decide), gk 16 (by decide) (by decide) (by decide), gk 17 (by decide) (by decide) (by decide), k11]
    exact ⟨F0, F1, F2, F3, F4, F5, F6, F7, rfl, rfl, F10, F11, F12, F13, F14, F15, rfl⟩
  · have t0 : 0 ≤ tot := tb.1
    unfold JBg at g0 ⊢
    rw [vj 0 (by decide) (by decide) (by decide) (by decide), vj 1 (by decide) (by decide) (by decide) (by decide), vj 2 (by decide) (by decide) (by decide) (by decide), vj 3 (by decide) (by decide) (by decide) (by decide), vj 4 (by decide) (by decide) (by decide) (by decide), vj 5 (by decide) (by decide) (by decide) (by decide), vj 6 (by decide) (by decide) (by decide) (by decide), vj 7 (by decide) (by decide) (by decide) (by decide), v8, v9, vj 10 (by decide) (by decide) (by decide) (by decide), vj 11 (by decide) (by decide) (by decide) (by decide), vj 12 (by decide) (by decide) (by decide) (by decide), vj 13 (by decide) (by decide) (by decide) (by decide), vj 14 (by decide) (by decide) (by decide) (by decide), vj 15 (by decide) (by decide) (by decide) (by decide), v21]
    obtain ⟨Q0, Q1, Q2, Q3, Q4, Q5, Q6, Q7, Q8, Q9, Q10, Q11, Q12, Q13, Q14, Q15, Q16, Q17, Q18, Q19, Q20, Q21, Q22, Q23, Q24, Q25, Q26, Q27, Q28, Q29, Q30, Q31, Q32⟩ := g0
    exact ⟨Q0, Q1, Q2, Q3, Q4, Q5, Q6, Q7, Q8, Q9, Q10, Q11, Q12, Q13, Q14, by decide, by decide, t0, tb.2, Q19, Q20, Q21, Q22, Q23, Q24, Q25, Q26, tb.1, tb.2, Int.le_refl _, Q30, fun q => absurd q (by decide), fun q => absurd q (by decide)⟩
  · intro q
    rw [v4] at q ⊢
    exact v8
theorem ptl_beg (g8 : 0 ≤ W 8 ∧ W 8 ≤ 12) (j : Nat) (hj : (j : Int) < W 8) (tot : Int) (h0 : W (169 + 882 * (j : Int) + 8) = 0) : ptl (begW W (169 + 882 * (j : Int)) tot j) = ptl W := by
  obtain ⟨v4, v8, v9, v21, vo⟩ := begW_v (W := W) (o := 169 + 882 * (j : Int)) (tot := tot) (j := j) (by omega)
  have x := ptl_st (W := W) (W' := begW W (169 + 882 * (j : Int)) tot j) g8 j hj (vo 8 (by decide) (by omega) (by omega) (by omega)) (vo 11356 (by decide) (by omega) (by omega) (by omega)) (fun k hk hkj => vo _ (by omega) (by omega) (by omega) (by omega))
  rw [v8, h0, if_pos (by decide), if_pos (by decide)] at x
  omega
/-- the left minutes of a job changed, the running one too -/
def lefW (W : Int → Int) (o v : Int) : Int → Int := sW W (o + 9) v
theorem RNw.left {h4 : Int} (r : RNw h 0 W) (j : Nat) (hj : (j : Int) < W 8) (x : Int) (hr : h4 = -1 ∨ h4 = W 4) : RNw (sI (sI h (25 + j) 12 x) 9 10 h4) 0 (sW (lefW W (169 + 882 * (j : Int)) x) 4 h4) := by
  have g8 := r.2.1.g8
  have hj12 : j < 12 := by omega
  obtain ⟨f0, -⟩ := r.jb j hj
  have gs := r.2.1
  have n11 := r.2.2.2.2.2.2.2.2.2.2
  have v9 : sW (lefW W (169 + 882 * (j : Int)) x) 4 h4 (169 + 882 * (j : Int) + 9) = x := by unfold lefW; rw [sW_n (by omega), sW_e]
  have v4 : sW (lefW W (169 + 882 * (j : Int)) x) 4 h4 4 = h4 := sW_e _ _
  have vo : ∀ i : Int, i ≠ 4 → i ≠ 169 + 882 * (j : Int) + 9 → sW (lefW W (169 + 882 * (j : Int)) x) 4 h4 i = W i := fun i a b => by unfold lefW; rw [sW_n a, sW_n b]
  generalize sW (lefW W (169 + 882 * (j : Int)) x) 4 h4 = V at *
  have t : ∀ a, a = 25 + j ∨ a = 9 → ∀ k, (fun a (_ : Nat) => decide (a = 25 + j ∨ a = 9)) a k = true := fun a q k => decide_eq_true q
  have s : SmX (fun a _ => decide (a = 25 + j ∨ a = 9)) h (sI (sI h (25 + j) 12 x) 9 10 h4) 0 0 := ((SmX.rf _ h 0).uI _ 12 _ (by omega) (Or.inr (t _ (Or.inl rfl) 12))).uI 9 10 _ (by omega) (Or.inr (t 9 (Or.inr rfl) 10))
  have vk : ∀ k : Int, 0 ≤ k → k < 9 → k ≠ 4 → V k = W k := fun k a b c => vo k c (by omega)
  have vj : ∀ k : Int, 0 ≤ k → k < 882 → k ≠ 9 → V (169 + 882 * (j : Int) + k) = W (169 + 882 * (j : Int) + k) := fun k a b c => vo _ (by omega) (by omega)
  obtain ⟨s1, s2, s3, s4, s5, s6, s7, s8, s9⟩ := r.1
  simp only [Nat.add_zero] at s1 s2 s3 s4 s5 s6 s7 s8 s9
  refine r.job j hj s ?_ ?_ (fun i h0 h1 h2 h3 => vo i (by omega) (by omega)) (vk 8 (by decide) (by decide) (by decide)) ?_ ?_
  · unfold RSc
    simp only [Nat.add_zero]
    rw [vk 0 (by decide) (by decide) (by decide), vk 1 (by decide) (by decide) (by decide), vk 2 (by decide) (by decide) (by decide), vk 3 (by decide) (by decide) (by decide), v4, vk 5 (by decide) (by decide) (by decide), vk 6 (by decide) (by decide) (by decide), vk 7 (by decide) (by decide) (by decide), vk 8 (by decide) (by decide) (by decide)]
    rw [gI_sIk _ 9 10 _ 6 (by decide), gI_sIk _ 9 10 _ 7 (by decide), gI_sIk _ 9 10 _ 8 (by decide), gI_sIk _ 9 10 _ 9 (by decide), gI_sIe, gI_sIk _ 9 10 _ 11 (by decide), gI_sIn _ 9 10 _ 51 (by decide), gI_sIn _ 9 10 _ 11 (by decide), gI_sIn _ 9 10 _ 19 (by decide), gI_sIn _ _ _ _ 9 (by omega), gI_sIn _ _ _ _ 51 (by omega), gI_sIn _ _ _ _ 11 (by omega), gI_sIn _ _ _ _ 19 (by omega)]
    exact ⟨s1, s2, s3, s4, rfl, s6, s7, s8, s9⟩
  · unfold GSc at gs ⊢
    rw [vk 0 (by decide) (by decide) (by decide), vk 1 (by decide) (by decide) (by decide), vk 2 (by decide) (by decide) (by decide), vk 3 (by decide) (by decide) (by decide), v4, vk 5 (by decide) (by decide) (by decide), vk 6 (by decide) (by decide) (by decide), vk 8 (by decide) (by decide) (by decide)]
    obtain ⟨a1, a2, a3, a4, a5, a6, a7, a8, a9, a10, a11, a12, a13, a14, a15⟩ := gs
    exact ⟨a1, a2, a3, a4, a5, a6, a7, a8, by omega, by omega, a11, a12, a13, a14, a15⟩
  · unfold JBf at f0 ⊢
    obtain ⟨F0, F1, F2, F3, F4, F5, F6, F7, F8, F9, F10, F11, F12, F13, F14, F15, F16⟩ := f0
    rw [gI_sIn _ 9 10 _ (25 + j) (by omega)]
    rw [vj 0 (by decide) (by decide) (by decide), vj 1 (by decide) (by decide) (by decide), vj 2 (by decide) (by decide) (by decide), vj 3 (by decide) (by decide) (by decide), vj 4 (by decide) (by decide) (by decide), vj 5 (by decide) (by decide) (by decide), vj 6 (by decide) (by decide) (by decide), vj 7 (by decide) (by decide) (by decide), vj 8 (by decide) (by decide) (by decide), v9, vj 10 (by decide) (by decide) (by decide), vj 11 (by decide) (by decide) (by decide), vj 12 (by decide) (by decide) (by decide), vj 13 (by decide) (by decide) (by decide), vj 14 (by decide) (by decide) (by decide), vj 15 (by decide) (by decide) (by decide), vj 21 (by decide) (by decide) (by decide)]
    have gk : ∀ k, k ≠ 12 → gI (sI h (25 + j) 12 x) (25 + j) k = gI h (25 + j) k := fun k q => gI_sIk _ _ _ _ _ q
    rw [gk 0 (by decide), gk 1 (by decide), gk 2 (by decide), gk 3 (by decide), gk 4 (by decide), gk 6 (by decide), gk 7 (by decide), gk 8 (by decide), gk 9 (by decide), gI_sIe, gk 13 (by decide), gk 10 (by decide), gk 14 (by decide), gk 15 (by decide), gk 16 (by decide), gk 17 (by decide), gk 11 (by decide)]
    exact ⟨F0, F1, F2, F3, F4, F5, F6, F7, F8, rfl, F10, F11, F12, F13, F14, F15, F16⟩
  · intro q
    rw [v4] at q ⊢
    rcases hr with e | e
    · omega
    · unfold RRn at n11
      rw [← e] at n11
      rw [vo (169 + 882 * h4 + 8) (by omega) (by omega)]
      exact n11 q
theorem RN.left (r : RN h 0 W) (j : Nat) (hj : (j : Int) < W 8) (x : Int) (hx : 0 ≤ x ∧ x ≤ 60) (hx2 : x ≤ W (169 + 882 * (j : Int) + 21)) : RN (sI h (25 + j) 12 x) 0 (lefW W (169 + 882 * (j : Int)) x) := by
  have g8 := r.2.1.g8
  have hj12 : j < 12 := by omega
  have r3 := r.w.left j hj x (Or.inr rfl)
  have d10 : gI h 9 10 = W 4 := r.1.2.2.2.2.1
  have z1 : sI (sI h (25 + j) 12 x) 9 10 (W 4) = sI h (25 + j) 12 x := sI_id _ _ _ _ (by rw [gI_sIn _ _ _ _ 9 (by omega)]; exact d10)
  have z2 : sW (lefW W (169 + 882 * (j : Int)) x) 4 (W 4) = lefW W (169 + 882 * (j : Int)) x := by
    have q : lefW W (169 + 882 * (j : Int)) x 4 = W 4 := sW_n (by omega)
    rw [← q]; exact sW_id _ _
  rw [z1, z2] at r3
  have vo : ∀ i : Int, i ≠ 169 + 882 * (j : Int) + 9 → lefW W (169 + 882 * (j : Int)) x i = W i := fun i b => sW_n b
  refine r3.mkN (fun k hk => ?_)
  rw [vo 8 (by omega)] at hk
  by_cases e : k = j
  · rw [e]
    have g0 := r.g j hj
    have v9 : lefW W (169 + 882 * (j : Int)) x (169 + 882 * (j : Int) + 9) = x := sW_e _ _
    have vj : ∀ k : Int, 0 ≤ k → k < 882 → k ≠ 9 → lefW W (169 + 882 * (j : Int)) x (169 + 882 * (j : Int) + k) = W (169 + 882 * (j : Int) + k) := fun k a b c => vo _ (by omega)
    unfold JBg at g0 ⊢
    rw [vj 0 (by decide) (by decide) (by decide), vj 1 (by decide) (by decide) (by decide), vj 2 (by decide) (by decide) (by decide), vj 3 (by decide) (by decide) (by decide), vj 4 (by decide) (by decide) (by decide), vj 5 (by decide) (by decide) (by decide), vj 6 (by decide) (by decide) (by decide), vj 7 (by decide) (by decide) (by decide), vj 8 (by decide) (by decide) (by decide), v9, vj 10 (by decide) (by decide) (by decide), vj 11 (by decide) (by decide) (by decide), vj 12 (by decide) (by decide) (by decide), vj 13 (by decide) (by decide) (by decide), vj 14 (by decide) (by decide) (by decide), vj 15 (by decide) (by decide) (by decide), vj 21 (by decide) (by decide) (by decide)]
    obtain ⟨Q0, Q1, Q2, Q3, Q4, Q5, Q6, Q7, Q8, Q9, Q10, Q11, Q12, Q13, Q14, Q15, Q16, Q17, Q18, Q19, Q20, Q21, Q22, Q23, Q24, Q25, Q26, Q27, Q28, Q29, Q30, Q31, Q32⟩ := g0
    exact ⟨Q0, Q1, Q2, Q3, Q4, Q5, Q6, Q7, Q8, Q9, Q10, Q11, Q12, Q13, Q14, Q15, Q16, hx.1, hx.2, Q19, Q20, Q21, Q22, Q23, Q24, Q25, Q26, Q27, Q28, hx2, Q30, Q31, Q32⟩
  · exact JBg.ot (W := W) g8.2 j (fun i a c d e => vo i (by omega)) k hk e (r.g k hk)
/-- the hand minutes done -/
theorem RNw.hand (r : RNw h 0 W) (j : Nat) (hj : (j : Int) < W 8) (x : Int) : RNw (sI h (25 + j) 13 x) 0 (sW W (169 + 882 * (j : Int) + 10) x) := by
  have g8 := r.2.1.g8
  have hj12 : j < 12 := by omega
  obtain ⟨f0, -⟩ := r.jb j hj
  have n11 := r.2.2.2.2.2.2.2.2.2.2
  have v9 : sW W (169 + 882 * (j : Int) + 10) x (169 + 882 * (j : Int) + 10) = x := sW_e _ _
  have vo : ∀ i : Int, i ≠ 169 + 882 * (j : Int) + 10 → sW W (169 + 882 * (j : Int) + 10) x i = W i := fun i b => sW_n b
  have vj : ∀ k : Int, 0 ≤ k → k < 882 → k ≠ 10 → sW W (169 + 882 * (j : Int) + 10) x (169 + 882 * (j : Int) + k) = W (169 + 882 * (j : Int) + k) := fun k a b c => vo _ (by omega)
  have t : (fun a (_ : Nat) => decide (a = 25 + j)) (25 + j) 13 = true := decide_eq_true rfl
  have s : SmX (fun a _ => decide (a = 25 + j)) h (sI h (25 + j) 13 x) 0 0 := (SmX.rf _ h 0).uI _ 13 _ (by omega) (Or.inr t)
  refine r.job0 j hj s (fun i h0 h1 h2 h3 => vo i (by omega)) ?_ ?_
  · unfold JBf at f0 ⊢
    obtain ⟨F0, F1, F2, F3, F4, F5, F6, F7, F8, F9, F10, F11, F12, F13, F14, F15, F16⟩ := f0
    rw [vj 0 (by decide) (by decide) (by decide), vj 1 (by decide) (by decide) (by decide), vj 2 (by decide) (by decide) (by decide), vj 3 (by decide) (by decide) (by decide), vj 4 (by decide) (by decide) (by decide), vj 5 (by decide) (by decide) (by decide), vj 6 (by decide) (by decide) (by decide), vj 7 (by decide) (by decide) (by decide), vj 8 (by decide) (by decide) (by decide), vj 9 (by decide) (by decide) (by decide), v9, vj 11 (by decide) (by decide) (by decide), vj 12 (by decide) (by decide) (by decide), vj 13 (by decide) (by decide) (by decide), vj 14 (by decide) (by decide) (by decide), vj 15 (by decide) (by decide) (by decide), vj 21 (by decide) (by decide) (by decide)]
    have gk : ∀ k, k ≠ 13 → gI (sI h (25 + j) 13 x) (25 + j) k = gI h (25 + j) k := fun k q => gI_sIk _ _ _ _ _ q
    rw [gk 0 (by decide), gk 1 (by decide), gk 2 (by decide), gk 3 (by decide), gk 4 (by decide), gk 6 (by decide), gk 7 (by decide), gk 8 (by decide), gk 9 (by decide), gk 12 (by decide), gI_sIe, gk 10 (by decide), gk 14 (by decide), gk 15 (by decide), gk 16 (by decide), gk 17 (by decide), gk 11 (by decide)]
    exact ⟨F0, F1, F2, F3, F4, F5, F6, F7, F8, F9, rfl, F11, F12, F13, F14, F15, F16⟩
  · intro q
    rw [vo 4 (by omega)] at q ⊢
    rw [vo (169 + 882 * W 4 + 8) (by omega)]
    exact n11 q
theorem RN.hand (r : RN h 0 W) (j : Nat) (hj : (j : Int) < W 8) (x : Int) (hx : 0 ≤ x ∧ x ≤ 480) (hx2 : W (169 + 882 * (j : Int) + 11) = 2) (hx3 : x < W (169 + 882 * (j : Int) + 2)) : RN (sI h (25 + j) 13 x) 0 (sW W (169 + 882 * (j : Int) + 10) x) := by
  have g8 := r.2.1.g8
  have vo : ∀ i : Int, i ≠ 169 + 882 * (j : Int) + 10 → sW W (169 + 882 * (j : Int) + 10) x i = W i := fun i b => sW_n b
  refine (r.w.hand j hj x).mkN (fun k hk => ?_)
  rw [vo 8 (by omega)] at hk
  by_cases e : k = j
  · rw [e]
    have g0 := r.g j hj
    have v9 : sW W (169 + 882 * (j : Int) + 10) x (169 + 882 * (j : Int) + 10) = x := sW_e _ _
    have vj : ∀ k : Int, 0 ≤ k → k < 882 → k ≠ 10 → sW W (169 + 882 * (j : Int) + 10) x (169 + 882 * (j : Int) + k) = W (169 + 882 * (j : Int) + k) := fun k a b c => vo _ (by omega)
    unfold JBg at g0 ⊢
    rw [vj 0 (by decide) (by decide) (by decide), vj 1 (by decide) (by decide) (by decide), vj 2 (by decide) (by decide) (by decide), vj 3 (by decide) (by decide) (by decide), vj 4 (by decide) (by decide) (by decide), vj 5 (by decide) (by decide) (by decide), vj 6 (by decide) (by decide) (by decide), vj 7 (by decide) (by decide) (by decide), vj 8 (by decide) (by decide) (by decide), vj 9 (by decide) (by decide) (by decide), v9, vj 11 (by decide) (by decide) (by decide), vj 12 (by decide) (by decide) (by decide), vj 13 (by decide) (by decide) (by decide), vj 14 (by decide) (by decide) (by decide), vj 15 (by decide) (by decide) (by decide), vj 21 (by decide) (by decide) (by decide)]
    obtain ⟨Q0, Q1, Q2, Q3, Q4, Q5, Q6, Q7, Q8, Q9, Q10, Q11, Q12, Q13, Q14, Q15, Q16, Q17, Q18, Q19, Q20, Q21, Q22, Q23, Q24, Q25, Q26, Q27, Q28, Q29, Q30, Q31, Q32⟩ := g0
    exact ⟨Q0, Q1, Q2, Q3, Q4, Q5, Q6, Q7, Q8, Q9, Q10, Q11, Q12, Q13, Q14, Q15, Q16, Q17, Q18, hx.1, hx.2, Q21, Q22, Q23, Q24, Q25, Q26, Q27, Q28, Q29, Q30, fun _ _ => hx3, fun _ y => absurd hx2 y⟩
  · exact JBg.ot (W := W) g8.2 j (fun i a c d e => vo i (by omega)) k hk e (r.g k hk)
end MA
