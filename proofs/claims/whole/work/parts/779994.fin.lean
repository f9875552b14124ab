/-! what the class's minutes may change; a job that ends, on both sides -/
def OC (h h' : HP) : Prop := (∀ a, (a < 9 ∨ 36 < a) → gI h' a = gI h a) ∧ (∀ a, 126 < a → gJ h' a = gJ h a) ∧ (∀ a k, PR a k = true → gP h' a k = gP h a k) ∧ gS h' = gS h ∧ gn h' = gn h ∧ gc h' = gc h ∧ gs h' = gs h ∧ (∀ j : Nat, j < 12 → gI h' (25 + j) 4 = gI h (25 + j) 4)
theorem OC.rf (h : HP) : OC h h := ⟨fun _ _ => rfl, fun _ _ => rfl, fun _ _ _ => rfl, rfl, rfl, rfl, rfl, fun _ _ => rfl⟩
theorem OC.tr {a b c : HP} (x : OC a b) (y : OC b c) : OC a c := by
  obtain ⟨x1, x2, x3, x4, x5, x6, x7, x8⟩ := x
  obtain ⟨y1, y2, y3, y4, y5, y6, y7, y8⟩ := y
  exact ⟨fun a q => (y1 a q).trans (x1 a q), fun a q => (y2 a q).trans (x2 a q), fun a k q => (y3 a k q).trans (x3 a k q), y4.trans x4, y5.trans x5, y6.trans x6, y7.trans x7, fun j q => (y8 j q).trans (x8 j q)⟩
theorem OC.I (h : HP) (a k : Nat) (v : Int) (q : 9 ≤ a ∧ a ≤ 36) (p : a < 25 ∨ k ≠ 4) : OC h (sI h a k v) :=
  ⟨fun b c => gI_sIn _ _ _ _ _ (by omega), fun _ _ => rfl, fun _ _ _ => rfl, rfl, rfl, rfl, rfl, fun j hj => by rw [gI_sI, if_neg (by omega)]⟩
theorem OC.P (h : HP) (v : Option Nat) : OC h (sP h 10 1 v) :=
  ⟨fun _ _ => rfl, fun _ _ => rfl, fun b k q => by rw [gP_sP, if_neg (fun e => by rw [e.1, e.2] at q; cases q)], rfl, rfl, rfl, rfl, fun _ _ => rfl⟩
theorem OC.x {h h' : HP} (o : Ox XC h h') : OC h h' := by
  have z : ∀ a, (a < 9 ∨ 18 < a) → XC a = false := fun a q => decide_eq_false (by omega)
  exact ⟨fun a q => (o.1 a (z a (by omega))).1, fun a q => (o.1 a (z a (by omega))).2, fun a k _ => by rw [o.2.1], o.2.2.1, o.2.2.2.1, o.2.2.2.2.1, o.2.2.2.2.2, fun j hj => by rw [(o.1 (25 + j) (z _ (by omega))).1]⟩
theorem OC.q {h h' : HP} (o : OC h h') : Qs h (h.1, h.2.1, h'.2.2.1, h.2.2.2) := ⟨fun _ _ _ => rfl, fun _ _ _ => rfl, o.2.2.1, rfl, rfl, rfl, rfl⟩
theorem OC.C {h h' : HP} (o : OC h h') (L : LayC h) : LayC h' := LayC.of (L.Q o.q) o.2.2.2.1 rfl
theorem OC.K {h h' : HP} (o : OC h h') (L : LayK h) : LayK h' := LayK.of (L.Q o.q) o.2.2.2.1 rfl
theorem OC.M {h h' : HP} (o : OC h h') (L : LayM h) : LayM h' := LayM.of (L.Q o.q) o.2.2.2.1 rfl
theorem OC.k {h h' : HP} (o : OC h h') : SmN h h' 47 47 := by
  obtain ⟨x1, x2, x3, x4, x5, x6, x7, x8⟩ := o
  refine ⟨fun a k h1 h2 _ _ => by rw [x1 _ (by omega)], fun j hj => x3 _ _ ?_, fun t ht _ => ⟨x1 t (by omega), x2 t ht, ?_, by rw [x4]⟩, by rw [x5]; exact Nat.le_refl _⟩
  · unfold PR; simp <;> omega
  · funext k; refine x3 t k ?_; unfold PR; simp <;> omega
/-! one job changed -/
theorem RN.jb {h : HP} {W : Int → Int} (r : RN h 0 W) (j : Nat) (hj : (j : Int) < W 8) : JBf h (25 + j) W (169 + 882 * (j : Int)) ∧ JBg W (169 + 882 * (j : Int)) ∧ ∃ t, gP h (25 + j) 5 = some t ∧ TXT h t W (169 + 882 * (j : Int)) := r.2.2.2.2.2.2.2.2.1 j hj
theorem RN.g {h : HP} {W : Int → Int} (r : RN h 0 W) (j : Nat) (hj : (j : Int) < W 8) : JBg W (169 + 882 * (j : Int)) := (r.2.2.2.2.2.2.2.2.1 j hj).2.1
theorem RNw.jb {h : HP} {W : Int → Int} (r : RNw h 0 W) (j : Nat) (hj : (j : Int) < W 8) : JBf h (25 + j) W (169 + 882 * (j : Int)) ∧ ∃ t, gP h (25 + j) 5 = some t ∧ TXT h t W (169 + 882 * (j : Int)) := r.2.2.2.2.2.2.2.2.1 j hj
theorem RNw.job {h h' : HP} {W W' : Int → Int} (r : RNw h 0 W) (j : Nat) (hj : (j : Int) < W 8) (s : SmX (fun a _ => decide (a = 25 + j ∨ a = 9)) h h' 0 0) (sc : RSc h' 0 W') (gs : GSc W') (w : ∀ i : Int, 9 ≤ i → i < 11357 + 7 * W 11356 → (i < 169 + 882 * (j : Int) ∨ 169 + 882 * (j : Int) + 16 ≤ i) → i ≠ 169 + 882 * (j : Int) + 21 → W' i = W i) (w8 : W' 8 = W 8) (f : JBf h' (25 + j) W' (169 + 882 * (j : Int))) (n : RRn W') : RNw h' 0 W' := by
  obtain ⟨n1, n2, n3, n4, n5, n6, n7, n8, n9, n10, n11⟩ := r
  have g8 := n2.g8
  have hj12 : j < 12 := by omega
  have hr := n8.2.1
  exact ⟨sc, gs, n3.cg s (fun a k q => decide_eq_false (by omega)) (fun i a c => w i (by omega) (by omega) (by omega) (by omega)), n4.cg s (fun a k q => decide_eq_false (by omega)) (fun i a c => w i (by omega) (by omega) (by omega) (by omega)), n5.cg s (fun a k q => decide_eq_false (by omega)) (fun i a c => w i (by omega) (by omega) (by omega) (by omega)), n6.cg s (fun a k q => decide_eq_false (by omega)) (fun i a c => w i (by omega) (by omega) (by omega) (by omega)), n7.cg s (fun a k q => decide_eq_false (by omega)) (fun i a c => w i (by omega) (by omega) (by omega) (by omega)), n8.cg s (fun a k q => decide_eq_false (by omega)) w8 (fun i a c => w i (by omega) (by omega) (by omega) (by omega)), RJw.up s g8.2 w8 j (fun a k q => decide_eq_false (by omega)) (fun i a c d e => w i (by omega) (by omega) d e) n9 (fun _ => f), n10.cg s (fun a k q => decide_eq_false (by omega)) g8 w8 (fun j' f' a c d e => w _ (by omega) (by omega) (by omega) (by omega)), n⟩
theorem SmX.mo {X Y : Nat → Nat → Bool} {h h' : HP} {b b' : Nat} (s : SmX X h h' b b') (q : ∀ a k, Y a k = false → X a k = false) : SmX Y h h' b b' := ⟨fun a k h1 h2 h3 h4 => s.1 a k h1 h2 h3 (q a k h4), s.2⟩
theorem RNw.job0 {h h' : HP} {W W' : Int → Int} (r : RNw h 0 W) (j : Nat) (hj : (j : Int) < W 8) (s : SmX (fun a _ => decide (a = 25 + j)) h h' 0 0) (w : ∀ i : Int, 0 ≤ i → i < 11357 + 7 * W 11356 → (i < 169 + 882 * (j : Int) ∨ 169 + 882 * (j : Int) + 16 ≤ i) → i ≠ 169 + 882 * (j : Int) + 21 → W' i = W i) (f : JBf h' (25 + j) W' (169 + 882 * (j : Int))) (n : RRn W') : RNw h' 0 W' := by
  have g8 := r.2.1.g8
  have hj12 : j < 12 := by omega
  have hr := r.2.2.2.2.2.2.2.1.2.1
  exact r.job j hj (s.mo (fun a k q => by have := of_decide_eq_false q; exact decide_eq_false (by omega))) (r.1.cg s (fun a k q => decide_eq_false (by omega)) (fun i a c => w i (by omega) (by omega) (by omega) (by omega))) (r.2.1.cg (fun i a c => w i (by omega) (by omega) (by omega) (by omega))) (fun i a c d e => w i (by omega) c d e) (w 8 (by omega) (by omega) (by omega) (by omega)) f n
/-- the other jobs' bounds -/
theorem JBg.ot {W W' : Int → Int} (g8 : W 8 ≤ 12) (j : Nat) (w : ∀ i : Int, 169 ≤ i → i < 10753 → (i < 169 + 882 * (j : Int) ∨ 169 + 882 * (j : Int) + 16 ≤ i) → i ≠ 169 + 882 * (j : Int) + 21 → W' i = W i) (k : Nat) (hk : (k : Int) < W 8) (hkj : k ≠ j) (g : JBg W (169 + 882 * (k : Int))) : JBg W' (169 + 882 * (k : Int)) := g.cg (fun i a c => w i (by omega) (by omega) (by omega) (by omega))
theorem RN.job {h h' : HP} {W W' : Int → Int} (r : RN h 0 W) (j : Nat) (hj : (j : Int) < W 8) (s : SmX (fun a _ => decide (a = 25 + j ∨ a = 9)) h h' 0 0) (sc : RSc h' 0 W') (gs : GSc W') (w : ∀ i : Int, 9 ≤ i → i < 11357 + 7 * W 11356 → (i < 169 + 882 * (j : Int) ∨ 169 + 882 * (j : Int) + 16 ≤ i) → i ≠ 169 + 882 * (j : Int) + 21 → W' i = W i) (w8 : W' 8 = W 8) (f : JBf h' (25 + j) W' (169 + 882 * (j : Int))) (g : JBg W' (169 + 882 * (j : Int))) (n : RRn W') : RN h' 0 W' := by
  have g8 := r.2.1.g8
  have hr := r.2.2.2.2.2.2.2.1.2.1
  refine (r.w.job j hj s sc gs w w8 f n).mkN (fun k hk => ?_)
  rw [w8] at hk
  by_cases e : k = j
  · rw [e]; exact g
  · exact JBg.ot g8.2 j (fun i a c d e => w i (by omega) (by omega) d e) k hk e (r.g k hk)
/-! the cells of a job that ends -/
def sW (W : Int → Int) (i v : Int) : Int → Int := fun x => if x = i then v else W x
theorem sW_e {W : Int → Int} (i v : Int) : sW W i v i = v := if_pos rfl
theorem sW_n {W : Int → Int} {i v x : Int} (h : x ≠ i) : sW W i v x = W x := if_neg h
def endW (W : Int → Int) (o st f : Int) : Int → Int := sW (sW (sW (sW (sW W (o + 8) st) (o + 9) 0) (o + 12) (W 0)) (o + 13) (w32 (W (o + 13) + 1))) (o + 14) (w32 (W (o + 14) + f))
section EW
variable {W : Int → Int} {o st f : Int}
theorem endW_8 : endW W o st f (o + 8) = st := by unfold endW; rw [sW_n (by omega), sW_n (by omega), sW_n (by omega), sW_n (by omega), sW_e]
theorem endW_9 : endW W o st f (o + 9) = 0 := by unfold endW; rw [sW_n (by omega), sW_n (by omega), sW_n (by omega), sW_e]
theorem endW_12 : endW W o st f (o + 12) = W 0 := by unfold endW; rw [sW_n (by omega), sW_n (by omega), sW_e]
theorem endW_13 : endW W o st f (o + 13) = w32 (W (o + 13) + 1) := by unfold endW; rw [sW_n (by omega), sW_e]
theorem endW_14 : endW W o st f (o + 14) = w32 (W (o + 14) + f) := by unfold endW; rw [sW_e]
theorem endW_o (i : Int) (h : (i < o + 8 ∨ o + 9 < i) ∧ (i < o + 12 ∨ o + 14 < i)) : endW W o st f i = W i := by unfold endW; rw [sW_n (by omega), sW_n (by omega), sW_n (by omega), sW_n (by omega), sW_n (by omega)]
end EW
/-- the class's leaving -/
def lvH (h : HP) (p : Nat) (st m : Int) : HP := if st = 6 then sI (sI (sI (sI (sI h p 9 st) p 12 0) p 14 m) p 15 (w32 (gI h p 15 + 1))) p 16 (w32 (gI h p 16 + 1)) else sI (sI (sI (sI h p 9 st) p 12 0) p 14 m) p 15 (w32 (gI h p 15 + 1))
section FI
variable {F : Nat}
theorem E_leave {h : HP} (L : LayC h) (j : Nat) (hj : j < 12) (st m : Int) : X2_leave F (25 + j) st m h = some ((), lvH h (25 + j) st m) := by
  unfold X2_leave lvH
  rw [cWj h j 9 _ _ L hj, cWj _ j 12 _ _ (by exact L) hj, cWj _ j 14 _ _ (by exact L) hj, cIj _ j 15 _ (by exact L) hj, cWj _ j 15 _ _ (by exact L) hj]
  rw [gI_sIk _ _ _ _ _ (by decide), gI_sIk _ _ _ _ _ (by decide), gI_sIk _ _ _ _ _ (by decide)]
  by_cases c : st = 6
  · rw [if_pos c, if_pos c, cIj _ j 16 _ (by exact L) hj, cWj _ j 16 _ _ (by exact L) hj]
    rw [gI_sIk _ _ _ _ _ (by decide), gI_sIk _ _ _ _ _ (by decide), gI_sIk _ _ _ _ _ (by decide), gI_sIk _ _ _ _ _ (by decide)]
  · rw [if_neg c, if_neg c]
theorem lvH_g (h : HP) (p : Nat) (st m : Int) : gI (lvH h p st m) p 9 = st ∧ gI (lvH h p st m) p 12 = 0 ∧ gI (lvH h p st m) p 14 = m ∧ gI (lvH h p st m) p 15 = w32 (gI h p 15 + 1) ∧ gI (lvH h p st m) p 16 = (if st = 6 then w32 (gI h p 16 + 1) else gI h p 16) ∧ (∀ k, k ≠ 9 → k ≠ 12 → k ≠ 14 → k ≠ 15 → k ≠ 16 → gI (lvH h p st m) p k = gI h p k) ∧ (∀ a, a ≠ p → gI (lvH h p st m) a = gI h a) := by
  unfold lvH
  by_cases c : st = 6
  · simp only [if_pos c]
    refine ⟨?_, ?_, ?_, ?_, ?_, fun k h1 h2 h3 h4 h5 => ?_, fun a ha => ?_⟩
    · rw [gI_sIk _ _ _ _ _ (by decide), gI_sIk _ _ _ _ _ (by decide), gI_sIk _ _ _ _ _ (by decide), gI_sIk _ _ _ _ _ (by decide), gI_sIe]
    · rw [gI_sIk _ _ _ _ _ (by decide), gI_sIk _ _ _ _ _ (by decide), gI_sIk _ _ _ _ _ (by decide), gI_sIe]
    · rw [gI_sIk _ _ _ _ _ (by decide), gI_sIk _ _ _ _ _ (by decide), gI_sIe]
    · rw [gI_sIk _ _ _ _ _ (by decide), gI_sIe]
    · rw [gI_sIe]
    · rw [gI_sIk _ _ _ _ _ h5, gI_sIk _ _ _ _ _ h4, gI_sIk _ _ _ _ _ h3, gI_sIk _ _ _ _ _ h2, gI_sIk _ _ _ _ _ h1]
    · rw [gI_sIn _ _ _ _ _ ha, gI_sIn _ _ _ _ _ ha, gI_sIn _ _ _ _ _ ha, gI_sIn _ _ _ _ _ ha, gI_sIn _ _ _ _ _ ha]
  · simp only [if_neg c]
    refine ⟨?_, ?_, ?_, ?_, ?_, fun k h1 h2 h3 h4 h5 => ?_, fun a ha => ?_⟩
    · rw [gI_sIk _ _ _ _ _ (by decide), gI_sIk _ _ _ _ _ (by decide), gI_sIk _ _ _ _ _ (by decide), gI_sIe]
    · rw [gI_sIk _ _ _ _ _ (by decide), gI_sIk _ _ _ _ _ (by decide), gI_sIe]
    · rw [gI_sIk _ _ _ _ _ (by decide), gI_sIe]
    · rw [gI_sIe]
    · rw [gI_sIk _ _ _ _ _ (by decide), gI_sIk _ _ _ _ _ (by decide), gI_sIk _ _ _ _ _ (by decide), gI_sIk _ _ _ _ _ (by decide)]
    · rw [gI_sIk _ _ _ _ _ h4, gI_sIk _ _ _ _ _ h3, gI_sIk _ _ _ _ _ h2, gI_sIk _ _ _ _ _ h1]
    · rw [gI_sIn _ _ _ _ _ ha, gI_sIn _ _ _ _ _ ha, gI_sIn _ _ _ _ _ ha, gI_sIn _ _ _ _ _ ha]
theorem lvH_S {h : HP} (j : Nat) (hj : j < 12) (st m : Int) : SmX (fun a _ => decide (a = 25 + j)) h (lvH h (25 + j) st m) 0 0 := by
  have t : ∀ k, (fun a (_ : Nat) => decide (a = 25 + j)) (25 + j) k = true := fun k => decide_eq_true rfl
  unfold lvH
  split
  · exact (((((SmX.rf _ h 0).uI _ 9 _ (by omega) (Or.inr (t 9))).uI _ 12 _ (by omega) (Or.inr (t 12))).uI _ 14 _ (by omega) (Or.inr (t 14))).uI _ 15 _ (by omega) (Or.inr (t 15))).uI _ 16 _ (by omega) (Or.inr (t 16))
  · exact ((((SmX.rf _ h 0).uI _ 9 _ (by omega) (Or.inr (t 9))).uI _ 12 _ (by omega) (Or.inr (t 12))).uI _ 14 _ (by omega) (Or.inr (t 14))).uI _ 15 _ (by omega) (Or.inr (t 15))
theorem lvH_O {h : HP} (j : Nat) (hj : j < 12) (st m : Int) : OC h (lvH h (25 + j) st m) := by
  unfold lvH
  split
  · exact ((((OC.I _ _ _ _ (by omega) (Or.inr (by decide))).tr (OC.I _ _ _ _ (by omega) (Or.inr (by decide)))).tr (OC.I _ _ _ _ (by omega) (Or.inr (by decide)))).tr (OC.I _ _ _ _ (by omega) (Or.inr (by decide)))).tr (OC.I _ _ _ _ (by omega) (Or.inr (by decide)))
  · exact (((OC.I _ _ _ _ (by omega) (Or.inr (by decide))).tr (OC.I _ _ _ _ (by omega) (Or.inr (by decide)))).tr (OC.I _ _ _ _ (by omega) (Or.inr (by decide)))).tr (OC.I _ _ _ _ (by omega) (Or.inr (by decide)))
/-- a job's bounds, but for its state, the minutes left, and what goes with them -/
def JBw (W : Int → Int) (o : Int) : Prop := 1 ≤ W (o + 0) ∧ W (o + 0) ≤ 60 ∧ 0 ≤ W (o + 1) ∧ W (o + 1) ≤ 1000 ∧ 0 ≤ W (o + 2) ∧ W (o + 2) ≤ 480 ∧ 0 ≤ W (o + 3) ∧ W (o + 3) ≤ 60 ∧ (W (o + 4) = 0 ∨ W (o + 4) = 1) ∧ 0 ≤ W (o + 5) ∧ W (o + 5) ≤ 60 ∧ 0 ≤ W (o + 6) ∧ W (o + 6) ≤ 1000 ∧ -9999 ≤ W (o + 7) ∧ W (o + 7) ≤ 9999 ∧ 0 ≤ W (o + 10) ∧ W (o + 10) ≤ 480 ∧ 0 ≤ W (o + 11) ∧ W (o + 11) ≤ 2 ∧ in32 (W (o + 12)) ∧ in32 (W (o + 13)) ∧ in32 (W (o + 14)) ∧ in32 (W (o + 15)) ∧ 0 ≤ W (o + 21) ∧ W (o + 21) ≤ 60 ∧ (W (o + 11) = 2 → 1 ≤ W (o + 2))
theorem JBg.w {W : Int → Int} {o : Int} (g : JBg W o) : JBw W o := by
  unfold JBg at g
  obtain ⟨Q0, Q1, Q2, Q3, Q4, Q5, Q6, Q7, Q8, Q9, Q10, Q11, Q12, Q13, Q14, Q15, Q16, Q17, Q18, Q19, Q20, Q21, Q22, Q23, Q24, Q25, Q26, Q27, Q28, Q29, Q30, Q31, Q32⟩ := g
  exact ⟨Q0, Q1, Q2, Q3, Q4, Q5, Q6, Q7, Q8, Q9, Q10, Q11, Q12, Q13, Q14, Q19, Q20, Q21, Q22, Q23, Q24, Q25, Q26, Q27, Q28, Q30⟩
theorem JBw.cg {W W' : Int → Int} {o : Int} (w : ∀ k : Int, 0 ≤ k → k < 22 → k ≠ 8 → k ≠ 9 → k ≠ 10 → k ≠ 15 → W' (o + k) = W (o + k)) (h10 : 0 ≤ W' (o + 10) ∧ W' (o + 10) ≤ 480) (h15 : in32 (W' (o + 15))) (g : JBw W o) : JBw W' o := by
  unfold JBw at g ⊢
  rw [w 0 (by decide) (by decide) (by decide) (by decide) (by decide) (by decide), w 1 (by decide) (by decide) (by decide) (by decide) (by decide) (by decide), w 2 (by decide) (by decide) (by decide) (by decide) (by decide) (by decide), w 3 (by decide) (by decide) (by decide) (by decide) (by decide) (by decide), w 4 (by decide) (by decide) (by decide) (by decide) (by decide) (by decide), w 5 (by decide) (by decide) (by decide) (by decide) (by decide) (by decide), w 6 (by decide) (by decide) (by decide) (by decide) (by decide) (by decide), w 7 (by decide) (by decide) (by decide) (by decide) (by decide) (by decide), w 11 (by decide) (by decide) (by decide) (by decide) (by decide) (by decide), w 12 (by decide) (by decide) (by decide) (by decide) (by decide) (by decide), w 13 (by decide) (by decide) (by decide) (by decide) (by decide) (by decide), w 14 (by decide) (by decide) (by decide) (by decide) (by decide) (by decide), w 21 (by decide) (by decide) (by decide) (by decide) (by decide) (by decide)]
  obtain ⟨Q0, Q1, Q2, Q3, Q4, Q5, Q6, Q7, Q8, Q9, Q10, Q11, Q12, Q13, Q14, Q19, Q20, Q21, Q22, Q23, Q24, Q25, Q26, Q27, Q28, Q30⟩ := g
  exact ⟨Q0, Q1, Q2, Q3, Q4, Q5, Q6, Q7, Q8, Q9, Q10, Q11, Q12, Q13, Q14, h10.1, h10.2, Q21, Q22, Q23, Q24, Q25, h15, Q27, Q28, Q30⟩
theorem JBw.i15 {W : Int → Int} {o : Int} (g : JBw W o) : in32 (W (o + 15)) ∧ in32 (W (o + 14)) ∧ (0 ≤ W (o + 10) ∧ W (o + 10) ≤ 480) ∧ (-9999 ≤ W (o + 7) ∧ W (o + 7) ≤ 9999) := by
  unfold JBw at g
  obtain ⟨Q0, Q1, Q2, Q3, Q4, Q5, Q6, Q7, Q8, Q9, Q10, Q11, Q12, Q13, Q14, Q19, Q20, Q21, Q22, Q23, Q24, Q25, Q26, Q27, Q28, Q30⟩ := g
  exact ⟨Q26, Q25, ⟨Q19, Q20⟩, Q13, Q14⟩
theorem JBw.en {W : Int → Int} {o st f : Int} (g : JBw W o) (hs : 2 ≤ st ∧ st ≤ 6) (h0 : 0 ≤ W 0 ∧ W 0 ≤ 480) : JBg (endW W o st f) o := by
  have e0 := endW_o (W := W) (o := o) (st := st) (f := f) (o + 0) (by omega)
  have e1 := endW_o (W := W) (o := o) (st := st) (f := f) (o + 1) (by omega)
  have e2 := endW_o (W := W) (o := o) (st := st) (f := f) (o + 2) (by omega)
  have e3 := endW_o (W := W) (o := o) (st := st) (f := f) (o + 3) (by omega)
  have e4 := endW_o (W := W) (o := o) (st := st) (f := f) (o + 4) (by omega)
  have e5 := endW_o (W := W) (o := o) (st := st) (f := f) (o + 5) (by omega)
  have e6 := endW_o (W := W) (o := o) (st := st) (f := f) (o + 6) (by omega)
  have e7 := endW_o (W := W) (o := o) (st := st) (f := f) (o + 7) (by omega)
  have e10 := endW_o (W := W) (o := o) (st := st) (f := f) (o + 10) (by omega)
  have e11 := endW_o (W := W) (o := o) (st := st) (f := f) (o + 11) (by omega)
  have e15 := endW_o (W := W) (o := o) (st := st) (f := f) (o + 15) (by omega)
  have e21 := endW_o (W := W) (o := o) (st := st) (f := f) (o + 21) (by omega)
  have a1 : 0 ≤ st := by omega
  have a2 : st ≤ 6 := hs.2
  have a3 : st ≠ 0 := by omega
  have a4 : in32 (W 0) := by unfold in32; omega
  unfold JBw at g
  unfold JBg
  rw [e0, e1, e2, e3, e4, e5, e6, e7, e10, e11, e15, e21, endW_8, endW_9, endW_12, endW_13, endW_14]
  obtain ⟨Q0, Q1, Q2, Q3, Q4, Q5, Q6, Q7, Q8, Q9, Q10, Q11, Q12, Q13, Q14, Q19, Q20, Q21, Q22, Q23, Q24, Q25, Q26, Q27, Q28, Q30⟩ := g
  exact ⟨Q0, Q1, Q2, Q3, Q4, Q5, Q6, Q7, Q8, Q9, Q10, Q11, Q12, Q13, Q14, a1, a2, by decide, by decide, Q19, Q20, Q21, Q22, a4, w32_in _, w32_in _, Q26, Q27, Q28, Q27, Q30, fun q => absurd q a3, fun q => absurd q a3⟩
theorem E_finR {h : HP} {V W : Int → Int} (r : RNw h 0 V) (j : Nat) (hj : (j : Int) < W 8) (hV : ∀ i : Int, i ≠ 169 + 882 * (j : Int) + 15 → V i = W i) (gW : JBw W (169 + 882 * (j : Int))) (gk : ∀ k : Nat, (k : Int) < W 8 → k ≠ j → JBg W (169 + 882 * (k : Int))) (st : Int) (hs : 2 ≤ st ∧ st ≤ 6) (hn : W 4 ≠ (j : Int)) : RN (lvH (sI h (25 + j) 17 (W (169 + 882 * (j : Int) + 15))) (25 + j) st (W 0)) 0 (endW W (169 + 882 * (j : Int)) st (if st = 6 then 1 else 0)) := by
  have v8 : V 8 = W 8 := hV 8 (by omega)
  have v4 : V 4 = W 4 := hV 4 (by omega)
  have g8 := r.2.1.g8
  have hj12 : j < 12 := by omega
  obtain ⟨f0, -⟩ := r.jb j (by omega)
  have v0 : 0 ≤ W 0 ∧ W 0 ≤ 480 := by rw [← hV 0 (by omega)]; exact ⟨r.2.1.1, r.2.1.2.1⟩
  obtain ⟨l1, l2, l3, l4, l5, l6, l7⟩ := lvH_g (sI h (25 + j) 17 (W (169 + 882 * (j : Int) + 15))) (25 + j) st (W 0)
  have qV : ∀ k : Int, k ≠ 15 → V (169 + 882 * (j : Int) + k) = W (169 + 882 * (j : Int) + k) := fun k q => hV _ (by omega)
  have i14 := gW.i15.2.1
  have t17 : (fun a (_ : Nat) => decide (a = 25 + j)) (25 + j) 17 = true := decide_eq_true rfl
  have s1 : SmX (fun a _ => decide (a = 25 + j)) h (sI h (25 + j) 17 (W (169 + 882 * (j : Int) + 15))) 0 0 := (SmX.rf _ h 0).uI _ 17 _ (by omega) (Or.inr t17)
  have s2 := lvH_S (h := sI h (25 + j) 17 (W (169 + 882 * (j : Int) + 15))) j hj12 st (W 0)
  have s : SmX (fun a _ => decide (a = 25 + j)) h (lvH (sI h (25 + j) 17 (W (169 + 882 * (j : Int) + 15))) (25 + j) st (W 0)) 0 0 :=
    ⟨fun a k h1 h2 h3 h4 => (s2.1 a k h1 h2 h3 h4).trans (s1.1 a k h1 h2 h3 h4), fun j hj => (s2.2.1 j hj).trans (s1.2.1 j hj), fun t h1 h2 => by
      obtain ⟨a1, a2, a3, a4⟩ := s1.2.2.1 t h1 h2
      obtain ⟨b1, b2, b3, b4⟩ := s2.2.2.1 t h1 (Nat.le_trans h2 s1.2.2.2)
      exact ⟨b1.trans a1, b2.trans a2, b3.trans a3, b4.trans a4⟩, Nat.le_trans s1.2.2.2 s2.2.2.2⟩
  have e8 : endW W (169 + 882 * (j : Int)) st (if st = 6 then 1 else 0) 8 = W 8 := endW_o 8 (by omega)
  refine (r.job0 j (by omega) s (fun i h0 h1 h2 h3 => ?_) ?_ ?_).mkN (fun k hk => ?_)
  · rw [endW_o i (by omega), hV i (by omega)]
  · unfold JBf at f0 ⊢
    obtain ⟨F0, F1, F2, F3, F4, F5, F6, F7, F8, F9, F10, F11, F12, F13, F14, F15, F16⟩ := f0
    have ks : ∀ k, k ≠ 17 → gI (sI h (25 + j) 17 (W (169 + 882 * (j : Int) + 15))) (25 + j) k = gI h (25 + j) k := fun k q => gI_sIk _ _ _ _ _ q
    have kk : ∀ k, k ≠ 9 → k ≠ 12 → k ≠ 14 → k ≠ 15 → k ≠ 16 → k ≠ 17 → gI (lvH (sI h (25 + j) 17 (W (169 + 882 * (j : Int) + 15))) (25 + j) st (W 0)) (25 + j) k = gI h (25 + j) k := fun k h1 h2 h3 h4 h5 h6 => (l6 k h1 h2 h3 h4 h5).trans (ks k h6)
    refine ⟨?_, ?_, ?_, ?_, ?_, ?_, ?_, ?_, ?_, ?_, ?_, ?_, ?_, ?_, ?_, ?_, ?_⟩
    · rw [kk 0 (by decide) (by decide) (by decide) (by decide) (by decide) (by decide), F0, qV 0 (by decide), endW_o _ (by omega)]
    · rw [kk 1 (by decide) (by decide) (by decide) (by decide) (by decide) (by decide), F1, qV 1 (by decide), endW_o _ (by omega)]
    · rw [kk 2 (by decide) (by decide) (by decide) (by decide) (by decide) (by decide), F2, qV 2 (by decide), endW_o _ (by omega)]
    · rw [kk 3 (by decide) (by decide) (by decide) (by decide) (by decide) (by decide), F3, qV 3 (by decide), endW_o _ (by omega)]
    · rw [kk 4 (by decide) (by decide) (by decide) (by decide) (by decide) (by decide), F4, qV 4 (by decide), endW_o _ (by omega)]
    · rw [kk 6 (by decide) (by decide) (by decide) (by decide) (by decide) (by decide), F5, qV 5 (by decide), endW_o _ (by omega)]
    · rw [kk 7 (by decide) (by decide) (by decide) (by decide) (by decide) (by decide), F6, qV 6 (by decide), endW_o _ (by omega)]
    · rw [kk 8 (by decide) (by decide) (by decide) (by decide) (by decide) (by decide), F7, qV 7 (by decide), endW_o _ (by omega)]
    · rw [l1, endW_8]
    · rw [l2, endW_9]
    · rw [kk 13 (by decide) (by decide) (by decide) (by decide) (by decide) (by decide), F10, qV 10 (by decide), endW_o _ (by omega)]
    · rw [kk 10 (by decide) (by decide) (by decide) (by decide) (by decide) (by decide), F11, qV 11 (by decide), endW_o _ (by omega)]
    · rw [l3, endW_12]
    · rw [l4, ks 15 (by decide), F13, qV 13 (by decide), endW_13]
    · rw [l5, ks 16 (by decide), F14, qV 14 (by decide), endW_14]
      by_cases c : st = 6
      · rw [if_pos c, if_pos c]
      · rw [if_neg c, if_neg c, Int.add_zero]
        unfold in32 at i14
        exact (w32i _ (by omega) (by omega)).symm
    · rw [l6 17 (by decide) (by decide) (by decide) (by decide) (by decide), gI_sIe, endW_o _ (by omega)]
    · rw [kk 11 (by decide) (by decide) (by decide) (by decide) (by decide) (by decide), F16, qV 21 (by decide), endW_o _ (by omega)]
  · intro q4
    rw [endW_o 4 (by omega)] at q4 ⊢
    have n11 := r.2.2.2.2.2.2.2.2.2.2
    unfold RRn at n11
    rw [v4] at n11
    have q5 := n11 q4
    rw [hV (169 + 882 * W 4 + 8) (by omega)] at q5
    rw [endW_o (169 + 882 * W 4 + 8) (by omega)]
    exact q5
  · rw [e8] at hk
    by_cases e : k = j
    · rw [e]; exact gW.en hs v0
    · exact JBg.ot (W := W) (by omega) j (fun i a c d e => endW_o i (by omega)) k hk e (gk k hk e)
/-- the reference's end of a job -/
theorem E_endsM {g : HP} {W : Int → Int} (L : LayM g) (rW : aI g 114 = W) (j : Nat) (hj : j < 12) (good st : Int) : ∃ g', X12_ends F 113 j good st g = some ((), g') ∧ Ox XM g g' ∧ aI g' 114 = endW W (169 + 882 * (j : Int)) (if good = 0 then 6 else st) (if good = 0 then 1 else 0) := by
  have c : ∀ i : Int, 0 ≤ i → i < 882 → 0 ≤ (j : Int) ∧ (j : Int) < 12 ∧ 0 ≤ i ∧ i < 882 := fun i a b => ⟨by omega, by omega, a, b⟩
  have mv : ∀ (h : HP) (i v : Int), 0 < i → aI (sA h 114 i v) 114 = sW (aI h 114) i v := fun h i v q => aI_sAf h 114 i v q
  have k1 := mv g (169 + 882 * (j : Int) + 8) (if good = 0 then 6 else st) (by omega)
  rw [rW] at k1
  refine ⟨sA (sA (sA (sA (sA g 114 (169 + 882 * (j : Int) + 8) (if good = 0 then 6 else st)) 114 (169 + 882 * (j : Int) + 9) 0) 114 (169 + 882 * (j : Int) + 12) (W 0)) 114 (169 + 882 * (j : Int) + 13) (w32 (W (169 + 882 * (j : Int) + 13) + 1))) 114 (169 + 882 * (j : Int) + 14) (w32 (W (169 + 882 * (j : Int) + 14) + (if good = 0 then 1 else 0))), ?_, ((((Ox.A _ 114 _ _ rfl).tr (Ox.A _ 114 _ _ rfl)).tr (Ox.A _ 114 _ _ rfl)).tr (Ox.A _ 114 _ _ rfl)).tr (Ox.A _ 114 _ _ rfl), ?_⟩
  · unfold X12_ends X12_ends_L14 X12_ends_L72
    rw [mR113 g _ L, b_xb _ _ _ _ (E_sets (F := F) (h := g) (j : Int) 8 (if good = 0 then 6 else st) L (c 8 (by decide) (by decide)))]
    rw [mR113 _ _ (by exact L), b_xb _ _ _ _ (E_sets (F := F) (j : Int) 9 0 (by exact L) (c 9 (by decide) (by decide)))]
    rw [mR113 _ _ (by exact L), b_xb _ _ _ _ (E_now (F := F) (by exact L))]
    have z0 : ∀ (h : HP) (i v : Int), 0 < i → aI (sA h 114 i v) 114 0 = aI h 114 0 := fun h i v q => by rw [mv h i v q]; exact sW_n (by omega)
    rw [z0 _ _ _ (by omega), z0 _ _ _ (by omega), rW]
    rw [mR113 _ _ (by exact L), b_xb _ _ _ _ (E_sets (F := F) (j : Int) 12 (W 0) (by exact L) (c 12 (by decide) (by decide)))]
    rw [mR113 _ _ (by exact L), b_xb _ _ _ _ (E_its (F := F) (j : Int) 13 (by exact L) (c 13 (by decide) (by decide)))]
    rw [mv _ _ _ (by omega), sW_n (by omega), mv _ _ _ (by omega), sW_n (by omega), mv _ _ _ (by omega), sW_n (by omega), rW]
    rw [mR113 _ _ (by exact L), b_xb _ _ _ _ (E_sets (F := F) (j : Int) 13 (w32 (W (169 + 882 * (j : Int) + 13) + 1)) (by exact L) (c 13 (by decide) (by decide)))]
    rw [mR113 _ _ (by exact L), b_xb _ _ _ _ (E_its (F := F) (j : Int) 14 (by exact L) (c 14 (by decide) (by decide)))]
    rw [mv _ _ _ (by omega), sW_n (by omega), mv _ _ _ (by omega), sW_n (by omega), mv _ _ _ (by omega), sW_n (by omega), mv _ _ _ (by omega), sW_n (by omega), rW]
    rw [mR113 _ _ (by exact L), b_xb _ _ _ _ (E_sets (F := F) (j : Int) 14 (w32 (W (169 + 882 * (j : Int) + 14) + (if good = 0 then 1 else 0))) (by exact L) (c 14 (by decide) (by decide)))]
  · rw [mv _ _ _ (by omega), mv _ _ _ (by omega), mv _ _ _ (by omega), mv _ _ _ (by omega), k1]
    rfl
end FI
