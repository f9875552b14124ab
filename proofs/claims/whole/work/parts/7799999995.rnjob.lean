/-! the relation with one job more -/
theorem RR1.w8 {h h' : HP} {b : Nat} {W W' : Int → Int} {k : Int} (f16 : aI h' (16 + b) k = aI h (16 + b) k) (f17 : aI h' (17 + b) k = aI h (17 + b) k) (f18 : aI h' (18 + b) k = aI h (18 + b) k) (w8 : W 8 ≤ W' 8) (w : ∀ i : Int, 11357 + 7 * k ≤ i → i ≤ 11357 + 7 * k + 6 → W' i = W i) (r : RR1 h b W k) : RR1 h' b W' k := by
  unfold RR1 at *
  rw [f16, f17, f18, w (11357 + 7 * k) (by omega) (by omega), w (11357 + 7 * k + 1) (by omega) (by omega), w (11357 + 7 * k + 2) (by omega) (by omega), w (11357 + 7 * k + 3) (by omega) (by omega), w (11357 + 7 * k + 4) (by omega) (by omega), w (11357 + 7 * k + 5) (by omega) (by omega), w (11357 + 7 * k + 6) (by omega) (by omega)]
  obtain ⟨te, ca, q1, q2, q3, q4, q5, q6, q7, q8, q9, q10, q11, q12, q13⟩ := r
  exact ⟨te, ca, q1, q2, q3, q4, q5, q6, q7, q8, q9, q10, q11, Int.lt_of_lt_of_le q12 w8, q13⟩
theorem TXT.sp {h : HP} {p t : Nat} {v : Option Nat} {W : Int → Int} {o : Int} (hp : p ≤ 126) (r : TXT (sP h p 5 v) t W o) : TXT h t W o := by
  obtain ⟨A, q, n, r1, r2, r3, r4, r5, r6⟩ := r
  have e : gP (sP h p 5 v) t = gP h t := gP_sPn _ _ _ _ _ (by omega)
  rw [e] at r4
  exact ⟨A, q, n, r1, r2, r3, r4, r5, r6⟩
def XJ (j : Nat) : Nat → Nat → Bool := fun x _ => decide (x = 19 ∨ x = 21 ∨ x = 22 ∨ x = 25 + j)
theorem XJ_n {j x : Nat} (k : Nat) (p1 : x ≠ 19) (p2 : x ≠ 21) (p3 : x ≠ 22) (p4 : x ≠ 25 + j) : XJ j x k = false := by
  unfold XJ
  exact decide_eq_false (by omega)
theorem RN.more {h h2 : HP} {W W' : Int → Int} (r : RN h 0 W) (j : Nat) (ej : W 8 = (j : Int)) (hj : j < 12)
    (fI : ∀ x, 9 ≤ x → x ≤ 55 → x ≠ 19 → x ≠ 21 → x ≠ 22 → x ≠ 25 + j → gI h2 x = gI h x) (f19 : gI h2 19 5 = ((j + 1 : Nat) : Int)) (fP : ∀ x, x ≤ 126 → x ≠ 25 + j → gP h2 x = gP h x)
    (tx : ∀ t, 126 < t → t ≤ gn h → gI h2 t = gI h t ∧ gJ h2 t = gJ h t ∧ gP h2 t = gP h t ∧ gS h2 t = gS h t) (gl : gn h ≤ gn h2)
    (w8 : W' 8 = ((j + 1 : Nat) : Int)) (wo : ∀ x : Int, 0 ≤ x → x ≠ 8 → (x < 169 + 882 * (j : Int) ∨ 169 + 882 * (j : Int) + 882 ≤ x) → W' x = W x)
    (nw : JBf h2 (25 + j) W' (169 + 882 * (j : Int)) ∧ JBg W' (169 + 882 * (j : Int)) ∧ ∃ t, gP h2 (25 + j) 5 = some t ∧ TXT h2 t W' (169 + 882 * (j : Int))) (ord : RJo h2 0 W') : RN h2 0 W' := by
  obtain ⟨r1, r2, r3, r4, r5, r6, r7, r8, r9, r10, r11⟩ := r
  have s : SmX (XJ j) h (sP h2 (25 + j) 5 (gP h (25 + j) 5)) 0 0 := by
    refine ⟨fun x k h1 h2' _ q => ?_, fun i hi => ?_, fun t t1 t2 => ?_, gl⟩
    · have q' : ¬ (x = 19 ∨ x = 21 ∨ x = 22 ∨ x = 25 + j) := of_decide_eq_false q
      show gI h2 x k = gI h x k
      rw [fI x h1 h2' (fun e => q' (by omega)) (fun e => q' (by omega)) (fun e => q' (by omega)) (fun e => q' (by omega))]
    · rw [gP_sP]
      by_cases z : i = j
      · rw [if_pos ⟨by omega, rfl⟩, z]
      · rw [if_neg (by omega), fP _ (by omega) (by omega)]
    · obtain ⟨a1, a2, a3, a4⟩ := tx t t1 t2
      exact ⟨a1, a2, (gP_sPn _ _ _ _ _ (by omega)).trans a3, a4⟩
  refine ⟨?_, ?_, ?_, ?_, ?_, ?_, ?_, ?_, ?_, ord, ?_⟩
  · obtain ⟨a1, a2, a3, a4, a5, a6, a7, a8, a9⟩ := r1
    have f9 : gI h2 9 = gI h 9 := fI 9 (by decide) (by decide) (by decide) (by decide) (by decide) (by omega)
    have f51 : gI h2 51 = gI h 51 := fI 51 (by decide) (by decide) (by decide) (by decide) (by decide) (by omega)
    have f11 : gI h2 11 = gI h 11 := fI 11 (by decide) (by decide) (by decide) (by decide) (by decide) (by omega)
    refine ⟨?_, ?_, ?_, ?_, ?_, ?_, ?_, ?_, ?_⟩
    · show gI h2 9 6 = _
      rw [f9, wo 0 (by decide) (by decide) (by omega)]; exact a1
    · show gI h2 9 7 = _
      rw [f9, wo 1 (by decide) (by decide) (by omega)]; exact a2
    · show gI h2 9 8 = _
      rw [f9, wo 2 (by decide) (by decide) (by omega)]; exact a3
    · show gI h2 9 9 = _
      rw [f9, wo 3 (by decide) (by decide) (by omega)]; exact a4
    · show gI h2 9 10 = _
      rw [f9, wo 4 (by decide) (by decide) (by omega)]; exact a5
    · show gI h2 9 11 = _
      rw [f9, wo 5 (by decide) (by decide) (by omega)]; exact a6
    · show gI h2 51 5 = _
      rw [f51, wo 6 (by decide) (by decide) (by omega)]; exact a7
    · show gI h2 11 8 = _
      rw [f11, wo 7 (by decide) (by decide) (by omega)]; exact a8
    · show gI h2 19 5 = _
      rw [f19, w8]
  · unfold GSc at *
    rw [wo 0 (by decide) (by decide) (by omega), wo 1 (by decide) (by decide) (by omega), wo 2 (by decide) (by decide) (by omega), wo 3 (by decide) (by decide) (by omega), wo 4 (by decide) (by decide) (by omega), wo 5 (by decide) (by decide) (by omega), wo 6 (by decide) (by decide) (by omega), w8]
    rw [ej] at r2
    obtain ⟨b1, b2, b3, b4, b5, b6, b7, b8, b9, b10, b11, b12, b13, b14, b15⟩ := r2
    exact ⟨b1, b2, b3, b4, b5, b6, b7, b8, b9, by omega, b11, b12, b13, by omega, by omega⟩
  · have y : RWd (sP h2 (25 + j) 5 (gP h (25 + j) 5)) 0 W' := r3.cg s (fun a k q => XJ_n k (by omega) (by omega) (by omega) (by omega)) (fun i p q => wo i (by omega) (by omega) (by omega))
    exact y
  · have y : RLm (sP h2 (25 + j) 5 (gP h (25 + j) 5)) 0 W' := r4.cg s (fun a k q => XJ_n k (by omega) (by omega) (by omega) (by omega)) (fun i p q => wo i (by omega) (by omega) (by omega))
    exact y
  · have y : RWt (sP h2 (25 + j) 5 (gP h (25 + j) 5)) 0 W' := r5.cg s (fun a k q => XJ_n k (by omega) (by omega) (by omega) (by omega)) (fun i p q => wo i (by omega) (by omega) (by omega))
    exact y
  · have y : RBk (sP h2 (25 + j) 5 (gP h (25 + j) 5)) 0 W' := r6.cg s (fun a k q => XJ_n k (by omega) (by omega) (by omega) (by omega)) (fun i p q => wo i (by omega) (by omega) (by omega))
    exact y
  · have y : RPy (sP h2 (25 + j) 5 (gP h (25 + j) 5)) 0 W' := r7.cg s (fun a k q => XJ_n k (by omega) (by omega) (by omega) (by omega)) (fun i p q => wo i (by omega) (by omega) (by omega))
    exact y
  · obtain ⟨a1, a2, a3, a4⟩ := r8
    have e56 : W' 11356 = W 11356 := wo 11356 (by decide) (by decide) (by omega)
    have f11 : gI h2 11 = gI h 11 := fI 11 (by decide) (by decide) (by decide) (by decide) (by decide) (by omega)
    have f16 : gI h2 16 = gI h 16 := fI 16 (by decide) (by decide) (by decide) (by decide) (by decide) (by omega)
    have f17 : gI h2 17 = gI h 17 := fI 17 (by decide) (by decide) (by decide) (by decide) (by decide) (by omega)
    have f18 : gI h2 18 = gI h 18 := fI 18 (by decide) (by decide) (by decide) (by decide) (by decide) (by omega)
    refine ⟨?_, ?_, ?_, fun k k0 k1 => ?_⟩
    · show gI h2 11 7 = _
      rw [f11, e56]; exact a1
    · rw [e56]; exact a2
    · rw [e56]; exact a3
    · rw [e56] at k1
      refine RR1.w8 (W := W) ?_ ?_ ?_ (by rw [w8, ej]; omega) (fun i p q => wo i (by omega) (by omega) (by omega)) (a4 k k0 k1)
      · show gI h2 16 _ = gI h 16 _
        rw [f16]
      · show gI h2 17 _ = gI h 17 _
        rw [f17]
      · show gI h2 18 _ = gI h 18 _
        rw [f18]
  · intro k hk
    rw [w8] at hk
    by_cases z : k = j
    · subst z
      obtain ⟨n1, n2, n3⟩ := nw
      exact ⟨n1, n2, n3⟩
    · obtain ⟨q1, q2, t, q3, q4⟩ := r9 k (by omega)
      have w' : ∀ i : Int, 169 + 882 * (k : Int) ≤ i → i < 169 + 882 * (k : Int) + 882 → W' i = W i := fun i a c => wo i (by omega) (by omega) (by omega)
      refine ⟨q1.cg (fun m => ?_) w', q2.cg w', t, ?_, (q4.cg s (fun i a c _ => w' i (by omega) c)).sp (by omega)⟩
      · show gI h2 (25 + k) m = gI h (25 + k) m
        rw [fI (25 + k) (by omega) (by omega) (by omega) (by omega) (by omega) (by omega)]
      · show gP h2 (25 + k) 5 = _
        rw [fP (25 + k) (by omega) (by omega)]; exact q3
  · unfold RRn at *
    have g4 := r2.2.2.2.2.2.2.2.2.2.1
    rw [wo 4 (by decide) (by decide) (by omega)]
    intro q
    rw [wo _ (by omega) (by omega) (by omega)]
    exact r11 q
theorem opN_lt {W W' : Int → Int} : ∀ n : Nat, (∀ i : Nat, i < n → W' (169 + 882 * (i : Int) + 8) = W (169 + 882 * (i : Int) + 8)) → opN W' n = opN W n := by
  intro n
  induction n with
  | zero => intro _; rfl
  | succ n ih =>
    intro w
    unfold opN
    rw [ih (fun i hi => w i (by omega)), w n (by omega)]
theorem ptl_job {W W' : Int → Int} (j : Nat) (ej : W 8 = (j : Int)) (hj : j < 12) (w8 : W' 8 = ((j + 1 : Nat) : Int)) (wo : ∀ x : Int, 0 ≤ x → x ≠ 8 → (x < 169 + 882 * (j : Int) ∨ 169 + 882 * (j : Int) + 882 ≤ x) → W' x = W x) : ptl W' ≤ ptl W + 10 := by
  unfold ptl
  rw [w8, ej, wo 11356 (by decide) (by decide) (by omega), Int.toNat_natCast, Int.toNat_natCast]
  have e : opN W' (j + 1) = opN W' j + (if W' (169 + 882 * (j : Int) + 8) ≤ 1 then 1 else 0) := rfl
  rw [e, opN_lt (W := W) j (fun i hi => wo _ (by omega) (by omega) (by omega))]
  split <;> omega
theorem w32_tb {x y : Int} (e : ∀ i, i < 32 → tb x i = tb y i) : w32 x = w32 y := by
  have k : (x % 18446744073709551616).toNat % 4294967296 = (y % 18446744073709551616).toNat % 4294967296 := by
    apply Nat.eq_of_testBit_eq
    intro i
    by_cases q : i < 32
    · rw [← tb_key x i q, ← tb_key y i q]; exact e i q
    · have hp : 2 ^ 32 ≤ 2 ^ i := Nat.pow_le_pow_right (by decide) (by omega)
      rw [Nat.testBit_lt_two_pow (by omega), Nat.testBit_lt_two_pow (by omega)]
  unfold w32
  omega
/-- the reference's lines of the new job -/
theorem MPr_job {W' D : Int → Int} {o : Int} {A : List Lin} {g : HP} (hD : ∀ f : Int, 22 ≤ f → f < 882 → W' (o + f) = aI g 118 f) (h16 : W' (o + 16) = (A.length : Int)) (hA : A.length ≤ 10) (st : STp g (A.flatMap linM)) (ln : ∀ (m : Nat) (l : Lin), A[m]? = some l → LnOk g (A.flatMap linM) (22 + 6 * (m : Int)) l) : MPr W' o A := by
  refine ⟨h16, hA, fun n l e => ?_⟩
  have hn : n < A.length := (List.getElem?_eq_some_iff.mp e).1
  obtain ⟨⟨x1, x2, x3, x4⟩, s, y1, y2, y4, y3⟩ := ln n l e
  have c0 : W' (o + 22 + 6 * (n : Int)) = aI g 118 (22 + 6 * (n : Int)) := by rw [show o + 22 + 6 * (n : Int) = o + (22 + 6 * (n : Int)) by omega]; exact hD _ (by omega) (by omega)
  have cc : ∀ k : Int, 0 ≤ k → k < 6 → W' (o + 22 + 6 * (n : Int) + k) = aI g 118 (22 + 6 * (n : Int) + k) := fun k k0 k1 => by rw [show o + 22 + 6 * (n : Int) + k = o + (22 + 6 * (n : Int) + k) by omega]; exact hD _ (by omega) (by omega)
  rw [c0, cc 1 (by decide) (by decide), cc 2 (by decide) (by decide), cc 3 (by decide) (by decide), cc 4 (by decide) (by decide), cc 5 (by decide) (by decide), y1, y2]
  refine ⟨x1, x2, x3, x4, by omega, by omega, by omega, fun i t e2 => ?_⟩
  have hi : i < (linM l).length := (List.getElem?_eq_some_iff.mp e2).1
  have z := st.2 (s + i) t (y3 i t e2)
  rw [show o + 82 + 2 * ((s : Int) + (i : Int)) = o + (82 + 2 * ((s + i : Nat) : Int)) by omega, show o + (82 + 2 * ((s + i : Nat) : Int)) + 1 = o + (82 + 2 * ((s + i : Nat) : Int) + 1) by omega, hD _ (by omega) (by omega), hD _ (by omega) (by omega)]
  exact z
theorem wrA_tb {z : Int} {A : List Lin} (ok : ∀ l ∈ A, okL l) (e : ∀ i, i < 64 → tb z i = wrF (fun _ => false) A i) (i : Nat) : tb z i = true ↔ wrA A i := by
  have key : ∀ l : Lin, wrl l i = true ↔ l.1 < 3 ∧ l.2.1 = (i : Int) := fun l => by
    unfold wrl
    rw [Bool.and_eq_true, decide_eq_true_iff, decide_eq_true_iff]
  have k2 : wrF (fun _ => false) A i = true ↔ wrA A i := by
    unfold wrF wrA
    rw [Bool.false_or, List.any_eq_true]
    exact ⟨fun ⟨l, a, b⟩ => ⟨l, a, (key l).mp b⟩, fun ⟨l, a, b⟩ => ⟨l, a, (key l).mpr b⟩⟩
  by_cases q : i < 64
  · rw [e i q]; exact k2
  · rw [tb_big z i (by omega)]
    constructor
    · intro x
      cases x
    · rintro ⟨l, a, b1, b2⟩
      have := (ok l a).2.2.1 b1
      omega
