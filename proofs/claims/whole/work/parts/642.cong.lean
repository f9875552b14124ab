/-! the relation stays where its cells stay -/
theorem PC_job (a k : Nat) (h1 : 25 ≤ a) (h2 : a ≤ 36) : PC a k = true := by
  unfold PC
  rw [if_neg (by omega), if_neg (by omega), if_neg (by omega), if_neg (by omega), if_neg (by omega), if_neg (by omega), if_neg (by omega), if_neg (by omega), if_neg (by omega), if_neg (by omega)]
theorem PC_jobk (a k : Nat) (h1 : 72 ≤ a) (h2 : a ≤ 83) : PC a k = true := by
  unfold PC
  rw [if_neg (by omega), if_neg (by omega), if_neg (by omega), if_neg (by omega), if_neg (by omega), if_neg (by omega), if_neg (by omega), if_neg (by omega), if_neg (by omega), if_neg (by omega)]
theorem PC_hi (a k : Nat) (h1 : 126 < a) : PC a k = true := by
  unfold PC
  rw [if_neg (by omega), if_neg (by omega), if_neg (by omega), if_neg (by omega), if_neg (by omega), if_neg (by omega), if_neg (by omega), if_neg (by omega), if_neg (by omega), if_neg (by omega)]
/-- the cells of a night that last -/
def PN (a k : Nat) : Bool := if a = 10 then false else if a = 11 then !(k == 9) else if a = 23 ∨ a = 24 then false else if a = 37 then k == 4 else if a = 49 ∨ a = 50 then false else true
def SmX (X : Nat → Nat → Bool) (h h' : HP) (b b' : Nat) : Prop := (∀ a k, 9 ≤ a → a ≤ 55 → PN a k = true → X a k = false → gI h' (a + b') k = gI h (a + b) k) ∧ (∀ j, j < 12 → gP h' (25 + b' + j) 5 = gP h (25 + b + j) 5) ∧ (∀ t, 126 < t → t ≤ gn h → gI h' t = gI h t ∧ gJ h' t = gJ h t ∧ gP h' t = gP h t ∧ gS h' t = gS h t) ∧ gn h ≤ gn h'
def noX : Nat → Nat → Bool := fun _ _ => false
abbrev SmN (h h' : HP) (b b' : Nat) : Prop := SmX noX h h' b b'
def SmW (W W' : Int → Int) : Prop := ∀ i : Int, 0 ≤ i → i < 11357 + 7 * W 11356 → W' i = W i
section CG
variable {X : Nat → Nat → Bool} {h h' : HP} {b b' : Nat} {W W' : Int → Int}
theorem SmX.f (s : SmX X h h' b b') (a k : Nat) (h1 : 9 ≤ a) (h2 : a ≤ 55) (p : PN a k = true) (x : X a k = false) : gI h' (a + b') k = gI h (a + b) k := s.1 a k h1 h2 p x
theorem SmX.a (s : SmX X h h' b b') (a : Nat) (i : Int) (h1 : 9 ≤ a) (h2 : a ≤ 55) (p : ∀ k, PN a k = true) (x : ∀ k, X a k = false) : aI h' (a + b') i = aI h (a + b) i := s.1 a _ h1 h2 (p _) (x _)
theorem RSc.cg (s : SmX X h h' b b') (x : ∀ a k, a = 9 ∨ a = 51 ∧ k = 5 ∨ a = 11 ∧ k = 8 ∨ a = 19 ∧ k = 5 → X a k = false) (w : ∀ i : Int, 0 ≤ i → i < 9 → W' i = W i) (r : RSc h b W) : RSc h' b' W' := by
  unfold RSc at *
  rw [s.f 9 6 (by decide) (by decide) rfl (x _ _ (by omega)), s.f 9 7 (by decide) (by decide) rfl (x _ _ (by omega)), s.f 9 8 (by decide) (by decide) rfl (x _ _ (by omega)), s.f 9 9 (by decide) (by decide) rfl (x _ _ (by omega)), s.f 9 10 (by decide) (by decide) rfl (x _ _ (by omega)), s.f 9 11 (by decide) (by decide) rfl (x _ _ (by omega)), s.f 51 5 (by decide) (by decide) rfl (x _ _ (by omega)), s.f 11 8 (by decide) (by decide) rfl (x _ _ (by omega)), s.f 19 5 (by decide) (by decide) rfl (x _ _ (by omega)), w 0 (by decide) (by decide), w 1 (by decide) (by decide), w 2 (by decide) (by decide), w 3 (by decide) (by decide), w 4 (by decide) (by decide), w 5 (by decide) (by decide), w 6 (by decide) (by decide), w 7 (by decide) (by decide), w 8 (by decide) (by decide)]
  exact r
theorem GSc.cg (w : ∀ i : Int, 0 ≤ i → i < 9 → W' i = W i) (r : GSc W) : GSc W' := by
  unfold GSc at *
  rw [w 0 (by decide) (by decide), w 1 (by decide) (by decide), w 2 (by decide) (by decide), w 3 (by decide) (by decide), w 4 (by decide) (by decide), w 5 (by decide) (by decide), w 6 (by decide) (by decide), w 8 (by decide) (by decide)]
  exact r
theorem RWd.cg (s : SmX X h h' b b') (x : ∀ a k, a = 12 ∨ a = 13 → X a k = false) (w : ∀ i : Int, 9 ≤ i → i < 137 → W' i = W i) (r : RWd h b W) : RWd h' b' W' := by
  intro i h0 h1
  rw [s.a 12 i (by decide) (by decide) (fun _ => rfl) (fun _ => x _ _ (by omega)), s.a 13 i (by decide) (by decide) (fun _ => rfl) (fun _ => x _ _ (by omega)), w (9 + i) (by omega) (by omega), w (73 + i) (by omega) (by omega)]
  exact r i h0 h1
theorem RLm.cg (s : SmX X h h' b b') (x : ∀ a k, a = 14 ∨ a = 15 → X a k = false) (w : ∀ i : Int, 137 ≤ i → i < 169 → W' i = W i) (r : RLm h b W) : RLm h' b' W' := by
  intro i h0 h1
  rw [s.a 14 i (by decide) (by decide) (fun _ => rfl) (fun _ => x _ _ (by omega)), s.a 15 i (by decide) (by decide) (fun _ => rfl) (fun _ => x _ _ (by omega)), w (137 + 2 * i) (by omega) (by omega), w (138 + 2 * i) (by omega) (by omega)]
  exact r i h0 h1
theorem RWt.cg (s : SmX X h h' b b') (x : ∀ a k, 37 ≤ a ∧ a ≤ 41 → X a k = false) (w : ∀ i : Int, 10753 ≤ i → i < 11254 → W' i = W i) (r : RWt h b W) : RWt h' b' W' := by
  obtain ⟨r1, r2, r3, r4⟩ := r
  unfold RWt
  rw [s.f 37 4 (by decide) (by decide) rfl (x _ _ (by omega)), w 10753 (by decide) (by decide)]
  refine ⟨r1, r2, r3, fun k k0 k1 => ?_⟩
  rw [s.a 38 k (by decide) (by decide) (fun _ => rfl) (fun _ => x _ _ (by omega)), s.a 39 k (by decide) (by decide) (fun _ => rfl) (fun _ => x _ _ (by omega)), s.a 40 k (by decide) (by decide) (fun _ => rfl) (fun _ => x _ _ (by omega)), s.a 41 k (by decide) (by decide) (fun _ => rfl) (fun _ => x _ _ (by omega)), w (10754 + 5 * k) (by omega) (by omega), w (10754 + 5 * k + 1) (by omega) (by omega), w (10754 + 5 * k + 2) (by omega) (by omega), w (10754 + 5 * k + 3) (by omega) (by omega), w (10754 + 5 * k + 4) (by omega) (by omega)]
  exact r4 k k0 k1
theorem RBk.cg (s : SmX X h h' b b') (x : ∀ a k, 42 ≤ a ∧ a ≤ 48 → X a k = false) (w : ∀ i : Int, 11254 ≤ i → i < 11275 → W' i = W i) (r : RBk h b W) : RBk h' b' W' := by
  obtain ⟨r1, r2, r3⟩ := r
  unfold RBk
  rw [s.f 42 6 (by decide) (by decide) rfl (x _ _ (by omega)), s.f 42 7 (by decide) (by decide) rfl (x _ _ (by omega)), w 11273 (by decide) (by decide), w 11274 (by decide) (by decide)]
  refine ⟨fun g g0 g1 => ?_, fun k k0 k1 => ?_, r3⟩
  · rw [s.a 43 g (by decide) (by decide) (fun _ => rfl) (fun _ => x _ _ (by omega)), s.a 44 g (by decide) (by decide) (fun _ => rfl) (fun _ => x _ _ (by omega)), s.a 45 g (by decide) (by decide) (fun _ => rfl) (fun _ => x _ _ (by omega)), s.a 46 g (by decide) (by decide) (fun _ => rfl) (fun _ => x _ _ (by omega)), w (11254 + 4 * g) (by omega) (by omega), w (11254 + 4 * g + 1) (by omega) (by omega), w (11254 + 4 * g + 2) (by omega) (by omega), w (11254 + 4 * g + 3) (by omega) (by omega)]
    exact r1 g g0 g1
  · rw [s.a 47 k (by decide) (by decide) (fun _ => rfl) (fun _ => x _ _ (by omega)), s.a 48 k (by decide) (by decide) (fun _ => rfl) (fun _ => x _ _ (by omega)), w (11270 + k) (by omega) (by omega)]
    exact r2 k k0 k1
theorem RPy.cg (s : SmX X h h' b b') (x : ∀ a k, a = 51 ∧ k = 4 ∨ 52 ≤ a ∧ a ≤ 55 → X a k = false) (w : ∀ i : Int, 11275 ≤ i → i < 11356 → W' i = W i) (r : RPy h b W) : RPy h' b' W' := by
  obtain ⟨r1, r2, r3, r4⟩ := r
  unfold RPy
  rw [s.f 51 4 (by decide) (by decide) rfl (x _ _ (by omega)), w 11275 (by decide) (by decide)]
  refine ⟨r1, r2, r3, fun k k0 k1 => ?_⟩
  rw [s.a 52 k (by decide) (by decide) (fun _ => rfl) (fun _ => x _ _ (by omega)), s.a 53 k (by decide) (by decide) (fun _ => rfl) (fun _ => x _ _ (by omega)), s.a 54 k (by decide) (by decide) (fun _ => rfl) (fun _ => x _ _ (by omega)), s.a 55 k (by decide) (by decide) (fun _ => rfl) (fun _ => x _ _ (by omega)), w (11276 + 4 * k) (by omega) (by omega), w (11276 + 4 * k + 1) (by omega) (by omega), w (11276 + 4 * k + 2) (by omega) (by omega), w (11276 + 4 * k + 3) (by omega) (by omega)]
  exact r4 k k0 k1
theorem RRw.cg (s : SmX X h h' b b') (x : ∀ a k, a = 11 ∧ k = 7 ∨ a = 16 ∨ a = 17 ∨ a = 18 → X a k = false) (w8 : W' 8 = W 8) (w : ∀ i : Int, 11356 ≤ i → i < 11357 + 7 * W 11356 → W' i = W i) (r : RRw h b W) : RRw h' b' W' := by
  obtain ⟨r1, r2, r3, r4⟩ := r
  unfold RRw
  rw [s.f 11 7 (by decide) (by decide) rfl (x _ _ (by omega)), w 11356 (by decide) (by omega)]
  refine ⟨r1, r2, r3, fun k k0 k1 => ?_⟩
  unfold RR1
  rw [s.a 16 k (by decide) (by decide) (fun _ => rfl) (fun _ => x _ _ (by omega)), s.a 17 k (by decide) (by decide) (fun _ => rfl) (fun _ => x _ _ (by omega)), s.a 18 k (by decide) (by decide) (fun _ => rfl) (fun _ => x _ _ (by omega)), w8, w (11357 + 7 * k) (by omega) (by omega), w (11357 + 7 * k + 1) (by omega) (by omega), w (11357 + 7 * k + 2) (by omega) (by omega), w (11357 + 7 * k + 3) (by omega) (by omega), w (11357 + 7 * k + 4) (by omega) (by omega), w (11357 + 7 * k + 5) (by omega) (by omega), w (11357 + 7 * k + 6) (by omega) (by omega)]
  exact r4 k k0 k1
theorem MPr.cg {o : Int} {A : List Lin} (w : ∀ i : Int, o + 16 ≤ i → i < o + 882 → i ≠ o + 21 → W' i = W i) (r : MPr W o A) : MPr W' o A := by
  obtain ⟨r1, r2, r3⟩ := r
  refine ⟨by rw [w _ (by omega) (by omega) (by omega)]; exact r1, r2, fun n l e => ?_⟩
  have hn : n < A.length := (List.getElem?_eq_some_iff.mp e).1
  obtain ⟨q1, q2, q3, q4, q5, q6, q7, q8⟩ := r3 n l e
  rw [w (o + 22 + 6 * n) (by omega) (by omega) (by omega), w (o + 22 + 6 * n + 1) (by omega) (by omega) (by omega), w (o + 22 + 6 * n + 2) (by omega) (by omega) (by omega), w (o + 22 + 6 * n + 3) (by omega) (by omega) (by omega), w (o + 22 + 6 * n + 4) (by omega) (by omega) (by omega), w (o + 22 + 6 * n + 5) (by omega) (by omega) (by omega)]
  refine ⟨q1, q2, q3, q4, q5, q6, q7, fun i s e2 => ?_⟩
  have hi : i < (linM l).length := (List.getElem?_eq_some_iff.mp e2).1
  obtain ⟨p1, p2⟩ := q8 i s e2
  rw [w _ (by omega) (by omega) (by omega), w _ (by omega) (by omega) (by omega)]
  exact ⟨p1, p2⟩
theorem TXT.cg {o : Int} {t : Nat} (s : SmX X h h' b b') (w : ∀ i : Int, o + 16 ≤ i → i < o + 882 → i ≠ o + 21 → W' i = W i) (r : TXT h t W o) : TXT h' t W' o := by
  obtain ⟨A, q, n, r1, r2, r3, r4, r5, r6, r7, r8, r9, r10, r11, r12, r13, r14, r15, r16, r17, r18⟩ := r
  obtain ⟨t1, t2, t3, t4⟩ := s.2.2.1 t r1 r2
  obtain ⟨u1, u2, u3, u4⟩ := s.2.2.1 q r5 r6
  have gnl := s.2.2.2
  refine ⟨A, q, n, r1, Nat.le_trans r2 gnl, by rw [t4]; exact r3, by rw [t3]; exact r4, r5, Nat.le_trans r6 gnl, by rw [u4]; exact r7, r8, r9, fun i z e => ?_, by rw [t1]; exact r11, r12, r13.cg w, by rw [t2, w _ (by omega) (by omega) (by omega), w _ (by omega) (by omega) (by omega)]; exact r14, by rw [t2, w _ (by omega) (by omega) (by omega), w _ (by omega) (by omega) (by omega)]; exact r15, by rw [t2]; exact r16, by rw [t2]; exact r17, fun i => by rw [t2]; exact r18 i⟩
  show gI h' q _ = z
  rw [u1]; exact r10 i z e
theorem JBf.cg {p p' : Nat} {o : Int} (s : ∀ k, gI h' p' k = gI h p k) (w : ∀ i : Int, o ≤ i → i < o + 882 → W' i = W i) (r : JBf h p W o) : JBf h' p' W' o := by
  unfold JBf at *
  rw [s, s, s, s, s, s, s, s, s, s, s, s, s, s, s, s, s, w (o + 0) (by omega) (by omega), w (o + 1) (by omega) (by omega), w (o + 2) (by omega) (by omega), w (o + 3) (by omega) (by omega), w (o + 4) (by omega) (by omega), w (o + 5) (by omega) (by omega), w (o + 6) (by omega) (by omega), w (o + 7) (by omega) (by omega), w (o + 8) (by omega) (by omega), w (o + 9) (by omega) (by omega), w (o + 10) (by omega) (by omega), w (o + 11) (by omega) (by omega), w (o + 12) (by omega) (by omega), w (o + 13) (by omega) (by omega), w (o + 14) (by omega) (by omega), w (o + 15) (by omega) (by omega), w (o + 21) (by omega) (by omega)]
  exact r
theorem JBg.cg {o : Int} (w : ∀ i : Int, o ≤ i → i < o + 882 → W' i = W i) (r : JBg W o) : JBg W' o := by
  unfold JBg at *
  rw [w (o + 0) (by omega) (by omega), w (o + 1) (by omega) (by omega), w (o + 2) (by omega) (by omega), w (o + 3) (by omega) (by omega), w (o + 4) (by omega) (by omega), w (o + 5) (by omega) (by omega), w (o + 6) (by omega) (by omega), w (o + 7) (by omega) (by omega), w (o + 8) (by omega) (by omega), w (o + 9) (by omega) (by omega), w (o + 10) (by omega) (by omega), w (o + 11) (by omega) (by omega), w (o + 12) (by omega) (by omega), w (o + 13) (by omega) (by omega), w (o + 14) (by omega) (by omega), w (o + 15) (by omega) (by omega), w (o + 21) (by omega) (by omega)]
  exact r
theorem RJb.cg (s : SmX X h h' b b') (x : ∀ a k, 25 ≤ a ∧ a ≤ 36 → X a k = false) (g : W 8 ≤ 12) (w8 : W' 8 = W 8) (w : ∀ i : Int, 169 ≤ i → i < 10753 → W' i = W i) (r : RJb h b W) : RJb h' b' W' := by
  intro j hj
  rw [w8] at hj
  obtain ⟨r1, r2, t, r3, r4⟩ := r j hj
  have w' : ∀ i : Int, 169 + 882 * (j : Int) ≤ i → i < 169 + 882 * (j : Int) + 882 → W' i = W i := fun i a c => w i (by omega) (by omega)
  refine ⟨r1.cg (fun k => ?_) w', r2.cg w', t, ?_, r4.cg s (fun i a c _ => w' i (by omega) c)⟩
  · have e := s.1 (25 + j) k (by omega) (by omega) (by unfold PN; rw [if_neg (by omega), if_neg (by omega), if_neg (by omega), if_neg (by omega), if_neg (by omega)]) (x _ _ ⟨by omega, by omega⟩)
    rw [show 25 + b' + j = 25 + j + b' by omega, show 25 + b + j = 25 + j + b by omega]; exact e
  · rw [s.2.1 j (by omega)]; exact r3
/-- one job is changed, but not its text -/
theorem RJb.up (s : SmX X h h' 0 0) (g : W 8 ≤ 12) (w8 : W' 8 = W 8) (j0 : Nat) (x : ∀ a k, 25 ≤ a ∧ a ≤ 36 ∧ a ≠ 25 + j0 → X a k = false) (w : ∀ i : Int, 169 ≤ i → i < 10753 → (i < 169 + 882 * j0 ∨ 169 + 882 * (j0 : Int) + 16 ≤ i) → i ≠ 169 + 882 * (j0 : Int) + 21 → W' i = W i) (r : RJb h 0 W) (hj : (j0 : Int) < W 8 → JBf h' (25 + j0) W' (169 + 882 * j0) ∧ JBg W' (169 + 882 * j0)) : RJb h' 0 W' := by
  intro j h1
  rw [w8] at h1
  obtain ⟨r1, r2, t, r3, r4⟩ := r j h1
  by_cases e : j = j0
  · subst e
    obtain ⟨q1, q2⟩ := hj h1
    exact ⟨q1, q2, t, by rw [s.2.1 j (by omega)]; exact r3, r4.cg s (fun i a c d => w i (by omega) (by omega) (by omega) d)⟩
  · have w' : ∀ i : Int, 169 + 882 * (j : Int) ≤ i → i < 169 + 882 * (j : Int) + 882 → W' i = W i := fun i a c => w i (by omega) (by omega) (by omega) (by omega)
    refine ⟨r1.cg (fun k => ?_) w', r2.cg w', t, ?_, r4.cg s (fun i a c _ => w' i (by omega) c)⟩
    · exact s.1 (25 + j) k (by omega) (by omega) (by unfold PN; rw [if_neg (by omega), if_neg (by omega), if_neg (by omega), if_neg (by omega), if_neg (by omega)]) (x _ _ ⟨by omega, by omega, by omega⟩)
    · rw [s.2.1 j (by omega)]; exact r3
theorem lnN_cg (j : Int) (hj : 0 ≤ j ∧ j < 12) (w : ∀ j f : Int, 0 ≤ j → j < 12 → 17 ≤ f → f ≤ 20 → W' (169 + 882 * j + f) = W (169 + 882 * j + f)) : ∀ n : Nat, n ≤ 12 → lnN W' j n = lnN W j n := by
  intro n
  induction n with
  | zero => intro _; rfl
  | succ k ih =>
    intro hk
    have e1 : rdM W' j = rdM W j := by unfold rdM; rw [w j 17 hj.1 hj.2 (by decide) (by decide), w j 18 hj.1 hj.2 (by decide) (by decide)]
    have e2 : wrM W' k = wrM W k := by unfold wrM; rw [w k 19 (by omega) (by omega) (by decide) (by decide), w k 20 (by omega) (by omega) (by decide) (by decide)]
    unfold lnN
    rw [ih (by omega), e1, e2]
theorem lns_cg (j : Int) (hj : 0 ≤ j ∧ j < 12) (g : W 8 ≤ 12) (w8 : W' 8 = W 8) (w : ∀ j f : Int, 0 ≤ j → j < 12 → 17 ≤ f → f ≤ 20 → W' (169 + 882 * j + f) = W (169 + 882 * j + f)) : lns W' j = lns W j := by
  unfold lns; rw [w8]; exact lnN_cg j hj w _ (by omega)
theorem nxN_cg (g : W 8 ≤ 12) (w8 : W' 8 = W 8) (w : ∀ j f : Int, 0 ≤ j → j < 12 → 17 ≤ f → f ≤ 20 → W' (169 + 882 * j + f) = W (169 + 882 * j + f)) (pl : Int) : ∀ (n : Nat) (k : Int), 0 ≤ k → k + n ≤ 12 → nxN W' pl n k = nxN W pl n k := by
  intro n
  induction n with
  | zero => intro k _ _; rfl
  | succ n ih =>
    intro k h0 h1
    unfold nxN
    rw [ih (k + 1) (by omega) (by omega), lns_cg k ⟨h0, by omega⟩ g w8 w]
theorem nxt_cg (g : 0 ≤ W 8 ∧ W 8 ≤ 12) (w8 : W' 8 = W 8) (w : ∀ j f : Int, 0 ≤ j → j < 12 → 17 ≤ f → f ≤ 20 → W' (169 + 882 * j + f) = W (169 + 882 * j + f)) (pl : Int) : nxt W' pl = nxt W pl := by
  unfold nxt; rw [w8]; exact nxN_cg g.2 w8 w pl _ 0 (by omega) (by omega)
theorem plN_cg (g : 0 ≤ W 8 ∧ W 8 ≤ 12) (w8 : W' 8 = W 8) (w : ∀ j f : Int, 0 ≤ j → j < 12 → 17 ≤ f → f ≤ 20 → W' (169 + 882 * j + f) = W (169 + 882 * j + f)) : ∀ n : Nat, plN W' n = plN W n := by
  intro n
  induction n with
  | zero => rfl
  | succ n ih =>
    unfold plN
    rw [ih, w8]
    congr 1; funext pl; rw [nxt_cg g w8 w]
theorem RJo.cg (s : SmX X h h' b b') (x : ∀ a k, a = 19 ∧ k = 4 ∨ a = 21 ∨ a = 22 → X a k = false) (g : 0 ≤ W 8 ∧ W 8 ≤ 12) (w8 : W' 8 = W 8) (w : ∀ j f : Int, 0 ≤ j → j < 12 → 17 ≤ f → f ≤ 20 → W' (169 + 882 * j + f) = W (169 + 882 * j + f)) (r : RJo h b W) : RJo h' b' W' := by
  obtain ⟨r1, r2⟩ := r
  have e0 : ordOk W' ↔ ordOk W := by unfold ordOk; rw [w8, plN_cg g w8 w]
  refine ⟨fun j j0 j1 => ?_, ?_⟩
  · rw [w8] at j1
    rw [s.a 21 j (by decide) (by decide) (fun _ => rfl) (fun _ => x _ _ (by omega)), lns_cg j ⟨j0, by omega⟩ g.2 w8 w]
    exact r1 j j0 j1
  · rw [s.f 19 4 (by decide) (by decide) rfl (x _ _ (by omega)), e0, w8]
    rcases r2 with ⟨a1, a2, a3⟩ | a
    · refine Or.inl ⟨a1, a2, fun n hn => ?_⟩
      rw [s.a 22 n (by decide) (by decide) (fun _ => rfl) (fun _ => x _ _ (by omega))]
      unfold ordA
      rw [plN_cg g w8 w, nxt_cg g w8 w]
      exact a3 n hn
    · exact Or.inr a
theorem RN.cg (s : SmN h h' b b') (w : SmW W W') (r : RN h b W) : RN h' b' W' := by
  obtain ⟨r1, r2, r3, r4, r5, r6, r7, r8, r9, r10, r11⟩ := r
  have hr := r8.2.1
  have g := r2.2.2.2.2.2.2.2.2.2.2.2.2.2
  have g4 := r2.2.2.2.2.2.2.2.2.2.1
  have w0 : ∀ i : Int, 0 ≤ i → i < 11357 → W' i = W i := fun i a c => w i a (by omega)
  have w8 : W' 8 = W 8 := w0 8 (by decide) (by decide)
  refine ⟨r1.cg s (fun _ _ _ => rfl) (fun i a c => w0 i (by omega) (by omega)), r2.cg (fun i a c => w0 i (by omega) (by omega)), r3.cg s (fun _ _ _ => rfl) (fun i a c => w0 i (by omega) (by omega)), r4.cg s (fun _ _ _ => rfl) (fun i a c => w0 i (by omega) (by omega)), r5.cg s (fun _ _ _ => rfl) (fun i a c => w0 i (by omega) (by omega)), r6.cg s (fun _ _ _ => rfl) (fun i a c => w0 i (by omega) (by omega)), r7.cg s (fun _ _ _ => rfl) (fun i a c => w0 i (by omega) (by omega)), r8.cg s (fun _ _ _ => rfl) w8 (fun i a c => w i (by omega) (by omega)), r9.cg s (fun _ _ _ => rfl) g.2 w8 (fun i a c => w0 i (by omega) (by omega)), r10.cg s (fun _ _ _ => rfl) g w8 (fun j f _ _ _ _ => w0 _ (by omega) (by omega)), ?_⟩
  unfold RRn
  rw [w0 4 (by decide) (by decide)]
  intro q
  rw [w0 _ (by omega) (by omega)]
  exact r11 q
theorem opN_cg (w : ∀ i : Int, 169 ≤ i → i < 10753 → W' i = W i) : ∀ n : Nat, n ≤ 12 → opN W' n = opN W n := by
  intro n
  induction n with
  | zero => intro _; rfl
  | succ n ih =>
    intro hn
    unfold opN
    rw [ih (by omega), w _ (by omega) (by omega)]
theorem ptl_cg (g : 0 ≤ W 8 ∧ W 8 ≤ 12) (g2 : 0 ≤ W 11356) (w : SmW W W') : ptl W' = ptl W := by
  unfold ptl
  rw [w 11356 (by decide) (by omega), w 8 (by decide) (by omega), opN_cg (fun i a c => w i (by omega) (by omega)) _ (by omega)]
end CG
theorem Qs.N {h h' : HP} (q : Qs h h') : SmN h h' 0 0 := by
  obtain ⟨x1, x2, x3, x4, x5, x6, x7⟩ := q
  refine ⟨fun a k h1 h2 p _ => x1 a k ?_, fun j hj => x3 _ _ ?_, fun t ht _ => ⟨?_, ?_, ?_, by rw [x4]⟩, by rw [x5]; exact Nat.le_refl _⟩
  · unfold PN at p; unfold PC
    split at p
    · cases p
    · split at p
      · next e => rw [if_neg (by omega), if_neg (by omega), if_neg (by omega), if_neg (by omega), if_pos (by omega)]; exact p
      · split at p
        · cases p
        · split at p
          · rw [if_neg (by omega), if_neg (by omega), if_neg (by omega), if_neg (by omega), if_neg (by omega), if_neg (by omega), if_pos (by omega)]; exact p
          · split at p
            · cases p
            · rw [if_neg (by omega), if_neg (by omega), if_neg (by omega), if_neg (by omega), if_neg (by omega), if_neg (by omega), if_neg (by omega), if_neg (by omega), if_neg (by omega), if_neg (by omega)]
  · unfold PR; simp <;> omega
  · funext k; exact x1 t k (PC_hi t k ht)
  · funext k; exact x2 t k ht
  · funext k; refine x3 t k ?_; unfold PR; simp <;> omega
theorem Qs.K {h h' : HP} (q : Qs h h') : SmN h h' 47 47 := by
  have hN := q.N
  obtain ⟨x1, x2, x3, x4, x5, x6, x7⟩ := q
  refine ⟨fun a k h1 h2 p _ => x1 _ k ?_, fun j hj => x3 _ _ ?_, hN.2.2.1, hN.2.2.2⟩
  · unfold PN at p; unfold PC
    split at p
    · cases p
    · split at p
      · next e => rw [if_neg (by omega), if_neg (by omega), if_neg (by omega), if_neg (by omega), if_pos (by omega)]; exact p
      · split at p
        · cases p
        · split at p
          · rw [if_neg (by omega), if_neg (by omega), if_neg (by omega), if_neg (by omega), if_neg (by omega), if_neg (by omega), if_pos (by omega)]; exact p
          · split at p
            · cases p
            · rw [if_neg (by omega), if_neg (by omega), if_neg (by omega), if_neg (by omega), if_neg (by omega), if_neg (by omega), if_neg (by omega), if_neg (by omega), if_neg (by omega), if_neg (by omega)]
  · unfold PR; simp <;> omega
/-- a call by which nothing that lasts changes -/
theorem RA.Q {n : Int} {h h' : HP} (r : RA n h) (q : Qs h h' ∨ Qs (exc h) h') : RA (n + 1) h' := by
  obtain ⟨r1, r2, r3, r4, r5, r6, r7, r8, r9, r10, r11, r12, r13, r14, r15, r16, r17, r18, r19, r20, r21, r22⟩ := r
  have key : ∀ h0 : HP, Qs h0 h' → gI h0 = gI h → gJ h0 = gJ h → gP h0 = gP h → gS h0 = gS h → gn h0 = gn h → gc h0 ≤ gc h + 1 → gs h0 ≤ gs h + 6 → LayC h0 → LayK h0 → LayM h0 → RN h0 0 (aI h0 114) → (gI h0 113 3 = 1 → RN h0 47 (aI h0 115)) → RA (n + 1) h' := by
    intro h0 q e1 e2 e3 e4 e5 e6 e7 l1 l2 l3 n1 n2
    have f : ∀ a k, PC a k = true → gI h' a k = gI h a k := fun a k c => by rw [q.1 a k c, e1]
    have fa : ∀ a, (∀ k, PC a k = true) → aI h' a = aI h a := fun a c => by funext i; exact f a _ (c _)
    have g8 := r16.2.1.2.2.2.2.2.2.2.2.2.2.2.2.2
    have w114 : aI h' 114 = aI h 114 := fa 114 (fun _ => rfl)
    have w115 : aI h' 115 = aI h 115 := fa 115 (fun _ => rfl)
    refine ⟨l1.Q q, l2.Q q, l3.Q q, by rw [q.2.2.2.2.1, e5]; exact r4, by rw [q.2.2.2.2.1, e5]; omega, by rw [q.2.2.2.1, e4]; exact r6, by rw [f 10 5 rfl]; exact r7, by rw [f 1 4 rfl, f 113 3 rfl]; exact r8, by rw [f 113 3 rfl]; exact r9, by rw [f 107 0 rfl]; exact r10, by rw [f 108 0 rfl]; exact r11, by rw [f 109 0 rfl]; exact r12, by rw [f 110 0 rfl]; exact r13, by rw [f 111 0 rfl]; exact r14, ?_, ?_, ?_, ?_, ?_, ?_, by rw [fa 95 (fun _ => rfl)]; exact r21, fun j hj => by rw [f (25 + j) 4 (PC_job _ _ (by omega) (by omega)), f (72 + j) 4 (PC_jobk _ _ (by omega) (by omega))]; exact r22 j hj⟩
    · unfold RTp at *
      rw [f 2 1 rfl, f 113 5 rfl, f 1 1 rfl, f 113 10 rfl, fa 3 (fun _ => rfl), fa 116 (fun _ => rfl)]
      exact r15
    · rw [q.aI (fun _ => rfl)]; exact n1.cg q.N (fun i _ _ => rfl)
    · rw [w114]; omega
    · rw [f 113 3 rfl, w115]
      intro c
      have n2' := n2 (by rw [e1]; exact c)
      refine ⟨?_, by have := (r18 c).2; omega⟩
      rw [show aI h 115 = aI h0 115 by funext i; show gI h 115 _ = gI h0 115 _; rw [e1]]
      exact n2'.cg q.K (fun i _ _ => rfl)
    · rw [q.2.2.2.2.2.1]; omega
    · rw [q.2.2.2.2.2.2]; omega
  rcases q with q | q
  · exact key h q rfl rfl rfl rfl rfl (by omega) (by omega) r1 r2 r3 r16 (fun c => (r18 c).1)
  · refine key (exc h) q rfl rfl rfl rfl rfl (by show gc h + 1 ≤ _; omega) (by show gs h + 6 ≤ _; omega) r1 r2 r3 ?_ (fun c => ?_)
    · exact r16.cg (h' := exc h) (b' := 0) ⟨fun _ _ _ _ _ _ => rfl, fun _ _ => rfl, fun _ _ _ => ⟨rfl, rfl, rfl, rfl⟩, Nat.le_refl _⟩ (fun i _ _ => rfl)
    · exact (r18 c).1.cg (h' := exc h) (b' := 47) ⟨fun _ _ _ _ _ _ => rfl, fun _ _ => rfl, fun _ _ _ => ⟨rfl, rfl, rfl, rfl⟩, Nat.le_refl _⟩ (fun i _ _ => rfl)
