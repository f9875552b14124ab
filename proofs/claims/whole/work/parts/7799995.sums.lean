/-! the class reads parts and sums -/
def KO (h h' : HP) : Prop := OT h h' ∧ gI h' 8 = gI h 8 ∧ gI h' 2 11 = gI h 2 11 ∧ gI h' 2 12 = gI h 2 12
theorem KO.rf (h : HP) : KO h h := ⟨OT.rf h, rfl, rfl, rfl⟩
theorem KO.tr {a b c : HP} (x : KO a b) (y : KO b c) : KO a c := ⟨x.1.tr y.1, y.2.1.trans x.2.1, y.2.2.1.trans x.2.2.1, y.2.2.2.trans x.2.2.2⟩
theorem KO.mk9 {h h' : HP} (o : OT h h') (k : ∀ k, k ≠ 9 → gI h' 2 k = gI h 2 k) (e : gI h' 8 = gI h 8) : KO h h' := ⟨o, e, k 11 (by decide), k 12 (by decide)⟩
theorem KO.I (h : HP) (k : Nat) (v : Int) (q : k ≠ 1 ∧ k ≠ 11 ∧ k ≠ 12) : KO h (sI h 2 k v) := ⟨OT.I h k v q.1, by rw [gI_sIn _ _ _ _ _ (by decide)], by rw [gI_sIk _ _ _ _ _ (Ne.symm q.2.1)], by rw [gI_sIk _ _ _ _ _ (Ne.symm q.2.2)]⟩
theorem KO.J (h : HP) (k : Nat) (v : Int) : KO h (sJ h 2 k v) := ⟨OT.J h k v, rfl, rfl, rfl⟩
def rdP (p : Prt) (i : Nat) : Bool := decide (p.2.2.1 = 269) && decide (p.2.2.2 = (i : Int))
def rdS (s : List Prt) (i : Nat) : Bool := s.any (fun p => rdP p i)
section SU3
variable {F : Nat} {K N B : Nat → Int} {T : Nat} {h : HP} {j : Nat} {cd : List Int} {nm rd wr : Nat → Bool}
theorem SC.nmc {nm' : Nat → Bool} (d : SC K N B T h j cd nm rd wr) (e : ∀ i, i < 64 → nm' i = nm i) : SC K N B T h j cd nm' rd wr := by
  obtain ⟨L, d1, d2, d3, d4, d5, d6, d7, d8, d9, d10⟩ := d
  exact ⟨L, d1, d2, d3, d4, d5, d6, d7, fun i hi => (d8 i hi).trans (e i hi).symm, d9, d10⟩
/-- what a reading comes to: fine, or wrong -/
def RsC (K N B : Nat → Int) (T : Nat) (rd wr : Nat → Bool) (h : HP) (P : Option (Int × HP)) {α : Type} (r : Rs α) (cd : α → List Int) (nm : α → Nat → Bool) : Prop :=
  match r with
  | .inl e => ∃ h', P = some (0, h') ∧ SF0 K N B T h' e ∧ KO h h'
  | .inr (a, k) => ∃ h', P = some (1, h') ∧ SC K N B T h' k (cd a) (nm a) rd wr ∧ KO h h'
theorem T_at (o : okK K N T) (d : SC K N B T h j cd nm rd wr) (t : Int) (room : cd.length ≤ 3 * j + 8) : RsC K N B T rd wr h (X8_readPart_L61 F 2 t h) (pAt K N j) (fun a => cd ++ [t, a.1, a.2]) (fun a i => nm i || (decide (a.1 = 269) && decide (a.2 = (i : Int)))) := by
  have L := d.1
  have hT := o.1
  unfold X8_readPart_L61 pAt
  rw [cR2 h _ L]
  by_cases c1 : K j = 271
  · have lt := o.lt (j := j) (by omega)
    obtain ⟨h', p1, p2, p3, p4, p5⟩ := T_emit3 (F := F) (d.at (j + 1) (by omega)) t 271 0 (by omega)
    rw [if_pos c1, b_xb _ _ _ _ (T_takes1 o d 271 c1), if_neg (by decide), cR2 _ _ (by exact L), b_xb _ _ _ _ p1]
    exact ⟨h', rfl, p2.nmc (fun i _ => by simp), (KO.I h 6 _ (by decide)).tr (KO.mk9 p3 p4 p5)⟩
  rw [if_neg c1, b_xb _ _ _ _ (T_takes0 o d 271 c1), if_pos rfl, cR2 h _ L]
  by_cases c2 : K j = 272
  · have lt := o.lt (j := j) (by omega)
    obtain ⟨h', p1, p2, p3, p4, p5⟩ := T_emit3 (F := F) (d.at (j + 1) (by omega)) t 272 0 (by omega)
    rw [if_pos c2, b_xb _ _ _ _ (T_takes1 o d 272 c2), if_neg (by decide), cR2 _ _ (by exact L), b_xb _ _ _ _ p1]
    exact ⟨h', rfl, p2.nmc (fun i _ => by simp), (KO.I h 6 _ (by decide)).tr (KO.mk9 p3 p4 p5)⟩
  rw [if_neg c2, b_xb _ _ _ _ (T_takes0 o d 272 c2), if_pos rfl, cR2 h _ L]
  have num : ∀ s : Int, (s = 269 ∨ s = 270) → K j = s → RsC K N B T rd wr h (X8_readPart_L134 F 2 t s (sI h 2 6 ((j + 1 : Nat) : Int))) (if K (j + 1) = -2 ∧ N (j + 1) ≤ 63 then (.inr ((s, N (j + 1)), j + 2) : Rs (Int × Int)) else .inl (j + 1)) (fun a => cd ++ [t, a.1, a.2]) (fun a i => nm i || (decide (a.1 = 269) && decide (a.2 = (i : Int)))) := by
    intro s hs es
    have lt := o.lt (j := j) (by omega)
    have d1 := d.at (j + 1) (by omega)
    unfold X8_readPart_L134
    rw [if_neg (by omega), cR2 _ _ (by exact L)]
    by_cases c : K (j + 1) = -2 ∧ N (j + 1) ≤ 63
    · have b := o.2.2 (j + 1) c.1
      have lt2 := o.lt (j := j + 1) (by omega)
      rw [if_pos c, b_xb _ _ _ _ (T_num1 o d1 0 63 c.1 b.1 c.2), if_neg (by decide)]
      have d2 := (d1.fld 7 (N (j + 1)) (by decide)).at (j + 1 + 1) (by omega)
      have k2 : KO h (sI (sI (sI h 2 6 ((j + 1 : Nat) : Int)) 2 7 (N (j + 1))) 2 6 ((j + 1 + 1 : Nat) : Int)) := ((KO.I h 6 _ (by decide)).tr (KO.I _ 7 _ (by decide))).tr (KO.I _ 6 _ (by decide))
      have g7 : gI (sI (sI (sI h 2 6 ((j + 1 : Nat) : Int)) 2 7 (N (j + 1))) 2 6 ((j + 1 + 1 : Nat) : Int)) 2 7 = N (j + 1) := by rw [gI_sIk _ _ _ _ _ (by decide), gI_sIe]
      unfold X8_readPart_L174
      rcases hs with e | e
      · obtain ⟨w, hw⟩ := Int.eq_ofNat_of_zero_le b.1
        have w64 : w < 64 := by omega
        have d3 := d2.bit13 w w64
        rw [hw] at g7
        rw [if_pos e, cJ2 _ 13 _ (by exact L), cI2 _ 7 _ (by exact L)]
        rw [hw] at d3 ⊢
        rw [g7, cV2 _ 13 _ _ (by exact L), cI2 _ 7 _ (by exact L)]
        rw [show gI (sJ (sI (sI (sI h 2 6 ((j + 1 : Nat) : Int)) 2 7 (w : Int)) 2 6 ((j + 1 + 1 : Nat) : Int)) 2 13 (yor (gJ (sI (sI (sI h 2 6 ((j + 1 : Nat) : Int)) 2 7 (w : Int)) 2 6 ((j + 1 + 1 : Nat) : Int)) 2 13) (yshl 1 (w : Int)))) 2 7 = w from g7, cR2 _ _ (by exact L)]
        obtain ⟨h', p1, p2, p3, p4, p5⟩ := T_emit3 (F := F) d3 t s (w : Int) (by omega)
        rw [b_xb _ _ _ _ p1]
        rw [hw] at k2
        refine ⟨h', rfl, p2.nmc (fun i _ => ?_), k2.tr ((KO.J _ 13 _).tr (KO.mk9 p3 p4 p5))⟩
        rw [e]
        have : decide ((w : Int) = (i : Int)) = decide (i = w) := by
          by_cases q : i = w
          · rw [decide_eq_true q, decide_eq_true (by omega)]
          · rw [decide_eq_false q, decide_eq_false (by omega)]
        show (nm i || (decide ((269 : Int) = 269) && decide ((w : Int) = (i : Int)))) = _
        rw [this]; simp
      · rw [if_neg (by omega), cI2 _ 7 _ (by exact L), g7, cR2 _ _ (by exact L)]
        obtain ⟨h', p1, p2, p3, p4, p5⟩ := T_emit3 (F := F) d2 t s (N (j + 1)) (by omega)
        rw [b_xb _ _ _ _ p1]
        refine ⟨h', rfl, p2.nmc (fun i _ => ?_), k2.tr (KO.mk9 p3 p4 p5)⟩
        rw [e]; simp
    · have c' : ¬ (K (j + 1) = -2 ∧ 0 ≤ N (j + 1) ∧ N (j + 1) ≤ 63) := fun q => c ⟨q.1, q.2.2⟩
      rw [if_neg c, b_xb _ _ _ _ (T_num0 o d1 0 63 c'), if_pos rfl]
      exact ⟨_, rfl, d1.f0, KO.I h 6 _ (by decide)⟩
  by_cases c3 : K j = 269
  · rw [if_pos (Or.inl c3), b_xb _ _ _ _ (T_takes1 o d 269 c3), if_neg (by decide), c3]
    exact num 269 (Or.inl rfl) c3
  rw [b_xb _ _ _ _ (T_takes0 o d 269 c3), if_pos rfl, cR2 h _ L]
  by_cases c4 : K j = 270
  · rw [if_pos (Or.inr c4), b_xb _ _ _ _ (T_takes1 o d 270 c4), if_neg (by decide), c4]
    exact num 270 (Or.inr rfl) c4
  rw [if_neg (fun q => q.elim c3 c4), b_xb _ _ _ _ (T_takes0 o d 270 c4), if_pos rfl]
  unfold X8_readPart_L134
  rw [if_pos rfl]
  exact ⟨h, rfl, d.f0, KO.rf h⟩
theorem T_part (o : okK K N T) (d : SC K N B T h j cd nm rd wr) (neg : Bool) (room : cd.length ≤ 3 * j + 8) : RsC K N B T rd wr h (X8_readPart F 2 (if neg = true then -1 else 1) h) (pPart K N neg j) (fun p => cd ++ prtC p) (fun p i => nm i || rdP p i) := by
  have L := d.1
  have hT := o.1
  unfold X8_readPart pPart
  rw [cR2 h _ L]
  by_cases c : K j = -2
  · have b := o.2.2 j c
    have lt := o.lt (j := j) (by omega)
    have d1 := (d.fld 7 (N j) (by decide)).at (j + 1) (by omega)
    have k1 : KO h (sI (sI h 2 7 (N j)) 2 6 ((j + 1 : Nat) : Int)) := (KO.I h 7 _ (by decide)).tr (KO.I _ 6 _ (by decide))
    have g7 : gI (sI (sI h 2 7 (N j)) 2 6 ((j + 1 : Nat) : Int)) 2 7 = N j := by rw [gI_sIk _ _ _ _ _ (by decide), gI_sIe]
    rw [if_pos c, b_xb _ _ _ _ (T_num1 o d 0 999999 c b.1 b.2), if_neg (by decide), cI2 _ 7 _ (by exact L), g7, cR2 _ _ (by exact L)]
    by_cases c2 : K (j + 1) = 42
    · have lt2 := o.lt (j := j + 1) (by omega)
      have d2 := d1.at (j + 1 + 1) (by omega)
      have k2 := k1.tr (KO.I (sI (sI h 2 7 (N j)) 2 6 ((j + 1 : Nat) : Int)) 6 ((j + 1 + 1 : Nat) : Int) (by decide))
      have ws : Unit → w32 ((if neg = true then -1 else 1) * N j) = (if neg = true then -1 else 1) * N j := fun _ => by
        cases neg with
        | true => rw [if_pos rfl]; exact w32i _ (by omega) (by omega)
        | false => rw [if_neg (by decide)]; exact w32i _ (by omega) (by omega)
      rw [if_pos c2, b_xb _ _ _ _ (T_takes1 o d1 42 c2), if_neg (by decide), cR2 _ _ (by exact L), ws ()]
      unfold pAtom
      by_cases c3 : K (j + 2) = -2
      · have b3 := o.2.2 (j + 2) c3
        have lt3 := o.lt (j := j + 2) (by omega)
        have d3 := (d2.fld 7 (N (j + 1 + 1)) (by decide)).at (j + 1 + 1 + 1) (by omega)
        rw [if_pos c3, b_xb _ _ _ _ (T_num1 o d2 0 999999 c3 b3.1 b3.2), if_neg (by decide), cI2 _ 7 _ (by exact L), gI_sIk _ _ _ _ _ (by decide), gI_sIe, cR2 _ _ (by exact L)]
        obtain ⟨h', p1, p2, p3, p4, p5⟩ := T_emit3 (F := F) d3 ((if neg = true then -1 else 1) * N j) (-2) (N (j + 1 + 1)) (by omega)
        rw [b_xb _ _ _ _ p1]
        refine ⟨h', rfl, p2.nmc (fun i _ => ?_), k2.tr (((KO.I _ 7 _ (by decide)).tr (KO.I _ 6 _ (by decide))).tr (KO.mk9 p3 p4 p5))⟩
        unfold rdP; simp
      · have c4 : ¬ (K (j + 1 + 1) = -2 ∧ 0 ≤ N (j + 1 + 1) ∧ N (j + 1 + 1) ≤ 999999) := fun q => c3 q.1
        rw [if_neg c3, b_xb _ _ _ _ (T_num0 o d2 0 999999 c4), if_pos rfl]
        have x := T_at (F := F) o d2 ((if neg = true then -1 else 1) * N j) (by omega)
        cases e : pAt K N (j + 2) with
        | inl f =>
          rw [show pAt K N (j + 1 + 1) = .inl f from e] at x
          obtain ⟨h', p1, p2, p3⟩ := x
          exact ⟨h', p1, p2, k2.tr p3⟩
        | inr y =>
          obtain ⟨a, k⟩ := y
          rw [show pAt K N (j + 1 + 1) = .inr (a, k) from e] at x
          obtain ⟨h', p1, p2, p3⟩ := x
          exact ⟨h', p1, p2, k2.tr p3⟩
    · rw [if_neg c2, b_xb _ _ _ _ (T_takes0 o d1 42 c2), if_pos rfl, cR2 _ _ (by exact L)]
      obtain ⟨h', p1, p2, p3, p4, p5⟩ := T_emit3 (F := F) d1 (if neg = true then -1 else 1) (-2) (N j) (by omega)
      rw [b_xb _ _ _ _ p1]
      refine ⟨h', rfl, ?_, k1.tr (KO.mk9 p3 p4 p5)⟩
      have ep : prtC (neg, none, -2, N j) = [if neg = true then -1 else 1, -2, N j] := by
        show [(if neg = true then (-1 : Int) else 1) * 1, -2, N j] = _
        rw [Int.mul_one]
      show SC K N B T h' (j + 1) (cd ++ prtC (neg, none, -2, N j)) _ rd wr
      rw [ep]
      refine p2.nmc (fun i _ => ?_)
      unfold rdP; simp
  · have c4 : ¬ (K j = -2 ∧ 0 ≤ N j ∧ N j ≤ 999999) := fun q => c q.1
    rw [if_neg c, b_xb _ _ _ _ (T_num0 o d 0 999999 c4), if_pos rfl]
    have x := T_at (F := F) o d (if neg = true then -1 else 1) (by omega)
    cases e : pAt K N j with
    | inl f =>
      rw [e] at x
      exact x
    | inr y =>
      obtain ⟨a, k⟩ := y
      rw [e] at x
      obtain ⟨h', p1, p2, p3⟩ := x
      refine ⟨h', p1, ?_, p3⟩
      have ep : prtC (neg, none, a.1, a.2) = [if neg = true then -1 else 1, a.1, a.2] := by
        show [(if neg = true then (-1 : Int) else 1) * 1, a.1, a.2] = _
        rw [Int.mul_one]
      show SC K N B T h' k (cd ++ prtC (neg, none, a.1, a.2)) _ rd wr
      rw [ep]
      exact p2
/-- more parts, from a part on -/
def pRs (K N : Nat → Int) (neg : Bool) (f j : Nat) : Rs (List Prt) := match pPart K N neg j with | .inl e => .inl e | .inr (p, k) => (match pRest K N f k with | .inl e => .inl e | .inr (ps, m) => .inr (p :: ps, m))
theorem T_sumL (o : okK K N T) (c0 : List Int) (hc : c0.length ≤ 1208) : ∀ (f : Nat) (neg : Bool) (j : Nat) (done : List Prt) (x : Int) (h : HP) (nm : Nat → Bool) (k : Nat), SC K N B T h j (c0 ++ x :: done.flatMap prtC) nm rd wr → T ≤ j + f → f < k → 2 * done.length ≤ j → (c0 ++ x :: done.flatMap prtC).length ≤ 3 * j + 8 → RsC K N B T rd wr h (X8_readSum_L14 F k 2 c0.length (if neg = true then -1 else 1) ((done.length + 1 : Nat) : Int) h) (pRs K N neg f j) (fun ps => c0 ++ ((done ++ ps).length : Int) :: (done ++ ps).flatMap prtC) (fun ps i => nm i || rdS ps i) := by
  intro f
  induction f with
  | zero =>
    intro neg j done x h nm k d hf hk hd room
    obtain ⟨k, rfl⟩ : ∃ k', k = k' + 1 := ⟨k - 1, by omega⟩
    have L := d.1
    have hj := d.2.2.2.2.1
    have ej : K j = -1 := (o.2.1 j).mpr (by omega)
    have hT := o.1
    have y := T_part (F := F) o d neg room
    have ep : pPart K N neg j = .inl j := by
      unfold pPart pAt
      rw [if_neg (by omega), if_neg (by omega), if_neg (by omega), if_neg (by omega)]
    rw [ep] at y
    obtain ⟨h', p1, p2, p3⟩ := y
    unfold pRs
    rw [ep]
    refine ⟨h', ?_, p2, p3⟩
    show (if (400 : Int) < ((done.length + 1 : Nat) : Int) then _ else (xrc h (some 2) 8 17).bind _) = _
    rw [if_neg (by omega), cR2 h _ L, b_xb _ _ _ _ p1, if_pos rfl]
  | succ f ih =>
    intro neg j done x h nm k d hf hk hd room
    obtain ⟨k, rfl⟩ : ∃ k', k = k' + 1 := ⟨k - 1, by omega⟩
    have L := d.1
    have hT := o.1
    have hj := d.2.2.2.2.1
    have y := T_part (F := F) o d neg room
    have st : ∀ R, ((xrc h (some 2) 8 17).bind fun a4 => xb (X8_readPart F a4 (if neg = true then -1 else 1) h) fun v2 h3 => if v2 = 0 then some (0, h3) else (xrc h3 (some 2) 8 17).bind fun a8 => xb (X8_amend F a8 c0.length ((done.length + 1 : Nat) : Int) h3) fun _ h7 => (xrc h7 (some 2) 8 17).bind fun a11 => xb (X8_takes F a11 43 h7) fun v9 h10 => if v9 = 0 then (xrc h10 (some 2) 8 17).bind fun a15 => xb (X8_takes F a15 45 h10) fun v13 h14 => if v13 = 0 then some (1, h14) else X8_readSum_L14 F k 2 c0.length (-1) (w32 (((done.length + 1 : Nat) : Int) + 1)) h14 else X8_readSum_L14 F k 2 c0.length 1 (w32 (((done.length + 1 : Nat) : Int) + 1)) h10) = R → X8_readSum_L14 F (k + 1) 2 c0.length (if neg = true then -1 else 1) ((done.length + 1 : Nat) : Int) h = R := by
      intro R hR
      rw [← hR]
      show (if (400 : Int) < ((done.length + 1 : Nat) : Int) then _ else (xrc h (some 2) 8 17).bind _) = _
      rw [if_neg (by omega)]
      rfl
    unfold pRs
    cases ep : pPart K N neg j with
    | inl e =>
      rw [ep] at y
      obtain ⟨h', p1, p2, p3⟩ := y
      refine ⟨h', st _ ?_, p2, p3⟩
      rw [cR2 h _ L, b_xb _ _ _ _ p1, if_pos rfl]
    | inr z =>
      obtain ⟨p, i⟩ := z
      rw [ep] at y
      obtain ⟨h1, p1, p2, p3⟩ := y
      obtain ⟨q1, q2, q3, q4⟩ := pPart_ok o ep
      have ec : c0 ++ x :: done.flatMap prtC ++ prtC p = c0 ++ x :: (done ++ [p]).flatMap prtC := by rw [List.flatMap_append, List.flatMap_singleton, List.append_assoc, List.cons_append]
      have p2' : SC K N B T h1 i (c0 ++ x :: (done ++ [p]).flatMap prtC) (fun i => nm i || rdP p i) rd wr := by rw [← ec]; exact p2
      obtain ⟨h2, a1, a2, a3, a4, a5⟩ := T_amend (F := F) c0 x _ p2' ((done.length + 1 : Nat) : Int)
      have k2 : KO h h2 := p3.tr (KO.mk9 a3 (fun k _ => a4 k) a5)
      have L1 := p2.1
      have L2 := a2.1
      have ld : (done ++ [p]).length = done.length + 1 := by rw [List.length_append]; rfl
      have room2 : (c0 ++ ((done.length + 1 : Nat) : Int) :: (done ++ [p]).flatMap prtC).length ≤ 3 * (i + 1) + 8 := by
        have e1 : (c0 ++ ((done.length + 1 : Nat) : Int) :: (done ++ [p]).flatMap prtC).length = (c0 ++ x :: (done ++ [p]).flatMap prtC).length := by rw [List.length_append, List.length_append, List.length_cons, List.length_cons]
        rw [e1, ← ec, List.length_append]
        have e2 : (prtC p).length = 3 := rfl
        omega
      have ew : Unit → w32 (((done.length + 1 : Nat) : Int) + 1) = (((done ++ [p]).length + 1 : Nat) : Int) := fun _ => by rw [ld]; exact w32j (by omega)
      have more : ∀ ng : Bool, (K i = 43 ∧ ng = false ∨ K i = 45 ∧ ng = true) → (X8_readSum_L14 F (k + 1) 2 c0.length (if neg = true then -1 else 1) ((done.length + 1 : Nat) : Int) h = X8_readSum_L14 F k 2 c0.length (if ng = true then -1 else 1) (((done ++ [p]).length + 1 : Nat) : Int) (sI h2 2 6 ((i + 1 : Nat) : Int))) := by
        intro ng hn
        refine st _ ?_
        rw [cR2 h _ L, b_xb _ _ _ _ p1, if_neg (by decide), cR2 _ _ L1, b_xb _ _ _ _ a1, cR2 _ _ L2]
        rcases hn with ⟨c1, c2⟩ | ⟨c1, c2⟩
        · rw [b_xb _ _ _ _ (T_takes1 o a2 43 c1), if_neg (by decide), ew (), c2, if_neg (by decide)]
        · rw [b_xb _ _ _ _ (T_takes0 o a2 43 (by omega)), if_pos rfl, cR2 _ _ L2, b_xb _ _ _ _ (T_takes1 o a2 45 c1), if_neg (by decide), ew (), c2, if_pos rfl]
      show RsC K N B T rd wr h _ (match pRest K N (f + 1) i with | .inl e => Sum.inl e | .inr (ps, m) => Sum.inr (p :: ps, m)) _ _
      by_cases c : K i = 43 ∨ K i = 45
      · have lt := o.lt (j := i) (by omega)
        have hr : pRest K N (f + 1) i = pRs K N (decide (K i = 45)) f (i + 1) := by
          show (if K i = 43 ∨ K i = 45 then _ else _) = _
          rw [if_pos c]
          rfl
        have mm := more (decide (K i = 45)) (by
          rcases c with c | c
          · exact Or.inl ⟨c, decide_eq_false (by omega)⟩
          · exact Or.inr ⟨c, decide_eq_true c⟩)
        rw [hr, mm]
        have z := ih (decide (K i = 45)) (i + 1) (done ++ [p]) _ _ _ k (a2.at (i + 1) (by omega)) (by omega) (by omega) (by rw [ld]; omega) room2
        cases er : pRs K N (decide (K i = 45)) f (i + 1) with
        | inl e =>
          rw [er] at z
          obtain ⟨h', b1, b2, b3⟩ := z
          exact ⟨h', b1, b2, (k2.tr (KO.I _ 6 _ (by decide))).tr b3⟩
        | inr w =>
          obtain ⟨ps, m⟩ := w
          rw [er] at z
          obtain ⟨h', b1, b2, b3⟩ := z
          refine ⟨h', b1, ?_, (k2.tr (KO.I _ 6 _ (by decide))).tr b3⟩
          have ea : done ++ [p] ++ ps = done ++ p :: ps := by rw [List.append_assoc]; rfl
          change SC K N B T h' m (c0 ++ ((done ++ [p] ++ ps).length : Int) :: (done ++ [p] ++ ps).flatMap prtC) _ rd wr at b2
          rw [ea] at b2
          refine b2.nmc (fun u _ => ?_)
          show (nm u || rdS (p :: ps) u) = (nm u || rdP p u || rdS ps u)
          unfold rdS
          rw [List.any_cons, Bool.or_assoc]
      · have hr : pRest K N (f + 1) i = .inr ([], i) := by
          show (if K i = 43 ∨ K i = 45 then _ else _) = _
          rw [if_neg c]
        rw [hr]
        refine ⟨h2, st _ ?_, ?_, k2⟩
        · rw [cR2 h _ L, b_xb _ _ _ _ p1, if_neg (by decide), cR2 _ _ L1, b_xb _ _ _ _ a1, cR2 _ _ L2, b_xb _ _ _ _ (T_takes0 o a2 43 (fun q => c (Or.inl q))), if_pos rfl, cR2 _ _ L2, b_xb _ _ _ _ (T_takes0 o a2 45 (fun q => c (Or.inr q))), if_pos rfl]
        · rw [← ld] at a2
          refine a2.nmc (fun u _ => ?_)
          show (nm u || rdS [p] u) = (nm u || rdP p u)
          unfold rdS
          rw [List.any_cons, List.any_nil, Bool.or_false]
theorem T_sum (o : okK K N T) (hF : 500 ≤ F) (d : SC K N B T h j cd nm rd wr) (room : cd.length ≤ 3 * j + 7) : RsC K N B T rd wr h (X8_readSum F 2 h) (pSum K N j) (fun s => cd ++ sumC s) (fun s i => nm i || rdS s i) := by
  have L := d.1
  have hT := o.1
  have hj := d.2.2.2.2.1
  obtain ⟨h1, p1, p2, p3, p4, p5⟩ := T_emit (F := F) d 0 (by omega)
  have x := T_sumL (F := F) o cd (by omega) 401 false j [] 0 h1 nm F p2 (by omega) (by omega) (by show 2 * 0 ≤ j; omega) (by rw [List.length_append]; show cd.length + 1 ≤ _; omega)
  have k1 : KO h h1 := KO.mk9 p3 p4 p5
  have es : pSum K N j = pRs K N false 401 j := rfl
  have st : X8_readSum F 2 h = X8_readSum_L14 F F 2 cd.length (if false = true then -1 else 1) ((([] : List Prt).length + 1 : Nat) : Int) h1 := by
    unfold X8_readSum
    rw [cI2 h 9 _ L, d.2.2.2.2.2.1, cR2 h _ L, b_xb _ _ _ _ p1]
    rfl
  rw [es, st]
  cases e : pRs K N false 401 j with
  | inl f =>
    rw [e] at x
    obtain ⟨h', b1, b2, b3⟩ := x
    exact ⟨h', b1, b2, k1.tr b3⟩
  | inr y =>
    obtain ⟨s, m⟩ := y
    rw [e] at x
    obtain ⟨h', b1, b2, b3⟩ := x
    exact ⟨h', b1, b2, k1.tr b3⟩
end SU3
