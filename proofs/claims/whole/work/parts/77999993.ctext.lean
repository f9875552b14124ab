/-! the class reads a text: its lines -/
theorem linC_len0 (w r : Int) (s : List Prt) : (linC (0, w, r, 0, s, [])).length = 4 + 3 * s.length := by
  show ([257, w, r] ++ sumC s).length = _
  rw [List.length_append, sumC_len]
  show 3 + _ = _
  omega
theorem linC_len3 (so : Int) (ts : List Ctk) (h : so = 3 ∨ so = 4) : (linC (so, 0, 0, 0, [], ts)).length = 2 + (cdl ts).length := by
  have e : (linC (so, 0, 0, 0, [], ts)) = (if so = 3 then 263 else 264) :: (cdl ts ++ [-1]) := by rcases h with q | q <;> rw [q] <;> rfl
  rw [e, List.length_cons, List.length_append]
  show _ + 1 + 1 = _
  omega
section LNL
variable {K N : Nat → Int} {T : Nat}
theorem pSet_len (o : okK K N T) {r : Int} {j k : Nat} {l : Lin} (h : pSet K N r j = .inr (l, k)) : (linC l).length + 3 * j ≤ 3 * k := by
  unfold pSet at h
  by_cases c : K j = -2 ∧ 16 ≤ N j ∧ N j ≤ 63
  · rw [if_pos c] at h
    by_cases c2 : K (j + 1) = 61
    · rw [if_pos c2] at h
      cases e : pSum K N (j + 2) with
      | inl x => rw [e] at h; cases h
      | inr x =>
        obtain ⟨s, m⟩ := x
        rw [e] at h
        obtain ⟨a0, a1, a2, a3, -⟩ := pSum_ok o e
        have l1 := a3.1
        cases h
        rw [linC_len0]
        omega
    · rw [if_neg c2] at h; cases h
  · rw [if_neg c] at h; cases h
theorem pTot_len {j k : Nat} {l : Lin} (h : pTot K N j = .inr (l, k)) : (linC l).length + 3 * j ≤ 3 * k := by
  unfold pTot at h
  by_cases c : K j = -2 ∧ 16 ≤ N j ∧ N j ≤ 63
  · rw [if_pos c] at h
    by_cases c2 : K (j + 1) = 259
    · rw [if_pos c2] at h
      by_cases c3 : K (j + 2) = -2 ∧ N (j + 2) ≤ 63
      · rw [if_pos c3] at h
        by_cases c4 : K (j + 3) = 260
        · rw [if_pos c4] at h
          by_cases c5 : K (j + 4) = -2 ∧ N (j + 2) ≤ N (j + 4) ∧ N (j + 4) ≤ 63
          · rw [if_pos c5] at h
            cases h
            show (4 : Nat) + _ ≤ _
            omega
          · rw [if_neg c5] at h; cases h
        · rw [if_neg c4] at h; cases h
      · rw [if_neg c3] at h; cases h
    · rw [if_neg c2] at h; cases h
  · rw [if_neg c] at h; cases h
theorem pRnd_len {j k : Nat} {l : Lin} (h : pRnd K N j = .inr (l, k)) : (linC l).length + 3 * j ≤ 3 * k := by
  unfold pRnd at h
  by_cases c : K j = -2 ∧ 16 ≤ N j ∧ N j ≤ 63
  · rw [if_pos c] at h
    by_cases c2 : K (j + 1) = 262
    · rw [if_pos c2] at h
      by_cases c3 : K (j + 2) = -2 ∧ 1 ≤ N (j + 2) ∧ N (j + 2) ≤ 9999
      · rw [if_pos c3] at h
        cases h
        show (3 : Nat) + _ ≤ _
        omega
      · rw [if_neg c3] at h; cases h
    · rw [if_neg c2] at h; cases h
  · rw [if_neg c] at h; cases h
theorem pIf_len (o : okK K N T) {so : Int} (hs : so = 3 ∨ so = 4) {j k : Nat} {l : Lin} (h : pIf K N so j = .inr (l, k)) : (linC l).length + 3 * j ≤ 3 * k + 2 := by
  unfold pIf at h
  by_cases c : K j = 265
  · rw [if_pos c] at h
    cases e : pC K (pT K N 6) (j + 1) with
    | inl x => rw [e] at h; cases h
    | inr x =>
      obtain ⟨ts, m⟩ := x
      rw [e] at h
      have a := pC_len (fun j k ts q => pT_len o 6 j k ts q) e
      cases h
      rw [linC_len3 so ts hs]
      omega
  · rw [if_neg c] at h; cases h
theorem pLine_len (o : okK K N T) {j k : Nat} {l : Lin} (h : pLine K N j = .inr (l, k)) : (linC l).length + 3 * j ≤ 3 * k := by
  unfold pLine at h
  by_cases c1 : K j = 256
  · rw [if_pos c1] at h
    by_cases c2 : K (j + 1) = -2 ∧ 1 ≤ N (j + 1) ∧ N (j + 1) ≤ 9
    · rw [if_pos c2] at h
      by_cases c3 : K (j + 2) = 257
      · rw [if_pos c3] at h
        have a := pSet_len o h
        omega
      · rw [if_neg c3] at h; cases h
    · rw [if_neg c2] at h; cases h
  rw [if_neg c1] at h
  by_cases c2 : K j = 257
  · rw [if_pos c2] at h
    have a := pSet_len o h
    omega
  rw [if_neg c2] at h
  by_cases c3 : K j = 258
  · rw [if_pos c3] at h
    have a := pTot_len h
    omega
  rw [if_neg c3] at h
  by_cases c4 : K j = 261
  · rw [if_pos c4] at h
    have a := pRnd_len h
    omega
  rw [if_neg c4] at h
  by_cases c5 : K j = 263
  · rw [if_pos c5] at h
    have a := pIf_len o (Or.inl rfl) h
    omega
  rw [if_neg c5] at h
  by_cases c6 : K j = 264
  · rw [if_pos c6] at h
    have a := pIf_len o (Or.inr rfl) h
    omega
  · rw [if_neg c6] at h; cases h
end LNL
/-- words read by lines before they are written there; words written -/
def rdF : (Nat → Bool) → (Nat → Bool) → List Lin → Nat → Bool
  | rd, _, [], i => rd i
  | rd, wr, l :: A, i => rdF (fun i => rd i || (rdl l i && !wr i)) (fun i => wr i || wrl l i) A i
def wrF (wr : Nat → Bool) (A : List Lin) (i : Nat) : Bool := wr i || A.any (fun l => wrl l i)
theorem wrF_cons (wr : Nat → Bool) (l : Lin) (A : List Lin) : wrF (fun i => wr i || wrl l i) A = wrF wr (l :: A) := by
  funext i
  unfold wrF
  rw [List.any_cons, Bool.or_assoc]
section CTX
variable {F : Nat} {K N B : Nat → Int} {T : Nat} {h : HP} {j : Nat} {cd : List Int} {nm rd wr : Nat → Bool}
theorem SC.j13 (d : SC K N B T h j cd nm rd wr) (z : Int) (nm' : Nat → Bool) (e : ∀ i, i < 64 → tb z i = nm' i) : SC K N B T (sJ h 2 13 z) j cd nm' rd wr := by
  obtain ⟨L, d1, d2, d3, d4, d5, d6, d7, d8, d9, d10, d11, d12⟩ := d
  refine ⟨L, d1, d2, d3, d4, d5, d6, d7, fun i hi => ?_, fun i hi => ?_, fun i hi => ?_, ?_, ?_⟩
  · rw [gJ_sJe]; exact e i hi
  · rw [gJ_sJ, if_neg (by omega)]; exact d9 i hi
  · rw [gJ_sJ, if_neg (by omega)]; exact d10 i hi
  · rw [gJ_sJ, if_neg (by omega)]; exact d11
  · rw [gJ_sJ, if_neg (by omega)]; exact d12
theorem SC.j14 (d : SC K N B T h j cd nm rd wr) (z : Int) (rd' : Nat → Bool) (e : ∀ i, i < 64 → tb z i = rd' i) (w : in64 z) : SC K N B T (sJ h 2 14 z) j cd nm rd' wr := by
  obtain ⟨L, d1, d2, d3, d4, d5, d6, d7, d8, d9, d10, d11, d12⟩ := d
  refine ⟨L, d1, d2, d3, d4, d5, d6, d7, fun i hi => ?_, fun i hi => ?_, fun i hi => ?_, ?_, ?_⟩
  · rw [gJ_sJ, if_neg (by omega)]; exact d8 i hi
  · rw [gJ_sJe]; exact e i hi
  · rw [gJ_sJ, if_neg (by omega)]; exact d10 i hi
  · rw [gJ_sJe]; exact w
  · rw [gJ_sJ, if_neg (by omega)]; exact d12
theorem T_lines (o : okK K N T) (hF : 500 ≤ F) : ∀ (f i kk n : Nat) (h : HP) (j : Nat) (cd : List Int) (nm rd wr : Nat → Bool), f + i = 10 → n ≤ i → f + 1 < kk → SC K N B T h j cd nm rd wr → cd.length ≤ 3 * j →
  match pLs K N f j with
  | .inl e => ∃ (h' : HP) (z : Int), X8_readText_L65 F kk 2 (n : Int) 0 1 (i : Int) h = X8_readText_L150 F 2 z 0 h' ∧ SF0 K N B T h' e ∧ OT h h'
  | .inr (A, m) => ∃ (h' : HP) (nm' : Nat → Bool), X8_readText_L65 F kk 2 (n : Int) 0 1 (i : Int) h = X8_readText_L150 F 2 ((n + A.length : Nat) : Int) 1 h' ∧ SC K N B T h' m (cd ++ prgC A) nm' (rdF rd wr A) (wrF wr A) ∧ OT h h' ∧ (cd ++ prgC A).length ≤ 3 * m := by
  intro f
  induction f with
  | zero =>
    intro i kk n h j cd nm rd wr hi hn hk d room
    obtain ⟨kk, rfl⟩ : ∃ k', kk = k' + 1 := ⟨kk - 1, by omega⟩
    refine ⟨h, n, ?_, d.f0, OT.rf h⟩
    show (if (10 : Int) ≤ (i : Int) then X8_readText_L150 F 2 n 0 h else _) = _
    exact if_pos (by omega)
  | succ f ih =>
    intro i kk n h j cd nm rd wr hi hn hk d room
    obtain ⟨kk, rfl⟩ : ∃ k', kk = k' + 1 := ⟨kk - 1, by omega⟩
    have hT := o.1
    have L := d.1
    have q1 : ¬ (10 : Int) ≤ (i : Int) := by omega
    have stop : ∀ (z v : Int) (ii : Nat) (h' : HP), ii < 100 → X8_readText_L144 F (X8_readText_L65 F kk) 2 z v 0 (ii : Int) h' = X8_readText_L150 F 2 z v h' := fun z v ii h' hii => by
      obtain ⟨kk, rfl⟩ : ∃ k', kk = k' + 1 := ⟨kk - 1, by omega⟩
      unfold X8_readText_L144
      rw [w32j (by omega)]
      show (if (10 : Int) ≤ ((ii + 1 : Nat) : Int) then X8_readText_L150 F 2 z v h' else if (0 : Int) = 0 then X8_readText_L150 F 2 z v h' else _) = _
      by_cases q : (10 : Int) ≤ ((ii + 1 : Nat) : Int)
      · exact if_pos q
      · rw [if_neg q]; exact if_pos rfl
    have d1 := d.j13 0 (fun _ => false) (fun i _ => tb_0 i)
    have o1 : OT h (sJ h 2 13 0) := OT.J h 13 0
    have x := T_line (F := F) o hF d1 room
    have e0 : X8_readText_L65 F (kk + 1) 2 (n : Int) 0 1 (i : Int) h = xb (X8_readLine F 2 (sJ h 2 13 0)) (fun v5 h6 =>
        (xgJ h6 (some 2) 8 17 14).bind fun v8 =>
        (xgJ h6 (some 2) 8 17 13).bind fun v9 =>
        (xpJ h6 (some 2) 8 17 14 (yor v8 (yand v9 (yxor (gJ h 2 15) (-1))))).bind fun h10 =>
        if v5 = 0 then
          X8_readText_L144 F (X8_readText_L65 F kk) 2 n 0 v5 (i : Int) h10
        else
          (xrc h10 (some 2) 8 17).bind fun a14 =>
          xb (X8_kind F a14 h10) fun v12 h13 =>
          X8_readText_L135 F (X8_readText_L65 F kk) 2 (w32 ((n : Int) + 1)) (i : Int) (if v12 = (-1) then 1 else 0) h13) := by
      show (if (10 : Int) ≤ (i : Int) then X8_readText_L150 F 2 n 0 h else if (1 : Int) = 0 then X8_readText_L150 F 2 n 0 h else (xgJ h (some 2) 8 17 15).bind fun v3 => (xpJ h (some 2) 8 17 13 0).bind fun h4 => _) = _
      rw [if_neg q1, if_neg (by decide), cJ2 h 15 _ L, cV2 h 13 _ _ L, cR2 _ _ d1.1]
      rfl
    unfold pLs
    cases e : pLine K N j with
    | inl y =>
      rw [e] at x
      obtain ⟨h6, a1, a2, a3⟩ := x
      obtain ⟨cd', nm', rd', wr', d6⟩ := a2
      have d7 := d6.j14 (yor (gJ h6 2 14) (yand (gJ h6 2 13) (yxor (gJ h 2 15) (-1)))) (fun i => tb (yor (gJ h6 2 14) (yand (gJ h6 2 13) (yxor (gJ h 2 15) (-1)))) i) (fun _ _ => rfl) (yor_in _ _)
      refine ⟨_, (n : Int), ?_, d7.f0, (o1.tr a3).tr (OT.J h6 14 _)⟩
      rw [e0, b_xb _ _ _ _ a1, cJ2 h6 14 _ d6.1, cJ2 h6 13 _ d6.1, cV2 h6 14 _ _ d6.1, if_pos rfl]
      exact stop _ _ _ _ (by omega)
    | inr y =>
      obtain ⟨l, m⟩ := y
      rw [e] at x
      obtain ⟨h6, a1, d6, a3⟩ := x
      have ln := pLine_len o e
      obtain ⟨p1, p2, p3⟩ := pLine_ok o e
      have d7 := d6.j14 (yor (gJ h6 2 14) (yand (gJ h6 2 13) (yxor (gJ h 2 15) (-1)))) (fun i => rd i || (rdl l i && !wr i)) (fun i hi => by
        obtain ⟨-, -, -, -, -, -, -, -, b8, b9, b10, -⟩ := d6
        obtain ⟨-, -, -, -, -, -, -, -, c8, c9, c10, -⟩ := d
        rw [tb_or, tb_and, tb_xor, tb_m1 i hi, b8 i hi, b9 i hi, c10 i hi]; show (rd i || ((false || rdl l i) && (wr i ^^ true))) = (rd i || (rdl l i && !wr i)); cases rd i <;> cases rdl l i <;> cases wr i <;> rfl) (yor_in _ _)
      have o7 := (o1.tr a3).tr (OT.J h6 14 (yor (gJ h6 2 14) (yand (gJ h6 2 13) (yxor (gJ h 2 15) (-1)))))
      have e1 : X8_readText_L65 F (kk + 1) 2 (n : Int) 0 1 (i : Int) h = X8_readText_L135 F (X8_readText_L65 F kk) 2 ((n + 1 : Nat) : Int) (i : Int) (if K m = (-1) then 1 else 0) (sJ h6 2 14 (yor (gJ h6 2 14) (yand (gJ h6 2 13) (yxor (gJ h 2 15) (-1))))) := by
        rw [e0, b_xb _ _ _ _ a1, cJ2 h6 14 _ d6.1, cJ2 h6 13 _ d6.1, cV2 h6 14 _ _ d6.1, if_neg (by decide), cR2 _ _ d7.1, b_xb _ _ _ _ (T_kind o d7), w32j (by omega)]
      revert d7 o7 e1
      generalize sJ h6 2 14 (yor (gJ h6 2 14) (yand (gJ h6 2 13) (yxor (gJ h 2 15) (-1)))) = g
      intro d7 o7 e1
      rw [e1]
      unfold X8_readText_L135
      rw [cR2 g _ d7.1]
      show match (if K m = -1 then Sum.inr ([l], m) else if K m = 59 then (match pLs K N f (m + 1) with | .inl e => Sum.inl e | .inr (ls, m) => Sum.inr (l :: ls, m)) else Sum.inl m : Rs (List Lin)) with
        | .inl e => _
        | .inr (A, m) => _
      have r1 : (cd ++ linC l).length ≤ 3 * m := by rw [List.length_append]; omega
      by_cases c1 : K m = -1
      · rw [if_pos c1, if_pos c1, b_xb _ _ _ _ (T_takes0 o d7 59 (by omega))]
        have ep : prgC [l] = linC l := by show [l].flatMap linC = _; rw [List.flatMap_singleton]
        refine ⟨g, (fun i => false || rdl l i), stop _ _ _ _ (by omega), ?_, o7, by rw [ep]; exact r1⟩
        rw [ep, ← wrF_cons]
        have ew : wrF (fun i => wr i || wrl l i) [] = (fun i => wr i || wrl l i) := by funext i; unfold wrF; rw [List.any_nil, Bool.or_false]
        rw [ew]
        exact d7
      rw [if_neg c1, if_neg c1]
      by_cases c2 : K m = 59
      · rw [if_pos c2, b_xb _ _ _ _ (T_takes1 o d7 59 c2)]
        have lt := o.lt (j := m) c1
        have d8 := d7.at (m + 1) (by omega)
        have z := ih (i + 1) kk (n + 1) _ (m + 1) _ _ _ _ (by omega) (by omega) (by omega) d8 (by omega)
        have ot := o7.tr (OT.I g 6 ((m + 1 : Nat) : Int) (by decide))
        unfold X8_readText_L144
        rw [w32j (by omega)]
        cases e2 : pLs K N f (m + 1) with
        | inl y =>
          rw [e2] at z
          obtain ⟨h', v, z1, z2, z3⟩ := z
          exact ⟨h', v, z1, z2, ot.tr z3⟩
        | inr y =>
          obtain ⟨A, m2⟩ := y
          rw [e2] at z
          obtain ⟨h', nm', z1, z2, z3, z4⟩ := z
          have ep : cd ++ linC l ++ prgC A = cd ++ prgC (l :: A) := by show _ = cd ++ (l :: A).flatMap linC; rw [List.flatMap_cons, List.append_assoc]; rfl
          have en : n + 1 + A.length = n + (l :: A).length := by rw [List.length_cons]; omega
          refine ⟨h', nm', ?_, ?_, ot.tr z3, ?_⟩
          · rw [z1, en]
          · rw [← ep, ← wrF_cons]
            exact z2
          · rw [← ep]; exact z4
      · rw [if_neg c2, b_xb _ _ _ _ (T_takes0 o d7 59 c2)]
        exact ⟨g, _, stop _ _ _ _ (by omega), d7.f0, o7⟩
end CTX
