/-! the reference reads sums -/
section RFB
variable {F : Nat} {c : Nat → Int} {R : Nat} {h : HP} {j : Nat} {S : List (Int × Int)} {rd wr : Nat → Bool} {dp : Int}
def stR (ps : List Prt) : List (Int × Int) := ps.flatMap (fun q => prtM q ++ [(if q.1 then 7 else 6, 0)])
theorem rd_join (a b e w : Bool) : ((a || (b && !w)) || (e && !w)) = (a || ((b || e) && !w)) := by cases a <;> cases b <;> cases e <;> cases w <;> rfl
theorem M_sumL (o : okK (Kf c R (Lf c R)) (Nf c R (Lf c R)) (Lf c R).length) (hF : 500 ≤ F) : ∀ (f k j : Nat) (h : HP) (S : List (Int × Int)) (rd : Nat → Bool), MCx c R h j S rd wr dp → S.length ≤ j → (Lf c R).length + 1 ≤ j + f → f < k → RM c R h (X12_readSum_L9 F k 113 h) (pRest (Kf c R (Lf c R)) (Nf c R (Lf c R)) f j) j S stR rd rdS wr dp := by
  intro f
  induction f with
  | zero => intro k j h S rd d room h1 h2; have := d.jT; omega
  | succ f ih =>
    intro k j h S rd d room h1 h2
    obtain ⟨k, rfl⟩ : ∃ k', k = k' + 1 := ⟨k - 1, by omega⟩
    have L := d.1.1.1
    have hT := o.1
    have tl : ∀ (v : Int) (neg : Bool) (g : HP), (if v = 0 then (7 : Int) else 6) = (if neg then 7 else 6) → MCx c R g (j + 1) S rd wr dp → OR h g → RM c R h (X12_readSum_L31 F (X12_readSum_L9 F k) 113 v g) (match pPart (Kf c R (Lf c R)) (Nf c R (Lf c R)) neg (j + 1) with | .inl e => .inl e | .inr (p, k) => (match pRest (Kf c R (Lf c R)) (Nf c R (Lf c R)) f k with | .inl e => .inl e | .inr (ps, m) => .inr (p :: ps, m)) : Rs (List Prt)) j S stR rd rdS wr dp := by
      intro v neg g ev dg og
      have x := M_part o hF dg (by omega) neg
      unfold X12_readSum_L31
      rw [mR113 g _ dg.1.1.1]
      cases ep : pPart (Kf c R (Lf c R)) (Nf c R (Lf c R)) neg (j + 1) with
      | inl e =>
        rw [ep] at x
        obtain ⟨g2, x1, x2, x3⟩ := x
        rw [b_xb _ _ _ _ x1, if_pos rfl]
        exact ⟨g2, rfl, x2, og.tr x3⟩
      | inr y =>
        obtain ⟨p, m⟩ := y
        obtain ⟨-, -, -, pn⟩ := pPart_ok o ep
        rw [ep] at x
        obtain ⟨g2, x1, x2, x3, x4⟩ := x
        have mT := x2.jT
        have lS : (S ++ prtM p).length = S.length + (prtM p).length := List.length_append
        obtain ⟨g3, y1, y2, y3⟩ := M_emit (F := F) x2 (if v = 0 then 7 else 6) 0 (by omega)
        rw [b_xb _ _ _ _ x1, if_neg (by decide)]
        unfold X12_readSum_L52
        rw [mR113 g2 _ x2.1.1.1, b_xb _ _ _ _ y1]
        have lS2 : (S ++ prtM p ++ [((if v = 0 then 7 else 6 : Int), (0 : Int))]).length = S.length + (prtM p).length + 1 := by rw [List.length_append, lS]; rfl
        have z := ih k m g3 _ _ y2 (by omega) (by omega) (by omega)
        show RM c R h _ (match pRest (Kf c R (Lf c R)) (Nf c R (Lf c R)) f m with | .inl e => Sum.inl e | .inr (ps, m) => Sum.inr (p :: ps, m)) j S stR rd rdS wr dp
        cases er : pRest (Kf c R (Lf c R)) (Nf c R (Lf c R)) f m with
        | inl e =>
          rw [er] at z
          obtain ⟨g4, z1, z2, z3⟩ := z
          exact ⟨g4, z1, z2, ((og.tr x3).tr y3).tr z3⟩
        | inr w =>
          obtain ⟨ps, m2⟩ := w
          rw [er] at z
          obtain ⟨g4, z1, z2, z3, z4⟩ := z
          refine ⟨g4, z1, ?_, ((og.tr x3).tr y3).tr z3, ?_⟩
          · have es : S ++ stR (p :: ps) = S ++ prtM p ++ [((if v = 0 then 7 else 6 : Int), (0 : Int))] ++ stR ps := by
              rw [ev, ← pn]
              show S ++ ((prtM p ++ [((if p.1 then 7 else 6 : Int), (0 : Int))]) ++ stR ps) = _
              simp only [List.append_assoc]
            rw [es]
            exact z2.rdc (fun i _ => (rd_join (rd i) (rdP p i) (rdS ps i) (wr i)).symm)
          · have el : (stR (p :: ps)).length = (prtM p).length + 1 + (stR ps).length := by
              show ((prtM p ++ [((if p.1 then 7 else 6 : Int), (0 : Int))]) ++ stR ps).length = _
              rw [List.length_append, List.length_append]; rfl
            omega
    rw [X12_readSum_L9_s, mR113 h _ L]
    unfold pRest
    by_cases c1 : (Kf c R (Lf c R)) j = 43
    · obtain ⟨g, s1, s2, s3, -⟩ := M_sign1 hF d 43 (by decide) c1
      have e : decide ((Kf c R (Lf c R)) j = 45) = false := decide_eq_false (by omega)
      rw [b_xb _ _ _ _ s1, if_neg (by decide), if_pos (Or.inl c1), e]
      exact tl 1 false g rfl s2 s3
    · obtain ⟨g, s1, s2, s3, -⟩ := M_sign0 hF d 43 (by decide) c1
      rw [b_xb _ _ _ _ s1, if_pos rfl, mR113 g _ s2.1.1.1]
      by_cases c2 : (Kf c R (Lf c R)) j = 45
      · obtain ⟨g2, t1, t2, t3, -⟩ := M_sign1 hF s2 45 (by decide) c2
        have e : decide ((Kf c R (Lf c R)) j = 45) = true := decide_eq_true c2
        rw [b_xb _ _ _ _ t1, if_neg (by decide), if_pos (Or.inr c2), e]
        exact tl 0 true g2 rfl t2 (s3.tr t3)
      · obtain ⟨g2, t1, t2, t3, -⟩ := M_sign0 hF s2 45 (by decide) c2
        rw [b_xb _ _ _ _ t1, if_pos rfl, if_neg (fun q => q.elim c1 c2)]
        refine ⟨g2, rfl, ?_, s3.tr t3, ?_⟩
        · show MCx c R g2 j (S ++ []) _ wr dp
          rw [List.append_nil]
          exact t2.rdc (fun i _ => by cases rd i <;> rfl)
        · show 0 + j ≤ j; omega
theorem M_sum (o : okK (Kf c R (Lf c R)) (Nf c R (Lf c R)) (Lf c R).length) (hF : 500 ≤ F) (d : MCx c R h j S rd wr dp) (room : S.length ≤ j) : RM c R h (X12_readSum F 113 h) (pSum (Kf c R (Lf c R)) (Nf c R (Lf c R)) j) j S sumM rd rdS wr dp := by
  have hT := o.1
  have x := M_part o hF d room false
  unfold X12_readSum pSum
  rw [mR113 h _ d.1.1.1]
  cases ep : pPart (Kf c R (Lf c R)) (Nf c R (Lf c R)) false j with
  | inl e =>
    rw [ep] at x
    obtain ⟨g2, x1, x2, x3⟩ := x
    rw [b_xb _ _ _ _ x1, if_pos rfl]
    exact ⟨g2, rfl, x2, x3⟩
  | inr y =>
    obtain ⟨p, m⟩ := y
    rw [ep] at x
    obtain ⟨g2, x1, x2, x3, x4⟩ := x
    have mT := x2.jT
    have lS : (S ++ prtM p).length = S.length + (prtM p).length := List.length_append
    rw [b_xb _ _ _ _ x1, if_neg (by decide)]
    have z := M_sumL o hF 401 F m g2 _ _ x2 (by omega) (by omega) (by omega)
    show RM c R h _ (match pRest (Kf c R (Lf c R)) (Nf c R (Lf c R)) 401 m with | .inl e => Sum.inl e | .inr (ps, m) => Sum.inr (p :: ps, m)) j S sumM rd rdS wr dp
    cases er : pRest (Kf c R (Lf c R)) (Nf c R (Lf c R)) 401 m with
    | inl e =>
      rw [er] at z
      obtain ⟨g4, z1, z2, z3⟩ := z
      exact ⟨g4, z1, z2, x3.tr z3⟩
    | inr w =>
      obtain ⟨ps, m2⟩ := w
      rw [er] at z
      obtain ⟨g4, z1, z2, z3, z4⟩ := z
      refine ⟨g4, z1, ?_, x3.tr z3, ?_⟩
      · show MCx c R g4 m2 (S ++ (prtM p ++ stR ps)) _ wr dp
        rw [← List.append_assoc]
        exact z2.rdc (fun i _ => (rd_join (rd i) (rdP p i) (rdS ps i) (wr i)).symm)
      · have el : (sumM (p :: ps)).length = (prtM p).length + (stR ps).length := by
          show (prtM p ++ stR ps).length = _
          rw [List.length_append]
        omega
end RFB
