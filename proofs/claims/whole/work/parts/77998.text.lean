/-! the class's loop over the lines of a text -/
section TXL
variable {F : Nat} {c : List Int} {j : Nat} {fi how a0 : Int}
theorem E_lineC {g : HP} {W : Int → Int} (hF : 2000 ≤ F) (d : DoS g c W j fi how a0) (l : Lin) (kl : okL l) (i : Nat) (hc : ∀ (x : Nat) (z : Int), (linC l)[x]? = some z → c[i + x]? = some z) (g2 : gI g 10 2 = i) (hr : W 11356 < 5120) (hh : 0 ≤ how ∧ how < 4) (N n : Int) (hn : n < N) (n0 : 0 ≤ n ∧ n < 1000) (k : Nat) : ∃ g', X1_doText_L45 F (k + 1) 10 N 1 n g = X1_doText_L45 F k 10 N (if (linL j fi how W l).1 then 1 else 0) (n + 1) g' ∧ DoS g' c (linL j fi how W l).2 j fi how a0 ∧ ((linL j fi how W l).1 = true → gI g' 10 2 = ((i + (linC l).length : Nat) : Int)) ∧ Ox XC g g' := by
  have k1 : 0 ≤ l.1 := kl.1
  by_cases q0 : l.1 = 0
  · exact E_line0 hF d l kl q0 i hc g2 hr hh N n hn n0 k
  by_cases q1 : l.1 = 1
  · exact E_line1 hF d l kl q1 i hc g2 hr hh N n hn n0 k
  by_cases q2 : l.1 = 2
  · exact E_line2 hF d l kl q2 i hc g2 hr hh N n hn n0 k
  have q3 : 3 ≤ l.1 := by omega
  have cl : c.length ≤ 1208 := by
    obtain ⟨⟨-, ⟨t, q, n, -, -, -, -, -, -, t7, t8, -⟩, -⟩, -⟩ := d
    omega
  have eC : linC l = (if l.1 = 3 then 263 else 264) :: (l.2.2.2.2.2.flatMap tokC ++ [-1]) := by unfold linC; rw [if_neg q0, if_neg q1, if_neg q2]
  have len : (linC l).length = (l.2.2.2.2.2.flatMap tokC).length + 2 := by rw [eC, List.length_cons, List.length_append]; rfl
  have hl : l.2.2.2.2.2.length < 1208 := by
    have t := tok_len l.2.2.2.2.2
    have hx : (linC l).length - 1 < (linC l).length := by omega
    have y := hc _ _ (List.getElem?_eq_getElem hx)
    have z := (List.getElem?_eq_some_iff.mp y).1
    omega
  exact E_line3 hF d l kl q3 i hl hc g2 N n hn n0 k
theorem E_textC (hF : 2000 ≤ F) (hh : 0 ≤ how ∧ how < 4) (N : Nat) (hN : N ≤ 10) : ∀ (B : List Lin) (n k i : Nat) (W : Int → Int) (g : HP), N = n + B.length → B.length < k → (∀ l ∈ B, okL l) → (∀ (x : Nat) (z : Int), (prgC B)[x]? = some z → c[i + x]? = some z) → gI g 10 2 = i → DoS g c W j fi how a0 → W 11356 + B.length ≤ 5120 → ∃ g', X1_doText_L45 F k 10 N 1 n g = some (if (txtL j fi how B W).1 then 1 else 0, g') ∧ DoS g' c (txtL j fi how B W).2 j fi how a0 ∧ Ox XC g g' := by
  intro B
  induction B with
  | nil =>
    intro n k i W g hn hk ok hc g2 d hr
    obtain ⟨k, rfl⟩ : ∃ k', k = k' + 1 := ⟨k - 1, by omega⟩
    refine ⟨g, ?_, d, Ox.rf _ _⟩
    show (if (N : Int) ≤ n then xz 1 g else _) = _
    rw [if_pos (by rw [hn]; exact Int.le_refl _)]
    rfl
  | cons l B ih =>
    intro n k i W g hn hk ok hc g2 d hr
    rw [List.length_cons] at hn hk hr
    obtain ⟨k, rfl⟩ : ∃ k', k = k' + 1 := ⟨k - 1, by omega⟩
    have kl := ok l (by simp)
    have e : prgC (l :: B) = linC l ++ prgC B := by unfold prgC; rw [List.flatMap_cons]
    have hj := d.rn.2.2.2.2.2.2
    have h0 := d.rn.2.2.2.1
    obtain ⟨g1, p1, p2, p3, p4⟩ := E_lineC (F := F) hF d l kl i (fun x z q => hc x z (by rw [e, List.getElem?_append_left (List.getElem?_eq_some_iff.mp q).1]; exact q)) g2 (by omega) hh N n (by omega) (by omega) k
    have kk := linL_k (fi := fi) (how := how) hj h0 kl
    rw [p1]
    by_cases b : (linL j fi how W l).1 = true
    · have eT : txtL j fi how (l :: B) W = txtL j fi how B (linL j fi how W l).2 := by
        show (if _ then _ else _) = _
        rw [if_pos b]
      rw [eT, if_pos b]
      obtain ⟨g', r1, r2, r3⟩ := ih (n + 1) k (i + (linC l).length) _ g1 (by omega) (by omega) (fun m hm => ok m (by simp [hm])) (fun x z q => by
        have := hc ((linC l).length + x) z (by rw [e, List.getElem?_append_right (by omega), Nat.add_sub_cancel_left]; exact q)
        rw [Nat.add_assoc]; exact this) (p3 b) p2 (by omega)
      exact ⟨g', r1, r2, p4.tr r3⟩
    · have eT : txtL j fi how (l :: B) W = linL j fi how W l := by
        show (if _ then _ else _) = _
        rw [if_neg b]
      rw [eT, if_neg b]
      obtain ⟨k, rfl⟩ : ∃ k', k = k' + 1 := ⟨k - 1, by omega⟩
      refine ⟨g1, ?_, p2, p4⟩
      show (if (N : Int) ≤ (n : Int) + 1 then xz 0 g1 else if (0 : Int) = 0 then xz 0 g1 else _) = _
      by_cases q : (N : Int) ≤ (n : Int) + 1
      · rw [if_pos q]; rfl
      · rw [if_neg q, if_pos rfl]; rfl
end TXL
