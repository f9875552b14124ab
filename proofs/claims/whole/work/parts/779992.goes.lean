/-! all lines of a text, in the reference -/
section GM
variable {F : Nat} {j : Nat} {fi how : Int} {W : Int → Int}
theorem puL_is (w v : Int) : (∃ u, inb u ∧ (puL W w v j fi how).2 = wrW W w (spW W w u how) j fi how) ∨ (puL W w v j fi how).2 = W := by
  unfold puL
  by_cases b : inb v
  · rw [if_pos b]; exact Or.inl ⟨v, b, rfl⟩
  · rw [if_neg b]; exact Or.inr rfl
theorem linL_is {l : Lin} (kl : okL l) : (∃ u, inb u ∧ (16 ≤ l.2.1 ∧ l.2.1 ≤ 63) ∧ (linL j fi how W l).2 = wrW W l.2.1 (spW W l.2.1 u how) j fi how) ∨ (∃ v, in32 v ∧ (linL j fi how W l).2 = wW W (169 + 882 * (j : Int) + 6) v) ∨ (linL j fi how W l).2 = W := by
  have pu : ∀ v, (16 ≤ l.2.1 ∧ l.2.1 ≤ 63) → (∃ u, inb u ∧ (16 ≤ l.2.1 ∧ l.2.1 ≤ 63) ∧ (puL W l.2.1 v j fi how).2 = wrW W l.2.1 (spW W l.2.1 u how) j fi how) ∨ (puL W l.2.1 v j fi how).2 = W := fun v k => by
    rcases puL_is (W := W) (j := j) (fi := fi) (how := how) l.2.1 v with ⟨u, q, e⟩ | e
    · exact Or.inl ⟨u, q, k, e⟩
    · exact Or.inr e
  by_cases c0 : l.1 = 0
  · have k := kl.2.2.1 (by rw [c0]; decide)
    have k1 := (kl.2.2.2.1 c0).1
    have k2 : 0 < l.2.2.1.toNat := by omega
    unfold linL
    rw [if_pos c0]
    cases es : setN W l.2.1 l.2.2.2.2.1 l.2.2.1.toNat (W (9 + l.2.1)) with
    | none => exact Or.inr (Or.inr rfl)
    | some u => exact Or.inl ⟨u, setN_in _ _ u k2 es, k, rfl⟩
  by_cases c1 : l.1 = 1
  · have k := kl.2.2.1 (by rw [c1]; decide)
    unfold linL
    rw [if_neg c0, if_pos c1]
    rcases pu (totN W (l.2.2.2.1 + 1 - l.2.2.1).toNat l.2.2.1 0) k with q | q
    · exact Or.inl q
    · exact Or.inr (Or.inr q)
  by_cases c2 : l.1 = 2
  · have k := kl.2.2.1 (by rw [c2]; decide)
    unfold linL
    rw [if_neg c0, if_neg c1, if_pos c2]
    rcases pu (rndV (W (9 + l.2.1)) l.2.2.1) k with q | q
    · exact Or.inl q
    · exact Or.inr (Or.inr q)
  unfold linL
  rw [if_neg c0, if_neg c1, if_neg c2]
  by_cases b : linV (envM W) l = 1
  · rw [if_pos b]
    by_cases c4 : l.1 = 4
    · rw [if_pos c4]; exact Or.inr (Or.inr rfl)
    · rw [if_neg c4]
      exact Or.inr (Or.inl ⟨_, by unfold in32 w32; omega, rfl⟩)
  · rw [if_neg b]; exact Or.inr (Or.inr rfl)
theorem linL_o {l : Lin} (kl : okL l) (h0 : 0 ≤ W 11356) (i : Int) (h1 : i < 9 ∨ 73 ≤ i) (h2 : i < 11356) (h3 : i ≠ 169 + 882 * (j : Int) + 15) : (linL j fi how W l).2 i = W i := by
  rcases linL_is (W := W) (j := j) (fi := fi) (how := how) kl with ⟨u, hu, k, e⟩ | ⟨v, hv, e⟩ | e
  · rw [e]; exact wrW_o i (by omega) (by omega) (by omega)
  · rw [e]; exact wW_n i (by omega)
  · rw [e]
theorem linL_0 {l : Lin} (kl : okL l) (hj : j < 12) (h0 : 0 ≤ W 11356) : W 11356 ≤ (linL j fi how W l).2 11356 := by
  rcases linL_is (W := W) (j := j) (fi := fi) (how := how) kl with ⟨u, hu, k, e⟩ | ⟨v, hv, e⟩ | e
  · rw [e, wrW_n h0 (by omega)]; omega
  · rw [e, wW_n _ (by omega)]; exact Int.le_refl _
  · rw [e]; exact Int.le_refl _
theorem wr_wt (o : okWT W) (h0 : 0 ≤ W 11356) (w u : Int) (k : 0 ≤ w ∧ w < 64) (hu : inb u) : okWT (wrW W w (spW W w u how) j fi how) := by
  refine ⟨fun i i0 i1 => ⟨?_, ?_⟩, ?_⟩
  · by_cases q : i = w
    · rw [q, wrW_w]; exact spW_in hu
    · rw [wrW_o (9 + i) (by omega) (by omega) (by omega)]; exact (o.1 i i0 i1).1
  · rw [wrW_o (73 + i) (by omega) (by omega) (by omega)]; exact (o.1 i i0 i1).2
  · rw [wrW_o 1 (by omega) (by omega) (by omega), wrW_o 2 (by omega) (by omega) (by omega)]; exact o.2
theorem linL_wt {l : Lin} (kl : okL l) (o : okWT W) (h0 : 0 ≤ W 11356) : okWT (linL j fi how W l).2 := by
  rcases linL_is (W := W) (j := j) (fi := fi) (how := how) kl with ⟨u, hu, k, e⟩ | ⟨v, hv, e⟩ | e
  · rw [e]; exact wr_wt o h0 _ u (by omega) hu
  · rw [e]
    refine ⟨fun i i0 i1 => ?_, ?_⟩
    · rw [wW_n (9 + i) (by omega), wW_n (73 + i) (by omega)]; exact o.1 i i0 i1
    · rw [wW_n 1 (by omega), wW_n 2 (by omega)]; exact o.2
  · rw [e]; exact o
theorem txtL_c (l : Lin) (B : List Lin) : txtL j fi how (l :: B) W = if (linL j fi how W l).1 = true then txtL j fi how B (linL j fi how W l).2 else linL j fi how W l := rfl
theorem txtL_o : ∀ (B : List Lin) (W : Int → Int), (∀ l ∈ B, okL l) → j < 12 → 0 ≤ W 11356 → (∀ i : Int, (i < 9 ∨ 73 ≤ i) → i < 11356 → i ≠ 169 + 882 * (j : Int) + 15 → (txtL j fi how B W).2 i = W i) ∧ W 11356 ≤ (txtL j fi how B W).2 11356 ∧ (txtL j fi how B W).2 11356 ≤ W 11356 + B.length := by
  intro B
  induction B with
  | nil => intro W _ _ _; exact ⟨fun _ _ _ _ => rfl, Int.le_refl _, by show W 11356 ≤ W 11356 + 0; omega⟩
  | cons l B ih =>
    intro W ok hj h0
    have kl := ok l (by simp)
    have a1 := linL_0 (W := W) (j := j) (fi := fi) (how := how) kl hj h0
    have a2 := linL_k (W := W) (j := j) (fi := fi) (how := how) hj h0 kl
    have h0' : 0 ≤ (linL j fi how W l).2 11356 := Int.le_trans h0 a1
    rw [txtL_c, List.length_cons]
    by_cases b : (linL j fi how W l).1 = true
    · rw [if_pos b]
      obtain ⟨r1, r2, r3⟩ := ih _ (fun m hm => ok m (by simp [hm])) hj h0'
      refine ⟨fun i p q s => (r1 i p q s).trans (linL_o kl h0 i p q s), Int.le_trans a1 r2, by omega⟩
    · rw [if_neg b]
      exact ⟨fun i p q s => linL_o kl h0 i p q s, a1, by omega⟩
theorem E_goesM {A : List Lin} (hF : 2000 ≤ F) (hj : j < 12) (hh : 0 ≤ how) (okA : ∀ l ∈ A, okL l) : ∀ (m n k : Nat) (W : Int → Int) (g : HP), n + m = A.length → m < k → LayM g → aI g 114 = W → okWT W → MPr W (169 + 882 * (j : Int)) A → 0 ≤ W 11356 → W 11356 + m ≤ 5999 → ∃ g', X12_goes_L8 F k 113 j how fi n g = some (if (txtL j fi how (A.drop n) W).1 then 1 else 0, g') ∧ Ox XM g g' ∧ aI g' 114 = (txtL j fi how (A.drop n) W).2 := by
  intro m
  induction m with
  | zero =>
    intro n k W g hn hk L rW oW p h0 hr
    obtain ⟨k, rfl⟩ : ∃ k', k = k' + 1 := ⟨k - 1, by omega⟩
    have ed : A.drop n = [] := List.drop_eq_nil_of_le (by omega)
    rw [ed]
    have t16 := E_itW (F := F) L rW hj 16 (by omega)
    rw [p.1] at t16
    refine ⟨g, ?_, Ox.rf _ _, rW⟩
    show ((xrc g (some 113) 12 31).bind fun a3 => xb (X12_its F a3 j 16 g) fun v1 h2 => if v1 ≤ (n : Int) then _ else _) = _
    rw [mR113 g _ L, b_xb _ _ _ _ t16, if_pos (by omega)]
    rfl
  | succ m ih =>
    intro n k W g hn hk L rW oW p h0 hr
    obtain ⟨k, rfl⟩ : ∃ k', k = k' + 1 := ⟨k - 1, by omega⟩
    have hA : n < A.length := by omega
    have e := List.getElem?_eq_getElem hA
    have ed : A.drop n = A[n] :: A.drop (n + 1) := List.drop_eq_getElem_cons hA
    have kl := okA A[n] (List.getElem_mem hA)
    obtain ⟨g1, p1, p2, p3⟩ := E_lineM (F := F) (fi := fi) hF L rW oW hj p n A[n] e kl hh ⟨h0, by omega⟩ k
    have a1 := linL_0 (W := W) (j := j) (fi := fi) (how := how) kl hj h0
    have a2 := linL_k (W := W) (j := j) (fi := fi) (how := how) hj h0 kl
    rw [ed, p1, txtL_c]
    by_cases b : (linL j fi how W A[n]).1 = true
    · rw [if_pos b, if_pos b]
      obtain ⟨g', r1, r2, r3⟩ := ih (n + 1) k _ g1 (by omega) (by omega) (p2.M L) p3 (linL_wt kl oW h0) (p.cg (fun i q1 q2 q3 => linL_o kl h0 i (by omega) (by omega) (by omega))) (by omega) (by omega)
      exact ⟨g', r1, p2.tr r2, r3⟩
    · rw [if_neg b, if_neg b]
      refine ⟨g1, ?_, p2, p3⟩
      rw [if_neg b]
theorem E_goesT {A : List Lin} {g : HP} (hF : 2000 ≤ F) (hj : j < 12) (hh : 0 ≤ how) (okA : ∀ l ∈ A, okL l) (L : LayM g) (rW : aI g 114 = W) (oW : okWT W) (p : MPr W (169 + 882 * (j : Int)) A) (h0 : 0 ≤ W 11356) (hr : W 11356 ≤ 5120) : ∃ g', X12_goes F 113 j how g = some (if (txtL j (W 11356) how A W).1 then 1 else 0, g') ∧ Ox XM g g' ∧ aI g' 114 = (txtL j (W 11356) how A W).2 := by
  have hl := p.2.1
  have x := E_goesM (F := F) (fi := W 11356) hF hj hh okA A.length 0 F W g (Nat.zero_add _) (by omega) L rW oW p h0 (by omega)
  rw [List.drop_zero] at x
  have wr := E_writings (F := F) (h := g) L
  rw [rW] at wr
  unfold X12_goes
  rw [mR113 g _ L, b_xb _ _ _ _ wr]
  exact x
end GM
