/-! a minute of the machine, a minute of the clerks, all minutes -/
theorem NM.step {W : Int → Int} {o : Bool} {v : Int} {p0 : Nat} (n : NM W o v p0) (h : ¬ okR W (qOr W o p0)) : NM W o v (p0 + 1) := by
  rcases n with ⟨a, b⟩ | ⟨p, a, b, c, d, e⟩
  · exact Or.inl ⟨a, fun p q1 q2 => b p (by omega) q2⟩
  · have x : p ≠ p0 := fun q => by rw [q] at d; exact h d
    exact Or.inr ⟨p, by omega, b, c, d, fun p' q1 q2 => e p' (by omega) q2⟩
theorem NM.hit {W : Int → Int} {o : Bool} {v : Int} {p0 : Nat} (n : NM W o v p0) (hp : (p0 : Int) < W 8) (h : okR W (qOr W o p0)) : v = qOr W o p0 := by
  rcases n with ⟨a, b⟩ | ⟨p, a, b, c, d, e⟩
  · exact absurd h (b p0 (Nat.le_refl _) hp)
  · by_cases x : p = p0
    · rw [c, x]
    · exact absurd h (e p0 (Nat.le_refl _) (by omega))
theorem NM.fin {W : Int → Int} {o : Bool} {v : Int} {p0 : Nat} (n : NM W o v p0) (hp : W 8 ≤ (p0 : Int)) : v = -1 := by
  rcases n with ⟨a, b⟩ | ⟨p, a, b, c, d, e⟩
  · exact a
  · omega
section MM
variable {F : Nat} {g : HP} {W : Int → Int}
theorem E_totM9 (L : LayM g) (rW : aI g 114 = W) (j : Nat) (hj : j < 12) : X12_totalOf F 113 j g = some (totW W (169 + 882 * (j : Int)), g) := by
  have t11 := E_itW (F := F) L rW hj 11 (by omega)
  have t5 := E_itW (F := F) L rW hj 5 (by omega)
  have t0 := E_itW (F := F) L rW hj 0 (by omega)
  unfold X12_totalOf totW
  rw [mR113 g _ L, b_xb _ _ _ _ t11]
  by_cases c : W (169 + 882 * (j : Int) + 11) = 1
  · rw [if_pos c, if_pos c, mR113 g _ L, b_xb _ _ _ _ t5]
  · rw [if_neg c, if_neg c, mR113 g _ L, b_xb _ _ _ _ t0]
theorem E_bg32 (hF : 2000 ≤ F) (L : LayM g) (rW : aI g 114 = W) (g8 : 0 ≤ W 8 ∧ W 8 ≤ 12) (rc : Nat → Int → Int → HP → Option (Unit × HP)) (j : Nat) (hj : (j : Int) < W 8) (o p : Int) : (okR W j → ∃ g', X12_begins_L32 F rc 113 o p j g = some ((), g') ∧ Ox XM g g' ∧ aI g' 114 = begW W (169 + 882 * (j : Int)) (totW W (169 + 882 * (j : Int))) j) ∧ (¬ okR W j → X12_begins_L32 F rc 113 o p j g = rc 113 o (w32 (p + 1)) g) := by
  have hj12 : j < 12 := by omega
  obtain ⟨y1, y2⟩ := E_ready (F := F) hF L rW g8 j hj
  have c : ∀ i : Int, 0 ≤ i → i < 882 → 0 ≤ (j : Int) ∧ (j : Int) < 12 ∧ 0 ≤ i ∧ i < 882 := fun i a b => ⟨by omega, by omega, a, b⟩
  constructor
  · intro k
    have L1 : LayM (sA g 114 (169 + 882 * (j : Int) + 8) 1) := L
    have r1 : aI (sA g 114 (169 + 882 * (j : Int) + 8) 1) 114 = sW W (169 + 882 * (j : Int) + 8) 1 := by rw [← rW]; exact aI_sAf g 114 _ 1 (by omega)
    have T1 := E_totM9 (F := F) L1 r1 j hj12
    have e1 : totW (sW W (169 + 882 * (j : Int) + 8) 1) (169 + 882 * (j : Int)) = totW W (169 + 882 * (j : Int)) := by unfold totW; rw [sW_n (by omega), sW_n (by omega), sW_n (by omega)]
    rw [e1] at T1
    generalize hT : totW W (169 + 882 * (j : Int)) = tot at *
    have L2 : LayM (sA (sA g 114 (169 + 882 * (j : Int) + 8) 1) 114 (169 + 882 * (j : Int) + 21) tot) := L
    have r2 : aI (sA (sA g 114 (169 + 882 * (j : Int) + 8) 1) 114 (169 + 882 * (j : Int) + 21) tot) 114 = sW (sW W (169 + 882 * (j : Int) + 8) 1) (169 + 882 * (j : Int) + 21) tot := by rw [← r1]; exact aI_sAf _ 114 _ tot (by omega)
    have T2 := E_totM9 (F := F) L2 r2 j hj12
    have e2 : totW (sW (sW W (169 + 882 * (j : Int) + 8) 1) (169 + 882 * (j : Int) + 21) tot) (169 + 882 * (j : Int)) = tot := by
      rw [← e1]
      unfold totW
      rw [sW_n (by omega), sW_n (show 169 + 882 * (j : Int) + 5 ≠ 169 + 882 * (j : Int) + 21 by omega), sW_n (show 169 + 882 * (j : Int) + 0 ≠ 169 + 882 * (j : Int) + 21 by omega)]
    rw [e2] at T2
    have L3 : LayM (sA (sA (sA g 114 (169 + 882 * (j : Int) + 8) 1) 114 (169 + 882 * (j : Int) + 21) tot) 114 (169 + 882 * (j : Int) + 9) tot) := L
    have r3 : aI (sA (sA (sA g 114 (169 + 882 * (j : Int) + 8) 1) 114 (169 + 882 * (j : Int) + 21) tot) 114 (169 + 882 * (j : Int) + 9) tot) 114 = sW (sW (sW W (169 + 882 * (j : Int) + 8) 1) (169 + 882 * (j : Int) + 21) tot) (169 + 882 * (j : Int) + 9) tot := by rw [← r2]; exact aI_sAf _ 114 _ tot (by omega)
    have S1 := E_sets (F := F) (h := g) (j : Int) 8 1 L (c 8 (by decide) (by decide))
    have S2 := E_sets (F := F) (h := sA g 114 (169 + 882 * (j : Int) + 8) 1) (j : Int) 21 tot L1 (c 21 (by decide) (by decide))
    have S3 := E_sets (F := F) (h := sA (sA g 114 (169 + 882 * (j : Int) + 8) 1) 114 (169 + 882 * (j : Int) + 21) tot) (j : Int) 9 tot L2 (c 9 (by decide) (by decide))
    refine ⟨sA (sA (sA (sA g 114 (169 + 882 * (j : Int) + 8) 1) 114 (169 + 882 * (j : Int) + 21) tot) 114 (169 + 882 * (j : Int) + 9) tot) 114 4 j, ?_, (((Ox.A _ 114 _ _ rfl).tr (Ox.A _ 114 _ _ rfl)).tr (Ox.A _ 114 _ _ rfl)).tr (Ox.A _ 114 _ _ rfl), ?_⟩
    · unfold X12_begins_L32
      rw [mR113 g _ L, b_xb _ _ _ _ (y1 k), if_neg (by decide), mR113 g _ L, b_xb _ _ _ _ S1, mR113 _ _ L1, b_xb _ _ _ _ T1, mR113 _ _ L1, b_xb _ _ _ _ S2, mR113 _ _ L2, b_xb _ _ _ _ T2, mR113 _ _ L2, b_xb _ _ _ _ S3, mP113_1 _ _ L3, mS114 _ 4 _ _ L3 (by decide) (by decide)]
    · rw [aI_sAf _ 114 4 _ (by decide), r3]
      rfl
  · intro k
    unfold X12_begins_L32
    rw [mR113 g _ L, b_xb _ _ _ _ (y2 k), if_pos rfl]
theorem E_bgL (hF : 2000 ≤ F) (L : LayM g) (rW : aI g 114 = W) (g8 : 0 ≤ W 8 ∧ W 8 ≤ 12) {o : Bool} {v ro : Int} (ob : (o = true ∧ ro = 1 ∧ ordOk W ∧ ∀ n : Nat, (n : Int) < W 8 → aI g 119 n = ordA W n) ∨ (o = false ∧ ro = 0)) : ∀ (m p k : Nat), m < k → ((p + m : Nat) : Int) = W 8 → NM W o v p → (v = -1 ∧ X12_begins_L7 F k 113 ro p g = some ((), g)) ∨ (∃ (q : Nat) (g' : HP), v = q ∧ (q : Int) < W 8 ∧ okR W q ∧ X12_begins_L7 F k 113 ro p g = some ((), g') ∧ Ox XM g g' ∧ aI g' 114 = begW W (169 + 882 * (q : Int)) (totW W (169 + 882 * (q : Int))) q) := by
  intro m
  induction m with
  | zero =>
    intro p k hk hp n
    obtain ⟨k, rfl⟩ : ∃ k', k = k' + 1 := ⟨k - 1, by omega⟩
    refine Or.inl ⟨n.fin (by omega), ?_⟩
    show ((xgP g (some 113) 12 31 1).bind fun v1 => (xaI g v1 100 8).bind fun v2 => if v2 ≤ (p : Int) then _ else _) = _
    rw [mP113_1 g _ L, mA114 g _ _ L (by decide) (by decide), rW, if_pos (by omega)]
  | succ m ih =>
    intro p k hk hp n
    obtain ⟨k, rfl⟩ : ∃ k', k = k' + 1 := ⟨k - 1, by omega⟩
    have e32 : Unit → w32 ((p : Int) + 1) = ((p + 1 : Nat) : Int) := fun _ => by rw [w32i _ (by omega) (by omega)]; omega
    have hp8 : (p : Int) < W 8 := by omega
    have hq : ∃ q : Nat, qOr W o p = q ∧ (q : Int) < W 8 := by
      unfold qOr
      rcases ob with ⟨a, -, b, -⟩ | ⟨a, -⟩
      · rw [a, if_pos rfl]
        have := ord_lt W g8 b p hp8
        exact ⟨(ordA W p).toNat, by omega, by omega⟩
      · rw [a, if_neg (by decide)]
        exact ⟨p, rfl, hp8⟩
    obtain ⟨q, eq, hq8⟩ := hq
    obtain ⟨x1, x2⟩ := E_bg32 (F := F) hF L rW g8 (X12_begins_L7 F k) q hq8 ro p
    have st : X12_begins_L7 F (k + 1) 113 ro p g = X12_begins_L32 F (X12_begins_L7 F k) 113 ro p q g := by
      show ((xgP g (some 113) 12 31 1).bind fun v1 => (xaI g v1 100 8).bind fun v2 => if v2 ≤ (p : Int) then _ else _) = _
      rw [mP113_1 g _ L, mA114 g _ _ L (by decide) (by decide), rW, if_neg (by omega)]
      rcases ob with ⟨a, b, c, d⟩ | ⟨a, b⟩
      · have dp := d p hp8
        rw [b, if_neg (by decide), mP113_16 g _ L, b_aI g 119 100 p _ 12 L.2.2.2.2.2.2.1 (by omega) (by omega), dp, ← eq]
        unfold qOr
        rw [a, if_pos rfl]
        rfl
      · rw [b, if_pos rfl, ← eq]
        unfold qOr
        rw [a, if_neg (by decide)]
        rfl
    rw [st]
    rw [e32 ()] at x2
    by_cases c : okR W q
    · obtain ⟨g', z1, z2, z3⟩ := x1 c
      have hv := n.hit hp8 (by rw [eq]; exact c)
      exact Or.inr ⟨q, g', hv.trans eq, hq8, c, z1, z2, z3⟩
    · rw [x2 c]
      exact ih (p + 1) k (by omega) (by omega) (n.step (by rw [eq]; exact c))
theorem E_begM (hF : 2000 ≤ F) (L : LayM g) (rW : aI g 114 = W) (g8 : 0 ≤ W 8 ∧ W 8 ≤ 12) {o : Bool} {v : Int} (ob : (o = true ∧ ordOk W) ∨ (o = false ∧ ¬ ordOk W)) (n : NM W o v 0) : (v = -1 ∧ ∃ g', X12_begins F 113 g = some ((), g') ∧ Ox XNm g g' ∧ aI g' 114 = W) ∨ (∃ (q : Nat) (g' : HP), v = q ∧ (q : Int) < W 8 ∧ okR W q ∧ X12_begins F 113 g = some ((), g') ∧ Ox XNm g g' ∧ aI g' 114 = begW W (169 + 882 * (q : Int)) (totW W (169 + 882 * (q : Int))) q) := by
  obtain ⟨ro, g1, a1, a2, a3⟩ := E_orders (F := F) L (by rw [rW]; exact g8) (by omega)
  have L1 : LayM g1 := a2.M L
  have rW1 : aI g1 114 = W := by rw [a2.a 114 (by decide)]; exact rW
  rw [rW] at a3
  have ob1 : (o = true ∧ ro = 1 ∧ ordOk W ∧ ∀ n : Nat, (n : Int) < W 8 → aI g1 119 n = ordA W n) ∨ (o = false ∧ ro = 0) := by
    rcases ob with ⟨b, c⟩ | ⟨b, c⟩
    · rcases a3 with ⟨d, e, f⟩ | ⟨d, e⟩
      · exact Or.inl ⟨b, d, e, f⟩
      · exact absurd c e
    · rcases a3 with ⟨d, e, f⟩ | ⟨d, e⟩
      · exact absurd e c
      · exact Or.inr ⟨b, d⟩
  have x := E_bgL (F := F) hF L1 rW1 g8 ob1 (W 8).toNat 0 F (by omega) (by omega) n
  have st : X12_begins F 113 g = X12_begins_L7 F F 113 ro 0 g1 := by
    unfold X12_begins
    rw [mR113 g _ L, b_xb _ _ _ _ a1]
  rw [st]
  rcases x with ⟨b, c⟩ | ⟨q, g', b, c, d, e, f, f2⟩
  · exact Or.inl ⟨b, g1, c, a2.x, rW1⟩
  · exact Or.inr ⟨q, g', b, c, d, e, a2.x.tr f.toN, f2⟩
end MM
